/-! pure words for the reference's calls that make no walk over a text: ma.. the answer, ms.. the state behind -/
def zinL (x : Int32) (m : Nat) : Bool := decide (1 ≤ x.toInt ∧ x.toInt ≤ m)
theorem zinL_f0 {x : Int32} {m : Nat} (h : x < nI 1) : zinL x m = false := by
  have h1 := Int32.lt_iff_toInt_lt.mp h
  rw [nI_toInt (by decide)] at h1
  unfold zinL
  simp
  omega
theorem zinL_f1 {x : Int32} {m : Nat} (hm : m < 2 ^ 31) (h : nI m < x) : zinL x m = false := by
  have h1 := Int32.lt_iff_toInt_lt.mp h
  rw [nI_toInt hm] at h1
  unfold zinL
  simp
  omega
theorem zinL_c {x : Int32} {m : Nat} (hm : m < 2 ^ 31) (h : ¬ x < nI 1) (h2 : ¬ nI m < x) : ∃ a : Nat, 1 ≤ a ∧ a ≤ m ∧ x = nI a := by
  have h0 : ¬ x < 0 := fun q => h (Int32.lt_trans q (by decide +kernel))
  obtain ⟨j, hj, rfl⟩ := nI_of h0
  rw [nI_ltI hj (by decide)] at h
  rw [nI_ltI hm hj] at h2
  exact ⟨j, by omega, by omega, rfl⟩
theorem zinL_t {a m : Nat} (h : 1 ≤ a) (h2 : a ≤ m) (hm : m < 2 ^ 31) : zinL (nI a) m = true := by
  unfold zinL
  rw [nI_toInt (by omega)]
  simp
  omega
def mTx (G : zG) (h sz : Nat) : Prop := ∀ s, s < sz → (zg G 24 0 (12 * h + s) = nI 0 ∧ ∃ f, f < 8 ∧ zg G 25 0 (12 * h + s) = nI f) ∨ (zg G 24 0 (12 * h + s) = nI 1 ∧ ∃ f, f < s ∧ zg G 25 0 (12 * h + s) = nI f) ∨ (zg G 24 0 (12 * h + s) = nI 2 ∧ ∃ f g, f < s ∧ g < s ∧ zg G 25 0 (12 * h + s) = nI f ∧ zg G 26 0 (12 * h + s) = nI g)
def mI (G : zG) (vc rc td : Nat) : Prop := zg G 20 0 0 = nI vc ∧ 1 ≤ vc ∧ vc ≤ 5 ∧ zg G 20 0 13 = nI rc ∧ rc ≤ 12 ∧ zg G 20 0 18 = nI td ∧ td ≤ 39 ∧ (∀ h, h < 6 → ∃ n, n ≤ 12 ∧ zg G 23 0 h = nI n ∧ mTx G h n) ∧ (∀ h, h < 6 → ∃ v, v < vc ∧ zg G 22 0 h = nI v) ∧ (∀ q, q < rc → ∃ f t d, f < 8 ∧ t < 8 ∧ d < 8 ∧ zg G 34 0 q = nI f ∧ zg G 36 0 q = nI t ∧ zg G 37 0 q = nI d)
theorem endF_lo2 (G : zG) (k i b : Nat) (f : Nat → Int32) {n j : Nat} (h : j < b) : zg (zuA G k i (endF (zg G k i) b f n)) k i j = zg G k i j := by
  rw [zg_zuA, if_pos ⟨rfl, rfl⟩]
  unfold endF
  rw [if_neg (by omega)]
def mCp (G : zG) (vc : Nat) : Nat → zG
  | 0 => G
  | n + 1 => zuA (mCp G vc n) 21 0 (endF (zg (mCp G vc n) 21 0) (40 * n + 8 * vc) (fun a => zg (mCp G vc n) 21 0 (40 * n + 8 * vc - 8 + a)) 8)
theorem mCp_s (G : zG) (vc n : Nat) : mCp G vc (n + 1) = zuA (mCp G vc n) 21 0 (endF (zg (mCp G vc n) 21 0) (40 * n + 8 * vc) (fun a => zg (mCp G vc n) 21 0 (40 * n + 8 * vc - 8 + a)) 8) := rfl
theorem mCp_0 (G : zG) (vc n : Nat) (j : Nat) : zg (mCp G vc n) 20 0 j = zg G 20 0 j := by
  induction n with
  | zero => rfl
  | succ n ih =>
    rw [mCp_s, zg_zuA, if_neg (by omega)]
    exact ih
def maVersion (vc : Nat) : Int32 := if vc = 5 then -3 else nI vc
def msVersion (G : zG) (vc : Nat) : zG := if vc = 5 then G else zu (mCp G vc 8) 20 0 0 (nI (vc + 1))
def mShown (x : Int32) : Int32 := if x = 0 then -9 else x - nI 1
def mHide (x : Int32) : Int32 := if x = -9 then nI 0 else x + nI 1
def maAnswer (G : zG) (vc : Nat) (a b c d : Int32) : Int32 := if xoAnswer vc a b c d = true then mShown (zg G 21 0 (40 * a.toNatClampNeg + 8 * b.toNatClampNeg + c.toNatClampNeg)) else -2
def msAnswer (G : zG) (vc : Nat) (a b c d : Int32) : zG := if xoAnswer vc a b c d = true then zu G 21 0 (40 * a.toNatClampNeg + 8 * b.toNatClampNeg + c.toNatClampNeg) (mHide d) else G
def mDf (c : Nat → Bool) : Nat → Int32
  | 0 => nI 0
  | n + 1 => mDf c n ||| (if c n = true then nI 1 <<< (nI n &&& 31) else nI 0)
theorem mDf_t {c : Nat → Bool} {n : Nat} (h : c n = true) : mDf c (n + 1) = mDf c n ||| (nI 1 <<< (nI n &&& 31)) := by
  show mDf c n ||| _ = _
  rw [if_pos h]
theorem mDf_f {c : Nat → Bool} {n : Nat} (h : c n = false) : mDf c (n + 1) = mDf c n ||| nI 0 := by
  show mDf c n ||| _ = _
  rw [if_neg (by rw [h]; decide)]
def mDif (G : zG) (f v u : Nat) : Int32 := mDf (fun a => decide (¬ zg G 21 0 (40 * f + 8 * v + a) = zg G 21 0 (40 * f + 8 * u + a))) 8
def maDiffer (G : zG) (vc : Nat) (a b c : Int32) : Int32 := if xoDiffer vc a b c = true then mDif G a.toNatClampNeg b.toNatClampNeg c.toNatClampNeg else -1
def maGoes (G : zG) (vc : Nat) (a b : Int32) : Int32 := if xoGoes vc a b = true then zg G 22 0 a.toNatClampNeg else -1
def msGoes (G : zG) (vc : Nat) (a b : Int32) : zG := if xoGoes vc a b = true then zu G 22 0 a.toNatClampNeg b else G
def mSz (G : zG) (h : Nat) : Nat := (zg G 23 0 h).toNatClampNeg
def mAdd (G : zG) (h m : Nat) (k f g d t : Int32) : zG := zu (zu (zu (zu (zu (zu G 24 0 (12 * h + m) k) 25 0 (12 * h + m) f) 26 0 (12 * h + m) g) 27 0 (12 * h + m) d) 28 0 (12 * h + m) t) 23 0 h (nI (m + 1))
def maCall (G : zG) (a b c : Int32) : Int32 := if xoCall a b c = true then (if mSz G a.toNatClampNeg = 12 then -3 else nI (mSz G a.toNatClampNeg)) else -1
def msCall (G : zG) (a b c : Int32) : zG := if xoCall a b c = true then (if mSz G a.toNatClampNeg = 12 then G else mAdd G a.toNatClampNeg (mSz G a.toNatClampNeg) (nI 0) b (nI 0) (nI 0) c) else G
def moWrap (G : zG) (a b c d : Int32) : Bool := zin a 6 && (zin b (mSz G a.toNatClampNeg) && (zin c 8 && zin d 256))
def maWrap (G : zG) (a b c d : Int32) : Int32 := if moWrap G a b c d = true then (if mSz G a.toNatClampNeg = 12 then -3 else nI (mSz G a.toNatClampNeg)) else -1
def msWrap (G : zG) (a b c d : Int32) : zG := if moWrap G a b c d = true then (if mSz G a.toNatClampNeg = 12 then G else mAdd G a.toNatClampNeg (mSz G a.toNatClampNeg) (nI 1) b (nI 0) c d) else G
def moSplit (G : zG) (a b c d e : Int32) : Bool := zin a 6 && (zin b (mSz G a.toNatClampNeg) && (zin c (mSz G a.toNatClampNeg) && (zinL d 7 && zin e 256)))
def maSplit (G : zG) (a b c d e : Int32) : Int32 := if moSplit G a b c d e = true then (if mSz G a.toNatClampNeg = 12 then -3 else nI (mSz G a.toNatClampNeg)) else -1
def msSplit (G : zG) (a b c d e : Int32) : zG := if moSplit G a b c d e = true then (if mSz G a.toNatClampNeg = 12 then G else mAdd G a.toNatClampNeg (mSz G a.toNatClampNeg) (nI 2) b c d e) else G
def maClear (G : zG) (a : Int32) : Int32 := if zin a 6 = true then zg G 23 0 a.toNatClampNeg else -1
def msClear (G : zG) (a : Int32) : zG := if zin a 6 = true then zu G 23 0 a.toNatClampNeg (nI 0) else G
def mIsh (G : zG) (f : Nat) : Bool := decide (¬ zg G 40 0 f = -9 ∧ zg G 40 0 f ≤ zg G 20 0 18)
def moCount (td : Nat) (a b c d e : Int32) : Bool := zin a 6 && (zin b 8 && (zin c (td + 1) && (zin d 1001 && zin e 100)))
def maCount (G : zG) (td : Nat) (a b c d e : Int32) : Int32 := if moCount td a b c d e = true then (if zg G 30 0 (100 * a.toNatClampNeg + e.toNatClampNeg) = 0 then nI 1 else nI 0) else -1
def mCt (G : zG) (h f d m : Nat) (x : Int32) : zG := zu (zu (zu G 30 0 (100 * h + m) (nI 1)) 31 0 h (nI 1)) 29 0 (320 * h + 40 * f + d) (zg G 29 0 (320 * h + 40 * f + d) + x)
def mOpn (G : zG) (f : Nat) : zG := zu (zu G 40 0 f (-9)) 41 0 f (zg (zu G 40 0 f (-9)) 41 0 f + nI 1)
def msCount (G : zG) (td : Nat) (a b c d e : Int32) : zG := if moCount td a b c d e = true then (if zg G 30 0 (100 * a.toNatClampNeg + e.toNatClampNeg) = 0 then (if d ≤ 0 then mCt G a.toNatClampNeg b.toNatClampNeg c.toNatClampNeg e.toNatClampNeg d else if mIsh (mCt G a.toNatClampNeg b.toNatClampNeg c.toNatClampNeg e.toNatClampNeg d) b.toNatClampNeg = true then (if c < zg (mCt G a.toNatClampNeg b.toNatClampNeg c.toNatClampNeg e.toNatClampNeg d) 40 0 b.toNatClampNeg then mCt G a.toNatClampNeg b.toNatClampNeg c.toNatClampNeg e.toNatClampNeg d else mOpn (mCt G a.toNatClampNeg b.toNatClampNeg c.toNatClampNeg e.toNatClampNeg d) b.toNatClampNeg) else mCt G a.toNatClampNeg b.toNatClampNeg c.toNatClampNeg e.toNatClampNeg d) else G) else G
def mSum (G : zG) (h f a n : Nat) : Int32 := smT (fun d => zg G 29 0 (320 * h + 40 * f + d)) a n
def maSum (G : zG) (a b c d : Int32) : Int32 := if xoSum a b c d = true then mSum G a.toNatClampNeg b.toNatClampNeg c.toNatClampNeg (d.toNatClampNeg + 1) else -1
def mSilent (G : zG) (h : Nat) : Bool := decide (zg G 23 0 h = 0 ∧ zg G 31 0 h = 0)
def maSilent (G : zG) (a : Int32) : Int32 := if zin a 6 = true then (if mSilent G a.toNatClampNeg = true then nI 1 else nI 0) else -1
def mMo (G : zG) (f a b : Nat) (z : Int32) : Nat → Int32
  | 0 => nI 0
  | n + 1 => mMo G f a b z n + (if mSilent G n = true then zg G 20 0 12 * z else mSum G n f a (b + 1))
theorem mMo_t {G : zG} {f a b : Nat} {z : Int32} {n : Nat} (h : mSilent G n = true) : mMo G f a b z (n + 1) = mMo G f a b z n + zg G 20 0 12 * z := by
  show mMo G f a b z n + _ = _
  rw [if_pos h]
theorem mMo_f {G : zG} {f a b : Nat} {z : Int32} {n : Nat} (h : mSilent G n = false) : mMo G f a b z (n + 1) = mMo G f a b z n + mSum G n f a (b + 1) := by
  show mMo G f a b z n + _ = _
  rw [if_neg (by rw [h]; decide)]
def maMost (G : zG) (a b c : Int32) : Int32 := if xoMost a b c = true then mMo G a.toNatClampNeg b.toNatClampNeg c.toNatClampNeg ((c - b) + nI 1) 6 else -1
def moRule (a b c d : Int32) : Bool := zin a 8 && (zinL b 255 && (zin c 8 && zin d 8))
def maRule (rc : Nat) (a b c d : Int32) : Int32 := if moRule a b c d = true then (if rc = 12 then -3 else nI rc) else -1
def msRule (G : zG) (rc : Nat) (a b c d : Int32) : zG := if moRule a b c d = true then (if rc = 12 then G else zu (zu (zu (zu (zu G 34 0 rc a) 35 0 rc b) 36 0 rc c) 37 0 rc d) 20 0 13 (nI (rc + 1))) else G
def mHeld (G : zG) (f : Nat) (set : Int32) (t d v u : Nat) : Bool := alF (fun a => decide (¬ (set >>> (nI a &&& 31)) &&& nI 1 = nI 1 ∨ zg G 21 0 (40 * f + 8 * v + a) = zg G 21 0 (40 * t + 8 * u + (a + d) % 8))) 8
def mRh (G : zG) (q v u : Nat) : Bool := mHeld G (zg G 34 0 q).toNatClampNeg (zg G 35 0 q) (zg G 36 0 q).toNatClampNeg (zg G 37 0 q).toNatClampNeg v u
def maHolds (G : zG) (vc rc : Nat) (a b c : Int32) : Int32 := if xoHolds vc rc a b c = true then (if mRh G a.toNatClampNeg b.toNatClampNeg c.toNatClampNeg = true then nI 1 else nI 0) else -1
def mCl (G : zG) (p q : Nat) : Bool := decide (zg G 34 0 p = zg G 34 0 q ∧ ¬ zg G 35 0 p &&& zg G 35 0 q = 0 ∧ (¬ zg G 36 0 p = zg G 36 0 q ∨ ¬ zg G 37 0 p = zg G 37 0 q))
def maClash (G : zG) (rc : Nat) (a b : Int32) : Int32 := if xoClash rc a b = true then (if mCl G a.toNatClampNeg b.toNatClampNeg = true then nI 1 else nI 0) else -1
def maDays (G : zG) (a : Int32) : Int32 := if zinL a 20 = true then (if zg G 20 0 18 + a < nI 40 then zg G 20 0 18 + a else -2) else -1
def msDays (G : zG) (a : Int32) : zG := if zinL a 20 = true then (if zg G 20 0 18 + a < nI 40 then zu G 20 0 18 (zg G 20 0 18 + a) else G) else G
def mMx (f : Nat → Int32) : Nat → Int32
  | 0 => nI 0
  | n + 1 => if f n ≤ mMx f n then mMx f n else f n
theorem mMx_t {f : Nat → Int32} {n : Nat} (h : f n ≤ mMx f n) : mMx f (n + 1) = mMx f n := if_pos h
theorem mMx_f {f : Nat → Int32} {n : Nat} (h : ¬ f n ≤ mMx f n) : mMx f (n + 1) = f n := if_neg h
def mLat (G : zG) (f : Nat) : Int32 := mShown (mMx (fun h => zg G 39 0 (6 * f + h)) 6)
def maPromise (G : zG) (a b c : Int32) : Int32 := if xoPromise a b c = true then (if mIsh G a.toNatClampNeg = true then -3 else mShown (zg G 39 0 (6 * a.toNatClampNeg + b.toNatClampNeg))) else -2
def msPromise (G : zG) (a b c : Int32) : zG := if xoPromise a b c = true then (if mIsh G a.toNatClampNeg = true then G else if c = -9 then zu G 39 0 (6 * a.toNatClampNeg + b.toNatClampNeg) (mHide c) else if zg G 40 0 a.toNatClampNeg = -9 then zu G 39 0 (6 * a.toNatClampNeg + b.toNatClampNeg) (mHide c) else if c < zg G 40 0 a.toNatClampNeg then zu G 39 0 (6 * a.toNatClampNeg + b.toNatClampNeg) (mHide c) else zu (zu G 39 0 (6 * a.toNatClampNeg + b.toNatClampNeg) (mHide c)) 40 0 a.toNatClampNeg (c + nI 1)) else G
def moShut (td : Nat) (a b : Int32) : Bool := zin a 8 && (!decide (b < nI td) && decide (b ≤ nI 40))
def maShut (G : zG) (td : Nat) (a b : Int32) : Int32 := if moShut td a b = true then (if mIsh G a.toNatClampNeg = true then -2 else if mLat G a.toNatClampNeg < b then b else -2) else -1
def msShut (G : zG) (td : Nat) (a b : Int32) : zG := if moShut td a b = true then (if mIsh G a.toNatClampNeg = true then G else if mLat G a.toNatClampNeg < b then zu G 40 0 a.toNatClampNeg b else G) else G
def maOpen (G : zG) (a : Int32) : Int32 := if zin a 8 = true then (if zg G 40 0 a.toNatClampNeg = -9 then -2 else zg G 40 0 a.toNatClampNeg) else -1
def msOpen (G : zG) (a : Int32) : zG := if zin a 8 = true then (if zg G 40 0 a.toNatClampNeg = -9 then G else zu G 40 0 a.toNatClampNeg (-9)) else G
def maAbout (G : zG) (a b : Int32) : Int32 := if zin a 8 = true then (if b.toInt < 0 ∨ 3 < b.toInt then -1 else if b = nI 0 then zg G 40 0 a.toNatClampNeg else if b = nI 1 then (if mIsh G a.toNatClampNeg = true then nI 1 else nI 0) else if b = nI 2 then mLat G a.toNatClampNeg else zg G 41 0 a.toNatClampNeg) else -1
def maSet (G : zG) (a b c : Int32) : Int32 := if zin c 1001 = true then (if a = 0 then (if zin b 8 = true then zg G 42 0 b.toNatClampNeg else -1) else if a = nI 1 then (if zin b 6 = true then zg G 43 0 b.toNatClampNeg else -1) else if a = nI 2 then zg G 20 0 12 else -1) else -1
def msSet (G : zG) (a b c : Int32) : zG := if zin c 1001 = true then (if a = 0 then (if zin b 8 = true then zu G 42 0 b.toNatClampNeg c else G) else if a = nI 1 then (if zin b 6 = true then zu G 43 0 b.toNatClampNeg c else G) else if a = nI 2 then zu G 20 0 12 c else G) else G
def mCos (G : zG) (k : Int32) : Nat → Int32
  | 0 => nI 0
  | n + 1 => mCos G k n + (if (k >>> (nI n &&& 31)) &&& nI 1 = nI 1 then zg G 42 0 n else zg G 50 0 n)
theorem mCos_t {G : zG} {k : Int32} {n : Nat} (h : (k >>> (nI n &&& 31)) &&& nI 1 = nI 1) : mCos G k (n + 1) = mCos G k n + zg G 42 0 n := by
  show mCos G k n + _ = _
  rw [if_pos h]
theorem mCos_f {G : zG} {k : Int32} {n : Nat} (h : ¬ (k >>> (nI n &&& 31)) &&& nI 1 = nI 1) : mCos G k (n + 1) = mCos G k n + zg G 50 0 n := by
  show mCos G k n + _ = _
  rw [if_neg h]
def maTold (G : zG) (a : Int32) : Int32 := if a.toInt < 0 ∨ 4 < a.toInt then -1 else if a = nI 0 then zg G 20 0 0 else if a = nI 1 then zg G 20 0 18 else if a = nI 2 then zg G 20 0 13 else if a = nI 3 then nI (ctF (fun h => mSilent G h) 6) else nI (ctF (fun h => mIsh G h) 8)
theorem ctF_t0 {c : Nat → Bool} {n : Nat} (h : c n = true) : nI (ctF c (n + 1)) = nI (ctF c n + 1) := by rw [ctF_t h]
theorem ctF_f0 {c : Nat → Bool} {n : Nat} (h : c n = false) : nI (ctF c (n + 1)) = nI (ctF c n + 0) := by rw [ctF_f h]; rfl
theorem n5ne {vc : Nat} (h : vc < 2 ^ 31) : (nI vc = nI 5) ↔ vc = 5 := nI_eq h (by decide)
theorem n12ne {vc : Nat} (h : vc < 2 ^ 31) : (nI vc = nI 12) ↔ vc = 12 := nI_eq h (by decide)
theorem zin_f4 {y : Int32} (h : nI 40 ≤ y) : zin y 40 = false := by
  have h1 := Int32.le_iff_toInt_le.mp h
  rw [nI_toInt (by decide)] at h1
  unfold zin
  simp
  omega
theorem zspan_c {x y : Int32} (h1 : ¬ x < 0) (h2 : ¬ nI 40 ≤ y) (h3 : ¬ y < x) : ∃ a b : Nat, a ≤ b ∧ b < 40 ∧ x = nI a ∧ y = nI b := by
  obtain ⟨a, ha, rfl⟩ := nI_of h1
  have h4 : ¬ y < 0 := fun q => h3 (Int32.lt_of_lt_of_le q (nI_pos' ha))
  obtain ⟨b, hb, rfl⟩ := nI_of h4
  rw [nI_leI (by decide) hb] at h2
  rw [nI_ltI hb ha] at h3
  exact ⟨a, b, by omega, by omega, rfl, rfl⟩

/-! pure words for the reference's plan -/
def mSX (G G2 : zG) : Prop := ∃ (p q sn ls : Nat → Int32) (x : Int32) (ak : Int64), G2 = mSc G p q sn ls x ak
theorem mS0.X {G G2 : zG} (h : mS0 G G2) : mSX G G2 := by
  obtain ⟨p, q, sn, x, ak, e⟩ := h
  exact ⟨p, q, sn, _, x, ak, e⟩
theorem mSX_refl (G : zG) : mSX G G := (mS0_refl G).X
theorem mSc_50 (G : zG) (p q sn ls : Nat → Int32) (x : Int32) (ak : Int64) : zg (mSc G p q sn ls x ak) 50 0 = ls := rfl
def mHr (G : zG) (f : Nat) : Nat → Int32
  | 0 => nI 0
  | n + 1 => mHr G f n + (if mUsed G n f = 0 then nI 0 else zg G 43 0 n)
theorem mHr_t {G : zG} {f n : Nat} (h : mUsed G n f = 0) : mHr G f (n + 1) = mHr G f n + nI 0 := by
  show mHr G f n + _ = _
  rw [if_pos h]
theorem mHr_f {G : zG} {f n : Nat} (h : ¬ mUsed G n f = 0) : mHr G f (n + 1) = mHr G f n + zg G 43 0 n := by
  show mHr G f n + _ = _
  rw [if_neg h]
def lsF (f v : Nat → Int32) (n : Nat) : Nat → Int32 := fun j => if j < n then v j else f j
theorem lsF_0 (f v : Nat → Int32) : lsF f v 0 = f := rfl
theorem lsF_s (f v : Nat → Int32) (n : Nat) : upd (lsF f v n) n (v n) = lsF f v (n + 1) := by
  funext j
  unfold upd lsF
  by_cases h : j = n
  · rw [if_pos h, if_pos (by omega), h]
  · rw [if_neg h]
    by_cases h2 : j < n
    · rw [if_pos h2, if_pos (by omega)]
    · rw [if_neg h2, if_neg (by omega)]
def mMust (G : zG) (td : Nat) : Nat → Int32
  | 0 => nI 0
  | n + 1 => mMust G td n ||| (if mLat G n ≤ nI td then nI 0 else nI 1 <<< (nI n &&& 31))
theorem mMust_t {G : zG} {td n : Nat} (h : mLat G n ≤ nI td) : mMust G td (n + 1) = mMust G td n ||| nI 0 := by
  show mMust G td n ||| _ = _
  rw [if_pos h]
theorem mMust_f {G : zG} {td n : Nat} (h : ¬ mLat G n ≤ nI td) : mMust G td (n + 1) = mMust G td n ||| (nI 1 <<< (nI n &&& 31)) := by
  show mMust G td n ||| _ = _
  rw [if_neg h]
def mCoL (g ls : Nat → Int32) (k : Int32) : Nat → Int32
  | 0 => nI 0
  | n + 1 => mCoL g ls k n + (if (k >>> (nI n &&& 31)) &&& nI 1 = nI 1 then g n else ls n)
theorem mCos_L (G : zG) (k : Int32) : ∀ n, mCos G k n = mCoL (zg G 42 0) (zg G 50 0) k n
  | 0 => rfl
  | n + 1 => by
    show mCos G k n + _ = mCoL (zg G 42 0) (zg G 50 0) k n + _
    rw [mCos_L G k n]
theorem mCoL_c {g ls ls' : Nat → Int32} {k : Int32} : ∀ {n : Nat}, (∀ j, j < n → ls j = ls' j) → mCoL g ls k n = mCoL g ls' k n
  | 0, _ => rfl
  | n + 1, h => by
    show mCoL g ls k n + _ = mCoL g ls' k n + _
    rw [mCoL_c (fun j hj => h j (by omega)), h n (by omega)]
def mCst (G : zG) (k : Int32) : Int32 := mCoL (zg G 42 0) (fun j => mHr G j 6) k 8
theorem mCst_eq {G : zG} {p q sn f : Nat → Int32} {x : Int32} {ak : Int64} {k : Int32} : mCos (mSc G p q sn (lsF f (fun j => mHr G j 6) 8) x ak) k 8 = mCst G k := by
  rw [mCos_L, mSc_50]
  exact mCoL_c (fun j hj => if_pos hj)
def mBst (G : zG) (must : Int32) : Nat → Int32
  | 0 => -1
  | n + 1 => if nI n &&& must = must then (if mBst G must n < 0 then nI n else if mCst G (mBst G must n) ≤ mCst G (nI n) then mBst G must n else nI n) else mBst G must n
theorem mBst_0 {G : zG} {must : Int32} {n : Nat} (h : ¬ nI n &&& must = must) : mBst G must (n + 1) = mBst G must n := if_neg h
theorem mBst_1 {G : zG} {must : Int32} {n : Nat} (h : nI n &&& must = must) (h1 : mBst G must n < 0) : mBst G must (n + 1) = nI n := (if_pos h).trans (if_pos h1)
theorem mBst_2 {G : zG} {must : Int32} {n : Nat} (h : nI n &&& must = must) (h1 : ¬ mBst G must n < 0) (h2 : mCst G (mBst G must n) ≤ mCst G (nI n)) : mBst G must (n + 1) = mBst G must n := (if_pos h).trans ((if_neg h1).trans (if_pos h2))
theorem mBst_3 {G : zG} {must : Int32} {n : Nat} (h : nI n &&& must = must) (h1 : ¬ mBst G must n < 0) (h2 : ¬ mCst G (mBst G must n) ≤ mCst G (nI n)) : mBst G must (n + 1) = nI n := (if_pos h).trans ((if_neg h1).trans (if_neg h2))
def maPlan (G : zG) (td : Nat) (a : Int32) : Int32 := if zin a 2 = true then (if a = 0 then mBst G (mMust G td 8) 256 else mCst G (mBst G (mMust G td 8) 256)) else -1

/-! pure words for what stands on the reference's walk -/
theorem mSv_mSc {G : zG} {p q sn ls : Nat → Int32} {x : Int32} {ak : Int64} {h : Nat} : ∀ {n s : Nat} {b : Int32} {j : Nat}, mSv (mSc G p q sn ls x ak) h n s b j = mSv G h n s b j
  | 0, _, _, _ => rfl
  | n + 1, s, b, j => by
    have g24 : zg (mSc G p q sn ls x ak) 24 0 = zg G 24 0 := rfl
    have g25 : zg (mSc G p q sn ls x ak) 25 0 = zg G 25 0 := rfl
    have g26 : zg (mSc G p q sn ls x ak) 26 0 = zg G 26 0 := rfl
    have g27 : zg (mSc G p q sn ls x ak) 27 0 = zg G 27 0 := rfl
    simp only [mSv, g24, g25, g26, g27, mSv_mSc (n := n)]
theorem mSt_mSc {G : zG} {p q sn ls : Nat → Int32} {x : Int32} {ak : Int64} {h : Nat} : ∀ {n s : Nat} {b : Int32}, mSt (mSc G p q sn ls x ak) h n s b = mSt G h n s b
  | 0, _, _ => rfl
  | n + 1, s, b => by
    have g24 : zg (mSc G p q sn ls x ak) 24 0 = zg G 24 0 := rfl
    have g25 : zg (mSc G p q sn ls x ak) 25 0 = zg G 25 0 := rfl
    have g26 : zg (mSc G p q sn ls x ak) 26 0 = zg G 26 0 := rfl
    have g27 : zg (mSc G p q sn ls x ak) 27 0 = zg G 27 0 := rfl
    simp only [mSt, g24, g25, g26, g27, mSt_mSc (n := n)]
def mSs (G : zG) (h s f : Nat) : Int32 := mSv G h 12 s (zg G 28 0 (12 * h + s)) f
def mUsed (G : zG) (h f : Nat) : Int32 := orF (fun s => mSs G h s f) (mSz G h)
theorem mUsed_mSc {G : zG} {p q sn ls : Nat → Int32} {x : Int32} {ak : Int64} {h f : Nat} : mUsed (mSc G p q sn ls x ak) h f = mUsed G h f := by
  unfold mUsed
  have e : (fun s => mSs (mSc G p q sn ls x ak) h s f) = fun s => mSs G h s f := funext fun s => mSv_mSc
  rw [e]
  rfl
def mS0 (G G2 : zG) : Prop := ∃ (p q sn : Nat → Int32) (x : Int32) (ak : Int64), G2 = mSc G p q sn (zg G 50 0) x ak
theorem mS0_refl (G : zG) : mS0 G G := ⟨_, _, _, _, _, (mSc_self G).symm⟩
theorem mSc_zt1 (G : zG) (p q sn ls : Nat → Int32) (x : Int32) (ak v : Int64) : zuT (mSc G p q sn ls x ak) 1 v = mSc (zuT G 1 v) p q sn ls x ak := by
  refine Prod.ext rfl (Prod.ext ?_ rfl)
  funext j
  show (if j = 1 then v else if j = 2 then ak else G.2.1 j) = if j = 2 then ak else if j = 1 then v else G.2.1 j
  by_cases h : j = 1
  · rw [if_pos h, if_neg (by omega), if_pos h]
  · rw [if_neg h]
    by_cases h2 : j = 2
    · rw [if_pos h2, if_pos h2]
    · rw [if_neg h2, if_neg h2, if_neg h]
def moSees (G : zG) (a b c : Int32) : Bool := zin a 6 && (zin b (mSz G a.toNatClampNeg) && zin c 8)
def maSees (G : zG) (a b c : Int32) : Int32 := if moSees G a b c = true then mSs G a.toNatClampNeg b.toNatClampNeg c.toNatClampNeg else -1
def msSees (G : zG) (a b c : Int32) : zG := if moSees G a b c = true then zuT G 1 (zt G 1 + mSt G a.toNatClampNeg 12 b.toNatClampNeg (zg G 28 0 (12 * a.toNatClampNeg + b.toNatClampNeg))) else G
def maUses (G : zG) (a b : Int32) : Int32 := if xoUses a b = true then mUsed G a.toNatClampNeg b.toNatClampNeg else -1
def mShp (x : Int32) : Int32 := if x = 0 then nI 0 else if x = nI 255 then nI 3 else if x &&& (x - nI 1) = 0 then nI 1 else nI 2
def maShape (G : zG) (a b : Int32) : Int32 := if xoUses a b = true then mShp (mUsed G a.toNatClampNeg b.toNatClampNeg) else -1
def mOne (x d : Int32) : Int32 := if x = 0 then nI 0 else if x &&& d = 0 then nI 0 else if x &&& (d ^^^ (-1)) = 0 then nI 2 else nI 1
theorem mOne_0 {x d : Int32} (h : x = 0) : mOne x d = nI 0 := if_pos h
theorem mOne_1 {x d : Int32} (h : ¬ x = 0) (h2 : x &&& d = 0) : mOne x d = nI 0 := (if_neg h).trans (if_pos h2)
theorem mOne_2 {x d : Int32} (h : ¬ x = 0) (h2 : ¬ x &&& d = 0) (h3 : x &&& (d ^^^ (-1)) = 0) : mOne x d = nI 2 := (if_neg h).trans ((if_neg h2).trans (if_pos h3))
theorem mOne_3 {x d : Int32} (h : ¬ x = 0) (h2 : ¬ x &&& d = 0) (h3 : ¬ x &&& (d ^^^ (-1)) = 0) : mOne x d = nI 1 := (if_neg h).trans ((if_neg h2).trans (if_neg h3))
def mHw (c : Nat → Int32) : Nat → Int32
  | 0 => nI 0
  | n + 1 => if c n ≤ mHw c n then mHw c n else c n
theorem mHw_t {c : Nat → Int32} {n : Nat} {o : Int32} (ho : c n = o) (h : o ≤ mHw c n) : mHw c (n + 1) = mHw c n := if_pos (by rw [ho]; exact h)
theorem mHw_f {c : Nat → Int32} {n : Nat} {o : Int32} (ho : c n = o) (h : ¬ o ≤ mHw c n) : mHw c (n + 1) = o := (if_neg (by rw [ho]; exact h)).trans ho
def maHarm (G : zG) (vc : Nat) (a b c : Int32) : Int32 := if xoHarm vc a b c = true then (if mSilent G a.toNatClampNeg = true then nI 3 else mHw (fun s => mOne (mSs G a.toNatClampNeg s b.toNatClampNeg) (mDif G b.toNatClampNeg (zg G 22 0 a.toNatClampNeg).toNatClampNeg c.toNatClampNeg)) (mSz G a.toNatClampNeg)) else -1
def mLf (G : zG) (f : Int32) (v u : Nat) (z : Int32) : Nat → Int32
  | 0 => z
  | n + 1 => if zg G 34 0 n = f then (if mRh G n v u = true then mLf G f v u z n &&& (zg G 35 0 n ^^^ (-1)) else mLf G f v u z n &&& nI 255) else mLf G f v u z n &&& nI 255
theorem mLf_0 {G : zG} {f : Int32} {v u : Nat} {z : Int32} {n : Nat} (h : ¬ zg G 34 0 n = f) : mLf G f v u z (n + 1) = mLf G f v u z n &&& nI 255 := if_neg h
theorem mLf_1 {G : zG} {f : Int32} {v u : Nat} {z : Int32} {n : Nat} (h : zg G 34 0 n = f) (h2 : mRh G n v u = true) : mLf G f v u z (n + 1) = mLf G f v u z n &&& (zg G 35 0 n ^^^ (-1)) := (if_pos h).trans (if_pos h2)
theorem mLf_2 {G : zG} {f : Int32} {v u : Nat} {z : Int32} {n : Nat} (h : zg G 34 0 n = f) (h2 : mRh G n v u = false) : mLf G f v u z (n + 1) = mLf G f v u z n &&& nI 255 := (if_pos h).trans (if_neg (by rw [h2]; decide))
def maLeft (G : zG) (vc rc : Nat) (a b c : Int32) : Int32 := if xoHarm vc a b c = true then mLf G b (zg G 22 0 a.toNatClampNeg).toNatClampNeg c.toNatClampNeg (mUsed G a.toNatClampNeg b.toNatClampNeg &&& mDif G b.toNatClampNeg (zg G 22 0 a.toNatClampNeg).toNatClampNeg c.toNatClampNeg) rc else -1
def mHm (G : zG) (f d h : Nat) : Bool := !decide (mUsed G h f = 0) || decide (0 < mSum G h f (d - 7) (min d 39 + 1))
def mHmd (G : zG) (f d : Nat) : Int32 := nI (ctF (fun h => mHm G f d h) 6)
def maHarmed (G : zG) (a b : Int32) : Int32 := if (zin a 8 && zin b 41) = true then mHmd G a.toNatClampNeg b.toNatClampNeg else -1
def mRd (G : zG) (f d : Nat) : Bool := decide (mLat G f < nI d ∧ mHmd G f d = 0)
def maReady (G : zG) (td : Nat) (a : Int32) : Int32 := if zin a 8 = true then fsT (fun d => mRd G a.toNatClampNeg d) td (41 - td) else -1
theorem mSum_mSc {G : zG} {p q sn ls : Nat → Int32} {x : Int32} {ak : Int64} {h f a n : Nat} : mSum (mSc G p q sn ls x ak) h f a n = mSum G h f a n := rfl
theorem mLat_mSc {G : zG} {p q sn ls : Nat → Int32} {x : Int32} {ak : Int64} {f : Nat} : mLat (mSc G p q sn ls x ak) f = mLat G f := rfl
theorem mHmd_mSc {G : zG} {p q sn ls : Nat → Int32} {x : Int32} {ak : Int64} {f d : Nat} : mHmd (mSc G p q sn ls x ak) f d = mHmd G f d := by
  unfold mHmd
  have e : (fun h => mHm (mSc G p q sn ls x ak) f d h) = fun h => mHm G f d h := funext fun h => by
    unfold mHm
    rw [mUsed_mSc, mSum_mSc]
  rw [e]
theorem mto {d : Nat} (hd : d ≤ 40) (h : ¬ nI 40 ≤ nI d) : d = min d 39 := by
  rw [nI_leI (by decide) (by omega)] at h
  omega
theorem mto2 {d : Nat} (hd : d ≤ 40) (h : nI 40 ≤ nI d) : 39 = min d 39 := by
  rw [nI_leI (by decide) (by omega)] at h
  omega
theorem mfr {d : Nat} (hd : d ≤ 40) (h : nI d ≤ nI 7) : 0 = d - 7 := by
  rw [nI_leI (by omega) (by decide)] at h
  omega
theorem mfr2 {d : Nat} (hd : d ≤ 40) (h : ¬ nI d ≤ nI 7) : 7 ≤ d := by
  rw [nI_leI (by omega) (by decide)] at h
  omega
theorem z0255 : ¬ (nI 255 : Int32) = 0 := by decide +kernel

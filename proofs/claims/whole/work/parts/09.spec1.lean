/-! pure words for the class's own methods -/
def zin (x : Int32) (n : Nat) : Bool := decide (0 ≤ x.toInt ∧ x.toInt < n)
theorem zin_t {a n : Nat} (h : a < n) (hn : n ≤ 2 ^ 31) : zin (nI a) n = true := by
  unfold zin
  rw [nI_toInt (by omega)]
  simp
  omega
theorem z0_toInt : (0 : Int32).toInt = 0 := rfl
theorem zin_f0 {x : Int32} {n : Nat} (h : x < 0) : zin x n = false := by
  have h1 := Int32.lt_iff_toInt_lt.mp h
  rw [z0_toInt] at h1
  unfold zin
  simp
  omega
theorem zin_f1 {x : Int32} {m : Nat} (hm : m < 2 ^ 31) (h : nI m < x) : zin x (m + 1) = false := by
  have h1 := Int32.lt_iff_toInt_lt.mp h
  rw [nI_toInt hm] at h1
  unfold zin
  simp
  omega
theorem zin_c {x : Int32} {m : Nat} (hm : m < 2 ^ 31) (h1 : ¬ x < 0) (h2 : ¬ nI m < x) : ∃ a, a < m + 1 ∧ x = nI a := by
  obtain ⟨j, hj, rfl⟩ := nI_of h1
  rw [nI_ltI hm hj] at h2
  exact ⟨j, by omega, rfl⟩
theorem zsub1 {n : Nat} (hn : n < 2 ^ 30) : (nI n - nI 1).toInt = (n : Int) - 1 := pk_sub_toInt hn (by decide)
theorem zin_f2 {x : Int32} {n : Nat} (hn : n < 2 ^ 30) (h : nI n - nI 1 < x) : zin x n = false := by
  have h1 := Int32.lt_iff_toInt_lt.mp h
  rw [zsub1 hn] at h1
  unfold zin
  simp
  omega
theorem zin_c2 {x : Int32} {n : Nat} (hn : n < 2 ^ 30) (h1 : ¬ x < 0) (h2 : ¬ nI n - nI 1 < x) : ∃ a, a < n ∧ x = nI a := by
  obtain ⟨j, hj, rfl⟩ := nI_of h1
  rw [Int32.lt_iff_toInt_lt, zsub1 hn, nI_toInt hj] at h2
  exact ⟨j, by omega, rfl⟩
def zspan (x y : Int32) : Bool := decide (0 ≤ x.toInt ∧ x.toInt ≤ y.toInt ∧ y.toInt < 40)
theorem zspan_t {a b : Nat} (h : a ≤ b) (hb : b < 40) : zspan (nI a) (nI b) = true := by
  unfold zspan
  rw [nI_toInt (by omega), nI_toInt (by omega)]
  simp
  omega
theorem zspan_f1 {x y : Int32} (h : zin x 40 = false) : zspan x y = false := by
  unfold zin at h
  unfold zspan
  simp at h ⊢
  omega
theorem zspan_f2 {x y : Int32} (h : zin y 40 = false) : zspan x y = false := by
  unfold zin at h
  unfold zspan
  simp at h ⊢
  omega
theorem zspan_f3 {x y : Int32} (h : y < x) : zspan x y = false := by
  have h1 := Int32.lt_iff_toInt_lt.mp h
  unfold zspan
  simp
  omega
/-- bits of a loop over places -/
def bo (c : Nat → Bool) : Nat → Int32
  | 0 => nI 0
  | n + 1 => if c n = true then bo c n ||| (nI 1 <<< (nI n &&& 31)) else bo c n
theorem bo_t {c : Nat → Bool} {n : Nat} (h : c n = true) : bo c (n + 1) = bo c n ||| (nI 1 <<< (nI n &&& 31)) := if_pos h
theorem bo_f {c : Nat → Bool} {n : Nat} (h : c n = false) : bo c (n + 1) = bo c n := if_neg (by rw [h]; decide)
/-- the greatest, from -9 on -/
def mxP (f : Nat → Int32) : Nat → Int32
  | 0 => (-9 : Int32)
  | n + 1 => if mxP f n < f n then f n else mxP f n
/-- a sum from a on, up to but not at n -/
def smF (f : Nat → Int32) (a : Nat) : Nat → Int32
  | 0 => nI 0
  | n + 1 => smF f a n + f (a + n)
def smT (f : Nat → Int32) (a n : Nat) : Int32 := smF f a (n - a)
theorem smT_0 (f : Nat → Int32) (a : Nat) : smT f a a = nI 0 := by simp [smT, smF]
theorem smT_s (f : Nat → Int32) {a n : Nat} (h : a ≤ n) : smT f a (n + 1) = smT f a n + f n := by
  unfold smT
  rw [show n + 1 - a = (n - a) + 1 by omega]
  show smF f a (n - a) + f (a + (n - a)) = _
  rw [show a + (n - a) = n by omega]
def orF (f : Nat → Int32) : Nat → Int32
  | 0 => nI 0
  | n + 1 => orF f n ||| f n
def anF (c : Nat → Bool) : Nat → Bool
  | 0 => false
  | n + 1 => anF c n || c n
theorem anF_f {c : Nat → Bool} : ∀ {n : Nat}, (∀ k, k < n → c k = false) → anF c n = false
  | 0, _ => rfl
  | n + 1, h => by
    show (anF c n || c n) = false
    rw [anF_f (fun k hk => h k (by omega)), h n (by omega)]
    rfl
theorem anF_t {c : Nat → Bool} {k : Nat} (hc : c k = true) : ∀ {n : Nat}, k < n → anF c n = true
  | 0, h => by omega
  | n + 1, h => by
    show (anF c n || c n) = true
    by_cases hk : k = n
    · rw [← hk, hc]; simp
    · rw [anF_t hc (by omega)]; rfl
def alF (c : Nat → Bool) : Nat → Bool
  | 0 => true
  | n + 1 => alF c n && c n
theorem alF_t {c : Nat → Bool} : ∀ {n : Nat}, (∀ k, k < n → c k = true) → alF c n = true
  | 0, _ => rfl
  | n + 1, h => by
    show (alF c n && c n) = true
    rw [alF_t (fun k hk => h k (by omega)), h n (by omega)]
    rfl
theorem alF_f {c : Nat → Bool} {k : Nat} (hc : c k = false) : ∀ {n : Nat}, k < n → alF c n = false
  | 0, h => by omega
  | n + 1, h => by
    show (alF c n && c n) = false
    by_cases hk : k = n
    · rw [← hk, hc]; simp
    · rw [alF_f hc (by omega)]; rfl
def ctF (c : Nat → Bool) : Nat → Nat
  | 0 => 0
  | n + 1 => if c n = true then ctF c n + 1 else ctF c n
theorem ctF_t {c : Nat → Bool} {n : Nat} (h : c n = true) : ctF c (n + 1) = ctF c n + 1 := if_pos h
theorem ctF_f {c : Nat → Bool} {n : Nat} (h : c n = false) : ctF c (n + 1) = ctF c n := if_neg (by rw [h]; decide)
theorem ctF_le {c : Nat → Bool} : ∀ n : Nat, ctF c n ≤ n
  | 0 => Nat.le_refl 0
  | n + 1 => by
    have := ctF_le (c := c) n
    unfold ctF
    split <;> omega
/-- what a statement sees: its ends that are in its set -/
def sbX (e : Nat → Int32) (st f : Int32) (b : Nat) : Nat → Int32
  | 0 => nI 0
  | n + 1 => if (st >>> (nI n &&& 31)) &&& nI 1 = 0 then sbX e st f b n else if e (b + n) / nI 8 = f then sbX e st f b n ||| (nI 1 <<< ((e (b + n) - e (b + n) / nI 8 * nI 8) &&& 31)) else sbX e st f b n
/-- the door's words -/
def xDif (G : zG) (i v u : Nat) : Int32 := bo (fun a => decide (¬ zg G 5 i (v * 8 + a) = zg G 5 i (u * 8 + a))) 8
def xLat (G : zG) (i : Nat) : Int32 := mxP (zg G 6 i) 6
def xShut (G : zG) (i : Nat) (d : Int32) : Bool := decide (¬ zg G 4 i 2 = (-9 : Int32) ∧ zg G 4 i 2 ≤ d)
/-- the house's words -/
def xSilent (G : zG) (h : Nat) : Bool := decide (zg G 10 h 6 = 0 ∧ zg G 7 h 3 = 0)
def xSum (G : zG) (h f a n : Nat) : Int32 := smT (fun d => zg G 8 h (f * 40 + d)) a n
/-- the text's words -/
def xSees (G : zG) (h s : Nat) (f : Int32) : Int32 := sbX (zg G 16 h) (zg G 15 h s) f (s * 8) 8
def xUsed (G : zG) (h : Nat) (f : Int32) : Int32 := orF (fun s => xSees G h s f) (zg G 10 h 6).toNatClampNeg
def xOnly (G : zG) (h : Nat) (f al : Int32) : Bool := anF (fun s => decide (¬ xSees G h s f = 0 ∧ xSees G h s f &&& (al ^^^ (-1)) = 0)) (zg G 10 h 6).toNatClampNeg
def xTurn (x d : Int32) : Int32 := ((x <<< (d &&& 31)) ||| (x >>> ((nI 8 - d) &&& 31))) &&& nI 255
def xSteps (G : zG) (h : Nat) : Nat → Nat → Int32 → Int32
  | 0, _, _ => nI 0
  | n + 1, s, a => if a = 0 then nI 0 else if zg G 11 h s = 0 then nI 1
    else if zg G 11 h s = nI 1 then nI 10 + xSteps G h n (zg G 12 h s).toNatClampNeg (xTurn a (zg G 14 h s))
    else (nI 100 + xSteps G h n (zg G 12 h s).toNatClampNeg (a &&& ((nI 1 <<< (zg G 14 h s &&& 31)) - nI 1))) + xSteps G h n (zg G 13 h s).toNatClampNeg (a &&& (((nI 1 <<< (zg G 14 h s &&& 31)) - nI 1) ^^^ (-1)))
theorem sbX_s (e : Nat → Int32) (st f : Int32) (b n : Nat) : sbX e st f b (n + 1) = if (st >>> (nI n &&& 31)) &&& nI 1 = 0 then sbX e st f b n else if e (b + n) / nI 8 = f then sbX e st f b n ||| (nI 1 <<< ((e (b + n) - e (b + n) / nI 8 * nI 8) &&& 31)) else sbX e st f b n := rfl
def endF (g : Nat → Int32) (b : Nat) (f : Nat → Int32) (n : Nat) : Nat → Int32 := fun j => if b ≤ j ∧ j < b + n then f (j - b) else g j
theorem endF_0 (g : Nat → Int32) (b : Nat) (f : Nat → Int32) : endF g b f 0 = g := by
  funext j
  unfold endF
  rw [if_neg (by omega)]
theorem zuA_id (G : zG) (k i : Nat) {f : Nat → Int32} (h : f = zg G k i) : zuA G k i f = G := by
  subst h
  refine Prod.ext ?_ rfl
  funext k' i'
  show (if k' = k ∧ i' = i then zg G k i else G.1 k' i') = G.1 k' i'
  by_cases h : k' = k ∧ i' = i
  · rw [if_pos h, h.1, h.2]
    rfl
  · rw [if_neg h]
theorem zG0 {Z : zZ} {w : Nat} {G G2 : zG} {pc : Nat} {lv : List (Option Value)} {st : List Value} (h : G2 = G) (k : Z w G2 pc lv st) : Z w G pc lv st := h ▸ k
theorem zuA_zuA (G : zG) (k i : Nat) (f g : Nat → Int32) : zuA (zuA G k i f) k i g = zuA G k i g := by
  refine Prod.ext ?_ rfl
  funext k' i'
  show (if k' = k ∧ i' = i then g else (if k' = k ∧ i' = i then f else G.1 k' i')) = if k' = k ∧ i' = i then g else G.1 k' i'
  by_cases h : k' = k ∧ i' = i
  · rw [if_pos h, if_pos h]
  · rw [if_neg h, if_neg h, if_neg h]
theorem zuA_put (G : zG) (k i b n : Nat) (f : Nat → Int32) : zuA G k i (endF (zg G k i) b f (n + 1)) = zu (zuA G k i (endF (zg G k i) b f n)) k i (b + n) (f n) := by
  unfold zu
  rw [zuA_zuA, zg_zuA, if_pos ⟨rfl, rfl⟩]
  congr 1
  funext j
  unfold endF upd
  by_cases h1 : j = b + n
  · subst h1
    rw [if_pos (by omega), if_pos rfl]
    congr 1
    omega
  · rw [if_neg h1]
    by_cases h2 : b ≤ j ∧ j < b + n
    · rw [if_pos (by omega)]
      exact (if_pos h2).symm
    · rw [if_neg (by omega)]
      exact (if_neg h2).symm
theorem endF_lo (G : zG) (k i m : Nat) (f : Nat → Int32) {n j : Nat} (h : j < m * 8) : zg (zuA G k i (endF (zg G k i) (m * 8) f n)) k i j = zg G k i j := by
  rw [zg_zuA, if_pos ⟨rfl, rfl⟩]
  unfold endF
  rw [if_neg (by omega)]
theorem zmax7 {d : Nat} (hd : d < 2 ^ 30) : (if nI d - nI 7 < nI 0 then nI 0 else nI d - nI 7) = nI (d - 7) := by
  by_cases h : d < 7
  · rw [if_pos (show nI d - nI 7 < nI 0 by rw [nI_0]; exact pk_sneg (by decide) h), show d - 7 = 0 by omega]
  · rw [pk_sub (by omega), if_neg (nI_nlt (by omega) (by omega))]
theorem zmin39 {d : Nat} (hd : d < 2 ^ 30) : (if nI 39 < nI d then nI 39 else nI d) = nI (min d 39) := by
  by_cases h : 39 < d
  · rw [if_pos (nI_lt h (by omega)), show min d 39 = 39 by omega]
  · rw [if_neg (nI_nlt (by omega) (by decide)), show min d 39 = d by omega]

/-! pure words for the class's inner methods -/
def zTx (G : zG) (h sz : Nat) : Prop := ∀ s, s < sz → (zg G 11 h s = nI 0) ∨ (zg G 11 h s = nI 1 ∧ ∃ f, f < s ∧ zg G 12 h s = nI f) ∨ (zg G 11 h s = nI 2 ∧ ∃ f g, f < s ∧ g < s ∧ zg G 12 h s = nI f ∧ zg G 13 h s = nI g)
theorem z01 : ¬ (nI 1 : Int32) = 0 := by decide +kernel
theorem z02 : ¬ (nI 2 : Int32) = 0 := by decide +kernel
theorem z12 : ¬ (nI 2 : Int32) = nI 1 := by decide +kernel
theorem xSteps_a0 (G : zG) (h n s : Nat) {a : Int32} (ha : a = 0) : xSteps G h (n + 1) s a = nI 0 := if_pos ha
theorem xSteps_k0 {G : zG} {h n s : Nat} {a : Int32} (ha : ¬ a = 0) (hk : zg G 11 h s = nI 0) : xSteps G h (n + 1) s a = nI 1 := by
  unfold xSteps
  rw [if_neg ha, if_pos (by rw [hk]; rfl)]
theorem xSteps_k1 {G : zG} {h n s f : Nat} {a : Int32} (ha : ¬ a = 0) (hk : zg G 11 h s = nI 1) (ef : zg G 12 h s = nI f) (hf : f < 2 ^ 31) : xSteps G h (n + 1) s a = nI 10 + xSteps G h n f (xTurn a (zg G 14 h s)) := by
  show (if a = 0 then nI 0 else if zg G 11 h s = 0 then nI 1 else if zg G 11 h s = nI 1 then nI 10 + xSteps G h n (zg G 12 h s).toNatClampNeg (xTurn a (zg G 14 h s)) else _) = _
  rw [if_neg ha, if_neg (by rw [hk]; exact z01), if_pos hk, ef, nI_clamp hf]
theorem xSteps_k2 {G : zG} {h n s f g : Nat} {a : Int32} (ha : ¬ a = 0) (hk : zg G 11 h s = nI 2) (ef : zg G 12 h s = nI f) (hf : f < 2 ^ 31) (eg : zg G 13 h s = nI g) (hg : g < 2 ^ 31) : xSteps G h (n + 1) s a = (nI 100 + xSteps G h n f (a &&& ((nI 1 <<< (zg G 14 h s &&& 31)) - nI 1))) + xSteps G h n g (a &&& (((nI 1 <<< (zg G 14 h s &&& 31)) - nI 1) ^^^ (-1))) := by
  show (if a = 0 then nI 0 else if zg G 11 h s = 0 then nI 1 else if zg G 11 h s = nI 1 then _ else (nI 100 + xSteps G h n (zg G 12 h s).toNatClampNeg _) + xSteps G h n (zg G 13 h s).toNatClampNeg _) = _
  rw [if_neg ha, if_neg (by rw [hk]; exact z02), if_neg (by rw [hk]; exact z12), ef, nI_clamp hf, eg, nI_clamp hg]
/-- a rule holds from v to u -/
def xHeld (G : zG) (f : Nat) (set : Int32) (t d v u : Nat) : Bool := alF (fun a => decide ((set >>> (nI a &&& 31)) &&& nI 1 = 0 ∨ zg G 5 f (v * 8 + a) = zg G 5 t (u * 8 + (a + d) % 8))) 8
def xHrs (G : zG) (f : Int32) : Nat → Int32
  | 0 => nI 0
  | n + 1 => if xUsed G n f = 0 then xHrs G f n else xHrs G f n + zg G 7 n 5
theorem xHrs_t {G : zG} {f : Int32} {n : Nat} (h : xUsed G n f = 0) : xHrs G f (n + 1) = xHrs G f n := if_pos h
theorem xHrs_f {G : zG} {f : Int32} {n : Nat} (h : ¬ xUsed G n f = 0) : xHrs G f (n + 1) = xHrs G f n + zg G 7 n 5 := if_neg h
def xKept (G : zG) (i : Nat) (loss : Int32) : Bool := decide (zg G 0 0 5 + nI 1 ≤ xLat G i ∨ zg G 4 i 4 < loss)
/-- switches over small numbers -/
theorem zsw3 (x : Int32) : x = nI 0 ∨ x = nI 1 ∨ x = nI 2 ∨ (x.toInt < 0 ∨ 2 < x.toInt) := by
  by_cases h : x.toInt < 0 ∨ 2 < x.toInt
  · exact Or.inr (Or.inr (Or.inr h))
  · obtain ⟨j, hj, rfl⟩ := nI_of (x := x) (fun q => h (Or.inl (by have := Int32.lt_iff_toInt_lt.mp q; rw [z0_toInt] at this; exact this)))
    rw [nI_toInt hj] at h
    have h3 : j = 0 ∨ j = 1 ∨ j = 2 := by omega
    rcases h3 with rfl | rfl | rfl
    · exact Or.inl rfl
    · exact Or.inr (Or.inl rfl)
    · exact Or.inr (Or.inr (Or.inl rfl))
theorem zsw4 (x : Int32) : x = nI 0 ∨ x = nI 1 ∨ x = nI 2 ∨ x = nI 3 ∨ (x.toInt < 0 ∨ 3 < x.toInt) := by
  by_cases h : x.toInt < 0 ∨ 3 < x.toInt
  · exact Or.inr (Or.inr (Or.inr (Or.inr h)))
  · obtain ⟨j, hj, rfl⟩ := nI_of (x := x) (fun q => h (Or.inl (by have := Int32.lt_iff_toInt_lt.mp q; rw [z0_toInt] at this; exact this)))
    rw [nI_toInt hj] at h
    have h3 : j = 0 ∨ j = 1 ∨ j = 2 ∨ j = 3 := by omega
    rcases h3 with rfl | rfl | rfl | rfl
    · exact Or.inl rfl
    · exact Or.inr (Or.inl rfl)
    · exact Or.inr (Or.inr (Or.inl rfl))
    · exact Or.inr (Or.inr (Or.inr (Or.inl rfl)))
theorem zsw5 (x : Int32) : x = nI 0 ∨ x = nI 1 ∨ x = nI 2 ∨ x = nI 3 ∨ x = nI 4 ∨ (x.toInt < 0 ∨ 4 < x.toInt) := by
  by_cases h : x.toInt < 0 ∨ 4 < x.toInt
  · exact Or.inr (Or.inr (Or.inr (Or.inr (Or.inr h))))
  · obtain ⟨j, hj, rfl⟩ := nI_of (x := x) (fun q => h (Or.inl (by have := Int32.lt_iff_toInt_lt.mp q; rw [z0_toInt] at this; exact this)))
    rw [nI_toInt hj] at h
    have h3 : j = 0 ∨ j = 1 ∨ j = 2 ∨ j = 3 ∨ j = 4 := by omega
    rcases h3 with rfl | rfl | rfl | rfl | rfl
    · exact Or.inl rfl
    · exact Or.inr (Or.inl rfl)
    · exact Or.inr (Or.inr (Or.inl rfl))
    · exact Or.inr (Or.inr (Or.inr (Or.inl rfl)))
    · exact Or.inr (Or.inr (Or.inr (Or.inr (Or.inl rfl))))
/-- the count of ones, as the library counts -/
def xBc (x : Int32) : Int32 :=
  let a := x - ((x.toUInt32 >>> ((nI 1).toUInt32 &&& Int32.toUInt32 31)).toInt32 &&& (1431655765 : Int32))
  let b := (a &&& (858993459 : Int32)) + ((a.toUInt32 >>> ((nI 2).toUInt32 &&& Int32.toUInt32 31)).toInt32 &&& (858993459 : Int32))
  let c := (b + (b.toUInt32 >>> ((nI 4).toUInt32 &&& Int32.toUInt32 31)).toInt32) &&& (252645135 : Int32)
  let d := c + (c.toUInt32 >>> ((nI 8).toUInt32 &&& Int32.toUInt32 31)).toInt32
  let e := d + (d.toUInt32 >>> ((nI 16).toUInt32 &&& Int32.toUInt32 31)).toInt32
  e &&& nI 63
theorem zb_16 : (Int8.ofInt 16).toInt32 = nI 16 := by decide +kernel
theorem zb_63 : (Int8.ofInt 63).toInt32 = nI 63 := by decide +kernel
theorem zb_11 : (Int8.ofInt 11).toInt32 = nI 11 := by decide +kernel
theorem zpn_J6 : plainName RJ6 = true := by decide +kernel
theorem zpn_J7 : plainName RJ7 = true := by decide +kernel

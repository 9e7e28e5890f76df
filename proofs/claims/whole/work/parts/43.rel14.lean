/-! harm -/
theorem i0_iff (x : Int32) : x = 0 ↔ ∀ i, i < 32 → x.toBitVec.getLsbD i = false := by
  constructor
  · intro h i _
    rw [h]
    exact BitVec.getLsbD_zero
  · intro h
    apply Int32.toBitVec.inj
    apply BitVec.eq_of_getLsbD_eq
    intro i hi
    rw [h i hi]
    exact BitVec.getLsbD_zero.symm
theorem oa_iff (x y d : Int32) : (x ||| y) &&& d = 0 ↔ x &&& d = 0 ∧ y &&& d = 0 := by
  rw [i0_iff, i0_iff, i0_iff]
  simp only [Int32.toBitVec_and, Int32.toBitVec_or, BitVec.getLsbD_and, BitVec.getLsbD_or]
  constructor
  · intro h
    refine ⟨fun i hi => ?_, fun i hi => ?_⟩
    · have := h i hi
      revert this
      cases x.toBitVec.getLsbD i <;> cases y.toBitVec.getLsbD i <;> cases d.toBitVec.getLsbD i <;> simp
    · have := h i hi
      revert this
      cases x.toBitVec.getLsbD i <;> cases y.toBitVec.getLsbD i <;> cases d.toBitVec.getLsbD i <;> simp
  · intro h i hi
    have h1 := h.1 i hi
    have h2 := h.2 i hi
    revert h1 h2
    cases x.toBitVec.getLsbD i <;> cases y.toBitVec.getLsbD i <;> cases d.toBitVec.getLsbD i <;> simp
theorem ones_bv : (-1 : Int32).toBitVec = BitVec.allOnes 32 := by decide +kernel
theorem ac_0 {x d : Int32} (h1 : x &&& d = 0) (h2 : x &&& (d ^^^ (-1)) = 0) : x = 0 := by
  rw [i0_iff] at h1 h2 ⊢
  intro i hi
  have a := h1 i hi
  have b := h2 i hi
  rw [Int32.toBitVec_and, BitVec.getLsbD_and] at a b
  rw [Int32.toBitVec_xor, BitVec.getLsbD_xor, ones_bv, BitVec.getLsbD_allOnes, decide_eq_true hi] at b
  revert a b
  cases x.toBitVec.getLsbD i <;> cases d.toBitVec.getLsbD i <;> simp
theorem e_hw (X : Nat → Int32) (D : Int32) : ∀ n, (orF X n &&& D = 0 → anF (fun s => decide (¬ X s = 0 ∧ X s &&& (D ^^^ (-1)) = 0)) n = false) ∧ mHw (fun s => mOne (X s) D) n = if orF X n &&& D = 0 then nI 0 else if anF (fun s => decide (¬ X s = 0 ∧ X s &&& (D ^^^ (-1)) = 0)) n = true then nI 2 else nI 1
  | 0 => by
    have h0 : (nI 0 &&& D) = 0 := by
      rw [i0_iff]
      intro i _
      rw [Int32.toBitVec_and, BitVec.getLsbD_and]
      have : (nI 0).toBitVec.getLsbD i = false := BitVec.getLsbD_zero
      rw [this, Bool.false_and]
    exact ⟨fun _ => rfl, (if_pos h0).symm⟩
  | n + 1 => by
    obtain ⟨i1, i2⟩ := e_hw X D n
    have s0 : orF X (n + 1) &&& D = 0 ↔ orF X n &&& D = 0 ∧ X n &&& D = 0 := oa_iff _ _ _
    have s1 : anF (fun s => decide (¬ X s = 0 ∧ X s &&& (D ^^^ (-1)) = 0)) (n + 1) = (anF (fun s => decide (¬ X s = 0 ∧ X s &&& (D ^^^ (-1)) = 0)) n || decide (¬ X n = 0 ∧ X n &&& (D ^^^ (-1)) = 0)) := rfl
    have s2 : mHw (fun s => mOne (X s) D) (n + 1) = if mOne (X n) D ≤ mHw (fun s => mOne (X s) D) n then mHw (fun s => mOne (X s) D) n else mOne (X n) D := rfl
    have c0 : ∀ k, k < 3 → ∀ m, m < 3 → (if nI k ≤ nI m then nI m else nI k) = nI (max k m) := by decide +kernel
    rw [s1, s2, i2]
    by_cases hx : X n &&& D = 0
    · have o0 : mOne (X n) D = nI 0 := by
        by_cases x0 : X n = 0
        · exact mOne_0 x0
        · exact mOne_1 x0 hx
      have f0 : decide (¬ X n = 0 ∧ X n &&& (D ^^^ (-1)) = 0) = false := decide_eq_false (fun w => w.1 (ac_0 hx w.2))
      rw [o0, f0, Bool.or_false]
      refine ⟨fun w => i1 (s0.mp w).1, ?_⟩
      by_cases q : orF X n &&& D = 0
      · rw [if_pos q, if_pos (s0.mpr ⟨q, hx⟩)]
        exact c0 0 (by decide) 0 (by decide)
      · rw [if_neg q, if_neg (fun w => q (s0.mp w).1)]
        by_cases q2 : anF (fun s => decide (¬ X s = 0 ∧ X s &&& (D ^^^ (-1)) = 0)) n = true
        · rw [if_pos q2]
          exact c0 0 (by decide) 2 (by decide)
        · rw [if_neg q2]
          exact c0 0 (by decide) 1 (by decide)
    · have x0 : ¬ X n = 0 := fun w => hx (by rw [w]; simp)
      have n0 : ¬ orF X (n + 1) &&& D = 0 := fun w => hx (s0.mp w).2
      refine ⟨fun w => absurd w n0, ?_⟩
      rw [if_neg n0]
      by_cases q3 : X n &&& (D ^^^ (-1)) = 0
      · rw [mOne_2 x0 hx q3, decide_eq_true (⟨x0, q3⟩ : ¬ X n = 0 ∧ X n &&& (D ^^^ (-1)) = 0), Bool.or_true, if_pos rfl]
        by_cases q : orF X n &&& D = 0
        · rw [if_pos q]
          exact c0 2 (by decide) 0 (by decide)
        · rw [if_neg q]
          by_cases q2 : anF (fun s => decide (¬ X s = 0 ∧ X s &&& (D ^^^ (-1)) = 0)) n = true
          · rw [if_pos q2]
            exact c0 2 (by decide) 2 (by decide)
          · rw [if_neg q2]
            exact c0 2 (by decide) 1 (by decide)
      · rw [mOne_3 x0 hx q3, decide_eq_false (fun w : ¬ X n = 0 ∧ X n &&& (D ^^^ (-1)) = 0 => q3 w.2), Bool.or_false]
        by_cases q : orF X n &&& D = 0
        · rw [if_pos q, i1 q, if_neg (by decide)]
          exact c0 1 (by decide) 0 (by decide)
        · rw [if_neg q]
          by_cases q2 : anF (fun s => decide (¬ X s = 0 ∧ X s &&& (D ^^^ (-1)) = 0)) n = true
          · rw [if_pos q2]
            exact c0 1 (by decide) 2 (by decide)
          · rw [if_neg q2]
            exact c0 1 (by decide) 1 (by decide)

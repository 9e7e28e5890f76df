/-! a new version -/
theorem xCp_5 {G : zG} {vc n i j : Nat} (hv : 1 ≤ vc) : zg (xCp G vc n) 5 i j = if i < n ∧ vc * 8 ≤ j ∧ j < vc * 8 + 8 then zg G 5 i (j - 8) else zg G 5 i j := by
  induction n generalizing i j with
  | zero =>
    rw [if_neg (by omega)]
    rfl
  | succ n ih =>
    rw [xCp_s, zg_zuA]
    by_cases e : i = n
    · subst e
      rw [if_pos ⟨rfl, rfl⟩]
      unfold va_cpy
      by_cases q : vc * 8 ≤ j ∧ j < vc * 8 + 8
      · have q2 : i < i + 1 ∧ vc * 8 ≤ j ∧ j < vc * 8 + 8 := ⟨by omega, q⟩
        rw [if_pos q, if_pos q2, ih, if_neg (by omega), show (vc - 1) * 8 + (j - vc * 8) = j - 8 by omega]
      · have q2 : ¬ (i < i + 1 ∧ vc * 8 ≤ j ∧ j < vc * 8 + 8) := fun w => q w.2
        rw [if_neg q, if_neg q2, ih, if_neg (by omega)]
    · rw [if_neg (by omega), ih]
      by_cases q : i < n ∧ vc * 8 ≤ j ∧ j < vc * 8 + 8
      · rw [if_pos q, if_pos (by omega)]
      · rw [if_neg q, if_neg (by omega)]
theorem mCp_21 {G : zG} {vc n f j : Nat} (hv : 1 ≤ vc) (hv4 : vc ≤ 4) (hj : j < 40) : zg (mCp G vc n) 21 0 (40 * f + j) = if f < n ∧ vc * 8 ≤ j ∧ j < vc * 8 + 8 then zg G 21 0 (40 * f + (j - 8)) else zg G 21 0 (40 * f + j) := by
  induction n generalizing f j with
  | zero =>
    rw [if_neg (by omega)]
    rfl
  | succ n ih =>
    rw [mCp_s, zg_zuA, if_pos ⟨rfl, rfl⟩]
    unfold endF
    by_cases q : 40 * n + 8 * vc ≤ 40 * f + j ∧ 40 * f + j < 40 * n + 8 * vc + 8
    · rw [if_pos q]
      show zg (mCp G vc n) 21 0 (40 * n + 8 * vc - 8 + (40 * f + j - (40 * n + 8 * vc))) = _
      rw [show 40 * n + 8 * vc - 8 + (40 * f + j - (40 * n + 8 * vc)) = 40 * f + (j - 8) by omega, ih (by omega), if_neg (by omega), if_pos (by omega)]
    · rw [if_neg q, ih hj]
      by_cases q2 : f < n ∧ vc * 8 ≤ j ∧ j < vc * 8 + 8
      · rw [if_pos q2, if_pos (by omega)]
      · rw [if_neg q2, if_neg (by omega)]
theorem e_version {G : zG} {vc rc td : Nat} (h : zR G vc rc td) : xaVersion vc = maVersion vc ∧ zRR (msVersion (xsVersion G vc) vc) := by
  have v5 := h.1.2.2.1
  by_cases hv : vc < 5
  · have e1 : xsVersion G vc = zu (xCp G vc 8) 0 0 4 (nI (vc + 1)) := if_pos hv
    have e2 : xaVersion vc = nI vc := if_pos hv
    have e4 : maVersion vc = nI vc := if_neg (by omega)
    have e3 : msVersion (zu (xCp G vc 8) 0 0 4 (nI (vc + 1))) vc = zu (mCp (zu (xCp G vc 8) 0 0 4 (nI (vc + 1))) vc 8) 20 0 0 (nI (vc + 1)) := if_neg (by omega)
    rw [e1, e2, e3, e4]
    obtain ⟨⟨hvc, v1, -, hrc, r12, hn0, hn1, htd, t39, htx, hgo, hru⟩, ⟨kvc, w1, w5, krc, s12, ktd, u39, ktx, kgo, kru⟩, hA, hG, hT, hC, hU, hP, hS, hz, ht⟩ := h
    refine ⟨rfl, vc + 1, rc, td, ⟨rfl, by omega, by omega, hrc, r12, hn0, hn1, htd, t39, htx, fun h hh => ?_, hru⟩, ⟨rfl, by omega, by omega, krc, s12, ktd, u39, ktx, fun h hh => ?_, kru⟩, fun f j hf hj => ?_, hG, hT, hC, hU, hP, hS, hz, ht⟩
    · obtain ⟨v, h1, h2⟩ := hgo h hh
      exact ⟨v, by omega, h2⟩
    · obtain ⟨v, h1, h2⟩ := kgo h hh
      exact ⟨v, by omega, h2⟩
    · have a1 : zg (zu (mCp (zu (xCp G vc 8) 0 0 4 (nI (vc + 1))) vc 8) 20 0 0 (nI (vc + 1))) 5 f j = zg (xCp G vc 8) 5 f j := rfl
      have a2 : zg (zu (mCp (zu (xCp G vc 8) 0 0 4 (nI (vc + 1))) vc 8) 20 0 0 (nI (vc + 1))) 21 0 (40 * f + j) = zg (mCp (zu (xCp G vc 8) 0 0 4 (nI (vc + 1))) vc 8) 21 0 (40 * f + j) := rfl
      have a3 : ∀ j, zg (zu (xCp G vc 8) 0 0 4 (nI (vc + 1))) 21 0 j = zg G 21 0 j := fun j => rfl
      rw [a1, a2, xCp_5 v1, mCp_21 v1 (by omega) hj, a3, a3]
      by_cases q : vc * 8 ≤ j ∧ j < vc * 8 + 8
      · rw [if_pos ⟨hf, q⟩, if_pos ⟨hf, q⟩]
        exact hA f (j - 8) hf (by omega)
      · rw [if_neg (fun w => q w.2), if_neg (fun w => q w.2)]
        exact hA f j hf hj
  · have e1 : xsVersion G vc = G := if_neg hv
    have e2 : xaVersion vc = -3 := if_neg hv
    have e4 : maVersion vc = -3 := if_pos (by omega)
    have e3 : msVersion G vc = G := if_pos (by omega)
    rw [e1, e2, e3, e4]
    exact ⟨rfl, vc, rc, td, h⟩

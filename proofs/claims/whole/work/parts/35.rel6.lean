/-! the texts grow -/
theorem rSt_old {G K : zG} {h s : Nat} (x11 : zg K 11 h s = zg G 11 h s) (x12 : zg K 12 h s = zg G 12 h s) (x13 : zg K 13 h s = zg G 13 h s) (x14 : zg K 14 h s = zg G 14 h s) (x15 : zg K 15 h s = zg G 15 h s)
    (y24 : zg K 24 0 (12 * h + s) = zg G 24 0 (12 * h + s)) (y25 : zg K 25 0 (12 * h + s) = zg G 25 0 (12 * h + s)) (y26 : zg K 26 0 (12 * h + s) = zg G 26 0 (12 * h + s)) (y27 : zg K 27 0 (12 * h + s) = zg G 27 0 (12 * h + s)) (y28 : zg K 28 0 (12 * h + s) = zg G 28 0 (12 * h + s))
    (e16 : ∀ j, j < s * 8 + 8 → zg K 16 h j = zg G 16 h j) (H : rSt G h s) : rSt K h s := by
  unfold rSt at H ⊢
  rw [x11, x12, x13, x14, x15, y24, y25, y26, y27, y28]
  refine ⟨H.1, H.2.1, H.2.2.1, ?_⟩
  rcases H.2.2.2 with ⟨q, f, hf, q1, q2⟩ | ⟨q, f, d, hf, hd, q1, q2, q3, q4, q5⟩ | ⟨q, f, g, d, hf, hg, d1, d8, q1, q2, q3, q4, q5, q6, q7⟩
  · exact Or.inl ⟨q, f, hf, q1, fun v hv => (e16 _ (by omega)).trans (q2 v hv)⟩
  · exact Or.inr (Or.inl ⟨q, f, d, hf, hd, q1, q2, q3, q4, fun v hv => by rw [e16 _ (by omega), e16 _ (by omega)]; exact q5 v hv⟩)
  · exact Or.inr (Or.inr ⟨q, f, g, d, hf, hg, d1, d8, q1, q2, q3, q4, q5, q6, fun v hv => by rw [e16 _ (by omega), e16 _ (by split <;> omega)]; exact q7 v hv⟩)
theorem tx_rSt {G : zG} {h sz : Nat} (H : ∀ s, s < sz → rSt G h s) : zTx G h sz ∧ mTx G h sz := by
  refine ⟨fun s hs => ?_, fun s hs => ?_⟩
  · rcases (H s hs).2.2.2 with ⟨q, f, hf, q1, q2⟩ | ⟨q, f, d, hf, hd, q1, q2, q3, q4, q5⟩ | ⟨q, f, g, d, hf, hg, d1, d8, q1, q2, q3, q4, q5, q6, q7⟩
    · exact Or.inl q
    · exact Or.inr (Or.inl ⟨q, f, hf, q1⟩)
    · exact Or.inr (Or.inr ⟨q, f, g, hf, hg, q1, q3⟩)
  · have e24 := (H s hs).2.2.1
    rcases (H s hs).2.2.2 with ⟨q, f, hf, q1, q2⟩ | ⟨q, f, d, hf, hd, q1, q2, q3, q4, q5⟩ | ⟨q, f, g, d, hf, hg, d1, d8, q1, q2, q3, q4, q5, q6, q7⟩
    · exact Or.inl ⟨e24.trans q, f, hf, q1⟩
    · exact Or.inr (Or.inl ⟨e24.trans q, f, hf, q2⟩)
    · exact Or.inr (Or.inr ⟨e24.trans q, f, g, hf, hg, q2, q4⟩)
theorem e_add {G : zG} {vc rc td a n : Nat} {v : Nat → Int32} {k f g d t f' g' d' : Int32} (h : zR G vc rc td) (ha : a < 6) (hn : n < 12) (en : zg G 10 a 6 = nI n) (ht : ∃ t', t' < 256 ∧ t = nI t')
    (H : (k = nI 0 ∧ ∃ f0, f0 < 8 ∧ f' = nI f0 ∧ ∀ j, j < 8 → v j = nI (f0 * 8 + j)) ∨
      (k = nI 1 ∧ ∃ f0 d0, f0 < n ∧ d0 < 8 ∧ f = nI f0 ∧ f' = nI f0 ∧ d = nI d0 ∧ d' = nI d0 ∧ ∀ j, j < 8 → v j = zg G 16 a (f0 * 8 + (j + d0) % 8)) ∨
      (k = nI 2 ∧ ∃ f0 g0 d0, f0 < n ∧ g0 < n ∧ 1 ≤ d0 ∧ d0 < 8 ∧ f = nI f0 ∧ f' = nI f0 ∧ g = nI g0 ∧ g' = nI g0 ∧ d = nI d0 ∧ d' = nI d0 ∧ ∀ j, j < 8 → v j = zg G 16 a ((if j < d0 then f0 else g0) * 8 + j))) :
    zR (mAdd (xAdd G a n v k f g d t) a n k f' g' d' t) vc rc td := by
  obtain ⟨K, hK⟩ : ∃ K, K = mAdd (xAdd G a n v k f g d t) a n k f' g' d' t := ⟨_, rfl⟩
  have k10 : ∀ h, zg K 10 h 6 = if h = a then nI (n + 1) else zg G 10 h 6 := fun h => by rw [hK]; simp [mAdd, xAdd, zg_zu, zg_zuA]
  have k11 : ∀ h s, zg K 11 h s = if h = a ∧ s = n then k else zg G 11 h s := fun h s => by rw [hK]; simp [mAdd, xAdd, zg_zu, zg_zuA]
  have k12 : ∀ h s, zg K 12 h s = if h = a ∧ s = n then f else zg G 12 h s := fun h s => by rw [hK]; simp [mAdd, xAdd, zg_zu, zg_zuA]
  have k13 : ∀ h s, zg K 13 h s = if h = a ∧ s = n then g else zg G 13 h s := fun h s => by rw [hK]; simp [mAdd, xAdd, zg_zu, zg_zuA]
  have k14 : ∀ h s, zg K 14 h s = if h = a ∧ s = n then d else zg G 14 h s := fun h s => by rw [hK]; simp [mAdd, xAdd, zg_zu, zg_zuA]
  have k15 : ∀ h s, zg K 15 h s = if h = a ∧ s = n then t else zg G 15 h s := fun h s => by rw [hK]; simp [mAdd, xAdd, zg_zu, zg_zuA]
  have k16 : ∀ h j, zg K 16 h j = if h = a then endF (zg G 16 a) (n * 8) v 8 j else zg G 16 h j := fun h j => by
    rw [hK]
    by_cases e : h = a
    · subst e
      simp [mAdd, xAdd, zg_zu, zg_zuA]
    · simp [mAdd, xAdd, zg_zu, zg_zuA, e]
  have k23 : ∀ h, zg K 23 0 h = if h = a then nI (n + 1) else zg G 23 0 h := fun h => by rw [hK]; simp [mAdd, xAdd, zg_zu, zg_zuA]
  have k24 : ∀ j, zg K 24 0 j = if j = 12 * a + n then k else zg G 24 0 j := fun j => by rw [hK]; simp [mAdd, xAdd, zg_zu, zg_zuA]
  have k25 : ∀ j, zg K 25 0 j = if j = 12 * a + n then f' else zg G 25 0 j := fun j => by rw [hK]; simp [mAdd, xAdd, zg_zu, zg_zuA]
  have k26 : ∀ j, zg K 26 0 j = if j = 12 * a + n then g' else zg G 26 0 j := fun j => by rw [hK]; simp [mAdd, xAdd, zg_zu, zg_zuA]
  have k27 : ∀ j, zg K 27 0 j = if j = 12 * a + n then d' else zg G 27 0 j := fun j => by rw [hK]; simp [mAdd, xAdd, zg_zu, zg_zuA]
  have k28 : ∀ j, zg K 28 0 j = if j = 12 * a + n then t else zg G 28 0 j := fun j => by rw [hK]; simp [mAdd, xAdd, zg_zu, zg_zuA]
  obtain ⟨⟨hvc, v1, v5, hrc, r12, hn0, hn1, htd, t39, htx, hgo, hru⟩, ⟨kvc, w1, w5, krc, s12, ktd, u39, ktx, kgo, kru⟩, hA, hG, hT, hC, hU, hP, hS, hz, htt⟩ := h
  have old : ∀ h s, h < 6 → s < 12 → (h ≠ a ∨ s < n) → rSt G h s → rSt K h s := by
    intro h s hh hs hq H0
    have q1 : ¬ (h = a ∧ s = n) := by omega
    have q2 : ¬ 12 * h + s = 12 * a + n := by omega
    refine rSt_old (by rw [k11, if_neg q1]) (by rw [k12, if_neg q1]) (by rw [k13, if_neg q1]) (by rw [k14, if_neg q1]) (by rw [k15, if_neg q1]) (by rw [k24, if_neg q2]) (by rw [k25, if_neg q2]) (by rw [k26, if_neg q2]) (by rw [k27, if_neg q2]) (by rw [k28, if_neg q2]) (fun j hj => ?_) H0
    rw [k16]
    by_cases e : h = a
    · rw [if_pos e]
      unfold endF
      rw [if_neg (by omega), e]
    · rw [if_neg e]
  have new : rSt K a n := by
    have e16 : ∀ j, j < 8 → zg K 16 a (n * 8 + j) = v j := fun j hj => by
      rw [k16, if_pos rfl]
      unfold endF
      rw [if_pos (by omega), show n * 8 + j - n * 8 = j by omega]
    have o16 : ∀ j, j < n * 8 → zg K 16 a j = zg G 16 a j := fun j hj => by
      rw [k16, if_pos rfl]
      unfold endF
      rw [if_neg (by omega)]
    unfold rSt
    rw [k11, k12, k13, k14, k15, k24, k25, k26, k27, k28]
    simp only [and_self, if_true]
    refine ⟨trivial, ht, trivial, ?_⟩
    rcases H with ⟨q, f0, hf, q1, q2⟩ | ⟨q, f0, d0, hf, hd, q1, q2, q3, q4, q5⟩ | ⟨q, f0, g0, d0, hf, hg, d1, d8, q1, q2, q3, q4, q5, q6, q7⟩
    · exact Or.inl ⟨q, f0, hf, q1, fun j hj => (e16 j hj).trans (q2 j hj)⟩
    · exact Or.inr (Or.inl ⟨q, f0, d0, hf, hd, q1, q2, q3, q4, fun j hj => by rw [e16 j hj, o16 _ (by omega)]; exact q5 j hj⟩)
    · exact Or.inr (Or.inr ⟨q, f0, g0, d0, hf, hg, d1, d8, q1, q2, q3, q4, q5, q6, fun j hj => by rw [e16 j hj, o16 _ (by split <;> omega)]; exact q7 j hj⟩)
  have sza : xSz G a = n := by
    unfold xSz
    rw [en]
    exact nI_clamp (by omega)
  have szK : ∀ h, h < 6 → ∃ m, m ≤ 12 ∧ zg K 10 h 6 = nI m ∧ zg K 23 0 h = nI m ∧ ∀ s, s < m → rSt K h s := by
    intro h hh
    by_cases e : h = a
    · subst e
      refine ⟨n + 1, by omega, by rw [k10, if_pos rfl], by rw [k23, if_pos rfl], fun s hs => ?_⟩
      by_cases e2 : s = n
      · rw [e2]
        exact new
      · exact old h s hh (by omega) (Or.inr (by omega)) (hT h hh s (by rw [sza]; omega))
    · obtain ⟨m, hm, h10, -⟩ := htx h hh
      refine ⟨m, hm, by rw [k10, if_neg e, h10], by rw [k23, if_neg e, (hG h hh).2.1, h10], fun s hs => ?_⟩
      refine old h s hh (by omega) (Or.inl e) (hT h hh s ?_)
      unfold xSz
      rw [h10, nI_clamp (by omega)]
      exact hs
  have kG : rG K := by
    intro h hh
    have h0 := hG h hh
    refine ⟨?_, ?_, ?_⟩
    · rw [hK]
      exact h0.1
    · rw [k10, k23, h0.2.1]
    · rw [hK]
      exact h0.2.2
  have kT : rT K := by
    intro h hh s hs
    obtain ⟨m, hm, h10, -, hst⟩ := szK h hh
    unfold xSz at hs
    rw [h10, nI_clamp (by omega)] at hs
    exact hst s hs
  have xtx : ∀ h, h < 6 → ∃ n, n ≤ 12 ∧ zg K 10 h 6 = nI n ∧ zTx K h n := fun h hh => by
    obtain ⟨m, hm, h10, -, hst⟩ := szK h hh
    exact ⟨m, hm, h10, (tx_rSt hst).1⟩
  have mtx : ∀ h, h < 6 → ∃ n, n ≤ 12 ∧ zg K 23 0 h = nI n ∧ mTx K h n := fun h hh => by
    obtain ⟨m, hm, -, h23, hst⟩ := szK h hh
    exact ⟨m, hm, h23, (tx_rSt hst).2⟩
  rw [← hK]
  subst hK
  exact ⟨⟨hvc, v1, v5, hrc, r12, hn0, hn1, htd, t39, xtx, hgo, hru⟩, ⟨kvc, w1, w5, krc, s12, ktd, u39, mtx, kgo, kru⟩, hA, kG, kT, hC, hU, hP, hS, hz, htt⟩

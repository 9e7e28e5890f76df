/-! calls that change the state, without texts -/
theorem e_goes {G : zG} {vc rc td : Nat} (h : zR G vc rc td) (a b : Int32) : xaGoes G vc a b = maGoes (xsGoes G vc a b) vc a b ∧ zR (msGoes (xsGoes G vc a b) vc a b) vc rc td := by
  by_cases ho : xoGoes vc a b = true
  · have e1 : xsGoes G vc a b = zu G 7 a.toNatClampNeg 4 b := if_pos ho
    rw [e1]
    have e2 : maGoes (zu G 7 a.toNatClampNeg 4 b) vc a b = zg G 22 0 a.toNatClampNeg := if_pos ho
    have e3 : msGoes (zu G 7 a.toNatClampNeg 4 b) vc a b = zu (zu G 7 a.toNatClampNeg 4 b) 22 0 a.toNatClampNeg b := if_pos ho
    have e4 : xaGoes G vc a b = zg G 7 a.toNatClampNeg 4 := if_pos ho
    rw [e2, e3, e4]
    unfold xoGoes at ho
    simp only [Bool.and_eq_true] at ho
    obtain ⟨a', ha, -, ea⟩ := zin_zv ho.1
    obtain ⟨b', hb, eb, -⟩ := zin_zv ho.2
    subst eb
    obtain ⟨⟨hvc, v1, v5, hrc, r12, hn0, hn1, htd, t39, htx, hgo, hru⟩, ⟨kvc, w1, w5, krc, s12, ktd, u39, ktx, kgo, kru⟩, hA, hG, hT, hC, hU, hP, hS, hz, ht⟩ := h
    rw [ea]
    refine ⟨((hG a' ha).1).symm, ⟨hvc, v1, v5, hrc, r12, hn0, hn1, htd, t39, htx, fun h hh => ?_, hru⟩, ⟨kvc, w1, w5, krc, s12, ktd, u39, ktx, fun h hh => ?_, kru⟩, hA, fun h hh => ?_, hT, ⟨hC.1, hC.2.1, fun h hh hq => hC.2.2 h hh (by simpa [zg_zu] using hq)⟩, hU, hP, hS, hz, ht⟩
    · by_cases e : h = a'
      · exact ⟨b', hb, by simp [zg_zu, e]⟩
      · obtain ⟨v, h1, h2⟩ := hgo h hh
        exact ⟨v, h1, by simpa [zg_zu, e] using h2⟩
    · by_cases e : h = a'
      · exact ⟨b', hb, by simp [zg_zu, e]⟩
      · obtain ⟨v, h1, h2⟩ := kgo h hh
        exact ⟨v, h1, by simpa [zg_zu, e] using h2⟩
    · have h0 := hG h hh
      by_cases e : h = a'
      · subst e
        simpa [zg_zu] using h0.2
      · simpa [zg_zu, e] using h0
  · have e1 : xsGoes G vc a b = G := if_neg ho
    have e3 : msGoes G vc a b = G := if_neg ho
    rw [e1, e3]
    exact ⟨(if_neg ho).trans (if_neg ho).symm, h⟩
theorem e_clear {G : zG} {vc rc td : Nat} (h : zR G vc rc td) (a : Int32) : xaClear G a = maClear (xsClear G a) a ∧ zR (msClear (xsClear G a) a) vc rc td := by
  by_cases ho : zin a 6 = true
  · have e1 : xsClear G a = zu G 10 a.toNatClampNeg 6 (nI 0) := if_pos ho
    rw [e1]
    have e2 : maClear (zu G 10 a.toNatClampNeg 6 (nI 0)) a = zg G 23 0 a.toNatClampNeg := if_pos ho
    have e3 : msClear (zu G 10 a.toNatClampNeg 6 (nI 0)) a = zu (zu G 10 a.toNatClampNeg 6 (nI 0)) 23 0 a.toNatClampNeg (nI 0) := if_pos ho
    have e4 : xaClear G a = zg G 10 a.toNatClampNeg 6 := if_pos ho
    rw [e2, e3, e4]
    obtain ⟨a', ha, -, ea⟩ := zin_zv ho
    obtain ⟨⟨hvc, v1, v5, hrc, r12, hn0, hn1, htd, t39, htx, hgo, hru⟩, ⟨kvc, w1, w5, krc, s12, ktd, u39, ktx, kgo, kru⟩, hA, hG, hT, hC, hU, hP, hS, hz, ht⟩ := h
    rw [ea]
    refine ⟨((hG a' ha).2.1).symm, ⟨hvc, v1, v5, hrc, r12, hn0, hn1, htd, t39, fun h hh => ?_, hgo, hru⟩, ⟨kvc, w1, w5, krc, s12, ktd, u39, fun h hh => ?_, kgo, kru⟩, hA, fun h hh => ?_, fun h hh s hs => ?_, hC, hU, hP, hS, hz, ht⟩
    · by_cases e : h = a'
      · exact ⟨0, by omega, by simp [zg_zu, e], fun s hs => absurd hs (Nat.not_lt_zero s)⟩
      · obtain ⟨n, h1, h2, h3⟩ := htx h hh
        exact ⟨n, h1, by simpa [zg_zu, e] using h2, h3⟩
    · by_cases e : h = a'
      · exact ⟨0, by omega, by simp [zg_zu, e], fun s hs => absurd hs (Nat.not_lt_zero s)⟩
      · obtain ⟨n, h1, h2, h3⟩ := ktx h hh
        exact ⟨n, h1, by simpa [zg_zu, e] using h2, h3⟩
    · have h0 := hG h hh
      by_cases e : h = a'
      · subst e
        simpa [zg_zu] using ⟨h0.1, h0.2.2⟩
      · simpa [zg_zu, e] using h0
    · by_cases e : h = a'
      · subst e
        have : xSz (zu (zu G 10 h 6 (nI 0)) 23 0 h (nI 0)) h = 0 := by
          unfold xSz
          simp [zg_zu]
          rfl
        omega
      · have h2 : xSz (zu (zu G 10 a' 6 (nI 0)) 23 0 a' (nI 0)) h = xSz G h := by
          unfold xSz
          simp [zg_zu, e]
        rw [h2] at hs
        exact hT h hh s hs
  · have e1 : xsClear G a = G := if_neg ho
    have e3 : msClear G a = G := if_neg ho
    rw [e1, e3]
    exact ⟨(if_neg ho).trans (if_neg ho).symm, h⟩
/-- another day on which a door is shut -/
theorem zR_shut {G : zG} {vc rc td f : Nat} {x : Int32} (h : zR G vc rc td) (hx : x = -9 ∨ ∃ k, k ≤ 40 ∧ x = nI k) : zR (zu (zu G 4 f 2 x) 40 0 f x) vc rc td := by
  obtain ⟨hX, hM, hA, hG, hT, hC, hU, hP, hS, hz, ht⟩ := h
  refine ⟨hX, hM, hA, hG, hT, hC, hU, hP, fun g hg => ?_, hz, ht⟩
  have h0 := hS g hg
  by_cases e : g = f
  · subst e
    simpa [zg_zu] using ⟨h0.2.1, h0.2.2.1, h0.2.2.2.1, hx⟩
  · simpa [zg_zu, e] using h0
theorem e_open {G : zG} {vc rc td : Nat} (h : zR G vc rc td) (a : Int32) : xaOpen G a = maOpen (xsOpen G a) a ∧ zR (msOpen (xsOpen G a) a) vc rc td := by
  by_cases ho : zin a 8 = true
  · obtain ⟨a', ha, -, ea⟩ := zin_zv ho
    have hs := ((h.2.2.2.2.2.2.2.2.1) a' ha).1
    by_cases h9 : zg G 4 a' 2 = -9
    · have e1 : xsOpen G a = G := (if_pos ho).trans (if_pos (by rw [ea]; exact h9))
      have e3 : msOpen G a = G := (if_pos ho).trans (if_pos (by rw [ea, hs]; exact h9))
      rw [e1, e3]
      exact ⟨((if_pos ho).trans (if_pos (by rw [ea]; exact h9))).trans ((if_pos ho).trans (if_pos (by rw [ea, hs]; exact h9))).symm, h⟩
    · have e1 : xsOpen G a = zu G 4 a' 2 (-9) := ((if_pos ho).trans (if_neg (by rw [ea]; exact h9))).trans (by rw [ea])
      rw [e1]
      have h8 : ¬ zg (zu G 4 a' 2 (-9)) 40 0 a' = -9 := fun q => h9 (hs.symm.trans q)
      have e3 : msOpen (zu G 4 a' 2 (-9)) a = zu (zu G 4 a' 2 (-9)) 40 0 a' (-9) := ((if_pos ho).trans (if_neg (by rw [ea]; exact h8))).trans (by rw [ea])
      have e4 : xaOpen G a = zg G 4 a' 2 := ((if_pos ho).trans (if_neg (by rw [ea]; exact h9))).trans (by rw [ea])
      have e5 : maOpen (zu G 4 a' 2 (-9)) a = zg G 40 0 a' := ((if_pos ho).trans (if_neg (by rw [ea]; exact h8))).trans (by rw [ea]; rfl)
      rw [e3, e4, e5]
      exact ⟨hs.symm, zR_shut h (Or.inl rfl)⟩
  · have e1 : xsOpen G a = G := if_neg ho
    have e3 : msOpen G a = G := if_neg ho
    rw [e1, e3]
    exact ⟨(if_neg ho).trans (if_neg ho).symm, h⟩
theorem e_shut {G : zG} {vc rc td : Nat} (h : zR G vc rc td) (a b : Int32) : xaShut G a b = maShut (xsShut G a b) td a b ∧ zR (msShut (xsShut G a b) td a b) vc rc td := by
  have htd := h.1.2.2.2.2.2.2.2.1
  have hoo : xoShut G a b = moShut td a b := by
    unfold xoShut moShut
    rw [htd]
  by_cases ho : moShut td a b = true
  · have hx : xoShut G a b = true := hoo.trans ho
    have ho2 := ho
    unfold moShut at ho2
    simp only [Bool.and_eq_true, Bool.not_eq_true', decide_eq_true_eq, decide_eq_false_iff_not] at ho2
    obtain ⟨a', ha, -, ea⟩ := zin_zv ho2.1
    have hi := e_ish h ha
    have hl := e_lat h.2.2.2.2.2.2.2.1 ha
    cases hs : mIsh G a' with
    | true =>
      have e1 : xsShut G a b = G := (if_pos hx).trans (if_pos (by rw [ea, hi]; exact hs))
      have e3 : msShut G td a b = G := (if_pos ho).trans (if_pos (by rw [ea]; exact hs))
      rw [e1, e3]
      exact ⟨((if_pos hx).trans (if_pos (by rw [ea, hi]; exact hs))).trans ((if_pos ho).trans (if_pos (by rw [ea]; exact hs))).symm, h⟩
    | false =>
      have hs1 : ¬ xShut G a.toNatClampNeg (zg G 0 0 5) = true := by rw [ea, hi, hs]; decide
      have hs2 : ¬ mIsh G a.toNatClampNeg = true := by rw [ea, hs]; decide
      by_cases hb : b ≤ xLat G a'
      · have hb2 : ¬ mLat G a.toNatClampNeg < b := by rw [ea, hl]; exact Int32.not_lt.mpr hb
        have e1 : xsShut G a b = G := (if_pos hx).trans ((if_neg hs1).trans (if_pos (by rw [ea]; exact hb)))
        have e3 : msShut G td a b = G := (if_pos ho).trans ((if_neg hs2).trans (if_neg hb2))
        rw [e1, e3]
        exact ⟨((if_pos hx).trans ((if_neg hs1).trans (if_pos (by rw [ea]; exact hb)))).trans ((if_pos ho).trans ((if_neg hs2).trans (if_neg hb2))).symm, h⟩
      · have hb1 : ¬ b ≤ xLat G a.toNatClampNeg := by rw [ea]; exact hb
        have hb2 : mLat G a.toNatClampNeg < b := by rw [ea, hl]; exact Int32.not_le.mp hb
        have e1 : xsShut G a b = zu G 4 a' 2 b := ((if_pos hx).trans ((if_neg hs1).trans (if_neg hb1))).trans (by rw [ea])
        rw [e1]
        have e3 : msShut (zu G 4 a' 2 b) td a b = zu (zu G 4 a' 2 b) 40 0 a' b := ((if_pos ho).trans ((if_neg hs2).trans (if_pos hb2))).trans (by rw [ea])
        have e4 : xaShut G a b = b := (if_pos hx).trans ((if_neg hs1).trans (if_neg hb1))
        have e5 : maShut (zu G 4 a' 2 b) td a b = b := (if_pos ho).trans ((if_neg hs2).trans (if_pos hb2))
        rw [e3, e4, e5]
        refine ⟨rfl, zR_shut h (Or.inr ?_)⟩
        have hb0 : ¬ b < 0 := fun q => ho2.2.1 (Int32.lt_of_lt_of_le q (nI_pos' (by have := h.1.2.2.2.2.2.2.2.2.1; omega)))
        obtain ⟨k, hk, rfl⟩ := nI_of hb0
        exact ⟨k, (nI_leI hk (by decide)).mp ho2.2.2, rfl⟩
  · have hx : ¬ xoShut G a b = true := by rw [hoo]; exact ho
    have e1 : xsShut G a b = G := if_neg hx
    have e3 : msShut G td a b = G := if_neg ho
    rw [e1, e3]
    exact ⟨(if_neg hx).trans (if_neg ho).symm, h⟩
theorem e_days {G : zG} {vc rc td : Nat} (h : zR G vc rc td) (a : Int32) : xaDays G a = maDays (xsDays G a) a ∧ zRR (msDays (xsDays G a) a) := by
  have htd := h.1.2.2.2.2.2.2.2.1
  have ktd := h.2.1.2.2.2.2.2.1
  by_cases ha : a < nI 1
  · have ho : ¬ zinL a 20 = true := by rw [zinL_f0 ha]; decide
    have e1 : xsDays G a = G := if_pos ha
    have e3 : msDays G a = G := if_neg ho
    rw [e1, e3]
    exact ⟨(if_pos ha).trans (if_neg ho).symm, vc, rc, td, h⟩
  · by_cases hb : a ≤ nI 20
    · obtain ⟨k, h1, h20, rfl⟩ := zinL_c (m := 20) (by decide) ha (Int32.not_lt.mpr hb)
      have ho : zinL (nI k) 20 = true := zinL_t h1 h20 (by decide)
      by_cases hc : td + k ≤ 39
      · have hd1 : zg G 0 0 5 + nI k ≤ nI 39 := by rw [htd, nI_add]; exact nI_le hc (by decide)
        have hd2 : zg G 20 0 18 + nI k < nI 40 := by rw [ktd, nI_add]; exact nI_lt (by omega) (by decide)
        have e1 : xsDays G (nI k) = zu G 0 0 5 (nI (td + k)) := ((if_neg ha).trans ((if_pos hb).trans (if_pos hd1))).trans (by rw [htd, nI_add])
        rw [e1]
        have e3 : msDays (zu G 0 0 5 (nI (td + k))) (nI k) = zu (zu G 0 0 5 (nI (td + k))) 20 0 18 (nI (td + k)) := ((if_pos ho).trans (if_pos hd2)).trans (by rw [show zg (zu G 0 0 5 (nI (td + k))) 20 0 18 = nI td from ktd, nI_add])
        have e4 : xaDays G (nI k) = nI (td + k) := ((if_neg ha).trans ((if_pos hb).trans (if_pos hd1))).trans (by rw [htd, nI_add])
        have e5 : maDays (zu G 0 0 5 (nI (td + k))) (nI k) = nI (td + k) := ((if_pos ho).trans (if_pos hd2)).trans (by rw [show zg (zu G 0 0 5 (nI (td + k))) 20 0 18 = nI td from ktd, nI_add])
        rw [e3, e4, e5]
        obtain ⟨⟨hvc, v1, v5, hrc, r12, hn0, hn1, -, t39, htx, hgo, hru⟩, ⟨kvc, w1, w5, krc, s12, -, u39, ktx, kgo, kru⟩, hA, hG, hT, hC, hU, hP, hS, hz, ht⟩ := h
        exact ⟨rfl, vc, rc, td + k, ⟨hvc, v1, v5, hrc, r12, hn0, hn1, rfl, hc, htx, hgo, hru⟩, ⟨kvc, w1, w5, krc, s12, rfl, hc, ktx, kgo, kru⟩, hA, hG, hT, hC, hU, hP, hS, hz, ht⟩
      · have hd1 : ¬ zg G 0 0 5 + nI k ≤ nI 39 := by
          rw [htd, nI_add, nI_leI (by have := h.1.2.2.2.2.2.2.2.2.1; omega) (by decide)]
          exact hc
        have hd2 : ¬ zg G 20 0 18 + nI k < nI 40 := by
          rw [ktd, nI_add, nI_ltI (by have := h.1.2.2.2.2.2.2.2.2.1; omega) (by decide)]
          omega
        have e1 : xsDays G (nI k) = G := (if_neg ha).trans ((if_pos hb).trans (if_neg hd1))
        have e3 : msDays G (nI k) = G := (if_pos ho).trans (if_neg hd2)
        rw [e1, e3]
        exact ⟨((if_neg ha).trans ((if_pos hb).trans (if_neg hd1))).trans ((if_pos ho).trans (if_neg hd2)).symm, vc, rc, td, h⟩
    · have ho : ¬ zinL a 20 = true := by rw [zinL_f1 (by decide) (Int32.not_le.mp hb)]; decide
      have e1 : xsDays G a = G := (if_neg ha).trans (if_neg hb)
      have e3 : msDays G a = G := if_neg ho
      rw [e1, e3]
      exact ⟨((if_neg ha).trans (if_neg hb)).trans (if_neg ho).symm, vc, rc, td, h⟩

/-! calls that change the state: promises, costs, counts -/
theorem eP_up {G : zG} {f h : Nat} {x : Int32} (hP : rP G) (hh : h < 6) (hx : x = -9 ∨ zin x 40 = true) : rP (zu (zu G 6 f h x) 39 0 (6 * f + h) (mHide x)) := by
  intro g k hg hk
  have h0 := hP g k hg hk
  rw [zg_zu, zg_zu, zg_zu, zg_zu]
  by_cases e : g = f ∧ k = h
  · obtain ⟨rfl, rfl⟩ := e
    rw [if_neg (by omega), if_pos ⟨rfl, rfl, rfl⟩, if_pos ⟨rfl, rfl, rfl⟩]
    exact eO_hide hx (by decide)
  · rw [if_neg (by omega), if_neg (by omega), if_neg (by omega), if_neg (by omega)]
    exact h0
theorem eS_up {G : zG} {f : Nat} {x : Int32} (hS : rS G) (hx : x = -9 ∨ ∃ k, k ≤ 40 ∧ x = nI k) : rS (zu (zu G 4 f 2 x) 40 0 f x) := by
  intro g hg
  have h0 := hS g hg
  by_cases e : g = f
  · subst e
    simpa [zg_zu] using ⟨h0.2.1, h0.2.2.1, h0.2.2.2.1, hx⟩
  · simpa [zg_zu, e] using h0
theorem e_promise {G : zG} {vc rc td : Nat} (h : zR G vc rc td) (a b c : Int32) : xaPromise G a b c = maPromise (xsPromise G a b c) a b c ∧ zR (msPromise (xsPromise G a b c) a b c) vc rc td := by
  by_cases ho : xoPromise a b c = true
  · have ho2 := ho
    unfold xoPromise at ho2
    simp only [Bool.and_eq_true, Bool.or_eq_true, decide_eq_true_eq] at ho2
    obtain ⟨a', ha, -, ea⟩ := zin_zv ho2.1
    obtain ⟨b', hb, -, eb⟩ := zin_zv ho2.2.1
    have hi := e_ish h ha
    obtain ⟨hX, hM, hA, hG, hT, hC, hU, hP, hS, hz, ht⟩ := h
    have h40 := (hS a' ha).1
    have x1 : xsPromise G a b c = if xShut G a' (zg G 0 0 5) = true then G else if c = -9 then zu G 6 a' b' c else if xShut (zu G 6 a' b' c) a' c = true then zu (zu G 6 a' b' c) 4 a' 2 (c + nI 1) else zu G 6 a' b' c := by
      unfold xsPromise
      rw [if_pos ho, ea, eb]
    have x2 : xaPromise G a b c = if xShut G a' (zg G 0 0 5) = true then -3 else zg G 6 a' b' := by
      unfold xaPromise
      rw [if_pos ho, ea, eb]
    have x3 : ∀ K, maPromise K a b c = if mIsh K a' = true then -3 else mShown (zg K 39 0 (6 * a' + b')) := by
      intro K
      unfold maPromise
      rw [if_pos ho, ea, eb]
    have x4 : ∀ K, msPromise K a b c = if mIsh K a' = true then K else if c = -9 then zu K 39 0 (6 * a' + b') (mHide c) else if zg K 40 0 a' = -9 then zu K 39 0 (6 * a' + b') (mHide c) else if c < zg K 40 0 a' then zu K 39 0 (6 * a' + b') (mHide c) else zu (zu K 39 0 (6 * a' + b') (mHide c)) 40 0 a' (c + nI 1) := by
      intro K
      unfold msPromise
      rw [if_pos ho, ea, eb]
    have hans : zg G 6 a' b' = mShown (zg G 39 0 (6 * a' + b')) := (eO_shown (by decide) (hP a' b' ha hb)).symm
    cases hs : mIsh G a' with
    | true =>
      rw [hs] at hi
      have e1 : xsPromise G a b c = G := by rw [x1, if_pos hi]
      rw [e1, x2, x3, x4, if_pos hi, if_pos hs, if_pos hs]
      exact ⟨rfl, hX, hM, hA, hG, hT, hC, hU, hP, hS, hz, ht⟩
    | false =>
      have hi2 : ¬ xShut G a' (zg G 0 0 5) = true := by rw [hi, hs]; decide
      have hs2 : ¬ mIsh G a' = true := by rw [hs]; decide
      have hs3 : ¬ mIsh (zu G 6 a' b' c) a' = true := hs2
      rw [x1, if_neg hi2, x2, if_neg hi2]
      by_cases h9 : c = -9
      · rw [if_pos h9, x3, x4, if_neg hs3, if_neg hs3, if_pos h9]
        exact ⟨hans, hX, hM, hA, hG, hT, hC, hU, eP_up hP hb ho2.2.2, hS, hz, ht⟩
      · rw [if_neg h9]
        by_cases hq : zg G 4 a' 2 = -9
        · have q1 : ¬ xShut (zu G 6 a' b' c) a' c = true := fun q => (of_decide_eq_true q).1 hq
          have q2 : zg (zu G 6 a' b' c) 40 0 a' = -9 := h40.trans hq
          rw [if_neg q1, x3, x4, if_neg hs3, if_neg hs3, if_neg h9, if_pos q2]
          exact ⟨hans, hX, hM, hA, hG, hT, hC, hU, eP_up hP hb ho2.2.2, hS, hz, ht⟩
        · have q2 : ¬ zg (zu G 6 a' b' c) 40 0 a' = -9 := fun q => hq (h40.symm.trans q)
          by_cases hl : c < zg G 4 a' 2
          · have q1 : ¬ xShut (zu G 6 a' b' c) a' c = true := fun q => absurd (of_decide_eq_true q).2 (Int32.not_le.mpr hl)
            have q3 : c < zg (zu G 6 a' b' c) 40 0 a' := by rw [show zg (zu G 6 a' b' c) 40 0 a' = zg G 4 a' 2 from h40]; exact hl
            rw [if_neg q1, x3, x4, if_neg hs3, if_neg hs3, if_neg h9, if_neg q2, if_pos q3]
            exact ⟨hans, hX, hM, hA, hG, hT, hC, hU, eP_up hP hb ho2.2.2, hS, hz, ht⟩
          · have q1 : xShut (zu G 6 a' b' c) a' c = true := decide_eq_true ⟨hq, Int32.not_lt.mp hl⟩
            have q3 : ¬ c < zg (zu (zu G 6 a' b' c) 4 a' 2 (c + nI 1)) 40 0 a' := by rw [show zg (zu (zu G 6 a' b' c) 4 a' 2 (c + nI 1)) 40 0 a' = zg G 4 a' 2 from h40]; exact hl
            have q4 : ¬ zg (zu (zu G 6 a' b' c) 4 a' 2 (c + nI 1)) 40 0 a' = -9 := q2
            have hs4 : ¬ mIsh (zu (zu G 6 a' b' c) 4 a' 2 (c + nI 1)) a' = true := hs2
            rw [if_pos q1, x3, x4, if_neg hs4, if_neg hs4, if_neg h9, if_neg q4, if_neg q3]
            refine ⟨hans, hX, hM, hA, hG, hT, hC, hU, eP_up hP hb ho2.2.2, eS_up hS (Or.inr ?_), hz, ht⟩
            rcases ho2.2.2 with h9' | hc
            · exact absurd h9' h9
            · obtain ⟨c', hc', ec, -⟩ := zin_zv hc
              exact ⟨c' + 1, by omega, by rw [ec, nI_add]⟩
  · have e1 : xsPromise G a b c = G := if_neg ho
    have e3 : msPromise G a b c = G := if_neg ho
    rw [e1, e3]
    exact ⟨(if_neg ho).trans (if_neg ho).symm, h⟩
theorem e_set {G : zG} {vc rc td : Nat} (h : zR G vc rc td) (a b c : Int32) : xaSet G a b c = maSet (xsSet G a b c) a b c ∧ zR (msSet (xsSet G a b c) a b c) vc rc td := by
  by_cases ho : zin c 1001 = true
  · obtain ⟨c', hc', ec, -⟩ := zin_zv ho
    obtain ⟨hX, hM, hA, hG, hT, hC, hU, hP, hS, hz, ht⟩ := h
    by_cases h3 : a.toInt < 0 ∨ 2 < a.toInt
    · have n0 : ¬ a = 0 := fun q => by rw [q, z0_toInt] at h3; omega
      have n1 : ¬ a = nI 1 := fun q => by rw [q, nI_toInt (by decide)] at h3; omega
      have n2 : ¬ a = nI 2 := fun q => by rw [q, nI_toInt (by decide)] at h3; omega
      have e1 : xsSet G a b c = G := (if_pos ho).trans (if_pos h3)
      have e2 : xaSet G a b c = -1 := (if_pos ho).trans (if_pos h3)
      have e3 : msSet G a b c = G := (if_pos ho).trans ((if_neg n0).trans ((if_neg n1).trans (if_neg n2)))
      have e4 : maSet G a b c = -1 := (if_pos ho).trans ((if_neg n0).trans ((if_neg n1).trans (if_neg n2)))
      rw [e1, e2, e3, e4]
      exact ⟨rfl, hX, hM, hA, hG, hT, hC, hU, hP, hS, hz, ht⟩
    · by_cases a0 : a = nI 0
      · have a00 : a = 0 := a0.trans nI_0
        by_cases hb : zin b 8 = true
        · obtain ⟨b', hb', -, eb⟩ := zin_zv hb
          have e1 : xsSet G a b c = zu G 4 b' 4 c := ((if_pos ho).trans ((if_neg h3).trans ((if_pos a0).trans (if_pos hb)))).trans (by rw [eb])
          have e2 : xaSet G a b c = zg G 4 b' 4 := ((if_pos ho).trans ((if_neg h3).trans ((if_pos a0).trans (if_pos hb)))).trans (by rw [eb])
          have e3 : msSet (zu G 4 b' 4 c) a b c = zu (zu G 4 b' 4 c) 42 0 b' c := ((if_pos ho).trans ((if_pos a00).trans (if_pos hb))).trans (by rw [eb])
          have e4 : maSet (zu G 4 b' 4 c) a b c = zg G 42 0 b' := ((if_pos ho).trans ((if_pos a00).trans (if_pos hb))).trans (by rw [eb]; rfl)
          rw [e1, e2, e3, e4]
          refine ⟨(hS b' hb').2.2.1.symm, hX, hM, hA, hG, hT, hC, hU, hP, fun g hg => ?_, hz, ht⟩
          have h0 := hS g hg
          by_cases e : g = b'
          · subst e
            simpa [zg_zu] using ⟨h0.1, h0.2.1, (⟨c', by omega, ec⟩ : ∃ k, k ≤ 1000 ∧ c = nI k), h0.2.2.2.2⟩
          · simpa [zg_zu, e] using h0
        · have e1 : xsSet G a b c = G := (if_pos ho).trans ((if_neg h3).trans ((if_pos a0).trans (if_neg hb)))
          have e2 : xaSet G a b c = -1 := (if_pos ho).trans ((if_neg h3).trans ((if_pos a0).trans (if_neg hb)))
          have e3 : msSet G a b c = G := (if_pos ho).trans ((if_pos a00).trans (if_neg hb))
          have e4 : maSet G a b c = -1 := (if_pos ho).trans ((if_pos a00).trans (if_neg hb))
          rw [e1, e2, e3, e4]
          exact ⟨rfl, hX, hM, hA, hG, hT, hC, hU, hP, hS, hz, ht⟩
      · have a00 : ¬ a = 0 := fun q => a0 (q.trans nI_0.symm)
        by_cases a1 : a = nI 1
        · by_cases hb : zin b 6 = true
          · obtain ⟨b', hb', -, eb⟩ := zin_zv hb
            have e1 : xsSet G a b c = zu G 7 b' 5 c := ((if_pos ho).trans ((if_neg h3).trans ((if_neg a0).trans ((if_pos a1).trans (if_pos hb))))).trans (by rw [eb])
            have e2 : xaSet G a b c = zg G 7 b' 5 := ((if_pos ho).trans ((if_neg h3).trans ((if_neg a0).trans ((if_pos a1).trans (if_pos hb))))).trans (by rw [eb])
            have e3 : msSet (zu G 7 b' 5 c) a b c = zu (zu G 7 b' 5 c) 43 0 b' c := ((if_pos ho).trans ((if_neg a00).trans ((if_pos a1).trans (if_pos hb)))).trans (by rw [eb])
            have e4 : maSet (zu G 7 b' 5 c) a b c = zg G 43 0 b' := ((if_pos ho).trans ((if_neg a00).trans ((if_pos a1).trans (if_pos hb)))).trans (by rw [eb]; rfl)
            rw [e1, e2, e3, e4]
            obtain ⟨hvc, v1, v5, hrc, r12, hn0, hn1, htd, t39, htx, hgo, hru⟩ := hX
            refine ⟨(hG b' hb').2.2.2.1.symm, ⟨hvc, v1, v5, hrc, r12, hn0, hn1, htd, t39, htx, fun h hh => ?_, hru⟩, hM, hA, fun g hg => ?_, hT, ⟨hC.1, hC.2.1, fun h hh hq => hC.2.2 h hh (by simpa [zg_zu] using hq)⟩, hU, hP, hS, hz, ht⟩
            · obtain ⟨v, h1, h2⟩ := hgo h hh
              exact ⟨v, h1, by simpa [zg_zu] using h2⟩
            · have h0 := hG g hg
              by_cases e : g = b'
              · subst e
                simpa [zg_zu] using ⟨h0.1, h0.2.1, h0.2.2.1, (⟨c', by omega, ec⟩ : ∃ k, k ≤ 1000 ∧ c = nI k)⟩
              · simpa [zg_zu, e] using h0
          · have e1 : xsSet G a b c = G := (if_pos ho).trans ((if_neg h3).trans ((if_neg a0).trans ((if_pos a1).trans (if_neg hb))))
            have e2 : xaSet G a b c = -1 := (if_pos ho).trans ((if_neg h3).trans ((if_neg a0).trans ((if_pos a1).trans (if_neg hb))))
            have e3 : msSet G a b c = G := (if_pos ho).trans ((if_neg a00).trans ((if_pos a1).trans (if_neg hb)))
            have e4 : maSet G a b c = -1 := (if_pos ho).trans ((if_neg a00).trans ((if_pos a1).trans (if_neg hb)))
            rw [e1, e2, e3, e4]
            exact ⟨rfl, hX, hM, hA, hG, hT, hC, hU, hP, hS, hz, ht⟩
        · have a2 : a = nI 2 := by
            have n0 : ¬ a < 0 := fun q => by
              have := Int32.lt_iff_toInt_lt.mp q
              rw [z0_toInt] at this
              omega
            obtain ⟨k, hk, rfl⟩ := nI_of n0
            rw [nI_toInt hk] at h3
            have k0 : k ≠ 0 := fun q => a0 (by rw [q])
            have k1 : k ≠ 1 := fun q => a1 (by rw [q])
            rw [show k = 2 by omega]
          have e1 : xsSet G a b c = zu G 0 0 6 c := (if_pos ho).trans ((if_neg h3).trans ((if_neg a0).trans (if_neg a1)))
          have e2 : xaSet G a b c = zg G 0 0 6 := (if_pos ho).trans ((if_neg h3).trans ((if_neg a0).trans (if_neg a1)))
          have e3 : msSet (zu G 0 0 6 c) a b c = zu (zu G 0 0 6 c) 20 0 12 c := (if_pos ho).trans ((if_neg a00).trans ((if_neg a1).trans (if_pos a2)))
          have e4 : maSet (zu G 0 0 6 c) a b c = zg G 20 0 12 := (if_pos ho).trans ((if_neg a00).trans ((if_neg a1).trans (if_pos a2)))
          rw [e1, e2, e3, e4]
          exact ⟨hz.symm, hX, hM, hA, hG, hT, hC, hU, hP, hS, rfl, ht⟩
  · have e1 : xsSet G a b c = G := if_neg ho
    have e3 : msSet G a b c = G := if_neg ho
    rw [e1, e3]
    exact ⟨(if_neg ho).trans (if_neg ho).symm, h⟩

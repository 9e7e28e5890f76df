/-! a count of passers-by -/
theorem hz_lt {m : Nat} (hm : m ≤ 2 ^ 30) {x : Int32} : zin x m = true ↔ 0 ≤ x.toInt ∧ x.toInt < m := by
  unfold zin
  exact decide_eq_true_iff
theorem xo_mo {td : Nat} (t39 : td ≤ 39) (a b c d e : Int32) : xoCount td a b c d e = moCount td a b c d e := by
  have hc : (zin c 40 && decide (c ≤ nI td)) = zin c (td + 1) := by
    by_cases h : zin c (td + 1) = true
    · obtain ⟨k, hk, rfl, -⟩ := zin_zv h
      rw [h, zin_t (a := k) (n := 40) (by omega) (by decide), decide_eq_true (nI_le (by omega) (by omega))]
      rfl
    · rw [Bool.not_eq_true] at h
      rw [h]
      by_cases h2 : zin c 40 = true
      · obtain ⟨k, hk, rfl, -⟩ := zin_zv h2
        have : ¬ nI k ≤ nI td := by
          rw [nI_leI (by omega) (by omega)]
          intro q
          rw [zin_t (a := k) (n := td + 1) (by omega) (by omega)] at h
          exact absurd h (by decide)
        rw [decide_eq_false this, Bool.and_false]
      · rw [Bool.not_eq_true] at h2
        rw [h2, Bool.false_and]
  unfold xoCount moCount
  rw [← hc, Bool.and_assoc]
/-- the three places that a count changes -/
theorem eC_up {G : zG} {h f d m : Nat} {x : Int32} (hC : rC G) (hh : h < 6) (hf : f < 8) (hd : d < 40) (hm : m < 100) : rC (mCt (xCt G h f d m x) h f d m x) := by
  refine ⟨fun g e k hg he hk => ?_, fun g k hg hk => ?_, fun g hg hq e k he hk => ?_⟩
  · have h0 := hC.1 g e k hg he hk
    have h1 := hC.1 h f d hh hf hd
    unfold mCt xCt
    by_cases q : g = h ∧ e = f ∧ k = d
    · obtain ⟨rfl, rfl, rfl⟩ := q
      simp [zg_zu, h1]
    · have q1 : ¬ 320 * g + 40 * e + k = 320 * h + 40 * f + d := by omega
      have q2 : ¬ (g = h ∧ e * 40 + k = f * 40 + d) := by omega
      simp [zg_zu, q1, q2, h0]
  · have h0 := hC.2.1 g k hg hk
    unfold mCt xCt
    by_cases q : g = h ∧ k = m
    · obtain ⟨rfl, rfl⟩ := q
      simp [zg_zu]
    · have q1 : ¬ 100 * g + k = 100 * h + m := by omega
      simp [zg_zu, q1, q, h0]
  · unfold mCt xCt at hq ⊢
    by_cases q : g = h
    · subst q
      simp [zg_zu] at hq
      exact absurd hq (by decide +kernel)
    · simp [zg_zu, q] at hq ⊢
      exact hC.2.2 g hg hq e k he hk
theorem eG_ct {G : zG} {h f d m : Nat} {x : Int32} (hG : rG G) : rG (mCt (xCt G h f d m x) h f d m x) := by
  intro g hg
  have h0 := hG g hg
  unfold mCt xCt
  by_cases q : g = h
  · subst q
    simpa [zg_zu] using ⟨h0.1, h0.2.1, h0.2.2.2.1, h0.2.2.2.2⟩
  · simpa [zg_zu, q] using h0
theorem xI_ct {G : zG} {vc rc td h f d m : Nat} {x : Int32} (hX : xI G vc rc td) : xI (mCt (xCt G h f d m x) h f d m x) vc rc td := by
  obtain ⟨hvc, v1, v5, hrc, r12, hn0, hn1, htd, t39, htx, hgo, hru⟩ := hX
  refine ⟨hvc, v1, v5, hrc, r12, hn0, hn1, htd, t39, htx, fun g hg => ?_, hru⟩
  obtain ⟨v, h1, h2⟩ := hgo g hg
  exact ⟨v, h1, by unfold mCt xCt; simpa [zg_zu] using h2⟩
theorem e_count {G : zG} {vc rc td : Nat} (h : zR G vc rc td) (a b c d e : Int32) : xaCount G td a b c d e = maCount (xsCount G td a b c d e) td a b c d e ∧ zR (msCount (xsCount G td a b c d e) td a b c d e) vc rc td := by
  have t39 := h.1.2.2.2.2.2.2.2.2.1
  have hoo := xo_mo t39 a b c d e
  by_cases ho : moCount td a b c d e = true
  · have hx : xoCount td a b c d e = true := hoo.trans ho
    have ho2 := ho
    unfold moCount at ho2
    simp only [Bool.and_eq_true] at ho2
    obtain ⟨a', ha, -, ea⟩ := zin_zv ho2.1
    obtain ⟨b', hb, -, eb⟩ := zin_zv ho2.2.1
    obtain ⟨c', hc, ec0, ec⟩ := zin_zv ho2.2.2.1
    obtain ⟨e', he, -, ee⟩ := zin_zv ho2.2.2.2.2
    have hc40 : c' < 40 := by omega
    obtain ⟨hX, hM, hA, hG, hT, hC, hU, hP, hS, hz, ht⟩ := h
    have h40 := (hS b' hb).1
    have h9e := hC.2.1 a' e' ha he
    have x1 : xsCount G td a b c d e = if zg G 9 a' e' = 0 then (if d ≤ 0 then xCt G a' b' c' e' d else if xShut (xCt G a' b' c' e' d) b' c = true then xOpn (xCt G a' b' c' e' d) b' else xCt G a' b' c' e' d) else G := by
      unfold xsCount
      rw [if_pos hx, ea, eb, ec, ee]
    have x2 : xaCount G td a b c d e = if zg G 9 a' e' = 0 then nI 1 else nI 0 := by
      unfold xaCount
      rw [if_pos hx, ea, ee]
    have x3 : ∀ K, maCount K td a b c d e = if zg K 30 0 (100 * a' + e') = 0 then nI 1 else nI 0 := by
      intro K
      unfold maCount
      rw [if_pos ho, ea, ee]
    have x4 : ∀ K, msCount K td a b c d e = if zg K 30 0 (100 * a' + e') = 0 then (if d ≤ 0 then mCt K a' b' c' e' d else if mIsh (mCt K a' b' c' e' d) b' = true then (if c < zg (mCt K a' b' c' e' d) 40 0 b' then mCt K a' b' c' e' d else mOpn (mCt K a' b' c' e' d) b') else mCt K a' b' c' e' d) else K := by
      intro K
      unfold msCount
      rw [if_pos ho, ea, eb, ec, ee]
    by_cases h9 : zg G 9 a' e' = 0
    · rw [x1, if_pos h9, x2, if_pos h9, x3, x4]
      have k0 : zg (xCt G a' b' c' e' d) 30 0 (100 * a' + e') = 0 := h9e.trans h9
      have k1 : zg (xOpn (xCt G a' b' c' e' d) b') 30 0 (100 * a' + e') = 0 := h9e.trans h9
      by_cases hd : d ≤ 0
      · rw [if_pos hd, if_pos k0, if_pos k0, if_pos hd]
        exact ⟨rfl, xI_ct hX, hM, hA, eG_ct hG, hT, eC_up hC ha hb hc40 he, hU, hP, hS, hz, ht⟩
      · rw [if_neg hd]
        by_cases hq : zg G 4 b' 2 = -9
        · have q1 : ¬ xShut (xCt G a' b' c' e' d) b' c = true := fun q => (of_decide_eq_true q).1 hq
          have q2 : ¬ mIsh (mCt (xCt G a' b' c' e' d) a' b' c' e' d) b' = true := fun q => (of_decide_eq_true q).1 (h40.trans hq)
          rw [if_neg q1, if_pos k0, if_pos k0, if_neg hd, if_neg q2]
          exact ⟨rfl, xI_ct hX, hM, hA, eG_ct hG, hT, eC_up hC ha hb hc40 he, hU, hP, hS, hz, ht⟩
        · by_cases hl : c < zg G 4 b' 2
          · have q1 : ¬ xShut (xCt G a' b' c' e' d) b' c = true := fun q => absurd (of_decide_eq_true q).2 (Int32.not_le.mpr hl)
            have q3 : c < zg (mCt (xCt G a' b' c' e' d) a' b' c' e' d) 40 0 b' := by rw [show zg (mCt (xCt G a' b' c' e' d) a' b' c' e' d) 40 0 b' = zg G 4 b' 2 from h40]; exact hl
            rw [if_neg q1, if_pos k0, if_pos k0, if_neg hd, if_pos q3, ite_self]
            exact ⟨rfl, xI_ct hX, hM, hA, eG_ct hG, hT, eC_up hC ha hb hc40 he, hU, hP, hS, hz, ht⟩
          · have q1 : xShut (xCt G a' b' c' e' d) b' c = true := decide_eq_true ⟨hq, Int32.not_lt.mp hl⟩
            have q3 : ¬ c < zg (mCt (xOpn (xCt G a' b' c' e' d) b') a' b' c' e' d) 40 0 b' := by rw [show zg (mCt (xOpn (xCt G a' b' c' e' d) b') a' b' c' e' d) 40 0 b' = zg G 4 b' 2 from h40]; exact hl
            have q2 : mIsh (mCt (xOpn (xCt G a' b' c' e' d) b') a' b' c' e' d) b' = true := by
              refine decide_eq_true ⟨fun q => hq (h40.symm.trans q), ?_⟩
              show zg G 40 0 b' ≤ zg G 20 0 18
              rw [h40, hM.2.2.2.2.2.1]
              refine Int32.le_trans (Int32.not_lt.mp hl) ?_
              rw [ec0]
              exact nI_le (by omega) (by omega)
            rw [if_pos q1, if_pos k1, if_pos k1, if_neg hd, if_pos q2, if_neg q3]
            refine ⟨rfl, xI_ct (h := a') (f := b') (d := c') (m := e') (x := d) hX, hM, hA, eG_ct (h := a') (f := b') (d := c') (m := e') (x := d) hG, hT, eC_up (x := d) hC ha hb hc40 he, hU, hP, fun g hg => ?_, hz, ht⟩
            have h0 := hS g hg
            have y2 : zg (mOpn (mCt (xOpn (xCt G a' b' c' e' d) b') a' b' c' e' d) b') 4 g 2 = if g = b' then -9 else zg G 4 g 2 := by
              simp [mOpn, mCt, xOpn, xCt, zg_zu]
            have y3 : zg (mOpn (mCt (xOpn (xCt G a' b' c' e' d) b') a' b' c' e' d) b') 4 g 3 = if g = b' then zg G 4 b' 3 + nI 1 else zg G 4 g 3 := by
              simp [mOpn, mCt, xOpn, xCt, zg_zu]
            have y4 : zg (mOpn (mCt (xOpn (xCt G a' b' c' e' d) b') a' b' c' e' d) b') 4 g 4 = zg G 4 g 4 := by
              simp [mOpn, mCt, xOpn, xCt, zg_zu]
            have y40 : zg (mOpn (mCt (xOpn (xCt G a' b' c' e' d) b') a' b' c' e' d) b') 40 0 g = if g = b' then -9 else zg G 40 0 g := by
              simp [mOpn, mCt, xOpn, xCt, zg_zu]
            have y41 : zg (mOpn (mCt (xOpn (xCt G a' b' c' e' d) b') a' b' c' e' d) b') 41 0 g = if g = b' then zg G 41 0 b' + nI 1 else zg G 41 0 g := by
              simp [mOpn, mCt, xOpn, xCt, zg_zu]
            have y42 : zg (mOpn (mCt (xOpn (xCt G a' b' c' e' d) b') a' b' c' e' d) b') 42 0 g = zg G 42 0 g := by
              simp [mOpn, mCt, xOpn, xCt, zg_zu]
            rw [y2, y3, y4, y40, y41, y42]
            by_cases q : g = b'
            · rw [if_pos q, if_pos q, if_pos q, if_pos q]
              exact ⟨rfl, by rw [(hS b' hb).2.1], h0.2.2.1, h0.2.2.2.1, Or.inl rfl⟩
            · rw [if_neg q, if_neg q, if_neg q, if_neg q]
              exact h0
    · have k9 : ¬ zg G 30 0 (100 * a' + e') = 0 := fun q => h9 (h9e.symm.trans q)
      rw [x1, if_neg h9, x2, if_neg h9, x3, x4, if_neg k9, if_neg k9]
      exact ⟨rfl, hX, hM, hA, hG, hT, hC, hU, hP, hS, hz, ht⟩
  · have hx : ¬ xoCount td a b c d e = true := by rw [hoo]; exact ho
    have e1 : xsCount G td a b c d e = G := if_neg hx
    have e3 : msCount G td a b c d e = G := if_neg ho
    rw [e1, e3]
    exact ⟨(if_neg hx).trans (if_neg ho).symm, h⟩

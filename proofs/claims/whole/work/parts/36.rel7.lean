/-! the three calls that make a text -/
theorem e_sz {G : zG} {vc rc td a : Nat} (h : zR G vc rc td) (ha : a < 6) : ∃ n, n ≤ 12 ∧ zg G 10 a 6 = nI n ∧ xSz G a = n ∧ mSz G a = n := by
  obtain ⟨n, hn, e, -⟩ := h.1.2.2.2.2.2.2.2.2.2.1 a ha
  refine ⟨n, hn, e, ?_, ?_⟩
  · unfold xSz
    rw [e]
    exact nI_clamp (by omega)
  · unfold mSz
    rw [(h.2.2.2.1 a ha).2.1, e]
    exact nI_clamp (by omega)
theorem e_call {G : zG} {vc rc td : Nat} (h : zR G vc rc td) (a b c : Int32) : xaCall G a b c = maCall (xsCall G a b c) a b c ∧ zR (msCall (xsCall G a b c) a b c) vc rc td := by
  by_cases ho : xoCall a b c = true
  · have ho2 := ho
    unfold xoCall at ho2
    simp only [Bool.and_eq_true] at ho2
    obtain ⟨a', ha, -, ea⟩ := zin_zv ho2.1
    obtain ⟨b', hb, eb0, eb⟩ := zin_zv ho2.2.1
    obtain ⟨c', hc, ec0, ec⟩ := zin_zv ho2.2.2
    obtain ⟨n, hn, e10, ex, em⟩ := e_sz h ha
    have x1 : xsCall G a b c = if n < 12 then xAdd G a' n (fun v => nI (b' * 8 + v)) (nI 0) (nI 0) (nI 0) (nI 0) c else G := by
      unfold xsCall
      rw [if_pos ho, ea, eb, ex]
    have x2 : xaCall G a b c = if n < 12 then nI n else -3 := by
      unfold xaCall
      rw [if_pos ho, ea, ex]
    have x3 : ∀ K, mSz K a' = n → maCall K a b c = if n = 12 then -3 else nI n := by
      intro K hk
      unfold maCall
      rw [if_pos ho, ea, hk]
    have x4 : ∀ K, mSz K a' = n → msCall K a b c = if n = 12 then K else mAdd K a' n (nI 0) b (nI 0) (nI 0) c := by
      intro K hk
      unfold msCall
      rw [if_pos ho, ea, hk]
    by_cases h12 : n < 12
    · rw [x1, if_pos h12, x2, if_pos h12, x3 (xAdd G a' n _ _ _ _ _ _) em, x4 (xAdd G a' n _ _ _ _ _ _) em, if_neg (by omega), if_neg (by omega)]
      exact ⟨rfl, e_add h ha h12 e10 ⟨c', hc, ec0⟩ (Or.inl ⟨rfl, b', hb, eb0, fun j _ => rfl⟩)⟩
    · rw [x1, if_neg h12, x2, if_neg h12, x3 _ em, x4 _ em, if_pos (by omega), if_pos (by omega)]
      exact ⟨rfl, h⟩
  · have e1 : xsCall G a b c = G := if_neg ho
    have e3 : msCall G a b c = G := if_neg ho
    rw [e1, e3]
    exact ⟨(if_neg ho).trans (if_neg ho).symm, h⟩
theorem e_wrap {G : zG} {vc rc td : Nat} (h : zR G vc rc td) (a b c d : Int32) : xaWrap G a b c d = maWrap (xsWrap G a b c d) a b c d ∧ zR (msWrap (xsWrap G a b c d) a b c d) vc rc td := by
  by_cases hq : zin a 6 = true
  · obtain ⟨a', ha, -, ea⟩ := zin_zv hq
    obtain ⟨n, hn, e10, ex, em⟩ := e_sz h ha
    have oo : ∀ K, mSz K a' = n → moWrap K a b c d = xoWrap G a b c d := by
      intro K hk
      unfold moWrap xoWrap
      rw [ea, hk, ex]
    by_cases ho : xoWrap G a b c d = true
    · have ho2 := ho
      unfold xoWrap at ho2
      rw [ea, ex] at ho2
      simp only [Bool.and_eq_true] at ho2
      obtain ⟨b', hb, eb0, eb⟩ := zin_zv ho2.2.1
      obtain ⟨c', hc, ec0, ec⟩ := zin_zv ho2.2.2.1
      obtain ⟨d', hd, ed0, ed⟩ := zin_zv ho2.2.2.2
      have x1 : xsWrap G a b c d = if n < 12 then xAdd G a' n (fun v => zg G 16 a' (b' * 8 + (v + c') % 8)) (nI 1) b b c d else G := by
        unfold xsWrap
        rw [if_pos ho, ea, eb, ec, ex]
      have x2 : xaWrap G a b c d = if n < 12 then nI n else -3 := by
        unfold xaWrap
        rw [if_pos ho, ea, ex]
      have x3 : ∀ K, mSz K a' = n → maWrap K a b c d = if n = 12 then -3 else nI n := by
        intro K hk
        unfold maWrap
        rw [oo K hk, if_pos ho, ea, hk]
      have x4 : ∀ K, mSz K a' = n → msWrap K a b c d = if n = 12 then K else mAdd K a' n (nI 1) b (nI 0) c d := by
        intro K hk
        unfold msWrap
        rw [oo K hk, if_pos ho, ea, hk]
      by_cases h12 : n < 12
      · rw [x1, if_pos h12, x2, if_pos h12, x3 (xAdd G a' n _ _ _ _ _ _) em, x4 (xAdd G a' n _ _ _ _ _ _) em, if_neg (by omega), if_neg (by omega)]
        exact ⟨rfl, e_add h ha h12 e10 ⟨d', hd, ed0⟩ (Or.inr (Or.inl ⟨rfl, b', c', hb, hc, eb0, eb0, ec0, ec0, fun j _ => rfl⟩))⟩
      · rw [x1, if_neg h12, x2, if_neg h12, x3 _ em, x4 _ em, if_pos (by omega), if_pos (by omega)]
        exact ⟨rfl, h⟩
    · have ho3 : ¬ moWrap G a b c d = true := by rw [oo G em]; exact ho
      have e1 : xsWrap G a b c d = G := if_neg ho
      have e3 : msWrap G a b c d = G := if_neg ho3
      rw [e1, e3]
      exact ⟨(if_neg ho).trans (if_neg ho3).symm, h⟩
  · have ho : ¬ xoWrap G a b c d = true := fun q => by
      unfold xoWrap at q
      simp only [Bool.and_eq_true] at q
      exact hq q.1
    have ho3 : ¬ moWrap G a b c d = true := fun q => by
      unfold moWrap at q
      simp only [Bool.and_eq_true] at q
      exact hq q.1
    have e1 : xsWrap G a b c d = G := if_neg ho
    have e3 : msWrap G a b c d = G := if_neg ho3
    rw [e1, e3]
    exact ⟨(if_neg ho).trans (if_neg ho3).symm, h⟩
theorem e_split {G : zG} {vc rc td : Nat} (h : zR G vc rc td) (a b c d e : Int32) : xaSplit G a b c d e = maSplit (xsSplit G a b c d e) a b c d e ∧ zR (msSplit (xsSplit G a b c d e) a b c d e) vc rc td := by
  by_cases hq : zin a 6 = true
  · obtain ⟨a', ha, -, ea⟩ := zin_zv hq
    obtain ⟨n, hn, e10, ex, em⟩ := e_sz h ha
    have oo : ∀ K, mSz K a' = n → moSplit K a b c d e = xoSplit G a b c d e := by
      intro K hk
      unfold moSplit xoSplit
      rw [ea, hk, ex]
      rfl
    by_cases ho : xoSplit G a b c d e = true
    · have ho2 := ho
      unfold xoSplit at ho2
      rw [ea, ex] at ho2
      simp only [Bool.and_eq_true] at ho2
      obtain ⟨b', hb, eb0, eb⟩ := zin_zv ho2.2.1
      obtain ⟨c', hc, ec0, ec⟩ := zin_zv ho2.2.2.1
      obtain ⟨e', he, ee0, ee⟩ := zin_zv ho2.2.2.2.2
      have hd0 := ho2.2.2.2.1
      unfold zin1 at hd0
      have hd1 := of_decide_eq_true hd0
      have hd2 : ¬ d < 0 := fun q => by
        have := Int32.lt_iff_toInt_lt.mp q
        rw [z0_toInt] at this
        omega
      obtain ⟨d', hd3, ed0⟩ := nI_of hd2
      rw [ed0, nI_toInt hd3] at hd1
      have ed : d.toNatClampNeg = d' := by rw [ed0]; exact nI_clamp hd3
      have x1 : xsSplit G a b c d e = if n < 12 then xAdd G a' n (fun v => zg G 16 a' ((if v < d' then b' else c') * 8 + v)) (nI 2) b c d e else G := by
        unfold xsSplit
        rw [if_pos ho, ea, eb, ec, ed, ex]
      have x2 : xaSplit G a b c d e = if n < 12 then nI n else -3 := by
        unfold xaSplit
        rw [if_pos ho, ea, ex]
      have x3 : ∀ K, mSz K a' = n → maSplit K a b c d e = if n = 12 then -3 else nI n := by
        intro K hk
        unfold maSplit
        rw [oo K hk, if_pos ho, ea, hk]
      have x4 : ∀ K, mSz K a' = n → msSplit K a b c d e = if n = 12 then K else mAdd K a' n (nI 2) b c d e := by
        intro K hk
        unfold msSplit
        rw [oo K hk, if_pos ho, ea, hk]
      by_cases h12 : n < 12
      · rw [x1, if_pos h12, x2, if_pos h12, x3 (xAdd G a' n _ _ _ _ _ _) em, x4 (xAdd G a' n _ _ _ _ _ _) em, if_neg (by omega), if_neg (by omega)]
        exact ⟨rfl, e_add h ha h12 e10 ⟨e', he, ee0⟩ (Or.inr (Or.inr ⟨rfl, b', c', d', hb, hc, by omega, by omega, eb0, eb0, ec0, ec0, ed0, ed0, fun j _ => rfl⟩))⟩
      · rw [x1, if_neg h12, x2, if_neg h12, x3 _ em, x4 _ em, if_pos (by omega), if_pos (by omega)]
        exact ⟨rfl, h⟩
    · have ho3 : ¬ moSplit G a b c d e = true := by rw [oo G em]; exact ho
      have e1 : xsSplit G a b c d e = G := if_neg ho
      have e3 : msSplit G a b c d e = G := if_neg ho3
      rw [e1, e3]
      exact ⟨(if_neg ho).trans (if_neg ho3).symm, h⟩
  · have ho : ¬ xoSplit G a b c d e = true := fun q => by
      unfold xoSplit at q
      simp only [Bool.and_eq_true] at q
      exact hq q.1
    have ho3 : ¬ moSplit G a b c d e = true := fun q => by
      unfold moSplit at q
      simp only [Bool.and_eq_true] at q
      exact hq q.1
    have e1 : xsSplit G a b c d e = G := if_neg ho
    have e3 : msSplit G a b c d e = G := if_neg ho3
    rw [e1, e3]
    exact ⟨(if_neg ho).trans (if_neg ho3).symm, h⟩

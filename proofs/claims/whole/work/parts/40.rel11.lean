/-! what is seen, used, its shape; harmed faces and the ready day -/
theorem e_ss {G : zG} {vc rc td h s f : Nat} (hR : zR G vc rc td) (hh : h < 6) (hs : s < xSz G h) (hf : f < 8) : ∃ y, y < 256 ∧ xSees G h s (nI f) = nI y ∧ mSs G h s f = nI y := by
  obtain ⟨n, hn, -, ex, -⟩ := e_sz hR hh
  have hT := hR.2.2.2.2.1
  have h12 : xSz G h ≤ 12 := by omega
  obtain ⟨p, p1, p2⟩ := e_core h12 (hT h hh) 12 s hs (by omega)
  obtain ⟨e28, ⟨t, ht, et⟩, -⟩ := hT h hh s hs
  refine ⟨sbN p t f 8, sbN_lt 8, ?_, ?_⟩
  · unfold xSees
    rw [et]
    exact sbX_N ht hf p1 8 (by omega)
  · unfold mSs
    rw [e28, et]
    exact p2 t f ht hf
theorem orF_2 {F K : Nat → Int32} : ∀ n, (∀ s, s < n → ∃ y, y < 256 ∧ F s = nI y ∧ K s = nI y) → ∃ y, y < 256 ∧ orF F n = nI y ∧ orF K n = nI y
  | 0, _ => ⟨0, by decide, rfl, rfl⟩
  | n + 1, h => by
    obtain ⟨y, hy, e1, e2⟩ := orF_2 n (fun s hs => h s (by omega))
    obtain ⟨z, hz, e3, e4⟩ := h n (by omega)
    refine ⟨y ||| z, Nat.or_lt_two_pow (n := 8) hy hz, ?_, ?_⟩
    · show orF F n ||| F n = _
      rw [e1, e3, nI_or]
    · show orF K n ||| K n = _
      rw [e2, e4, nI_or]
theorem e_used {G : zG} {vc rc td h f : Nat} (hR : zR G vc rc td) (hh : h < 6) (hf : f < 8) : ∃ y, y < 256 ∧ xUsed G h (nI f) = nI y ∧ mUsed G h f = nI y := by
  obtain ⟨n, hn, -, ex, em⟩ := e_sz hR hh
  unfold mUsed
  rw [em]
  show ∃ y, y < 256 ∧ orF (fun s => xSees G h s (nI f)) (xSz G h) = nI y ∧ _
  rw [ex]
  exact orF_2 n (fun s hs => e_ss hR hh (by omega) hf)
theorem e_uses {G : zG} {vc rc td : Nat} (h : zR G vc rc td) (a b : Int32) : xaUses G a b = maUses G a b := by
  unfold xaUses maUses
  by_cases ho : xoUses a b = true
  · rw [if_pos ho, if_pos ho]
    unfold xoUses at ho
    simp only [Bool.and_eq_true] at ho
    obtain ⟨a', ha, -, ea⟩ := zin_zv ho.1
    obtain ⟨b', hb, eb0, eb⟩ := zin_zv ho.2
    obtain ⟨y, hy, e1, e2⟩ := e_used h ha hb
    rw [ea, eb, eb0, e1, e2]
  · rw [if_neg ho, if_neg ho]
theorem f_shp : ∀ y, y < 256 → xShp (nI y) = mShp (nI y) := by decide +kernel
theorem e_shape {G : zG} {vc rc td : Nat} (h : zR G vc rc td) (a b : Int32) : xaShape G a b = maShape G a b := by
  unfold xaShape maShape
  by_cases ho : xoUses a b = true
  · rw [if_pos ho, if_pos ho]
    unfold xoUses at ho
    simp only [Bool.and_eq_true] at ho
    obtain ⟨a', ha, -, ea⟩ := zin_zv ho.1
    obtain ⟨b', hb, eb0, eb⟩ := zin_zv ho.2
    obtain ⟨y, hy, e1, e2⟩ := e_used h ha hb
    rw [ea, eb, eb0, e1, e2]
    exact f_shp y hy
  · rw [if_neg ho, if_neg ho]
theorem e_hmd {G : zG} {vc rc td f d : Nat} (h : zR G vc rc td) (hf : f < 8) : xHmd G (nI f) d = mHmd G f d := by
  unfold xHmd mHmd
  refine congrArg nI (ctF_c (fun k hk => ?_))
  obtain ⟨y, hy, e1, e2⟩ := e_used h hk hf
  unfold xHm mHm
  rw [e1, e2, nI_clamp (by omega), e_sum0 h.2.2.2.2.2.1 hk hf (by omega)]
theorem e_harmed {G : zG} {vc rc td : Nat} (h : zR G vc rc td) (a b : Int32) : xaHarmed G a b = maHarmed G a b := by
  unfold xaHarmed maHarmed
  by_cases ho : (zin a 8 && zin b 41) = true
  · rw [if_pos ho, if_pos ho]
    simp only [Bool.and_eq_true] at ho
    obtain ⟨a', ha, ea0, ea⟩ := zin_zv ho.1
    rw [ea, ea0]
    exact e_hmd h ha
  · rw [if_neg ho, if_neg ho]
theorem fsT_c2 {c c' : Nat → Bool} (h : ∀ d, c d = c' d) : ∀ k n, fsT c n k = fsT c' n k
  | 0, _ => rfl
  | k + 1, n => by
    show (if c n = true then nI n else fsT c (n + 1) k) = (if c' n = true then nI n else fsT c' (n + 1) k)
    rw [h n, fsT_c2 h k (n + 1)]
theorem e_ready {G : zG} {vc rc td : Nat} (h : zR G vc rc td) (a : Int32) : xaReady G td a = maReady G td a := by
  unfold xaReady maReady
  by_cases ho : zin a 8 = true
  · rw [if_pos ho, if_pos ho]
    obtain ⟨a', ha, ea0, ea⟩ := zin_zv ho
    refine fsT_c2 (fun d => ?_) _ _
    unfold xRd mRd
    rw [ea, ea0, e_hmd h ha, e_lat h.2.2.2.2.2.2.2.1 ha]
    exact decide_eq_decide.mpr and_comm
  · rw [if_neg ho, if_neg ho]

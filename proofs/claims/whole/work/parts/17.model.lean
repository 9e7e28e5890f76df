set_option maxHeartbeats 2000000 in
theorem c_X5_in0 (l : Launch) (X : zX) (G : zG) {x : Int32} {m : Nat} (hm : m < 2 ^ 31) : zC l yX5_in cX5_in 3 (some FieldType.boolean) 1 0 X [.int x, .int (nI 0), .int (nI m)] G (zPi (fun r G2 => (∃ a, a < m + 1 ∧ x = nI a ∧ r = nI 1 ∧ G = G2) ∨ (zin x (m + 1) = false ∧ r = nI 0 ∧ G = G2))) := by
  refine zC_of zpn_X5 (zcat rfl) (Nat.le_of_ble_eq_true rfl) ?_
  intro Z hC hE
  replace hC : zCtx l X cX5_in RX5 3 1 0 Z := hC
  change Z 0 G 0 [some (.int x), some (.int (nI 0)), some (.int (nI m))] []
  refine z_il0 hC dX5_in_0 ?_
  refine z_il1 hC dX5_in_1 ?_
  refine z_icmp_lt hC 14 dX5_in_2 rfl (fun h2 => ?_) (fun h2 => ?_)
  · refine z_iconst hC dX5_in_14 zi_0 ?_
    exact z_retz0 hE (by omega) dX5_in_15 (Or.inr ⟨zin_f0 h2, rfl, rfl⟩)
  · refine z_il0 hC dX5_in_5 ?_
    refine z_il2 hC dX5_in_6 ?_
    refine z_icmp_gt hC 14 dX5_in_7 rfl (fun h7 => ?_) (fun h7 => ?_)
    · refine z_iconst hC dX5_in_14 zi_0 ?_
      exact z_retz0 hE (by omega) dX5_in_15 (Or.inr ⟨zin_f1 hm h7, rfl, rfl⟩)
    · refine z_iconst hC dX5_in_10 zi_1 ?_
      refine z_goto hC 15 dX5_in_11 rfl ?_
      exact z_retz1 hE (by omega) dX5_in_15 (by obtain ⟨a, ha, e⟩ := zin_c hm h2 h7; exact Or.inl ⟨a, ha, e, rfl, rfl⟩)

set_option maxHeartbeats 2000000 in
theorem c_X5_inS (l : Launch) (X : zX) (G : zG) {x : Int32} {n : Nat} (hn : n < 2 ^ 30) : zC l yX5_in cX5_in 3 (some FieldType.boolean) 1 0 X [.int x, .int (nI 0), .int (nI n - nI 1)] G (zPi (fun r G2 => (∃ a, a < n ∧ x = nI a ∧ r = nI 1 ∧ G = G2) ∨ (zin x n = false ∧ r = nI 0 ∧ G = G2))) := by
  refine zC_of zpn_X5 (zcat rfl) (Nat.le_of_ble_eq_true rfl) ?_
  intro Z hC hE
  replace hC : zCtx l X cX5_in RX5 3 1 0 Z := hC
  change Z 0 G 0 [some (.int x), some (.int (nI 0)), some (.int (nI n - nI 1))] []
  refine z_il0 hC dX5_in_0 ?_
  refine z_il1 hC dX5_in_1 ?_
  refine z_icmp_lt hC 14 dX5_in_2 rfl (fun h2 => ?_) (fun h2 => ?_)
  · refine z_iconst hC dX5_in_14 zi_0 ?_
    exact z_retz0 hE (by omega) dX5_in_15 (Or.inr ⟨zin_f0 h2, rfl, rfl⟩)
  · refine z_il0 hC dX5_in_5 ?_
    refine z_il2 hC dX5_in_6 ?_
    refine z_icmp_gt hC 14 dX5_in_7 rfl (fun h7 => ?_) (fun h7 => ?_)
    · refine z_iconst hC dX5_in_14 zi_0 ?_
      exact z_retz0 hE (by omega) dX5_in_15 (Or.inr ⟨zin_f2 hn h7, rfl, rfl⟩)
    · refine z_iconst hC dX5_in_10 zi_1 ?_
      refine z_goto hC 15 dX5_in_11 rfl ?_
      exact z_retz1 hE (by omega) dX5_in_15 (by obtain ⟨a, ha, e⟩ := zin_c2 hn h2 h7; exact Or.inl ⟨a, ha, e, rfl, rfl⟩)

set_option maxHeartbeats 2000000 in
theorem c_X5_in1 (l : Launch) (X : zX) (G : zG) {x : Int32} {m : Nat} (hm : m < 2 ^ 31) : zC l yX5_in cX5_in 3 (some FieldType.boolean) 1 0 X [.int x, .int (nI 1), .int (nI m)] G (zPi (fun r G2 => (∃ a, 1 ≤ a ∧ a ≤ m ∧ x = nI a ∧ r = nI 1 ∧ G = G2) ∨ (zinL x m = false ∧ r = nI 0 ∧ G = G2))) := by
  refine zC_of zpn_X5 (zcat rfl) (Nat.le_of_ble_eq_true rfl) ?_
  intro Z hC hE
  replace hC : zCtx l X cX5_in RX5 3 1 0 Z := hC
  change Z 0 G 0 [some (.int x), some (.int (nI 1)), some (.int (nI m))] []
  refine z_il0 hC dX5_in_0 ?_
  refine z_il1 hC dX5_in_1 ?_
  refine z_icmp_lt hC 14 dX5_in_2 rfl (fun h2 => ?_) (fun h2 => ?_)
  · refine z_iconst hC dX5_in_14 zi_0 ?_
    exact z_retz0 hE (by omega) dX5_in_15 (Or.inr ⟨zinL_f0 h2, rfl, rfl⟩)
  · refine z_il0 hC dX5_in_5 ?_
    refine z_il2 hC dX5_in_6 ?_
    refine z_icmp_gt hC 14 dX5_in_7 rfl (fun h7 => ?_) (fun h7 => ?_)
    · refine z_iconst hC dX5_in_14 zi_0 ?_
      exact z_retz0 hE (by omega) dX5_in_15 (Or.inr ⟨zinL_f1 hm h7, rfl, rfl⟩)
    · refine z_iconst hC dX5_in_10 zi_1 ?_
      refine z_goto hC 15 dX5_in_11 rfl ?_
      exact z_retz1 hE (by omega) dX5_in_15 (by obtain ⟨a, h1, ha, e⟩ := zinL_c hm h2 h7; exact Or.inl ⟨a, h1, ha, e, rfl, rfl⟩)

set_option maxHeartbeats 2000000 in
theorem c_X5_inG (l : Launch) (X : zX) (G : zG) {x y z : Int32} : zC l yX5_in cX5_in 3 (some FieldType.boolean) 1 0 X [.int x, .int y, .int z] G (zPi (fun r G2 => (¬ x < y ∧ ¬ z < x ∧ r = nI 1 ∧ G = G2) ∨ (x < y ∧ r = nI 0 ∧ G = G2) ∨ (¬ x < y ∧ z < x ∧ r = nI 0 ∧ G = G2))) := by
  refine zC_of zpn_X5 (zcat rfl) (Nat.le_of_ble_eq_true rfl) ?_
  intro Z hC hE
  replace hC : zCtx l X cX5_in RX5 3 1 0 Z := hC
  change Z 0 G 0 [some (.int x), some (.int y), some (.int z)] []
  refine z_il0 hC dX5_in_0 ?_
  refine z_il1 hC dX5_in_1 ?_
  refine z_icmp_lt hC 14 dX5_in_2 rfl (fun h2 => ?_) (fun h2 => ?_)
  · refine z_iconst hC dX5_in_14 zi_0 ?_
    exact z_retz0 hE (by omega) dX5_in_15 (Or.inr (Or.inl ⟨h2, rfl, rfl⟩))
  · refine z_il0 hC dX5_in_5 ?_
    refine z_il2 hC dX5_in_6 ?_
    refine z_icmp_gt hC 14 dX5_in_7 rfl (fun h7 => ?_) (fun h7 => ?_)
    · refine z_iconst hC dX5_in_14 zi_0 ?_
      exact z_retz0 hE (by omega) dX5_in_15 (Or.inr (Or.inr ⟨h2, h7, rfl, rfl⟩))
    · refine z_iconst hC dX5_in_10 zi_1 ?_
      refine z_goto hC 15 dX5_in_11 rfl ?_
      exact z_retz1 hE (by omega) dX5_in_15 (Or.inl ⟨h2, h7, rfl, rfl⟩)

set_option maxHeartbeats 2000000 in
theorem c_X5_isFace (l : Launch) (X : zX) (G : zG) {x : Int32} : zC l yX5_isFace cX5_isFace 1 (some FieldType.boolean) 2 0 X [.int x] G (zPi (fun r G2 => (∃ a, a < 8 ∧ x = nI a ∧ r = nI 1 ∧ G = G2) ∨ (zin x 8 = false ∧ r = nI 0 ∧ G = G2))) := by
  refine zC_of zpn_X5 (zcat rfl) (Nat.le_of_ble_eq_true rfl) ?_
  intro Z hC hE
  replace hC : zCtx l X cX5_isFace RX5 1 2 0 Z := hC
  change Z 0 G 0 [some (.int x)] []
  refine z_il0 hC dX5_isFace_0 ?_
  refine z_iconst hC dX5_isFace_1 zi_0 ?_
  refine z_bipush hC dX5_isFace_2 zb_7 ?_
  refine z_cSi3 hC (c_X5_in0 l X _ (by decide)) zm_X5_in zi_X5_in zk_X5_93 (by omega) (by decide) (by omega) (Nat.le_of_ble_eq_true rfl) dX5_isFace_4 ?_
  rintro _ _ (⟨xN, hx, rfl, rfl, rfl⟩ | ⟨nx, rfl, rfl⟩)
  · have tx : zin (nI xN) 8 = true := zin_t hx (by omega)
    have qx : (nI xN).toNatClampNeg = xN := nI_clamp (by omega)
    exact z_retz1 hE (by omega) dX5_isFace_7 (Or.inl ⟨xN, hx, rfl, rfl, rfl⟩)
  · replace nx : zin x 8 = false := nx
    exact z_retz0 hE (by omega) dX5_isFace_7 (Or.inr ⟨nx, rfl, rfl⟩)

set_option maxHeartbeats 2000000 in
theorem c_X5_isHouse (l : Launch) (X : zX) (G : zG) {x : Int32} : zC l yX5_isHouse cX5_isHouse 1 (some FieldType.boolean) 2 0 X [.int x] G (zPi (fun r G2 => (∃ a, a < 6 ∧ x = nI a ∧ r = nI 1 ∧ G = G2) ∨ (zin x 6 = false ∧ r = nI 0 ∧ G = G2))) := by
  refine zC_of zpn_X5 (zcat rfl) (Nat.le_of_ble_eq_true rfl) ?_
  intro Z hC hE
  replace hC : zCtx l X cX5_isHouse RX5 1 2 0 Z := hC
  change Z 0 G 0 [some (.int x)] []
  refine z_il0 hC dX5_isHouse_0 ?_
  refine z_iconst hC dX5_isHouse_1 zi_0 ?_
  refine z_iconst hC dX5_isHouse_2 zi_5 ?_
  refine z_cSi3 hC (c_X5_in0 l X _ (by decide)) zm_X5_in zi_X5_in zk_X5_93 (by omega) (by decide) (by omega) (Nat.le_of_ble_eq_true rfl) dX5_isHouse_3 ?_
  rintro _ _ (⟨xN, hx, rfl, rfl, rfl⟩ | ⟨nx, rfl, rfl⟩)
  · have tx : zin (nI xN) 6 = true := zin_t hx (by omega)
    have qx : (nI xN).toNatClampNeg = xN := nI_clamp (by omega)
    exact z_retz1 hE (by omega) dX5_isHouse_6 (Or.inl ⟨xN, hx, rfl, rfl, rfl⟩)
  · replace nx : zin x 6 = false := nx
    exact z_retz0 hE (by omega) dX5_isHouse_6 (Or.inr ⟨nx, rfl, rfl⟩)

set_option maxHeartbeats 2000000 in
theorem c_X5_isSet (l : Launch) (X : zX) (G : zG) {x : Int32} : zC l yX5_isSet cX5_isSet 1 (some FieldType.boolean) 2 0 X [.int x] G (zPi (fun r G2 => (∃ a, a < 256 ∧ x = nI a ∧ r = nI 1 ∧ G = G2) ∨ (zin x 256 = false ∧ r = nI 0 ∧ G = G2))) := by
  refine zC_of zpn_X5 (zcat rfl) (Nat.le_of_ble_eq_true rfl) ?_
  intro Z hC hE
  replace hC : zCtx l X cX5_isSet RX5 1 2 0 Z := hC
  change Z 0 G 0 [some (.int x)] []
  refine z_il0 hC dX5_isSet_0 ?_
  refine z_iconst hC dX5_isSet_1 zi_0 ?_
  refine z_sipush hC dX5_isSet_2 zs_255 ?_
  refine z_cSi3 hC (c_X5_in0 l X _ (by decide)) zm_X5_in zi_X5_in zk_X5_93 (by omega) (by decide) (by omega) (Nat.le_of_ble_eq_true rfl) dX5_isSet_5 ?_
  rintro _ _ (⟨xN, hx, rfl, rfl, rfl⟩ | ⟨nx, rfl, rfl⟩)
  · have tx : zin (nI xN) 256 = true := zin_t hx (by omega)
    have qx : (nI xN).toNatClampNeg = xN := nI_clamp (by omega)
    exact z_retz1 hE (by omega) dX5_isSet_8 (Or.inl ⟨xN, hx, rfl, rfl, rfl⟩)
  · replace nx : zin x 256 = false := nx
    exact z_retz0 hE (by omega) dX5_isSet_8 (Or.inr ⟨nx, rfl, rfl⟩)

set_option maxHeartbeats 2000000 in
theorem c_X5_isVersion (l : Launch) (X : zX) (G : zG) {r0 : Nat} (hr0 : r0 = za G 20 0) {x : Int32} {vc : Nat} (hvc : zg G 20 0 0 = nI vc) (h5 : vc ≤ 5) : zC l yX5_isVersion cX5_isVersion 2 (some FieldType.boolean) 2 0 X [.ref r0, .int x] G (zPi (fun r G2 => (∃ a, a < vc ∧ x = nI a ∧ r = nI 1 ∧ G = G2) ∨ (zin x vc = false ∧ r = nI 0 ∧ G = G2))) := by
  subst hr0
  refine zC_of zpn_X5 (zcat rfl) (Nat.le_of_ble_eq_true rfl) ?_
  intro Z hC hE
  replace hC : zCtx l X cX5_isVersion RX5 2 2 0 Z := hC
  change Z 0 G 0 [some (.ref (za G 20 0)), some (.int x)] []
  refine z_il1 hC dX5_isVersion_0 ?_
  refine z_iconst hC dX5_isVersion_1 zi_0 ?_
  refine z_al0 hC dX5_isVersion_2 ?_
  refine zgf_X5_7 hC dX5_isVersion_3 ?_
  refine z_top hvc ?_
  refine z_iconst hC dX5_isVersion_6 zi_1 ?_
  refine z_isub hC dX5_isVersion_7 ?_
  refine z_cSi3 hC (c_X5_inS l X _ (by omega)) zm_X5_in zi_X5_in zk_X5_93 (by omega) (by decide) (by omega) (Nat.le_of_ble_eq_true rfl) dX5_isVersion_8 ?_
  rintro _ _ (⟨xN, hx, rfl, rfl, rfl⟩ | ⟨nx, rfl, rfl⟩)
  · have tx : zin (nI xN) vc = true := zin_t hx (by omega)
    have qx : (nI xN).toNatClampNeg = xN := nI_clamp (by omega)
    exact z_retz1 hE (by omega) dX5_isVersion_11 (Or.inl ⟨xN, hx, rfl, rfl, rfl⟩)
  · replace nx : zin x vc = false := nx
    exact z_retz0 hE (by omega) dX5_isVersion_11 (Or.inr ⟨nx, rfl, rfl⟩)

set_option maxHeartbeats 2000000 in
theorem c_X5_isRule (l : Launch) (X : zX) (G : zG) {r0 : Nat} (hr0 : r0 = za G 20 0) {x : Int32} {rc : Nat} (hrc : zg G 20 0 13 = nI rc) (h12 : rc ≤ 12) : zC l yX5_isRule cX5_isRule 2 (some FieldType.boolean) 2 0 X [.ref r0, .int x] G (zPi (fun r G2 => (∃ a, a < rc ∧ x = nI a ∧ r = nI 1 ∧ G = G2) ∨ (zin x rc = false ∧ r = nI 0 ∧ G = G2))) := by
  subst hr0
  refine zC_of zpn_X5 (zcat rfl) (Nat.le_of_ble_eq_true rfl) ?_
  intro Z hC hE
  replace hC : zCtx l X cX5_isRule RX5 2 2 0 Z := hC
  change Z 0 G 0 [some (.ref (za G 20 0)), some (.int x)] []
  refine z_il1 hC dX5_isRule_0 ?_
  refine z_iconst hC dX5_isRule_1 zi_0 ?_
  refine z_al0 hC dX5_isRule_2 ?_
  refine zgf_X5_163 hC dX5_isRule_3 ?_
  refine z_top hrc ?_
  refine z_iconst hC dX5_isRule_6 zi_1 ?_
  refine z_isub hC dX5_isRule_7 ?_
  refine z_cSi3 hC (c_X5_inS l X _ (by omega)) zm_X5_in zi_X5_in zk_X5_93 (by omega) (by decide) (by omega) (Nat.le_of_ble_eq_true rfl) dX5_isRule_8 ?_
  rintro _ _ (⟨xN, hx, rfl, rfl, rfl⟩ | ⟨nx, rfl, rfl⟩)
  · have tx : zin (nI xN) rc = true := zin_t hx (by omega)
    have qx : (nI xN).toNatClampNeg = xN := nI_clamp (by omega)
    exact z_retz1 hE (by omega) dX5_isRule_11 (Or.inl ⟨xN, hx, rfl, rfl, rfl⟩)
  · replace nx : zin x rc = false := nx
    exact z_retz0 hE (by omega) dX5_isRule_11 (Or.inr ⟨nx, rfl, rfl⟩)

set_option maxHeartbeats 2000000 in
theorem c_X5_isLine (l : Launch) (X : zX) (G : zG) {r0 : Nat} (hr0 : r0 = za G 20 0) {h : Nat} (hh : h < 6) {x : Int32} {sz : Nat} (hsz : zg G 23 0 h = nI sz) (h12 : sz ≤ 12) : zC l yX5_isLine cX5_isLine 3 (some FieldType.boolean) 2 0 X [.ref r0, .int (nI h), .int x] G (zPi (fun r G2 => (∃ a, a < sz ∧ x = nI a ∧ r = nI 1 ∧ G = G2) ∨ (zin x sz = false ∧ r = nI 0 ∧ G = G2))) := by
  subst hr0
  refine zC_of zpn_X5 (zcat rfl) (Nat.le_of_ble_eq_true rfl) ?_
  intro Z hC hE
  replace hC : zCtx l X cX5_isLine RX5 3 2 0 Z := hC
  change Z 0 G 0 [some (.ref (za G 20 0)), some (.int (nI h)), some (.int x)] []
  refine z_il2 hC dX5_isLine_0 ?_
  refine z_iconst hC dX5_isLine_1 zi_0 ?_
  refine z_al0 hC dX5_isLine_2 ?_
  refine zgf_X5_20 hC dX5_isLine_3 ?_
  refine z_il1 hC dX5_isLine_6 ?_
  refine zal_23 hC (by omega) dX5_isLine_7 ?_
  refine z_top hsz ?_
  refine z_iconst hC dX5_isLine_8 zi_1 ?_
  refine z_isub hC dX5_isLine_9 ?_
  refine z_cSi3 hC (c_X5_inS l X _ (by omega)) zm_X5_in zi_X5_in zk_X5_93 (by omega) (by decide) (by omega) (Nat.le_of_ble_eq_true rfl) dX5_isLine_10 ?_
  rintro _ _ (⟨xN, hx, rfl, rfl, rfl⟩ | ⟨nx, rfl, rfl⟩)
  · have tx : zin (nI xN) sz = true := zin_t hx (by omega)
    have qx : (nI xN).toNatClampNeg = xN := nI_clamp (by omega)
    exact z_retz1 hE (by omega) dX5_isLine_13 (Or.inl ⟨xN, hx, rfl, rfl, rfl⟩)
  · replace nx : zin x sz = false := nx
    exact z_retz0 hE (by omega) dX5_isLine_13 (Or.inr ⟨nx, rfl, rfl⟩)

set_option maxHeartbeats 2000000 in
theorem c_X5_shown (l : Launch) (X : zX) (G : zG) {x : Int32} : zC l yX5_shown cX5_shown 1 (some FieldType.int) 1 0 X [.int x] G (zPi (fun r G2 => r = mShown x ∧ G = G2)) := by
  refine zC_of zpn_X5 (zcat rfl) (Nat.le_of_ble_eq_true rfl) ?_
  intro Z hC hE
  replace hC : zCtx l X cX5_shown RX5 1 1 0 Z := hC
  change Z 0 G 0 [some (.int x)] []
  refine z_il0 hC dX5_shown_0 ?_
  refine z_if_ne hC 9 dX5_shown_1 rfl (fun h1 => ?_) (fun h1 => ?_)
  · refine z_il0 hC dX5_shown_9 ?_
    refine z_iconst hC dX5_shown_10 zi_1 ?_
    refine z_isub hC dX5_shown_11 ?_
    exact z_reti hE (by omega) dX5_shown_12 (⟨by simp [mShown, h1], rfl⟩)
  · refine z_bipush hC dX5_shown_4 zb_m9 ?_
    refine z_goto hC 12 dX5_shown_6 rfl ?_
    exact z_reti hE (by omega) dX5_shown_12 (⟨by simp [mShown, h1], rfl⟩)

set_option maxHeartbeats 2000000 in
theorem c_X5_differs (l : Launch) (X : zX) (G : zG) {r0 : Nat} (hr0 : r0 = za G 20 0) {f v u : Nat} (hf : f < 8) (hv : v < 5) (hu : u < 5) : zC l yX5_differs cX5_differs 6 (some FieldType.int) 1 0 X [.ref r0, .int (nI f), .int (nI v), .int (nI u)] G (zPi (fun r G2 => r = mDif G f v u ∧ G = G2)) := by
  subst hr0
  refine zC_of zpn_X5 (zcat rfl) (Nat.le_of_ble_eq_true rfl) ?_
  intro Z hC hE
  replace hC : zCtx l X cX5_differs RX5 6 1 0 Z := hC
  change Z 0 G 0 [some (.ref (za G 20 0)), some (.int (nI f)), some (.int (nI v)), some (.int (nI u)), none, none] []
  refine z_iconst hC dX5_differs_0 zi_0 ?_
  refine z_is4 hC dX5_differs_1 (by decide) ?_
  refine z_iconst hC dX5_differs_3 zi_0 ?_
  refine z_is5 hC dX5_differs_4 (by decide) ?_
  refine z_loop (N := 8) (fun n => Z 0 G 6 [some (.ref (za G 20 0)), some (.int (nI f)), some (.int (nI v)), some (.int (nI u)), some (.int (mDf (fun a => decide (¬ zg G 21 0 (40 * f + 8 * v + a) = zg G 21 0 (40 * f + 8 * u + a))) n)), some (.int (nI n))] []) ?_ ?_ 0 (Nat.zero_le _)
  · change Z 0 G 6 [some (.ref (za G 20 0)), some (.int (nI f)), some (.int (nI v)), some (.int (nI u)), some (.int (mDf (fun a => decide (¬ zg G 21 0 (40 * f + 8 * v + a) = zg G 21 0 (40 * f + 8 * u + a))) 8)), some (.int (nI 8))] []
    refine z_il5 hC dX5_differs_6 ?_
    refine z_bipush hC dX5_differs_8 zb_8 ?_
    refine z_icmp_ge hC 69 dX5_differs_10 rfl (fun _ => ?_) (fun h => absurd (nI_le (Nat.le_refl _) (by omega)) h)
    refine z_il4 hC dX5_differs_69 ?_
    exact z_reti hE (by omega) dX5_differs_71 (⟨rfl, rfl⟩)
  · intro n hn ih
    change Z 0 G 6 [some (.ref (za G 20 0)), some (.int (nI f)), some (.int (nI v)), some (.int (nI u)), some (.int (mDf (fun a => decide (¬ zg G 21 0 (40 * f + 8 * v + a) = zg G 21 0 (40 * f + 8 * u + a))) n)), some (.int (nI n))] []
    replace ih : Z 0 G 6 [some (.ref (za G 20 0)), some (.int (nI f)), some (.int (nI v)), some (.int (nI u)), some (.int (mDf (fun a => decide (¬ zg G 21 0 (40 * f + 8 * v + a) = zg G 21 0 (40 * f + 8 * u + a))) (n + 1))), some (.int (nI (n + 1)))] [] := ih
    refine z_il5 hC dX5_differs_6 ?_
    refine z_bipush hC dX5_differs_8 zb_8 ?_
    refine z_icmp_ge hC 69 dX5_differs_10 rfl (fun h => absurd h (nI_ge hn (by omega))) (fun _ => ?_)
    refine z_il4 hC dX5_differs_13 ?_
    refine z_al0 hC dX5_differs_15 ?_
    refine zgf_X5_13 hC dX5_differs_16 ?_
    refine z_bipush hC dX5_differs_19 zb_40 ?_
    refine z_il1 hC dX5_differs_21 ?_
    refine z_imulN hC dX5_differs_22 ?_
    refine z_bipush hC dX5_differs_23 zb_8 ?_
    refine z_il2 hC dX5_differs_25 ?_
    refine z_imulN hC dX5_differs_26 ?_
    refine z_iaddN hC dX5_differs_27 ?_
    refine z_il5 hC dX5_differs_28 ?_
    refine z_iaddN hC dX5_differs_30 ?_
    refine zal_21 hC (by omega) dX5_differs_31 ?_
    refine z_al0 hC dX5_differs_32 ?_
    refine zgf_X5_13 hC dX5_differs_33 ?_
    refine z_bipush hC dX5_differs_36 zb_40 ?_
    refine z_il1 hC dX5_differs_38 ?_
    refine z_imulN hC dX5_differs_39 ?_
    refine z_bipush hC dX5_differs_40 zb_8 ?_
    refine z_il3 hC dX5_differs_42 ?_
    refine z_imulN hC dX5_differs_43 ?_
    refine z_iaddN hC dX5_differs_44 ?_
    refine z_il5 hC dX5_differs_45 ?_
    refine z_iaddN hC dX5_differs_47 ?_
    refine zal_21 hC (by omega) dX5_differs_48 ?_
    refine z_icmp_eq hC 59 dX5_differs_49 rfl (fun h49 => ?_) (fun h49 => ?_)
    · refine z_iconst hC dX5_differs_59 zi_0 ?_
      refine z_ior hC dX5_differs_60 ?_
      refine z_is4 hC dX5_differs_61 (by decide) ?_
      refine z_inc5 hC dX5_differs_63 (by decide) ?_
      refine z_goto hC 6 dX5_differs_66 rfl ?_
      rw [mDf_f (by simp [h49])] at ih
      exact ih
    · refine z_iconst hC dX5_differs_52 zi_1 ?_
      refine z_il5 hC dX5_differs_53 ?_
      refine z_ishl hC dX5_differs_55 ?_
      refine z_goto hC 60 dX5_differs_56 rfl ?_
      refine z_ior hC dX5_differs_60 ?_
      refine z_is4 hC dX5_differs_61 (by decide) ?_
      refine z_inc5 hC dX5_differs_63 (by decide) ?_
      refine z_goto hC 6 dX5_differs_66 rfl ?_
      rw [mDf_t (by simp [h49])] at ih
      exact ih

set_option maxHeartbeats 2000000 in
theorem c_X5_comes (l : Launch) (X : zX) (G : zG) {r0 : Nat} (hr0 : r0 = za G 20 0) {h : Nat} (hh : h < 6) {k f g d t : Int32} {m : Nat} (hsz : zg G 23 0 h = nI m) (h12 : m ≤ 12) : zC l yX5_comes cX5_comes 8 (some FieldType.int) 1 0 X [.ref r0, .int (nI h), .int k, .int f, .int g, .int d, .int t] G (zPi (fun r G2 => (¬ m = 12 ∧ r = nI m ∧ G2 = mAdd G h m k f g d t) ∨ (m = 12 ∧ r = -3 ∧ G2 = G))) := by
  subst hr0
  refine zC_of zpn_X5 (zcat rfl) (Nat.le_of_ble_eq_true rfl) ?_
  intro Z hC hE
  replace hC : zCtx l X cX5_comes RX5 8 1 0 Z := hC
  change Z 0 G 0 [some (.ref (za G 20 0)), some (.int (nI h)), some (.int k), some (.int f), some (.int g), some (.int d), some (.int t), none] []
  refine z_al0 hC dX5_comes_0 ?_
  refine zgf_X5_20 hC dX5_comes_1 ?_
  refine z_il1 hC dX5_comes_4 ?_
  refine zal_23 hC (by omega) dX5_comes_5 ?_
  refine z_top hsz ?_
  refine z_bipush hC dX5_comes_6 zb_12 ?_
  refine z_icmp_ne hC 14 dX5_comes_8 rfl (fun h8 => ?_) (fun h8 => ?_)
  · have hm : ¬ m = 12 := fun h => h8 ((n12ne (by omega)).mpr h)
    have hm2 : m < 12 := by omega
    refine z_bipush hC dX5_comes_14 zb_12 ?_
    refine z_il1 hC dX5_comes_16 ?_
    refine z_imulN hC dX5_comes_17 ?_
    refine z_al0 hC dX5_comes_18 ?_
    refine zgf_X5_20 hC dX5_comes_19 ?_
    refine z_il1 hC dX5_comes_22 ?_
    refine zal_23 hC (by omega) dX5_comes_23 ?_
    refine z_top hsz ?_
    refine z_iaddN hC dX5_comes_24 ?_
    refine z_is7 hC dX5_comes_25 (by decide) ?_
    refine z_al0 hC dX5_comes_27 ?_
    refine zgf_X5_23 hC dX5_comes_28 ?_
    refine z_il7 hC dX5_comes_31 ?_
    refine z_il2 hC dX5_comes_33 ?_
    refine zas_24 hC (by omega) dX5_comes_34 ?_
    refine z_al0 hC dX5_comes_35 ?_
    refine zgf_X5_26 hC dX5_comes_36 ?_
    refine z_il7 hC dX5_comes_39 ?_
    refine z_il3 hC dX5_comes_41 ?_
    refine zas_25 hC (by omega) dX5_comes_42 ?_
    refine z_al0 hC dX5_comes_43 ?_
    refine zgf_X5_29 hC dX5_comes_44 ?_
    refine z_il7 hC dX5_comes_47 ?_
    refine z_il4 hC dX5_comes_49 ?_
    refine zas_26 hC (by omega) dX5_comes_51 ?_
    refine z_al0 hC dX5_comes_52 ?_
    refine zgf_X5_32 hC dX5_comes_53 ?_
    refine z_il7 hC dX5_comes_56 ?_
    refine z_il5 hC dX5_comes_58 ?_
    refine zas_27 hC (by omega) dX5_comes_60 ?_
    refine z_al0 hC dX5_comes_61 ?_
    refine zgf_X5_35 hC dX5_comes_62 ?_
    refine z_il7 hC dX5_comes_65 ?_
    refine z_il6 hC dX5_comes_67 ?_
    refine zas_28 hC (by omega) dX5_comes_69 ?_
    refine z_al0 hC dX5_comes_70 ?_
    refine zgf_X5_20 hC dX5_comes_71 ?_
    refine z_il1 hC dX5_comes_74 ?_
    refine z_dup2 hC dX5_comes_75 rfl rfl ?_
    refine zal_23 hC (by omega) dX5_comes_76 ?_
    refine z_top ((by simp [zg_zu, hsz]) : _ = nI m) ?_
    refine z_iconst hC dX5_comes_77 zi_1 ?_
    refine z_iaddN hC dX5_comes_78 ?_
    refine zas_23 hC (by omega) dX5_comes_79 ?_
    refine z_al0 hC dX5_comes_80 ?_
    refine zgf_X5_20 hC dX5_comes_81 ?_
    refine z_il1 hC dX5_comes_84 ?_
    refine zal_23 hC (by omega) dX5_comes_85 ?_
    refine z_top ((by simp [zg_zu]) : _ = nI (m + 1)) ?_
    refine z_iconst hC dX5_comes_86 zi_1 ?_
    refine z_isubN hC dX5_comes_87 (by omega) ?_
    exact z_reti hE (by omega) dX5_comes_88 (Or.inl ⟨hm, by simp, rfl⟩)
  · have hm : m = 12 := (n12ne (by omega)).mp h8
    refine z_bipush hC dX5_comes_11 zb_m3 ?_
    exact z_reti hE (by omega) dX5_comes_13 (Or.inr ⟨hm, rfl, rfl⟩)

set_option maxHeartbeats 2000000 in
theorem c_X5_turned (l : Launch) (X : zX) (G : zG) {x d : Int32} : zC l yX5_turned cX5_turned 2 (some FieldType.int) 1 0 X [.int x, .int d] G (zPi (fun r G2 => r = xTurn x d ∧ G = G2)) := by
  refine zC_of zpn_X5 (zcat rfl) (Nat.le_of_ble_eq_true rfl) ?_
  intro Z hC hE
  replace hC : zCtx l X cX5_turned RX5 2 1 0 Z := hC
  change Z 0 G 0 [some (.int x), some (.int d)] []
  refine z_il0 hC dX5_turned_0 ?_
  refine z_il1 hC dX5_turned_1 ?_
  refine z_ishl hC dX5_turned_2 ?_
  refine z_il0 hC dX5_turned_3 ?_
  refine z_bipush hC dX5_turned_4 zb_8 ?_
  refine z_il1 hC dX5_turned_6 ?_
  refine z_isub hC dX5_turned_7 ?_
  refine z_ishr hC dX5_turned_8 ?_
  refine z_ior hC dX5_turned_9 ?_
  refine z_sipush hC dX5_turned_10 zs_255 ?_
  refine z_iand hC dX5_turned_13 ?_
  exact z_reti hE (by omega) dX5_turned_14 (⟨rfl, rfl⟩)

set_option maxHeartbeats 2000000 in
theorem c_X5_piles (l : Launch) (X : zX) (G : zG) {r0 : Nat} (hr0 : r0 = za G 20 0) {s k : Nat} {b : Int32} (hk : zg G 20 0 29 = nI k) (h64 : k < 64) : zC l yX5_piles cX5_piles 3 none 1 0 X [.ref r0, .int (nI s), .int b] G (zPv (fun G2 => (b = 0 ∧ G = G2) ∨ (¬ b = 0 ∧ G2 = zu (zu (zu G 45 0 k (nI s)) 46 0 k b) 20 0 29 (nI (k + 1))))) := by
  subst hr0
  refine zC_of zpn_X5 (zcat rfl) (Nat.le_of_ble_eq_true rfl) ?_
  intro Z hC hE
  replace hC : zCtx l X cX5_piles RX5 3 1 0 Z := hC
  change Z 0 G 0 [some (.ref (za G 20 0)), some (.int (nI s)), some (.int b)] []
  refine z_il2 hC dX5_piles_0 ?_
  refine z_if_eq hC 34 dX5_piles_1 rfl (fun h1 => ?_) (fun h1 => ?_)
  · exact z_retv hE (by omega) dX5_piles_34 (Or.inl ⟨h1, rfl⟩)
  · refine z_al0 hC dX5_piles_4 ?_
    refine zgf_X5_78 hC dX5_piles_5 ?_
    refine z_al0 hC dX5_piles_8 ?_
    refine zgf_X5_122 hC dX5_piles_9 ?_
    refine z_top hk ?_
    refine z_il1 hC dX5_piles_12 ?_
    refine zas_45 hC (by omega) dX5_piles_13 ?_
    refine z_al0 hC dX5_piles_14 ?_
    refine zgf_X5_81 hC dX5_piles_15 ?_
    refine z_al0 hC dX5_piles_18 ?_
    refine zgf_X5_122 hC dX5_piles_19 ?_
    refine z_top ((by simp [zg_zu, hk]) : _ = nI k) ?_
    refine z_il2 hC dX5_piles_22 ?_
    refine zas_46 hC (by omega) dX5_piles_23 ?_
    refine z_al0 hC dX5_piles_24 ?_
    refine z_dup hC dX5_piles_25 rfl ?_
    refine zgf_X5_122 hC dX5_piles_26 ?_
    refine z_top ((by simp [zg_zu, hk]) : _ = nI k) ?_
    refine z_iconst hC dX5_piles_29 zi_1 ?_
    refine z_iaddN hC dX5_piles_30 ?_
    refine zpf_X5_122 hC dX5_piles_31 ?_
    exact z_retv hE (by omega) dX5_piles_34 (Or.inr ⟨h1, rfl⟩)

set_option maxHeartbeats 2000000 in
theorem c_X5_isShut (l : Launch) (X : zX) (G : zG) {r0 : Nat} (hr0 : r0 = za G 20 0) {f : Nat} (hf : f < 8) : zC l yX5_isShut cX5_isShut 2 (some FieldType.boolean) 1 0 X [.ref r0, .int (nI f)] G (zPi (fun r G2 => (mIsh G f = true ∧ r = nI 1 ∧ G = G2) ∨ (mIsh G f = false ∧ r = nI 0 ∧ G = G2))) := by
  subst hr0
  refine zC_of zpn_X5 (zcat rfl) (Nat.le_of_ble_eq_true rfl) ?_
  intro Z hC hE
  replace hC : zCtx l X cX5_isShut RX5 2 1 0 Z := hC
  change Z 0 G 0 [some (.ref (za G 20 0)), some (.int (nI f))] []
  refine z_al0 hC dX5_isShut_0 ?_
  refine zgf_X5_66 hC dX5_isShut_1 ?_
  refine z_il1 hC dX5_isShut_4 ?_
  refine zal_40 hC (by omega) dX5_isShut_5 ?_
  refine z_bipush hC dX5_isShut_6 zb_m9 ?_
  refine z_icmp_eq hC 28 dX5_isShut_8 rfl (fun h8 => ?_) (fun h8 => ?_)
  · refine z_iconst hC dX5_isShut_28 zi_0 ?_
    exact z_retz0 hE (by omega) dX5_isShut_29 (Or.inr ⟨by simp [mIsh, h8], rfl, rfl⟩)
  · refine z_al0 hC dX5_isShut_11 ?_
    refine zgf_X5_66 hC dX5_isShut_12 ?_
    refine z_il1 hC dX5_isShut_15 ?_
    refine zal_40 hC (by omega) dX5_isShut_16 ?_
    refine z_al0 hC dX5_isShut_17 ?_
    refine zgf_X5_90 hC dX5_isShut_18 ?_
    refine z_icmp_gt hC 28 dX5_isShut_21 rfl (fun h21 => ?_) (fun h21 => ?_)
    · refine z_iconst hC dX5_isShut_28 zi_0 ?_
      exact z_retz0 hE (by omega) dX5_isShut_29 (Or.inr ⟨by simp [mIsh, Int32.not_le.mpr h21], rfl, rfl⟩)
    · refine z_iconst hC dX5_isShut_24 zi_1 ?_
      refine z_goto hC 29 dX5_isShut_25 rfl ?_
      exact z_retz1 hE (by omega) dX5_isShut_29 (Or.inl ⟨by simp [mIsh, h8, Int32.not_lt.mp h21], rfl, rfl⟩)

set_option maxHeartbeats 2000000 in
theorem c_X5_isSpan (l : Launch) (X : zX) (G : zG) {x y : Int32} : zC l yX5_isSpan cX5_isSpan 2 (some FieldType.boolean) 1 0 X [.int x, .int y] G (zPi (fun r G2 => (∃ a b, a ≤ b ∧ b < 40 ∧ x = nI a ∧ y = nI b ∧ r = nI 1 ∧ G = G2) ∨ (zspan x y = false ∧ r = nI 0 ∧ G = G2))) := by
  refine zC_of zpn_X5 (zcat rfl) (Nat.le_of_ble_eq_true rfl) ?_
  intro Z hC hE
  replace hC : zCtx l X cX5_isSpan RX5 2 1 0 Z := hC
  change Z 0 G 0 [some (.int x), some (.int y)] []
  refine z_il0 hC dX5_isSpan_0 ?_
  refine z_if_lt hC 19 dX5_isSpan_1 rfl (fun h1 => ?_) (fun h1 => ?_)
  · refine z_iconst hC dX5_isSpan_19 zi_0 ?_
    exact z_retz0 hE (by omega) dX5_isSpan_20 (Or.inr ⟨zspan_f1 (zin_f0 h1), rfl, rfl⟩)
  · refine z_il1 hC dX5_isSpan_4 ?_
    refine z_bipush hC dX5_isSpan_5 zb_40 ?_
    refine z_icmp_ge hC 19 dX5_isSpan_7 rfl (fun h7 => ?_) (fun h7 => ?_)
    · refine z_iconst hC dX5_isSpan_19 zi_0 ?_
      exact z_retz0 hE (by omega) dX5_isSpan_20 (Or.inr ⟨zspan_f2 (zin_f4 h7), rfl, rfl⟩)
    · refine z_il0 hC dX5_isSpan_10 ?_
      refine z_il1 hC dX5_isSpan_11 ?_
      refine z_icmp_gt hC 19 dX5_isSpan_12 rfl (fun h12 => ?_) (fun h12 => ?_)
      · refine z_iconst hC dX5_isSpan_19 zi_0 ?_
        exact z_retz0 hE (by omega) dX5_isSpan_20 (Or.inr ⟨zspan_f3 h12, rfl, rfl⟩)
      · refine z_iconst hC dX5_isSpan_15 zi_1 ?_
        refine z_goto hC 20 dX5_isSpan_16 rfl ?_
        exact z_retz1 hE (by omega) dX5_isSpan_20 (by obtain ⟨a, b, h3, h4, e1, e2⟩ := zspan_c h1 h7 h12; exact Or.inl ⟨a, b, h3, h4, e1, e2, rfl, rfl⟩)

set_option maxHeartbeats 2000000 in
theorem c_X5_sumOf (l : Launch) (X : zX) (G : zG) {r0 : Nat} (hr0 : r0 = za G 20 0) {h f a b : Nat} (hh : h < 6) (hf : f < 8) (hab : a ≤ b + 1) (hb : b < 40) : zC l yX5_sumOf cX5_sumOf 7 (some FieldType.int) 1 0 X [.ref r0, .int (nI h), .int (nI f), .int (nI a), .int (nI b)] G (zPi (fun r G2 => r = mSum G h f a (b + 1) ∧ G = G2)) := by
  subst hr0
  refine zC_of zpn_X5 (zcat rfl) (Nat.le_of_ble_eq_true rfl) ?_
  intro Z hC hE
  replace hC : zCtx l X cX5_sumOf RX5 7 1 0 Z := hC
  change Z 0 G 0 [some (.ref (za G 20 0)), some (.int (nI h)), some (.int (nI f)), some (.int (nI a)), some (.int (nI b)), none, none] []
  refine z_iconst hC dX5_sumOf_0 zi_0 ?_
  refine z_is5 hC dX5_sumOf_1 (by decide) ?_
  refine z_il3 hC dX5_sumOf_3 ?_
  refine z_is6 hC dX5_sumOf_4 (by decide) ?_
  rw [← smT_0 (fun d => zg G 29 0 (320 * h + 40 * f + d)) a]
  refine z_loop (N := (b + 1)) (fun n => a ≤ n → Z 0 G 6 [some (.ref (za G 20 0)), some (.int (nI h)), some (.int (nI f)), some (.int (nI a)), some (.int (nI b)), some (.int (smT (fun d => zg G 29 0 (320 * h + 40 * f + d)) a n)), some (.int (nI n))] []) ?_ ?_ a (hab) (Nat.le_refl _)
  · intro hv
    change Z 0 G 6 [some (.ref (za G 20 0)), some (.int (nI h)), some (.int (nI f)), some (.int (nI a)), some (.int (nI b)), some (.int (smT (fun d => zg G 29 0 (320 * h + 40 * f + d)) a (b + 1))), some (.int (nI (b + 1)))] []
    refine z_il6 hC dX5_sumOf_6 ?_
    refine z_il4 hC dX5_sumOf_8 ?_
    refine z_icmp_gt hC 42 dX5_sumOf_10 rfl (fun _ => ?_) (fun h => absurd (nI_lt (Nat.lt_succ_self _) (by omega)) h)
    refine z_il5 hC dX5_sumOf_42 ?_
    exact z_reti hE (by omega) dX5_sumOf_44 (⟨rfl, rfl⟩)
  · intro n hn ih hv
    change Z 0 G 6 [some (.ref (za G 20 0)), some (.int (nI h)), some (.int (nI f)), some (.int (nI a)), some (.int (nI b)), some (.int (smT (fun d => zg G 29 0 (320 * h + 40 * f + d)) a n)), some (.int (nI n))] []
    replace ih : a ≤ (n + 1) → Z 0 G 6 [some (.ref (za G 20 0)), some (.int (nI h)), some (.int (nI f)), some (.int (nI a)), some (.int (nI b)), some (.int (smT (fun d => zg G 29 0 (320 * h + 40 * f + d)) a (n + 1))), some (.int (nI (n + 1)))] [] := ih
    refine z_il6 hC dX5_sumOf_6 ?_
    refine z_il4 hC dX5_sumOf_8 ?_
    refine z_icmp_gt hC 42 dX5_sumOf_10 rfl (fun h => absurd h (Int32.not_lt.mpr (nI_le (Nat.le_of_lt_succ hn) (by omega)))) (fun _ => ?_)
    refine z_il5 hC dX5_sumOf_13 ?_
    refine z_al0 hC dX5_sumOf_15 ?_
    refine zgf_X5_38 hC dX5_sumOf_16 ?_
    refine z_sipush hC dX5_sumOf_19 zs_320 ?_
    refine z_il1 hC dX5_sumOf_22 ?_
    refine z_imulN hC dX5_sumOf_23 ?_
    refine z_bipush hC dX5_sumOf_24 zb_40 ?_
    refine z_il2 hC dX5_sumOf_26 ?_
    refine z_imulN hC dX5_sumOf_27 ?_
    refine z_iaddN hC dX5_sumOf_28 ?_
    refine z_il6 hC dX5_sumOf_29 ?_
    refine z_iaddN hC dX5_sumOf_31 ?_
    refine zal_29 hC (by omega) dX5_sumOf_32 ?_
    refine z_iadd hC dX5_sumOf_33 ?_
    refine z_is5 hC dX5_sumOf_34 (by decide) ?_
    refine z_inc6 hC dX5_sumOf_36 (by decide) ?_
    refine z_goto hC 6 dX5_sumOf_39 rfl ?_
    have ih2 := ih (by omega)
    rw [smT_s _ hv] at ih2
    exact ih2

set_option maxHeartbeats 2000000 in
theorem c_X5_isSilent (l : Launch) (X : zX) (G : zG) {r0 : Nat} (hr0 : r0 = za G 20 0) {h : Nat} (hh : h < 6) : zC l yX5_isSilent cX5_isSilent 2 (some FieldType.boolean) 1 0 X [.ref r0, .int (nI h)] G (zPi (fun r G2 => (mSilent G h = true ∧ r = nI 1 ∧ G = G2) ∨ (mSilent G h = false ∧ r = nI 0 ∧ G = G2))) := by
  subst hr0
  refine zC_of zpn_X5 (zcat rfl) (Nat.le_of_ble_eq_true rfl) ?_
  intro Z hC hE
  replace hC : zCtx l X cX5_isSilent RX5 2 1 0 Z := hC
  change Z 0 G 0 [some (.ref (za G 20 0)), some (.int (nI h))] []
  refine z_al0 hC dX5_isSilent_0 ?_
  refine zgf_X5_20 hC dX5_isSilent_1 ?_
  refine z_il1 hC dX5_isSilent_4 ?_
  refine zal_23 hC (by omega) dX5_isSilent_5 ?_
  refine z_if_ne hC 22 dX5_isSilent_6 rfl (fun h6 => ?_) (fun h6 => ?_)
  · refine z_iconst hC dX5_isSilent_22 zi_0 ?_
    exact z_retz0 hE (by omega) dX5_isSilent_23 (Or.inr ⟨by simp [mSilent, h6], rfl, rfl⟩)
  · refine z_al0 hC dX5_isSilent_9 ?_
    refine zgf_X5_45 hC dX5_isSilent_10 ?_
    refine z_il1 hC dX5_isSilent_13 ?_
    refine zal_31 hC (by omega) dX5_isSilent_14 ?_
    refine z_if_ne hC 22 dX5_isSilent_15 rfl (fun h15 => ?_) (fun h15 => ?_)
    · refine z_iconst hC dX5_isSilent_22 zi_0 ?_
      exact z_retz0 hE (by omega) dX5_isSilent_23 (Or.inr ⟨by simp [mSilent, h15], rfl, rfl⟩)
    · refine z_iconst hC dX5_isSilent_18 zi_1 ?_
      refine z_goto hC 23 dX5_isSilent_19 rfl ?_
      exact z_retz1 hE (by omega) dX5_isSilent_23 (Or.inl ⟨by simp [mSilent, h6, h15], rfl, rfl⟩)

set_option maxHeartbeats 2000000 in
theorem c_X5_latest (l : Launch) (X : zX) (G : zG) {r0 : Nat} (hr0 : r0 = za G 20 0) {f : Nat} (hf : f < 8) : zC l yX5_latest cX5_latest 4 (some FieldType.int) 2 0 X [.ref r0, .int (nI f)] G (zPi (fun r G2 => r = mLat G f ∧ G = G2)) := by
  subst hr0
  refine zC_of zpn_X5 (zcat rfl) (Nat.le_of_ble_eq_true rfl) ?_
  intro Z hC hE
  replace hC : zCtx l X cX5_latest RX5 4 2 0 Z := hC
  change Z 0 G 0 [some (.ref (za G 20 0)), some (.int (nI f)), none, none] []
  refine z_iconst hC dX5_latest_0 zi_0 ?_
  refine z_is2 hC dX5_latest_1 (by decide) ?_
  refine z_iconst hC dX5_latest_2 zi_0 ?_
  refine z_is3 hC dX5_latest_3 (by decide) ?_
  refine z_loop (N := 6) (fun n => Z 0 G 4 [some (.ref (za G 20 0)), some (.int (nI f)), some (.int (mMx (fun h => zg G 39 0 (6 * f + h)) n)), some (.int (nI n))] []) ?_ ?_ 0 (Nat.zero_le _)
  · change Z 0 G 4 [some (.ref (za G 20 0)), some (.int (nI f)), some (.int (mMx (fun h => zg G 39 0 (6 * f + h)) 6)), some (.int (nI 6))] []
    generalize hmm : mMx (fun h => zg G 39 0 (6 * f + h)) 6 = z0
    refine z_il3 hC dX5_latest_4 ?_
    refine z_bipush hC dX5_latest_5 zb_6 ?_
    refine z_icmp_ge hC 47 dX5_latest_7 rfl (fun _ => ?_) (fun h => absurd (nI_le (Nat.le_refl _) (by omega)) h)
    refine z_il2 hC dX5_latest_47 ?_
    refine z_cSi1 hC (c_X5_shown l X _) zm_X5_shown zi_X5_shown zk_X5_172 (by omega) (by decide) (by omega) (Nat.le_of_ble_eq_true rfl) dX5_latest_48 ?_
    rintro _ _ ⟨rfl, rfl⟩
    exact z_reti hE (by omega) dX5_latest_51 (⟨by unfold mLat; rw [hmm], rfl⟩)
  · intro n hn ih
    change Z 0 G 4 [some (.ref (za G 20 0)), some (.int (nI f)), some (.int (mMx (fun h => zg G 39 0 (6 * f + h)) n)), some (.int (nI n))] []
    replace ih : Z 0 G 4 [some (.ref (za G 20 0)), some (.int (nI f)), some (.int (mMx (fun h => zg G 39 0 (6 * f + h)) (n + 1))), some (.int (nI (n + 1)))] [] := ih
    refine z_il3 hC dX5_latest_4 ?_
    refine z_bipush hC dX5_latest_5 zb_6 ?_
    refine z_icmp_ge hC 47 dX5_latest_7 rfl (fun h => absurd h (nI_ge hn (by omega))) (fun _ => ?_)
    refine z_al0 hC dX5_latest_10 ?_
    refine zgf_X5_63 hC dX5_latest_11 ?_
    refine z_bipush hC dX5_latest_14 zb_6 ?_
    refine z_il1 hC dX5_latest_16 ?_
    refine z_imulN hC dX5_latest_17 ?_
    refine z_il3 hC dX5_latest_18 ?_
    refine z_iaddN hC dX5_latest_19 ?_
    refine zal_39 hC (by omega) dX5_latest_20 ?_
    refine z_il2 hC dX5_latest_21 ?_
    refine z_icmp_le hC 39 dX5_latest_22 rfl (fun h22 => ?_) (fun h22 => ?_)
    · refine z_il2 hC dX5_latest_39 ?_
      refine z_is2 hC dX5_latest_40 (by decide) ?_
      refine z_inc3 hC dX5_latest_41 (by decide) ?_
      refine z_goto hC 4 dX5_latest_44 rfl ?_
      rw [mMx_t h22] at ih
      exact ih
    · refine z_al0 hC dX5_latest_25 ?_
      refine zgf_X5_63 hC dX5_latest_26 ?_
      refine z_bipush hC dX5_latest_29 zb_6 ?_
      refine z_il1 hC dX5_latest_31 ?_
      refine z_imulN hC dX5_latest_32 ?_
      refine z_il3 hC dX5_latest_33 ?_
      refine z_iaddN hC dX5_latest_34 ?_
      refine zal_39 hC (by omega) dX5_latest_35 ?_
      refine z_goto hC 40 dX5_latest_36 rfl ?_
      refine z_is2 hC dX5_latest_40 (by decide) ?_
      refine z_inc3 hC dX5_latest_41 (by decide) ?_
      refine z_goto hC 4 dX5_latest_44 rfl ?_
      rw [mMx_f h22] at ih
      exact ih

set_option maxHeartbeats 2000000 in
theorem c_X5_costOf (l : Launch) (X : zX) (G : zG) {r0 : Nat} (hr0 : r0 = za G 20 0) {k : Int32} : zC l yX5_costOf cX5_costOf 4 (some FieldType.int) 1 0 X [.ref r0, .int k] G (zPi (fun r G2 => r = mCos G k 8 ∧ G = G2)) := by
  subst hr0
  refine zC_of zpn_X5 (zcat rfl) (Nat.le_of_ble_eq_true rfl) ?_
  intro Z hC hE
  replace hC : zCtx l X cX5_costOf RX5 4 1 0 Z := hC
  change Z 0 G 0 [some (.ref (za G 20 0)), some (.int k), none, none] []
  refine z_iconst hC dX5_costOf_0 zi_0 ?_
  refine z_is2 hC dX5_costOf_1 (by decide) ?_
  refine z_iconst hC dX5_costOf_2 zi_0 ?_
  refine z_is3 hC dX5_costOf_3 (by decide) ?_
  refine z_loop (N := 8) (fun n => Z 0 G 4 [some (.ref (za G 20 0)), some (.int k), some (.int (mCos G k n)), some (.int (nI n))] []) ?_ ?_ 0 (Nat.zero_le _)
  · change Z 0 G 4 [some (.ref (za G 20 0)), some (.int k), some (.int (mCos G k 8)), some (.int (nI 8))] []
    refine z_il3 hC dX5_costOf_4 ?_
    refine z_bipush hC dX5_costOf_5 zb_8 ?_
    refine z_icmp_ge hC 43 dX5_costOf_7 rfl (fun _ => ?_) (fun h => absurd (nI_le (Nat.le_refl _) (by omega)) h)
    refine z_il2 hC dX5_costOf_43 ?_
    exact z_reti hE (by omega) dX5_costOf_44 (⟨rfl, rfl⟩)
  · intro n hn ih
    change Z 0 G 4 [some (.ref (za G 20 0)), some (.int k), some (.int (mCos G k n)), some (.int (nI n))] []
    replace ih : Z 0 G 4 [some (.ref (za G 20 0)), some (.int k), some (.int (mCos G k (n + 1))), some (.int (nI (n + 1)))] [] := ih
    refine z_il3 hC dX5_costOf_4 ?_
    refine z_bipush hC dX5_costOf_5 zb_8 ?_
    refine z_icmp_ge hC 43 dX5_costOf_7 rfl (fun h => absurd h (nI_ge hn (by omega))) (fun _ => ?_)
    refine z_il2 hC dX5_costOf_10 ?_
    refine z_il1 hC dX5_costOf_11 ?_
    refine z_il3 hC dX5_costOf_12 ?_
    refine z_ishr hC dX5_costOf_13 ?_
    refine z_iconst hC dX5_costOf_14 zi_1 ?_
    refine z_iand hC dX5_costOf_15 ?_
    refine z_iconst hC dX5_costOf_16 zi_1 ?_
    refine z_icmp_ne hC 29 dX5_costOf_17 rfl (fun h17 => ?_) (fun h17 => ?_)
    · refine z_al0 hC dX5_costOf_29 ?_
      refine zgf_X5_87 hC dX5_costOf_30 ?_
      refine z_il3 hC dX5_costOf_33 ?_
      refine zal_50 hC (by omega) dX5_costOf_34 ?_
      refine z_iadd hC dX5_costOf_35 ?_
      refine z_is2 hC dX5_costOf_36 (by decide) ?_
      refine z_inc3 hC dX5_costOf_37 (by decide) ?_
      refine z_goto hC 4 dX5_costOf_40 rfl ?_
      rw [mCos_f h17] at ih
      exact ih
    · refine z_al0 hC dX5_costOf_20 ?_
      refine zgf_X5_72 hC dX5_costOf_21 ?_
      refine z_il3 hC dX5_costOf_24 ?_
      refine zal_42 hC (by omega) dX5_costOf_25 ?_
      refine z_goto hC 35 dX5_costOf_26 rfl ?_
      refine z_iadd hC dX5_costOf_35 ?_
      refine z_is2 hC dX5_costOf_36 (by decide) ?_
      refine z_inc3 hC dX5_costOf_37 (by decide) ?_
      refine z_goto hC 4 dX5_costOf_40 rfl ?_
      rw [mCos_t h17] at ih
      exact ih

set_option maxHeartbeats 2000000 in
theorem q_version (l : Launch) (X : zX) (G : zG) {r0 : Nat} (hr0 : r0 = za G 20 0) {vc rc td : Nat} (hI : mI G vc rc td) : zC l yX5_version cX5_version 3 (some FieldType.int) 1 0 X [.ref r0] G (zPi (fun r G2 => r = maVersion vc ∧ G2 = msVersion G vc)) := by
  subst hr0
  refine zC_of zpn_X5 (zcat rfl) (Nat.le_of_ble_eq_true rfl) ?_
  intro Z hC hE
  replace hC : zCtx l X cX5_version RX5 3 1 0 Z := hC
  change Z 0 G 0 [some (.ref (za G 20 0)), none, none] []
  obtain ⟨hvc, v1, v5, hrc, r12, htd, t39, htx, hgo, hru⟩ := hI
  refine z_al0 hC dX5_version_0 ?_
  refine zgf_X5_7 hC dX5_version_1 ?_
  refine z_top hvc ?_
  refine z_iconst hC dX5_version_4 zi_5 ?_
  refine z_icmp_ne hC 11 dX5_version_5 rfl (fun h5 => ?_) (fun h5 => ?_)
  · have hv5 : ¬ vc = 5 := fun h => h5 ((n5ne (by omega)).mpr h)
    refine z_iconst hC dX5_version_11 zi_0 ?_
    refine z_is1 hC dX5_version_12 (by decide) ?_
    refine z_loop (N := 8) (fun n => Z 0 (mCp G vc n) 13 [some (.ref (za (mCp G vc n) 20 0)), some (.int (nI n)), none] []) ?_ ?_ 0 (Nat.zero_le _)
    · change Z 0 (mCp G vc 8) 13 [some (.ref (za (mCp G vc 8) 20 0)), some (.int (nI 8)), none] []
      refine z_il1 hC dX5_version_13 ?_
      refine z_bipush hC dX5_version_14 zb_8 ?_
      refine z_icmp_ge hC 80 dX5_version_16 rfl (fun _ => ?_) (fun h => absurd (nI_le (Nat.le_refl _) (by omega)) h)
      refine z_al0 hC dX5_version_80 ?_
      refine z_dup hC dX5_version_81 rfl ?_
      refine zgf_X5_7 hC dX5_version_82 ?_
      refine z_top ((mCp_0 G vc 8 0).trans hvc) ?_
      refine z_iconst hC dX5_version_85 zi_1 ?_
      refine z_iaddN hC dX5_version_86 ?_
      refine zpf_X5_7 hC dX5_version_87 ?_
      refine z_al0 hC dX5_version_90 ?_
      refine zgf_X5_7 hC dX5_version_91 ?_
      refine z_top ((by simp [zg_zu]) : _ = nI (vc + 1)) ?_
      refine z_iconst hC dX5_version_94 zi_1 ?_
      refine z_isubN hC dX5_version_95 (by omega) ?_
      exact z_reti hE (by omega) dX5_version_96 (⟨by simp [maVersion, msVersion, hv5, h5], by simp [maVersion, msVersion, hv5, h5]⟩)
    · intro n hn ih
      change Z 0 (mCp G vc n) 13 [some (.ref (za (mCp G vc n) 20 0)), some (.int (nI n)), none] []
      replace ih : Z 0 (mCp G vc (n + 1)) 13 [some (.ref (za (mCp G vc (n + 1)) 20 0)), some (.int (nI (n + 1))), none] [] := ih
      refine z_il1 hC dX5_version_13 ?_
      refine z_bipush hC dX5_version_14 zb_8 ?_
      refine z_icmp_ge hC 80 dX5_version_16 rfl (fun h => absurd h (nI_ge hn (by omega))) (fun _ => ?_)
      refine z_iconst hC dX5_version_19 zi_0 ?_
      refine z_is2 hC dX5_version_20 (by decide) ?_
      refine zG0 (zuA_id (mCp G vc n) 21 0 (endF_0 (zg (mCp G vc n) 21 0) (40 * n + 8 * vc) (fun a => zg (mCp G vc n) 21 0 (40 * n + 8 * vc - 8 + a)))) ?_
      refine z_loop (N := 8) (fun k => Z 0 (zuA (mCp G vc n) 21 0 (endF (zg (mCp G vc n) 21 0) (40 * n + 8 * vc) (fun a => zg (mCp G vc n) 21 0 (40 * n + 8 * vc - 8 + a)) k)) 21 [some (.ref (za (mCp G vc n) 20 0)), some (.int (nI n)), some (.int (nI k))] []) ?_ ?_ 0 (Nat.zero_le _)
      · change Z 0 (zuA (mCp G vc n) 21 0 (endF (zg (mCp G vc n) 21 0) (40 * n + 8 * vc) (fun a => zg (mCp G vc n) 21 0 (40 * n + 8 * vc - 8 + a)) 8)) 21 [some (.ref (za (mCp G vc n) 20 0)), some (.int (nI n)), some (.int (nI 8))] []
        refine z_il2 hC dX5_version_21 ?_
        refine z_bipush hC dX5_version_22 zb_8 ?_
        refine z_icmp_ge hC 74 dX5_version_24 rfl (fun _ => ?_) (fun h => absurd (nI_le (Nat.le_refl _) (by omega)) h)
        refine z_inc1 hC dX5_version_74 (by decide) ?_
        refine z_goto hC 13 dX5_version_77 rfl ?_
        refine z_dr2 hC ?_
        rw [mCp_s] at ih
        exact ih
      · intro k hn21 ih21
        change Z 0 (zuA (mCp G vc n) 21 0 (endF (zg (mCp G vc n) 21 0) (40 * n + 8 * vc) (fun a => zg (mCp G vc n) 21 0 (40 * n + 8 * vc - 8 + a)) k)) 21 [some (.ref (za (mCp G vc n) 20 0)), some (.int (nI n)), some (.int (nI k))] []
        replace ih21 : Z 0 (zuA (mCp G vc n) 21 0 (endF (zg (mCp G vc n) 21 0) (40 * n + 8 * vc) (fun a => zg (mCp G vc n) 21 0 (40 * n + 8 * vc - 8 + a)) (k + 1))) 21 [some (.ref (za (mCp G vc n) 20 0)), some (.int (nI n)), some (.int (nI (k + 1)))] [] := ih21
        refine z_il2 hC dX5_version_21 ?_
        refine z_bipush hC dX5_version_22 zb_8 ?_
        refine z_icmp_ge hC 74 dX5_version_24 rfl (fun h => absurd h (nI_ge hn21 (by omega))) (fun _ => ?_)
        refine z_al0 hC dX5_version_27 ?_
        refine zgf_X5_13 hC dX5_version_28 ?_
        refine z_bipush hC dX5_version_31 zb_40 ?_
        refine z_il1 hC dX5_version_33 ?_
        refine z_imulN hC dX5_version_34 ?_
        refine z_bipush hC dX5_version_35 zb_8 ?_
        refine z_al0 hC dX5_version_37 ?_
        refine zgf_X5_7 hC dX5_version_38 ?_
        refine z_top ((by rw [zg_zuA, if_neg (by omega)]; exact (mCp_0 G vc n 0).trans hvc) : _ = nI vc) ?_
        refine z_imulN hC dX5_version_41 ?_
        refine z_iaddN hC dX5_version_42 ?_
        refine z_il2 hC dX5_version_43 ?_
        refine z_iaddN hC dX5_version_44 ?_
        refine z_al0 hC dX5_version_45 ?_
        refine zgf_X5_13 hC dX5_version_46 ?_
        refine z_bipush hC dX5_version_49 zb_40 ?_
        refine z_il1 hC dX5_version_51 ?_
        refine z_imulN hC dX5_version_52 ?_
        refine z_bipush hC dX5_version_53 zb_8 ?_
        refine z_al0 hC dX5_version_55 ?_
        refine zgf_X5_7 hC dX5_version_56 ?_
        refine z_top ((by rw [zg_zuA, if_neg (by omega)]; exact (mCp_0 G vc n 0).trans hvc) : _ = nI vc) ?_
        refine z_imulN hC dX5_version_59 ?_
        refine z_iaddN hC dX5_version_60 ?_
        refine z_bipush hC dX5_version_61 zb_8 ?_
        refine z_isubN hC dX5_version_63 (by omega) ?_
        refine z_il2 hC dX5_version_64 ?_
        refine z_iaddN hC dX5_version_65 ?_
        refine zal_21 hC (by omega) dX5_version_66 ?_
        refine z_top (endF_lo2 (mCp G vc n) 21 0 (40 * n + 8 * vc) _ (by omega)) ?_
        refine zas_21 hC (by omega) dX5_version_67 ?_
        refine z_inc2 hC dX5_version_68 (by decide) ?_
        refine z_goto hC 21 dX5_version_71 rfl ?_
        rw [zuA_put] at ih21
        exact ih21
  · have hv5 : vc = 5 := (n5ne (by omega)).mp h5
    refine z_bipush hC dX5_version_8 zb_m3 ?_
    exact z_reti hE (by omega) dX5_version_10 (⟨by simp [maVersion, msVersion, hv5, h5], by simp [maVersion, msVersion, hv5, h5]⟩)

set_option maxHeartbeats 2000000 in
theorem q_answer (l : Launch) (X : zX) (G : zG) {r0 : Nat} (hr0 : r0 = za G 20 0) {vc rc td : Nat} (hI : mI G vc rc td) {a b c d : Int32} : zC l yX5_answer cX5_answer 7 (some FieldType.int) 3 0 X [.ref r0, .int a, .int b, .int c, .int d] G (zPi (fun r G2 => r = maAnswer G vc a b c d ∧ G2 = msAnswer G vc a b c d)) := by
  subst hr0
  refine zC_of zpn_X5 (zcat rfl) (Nat.le_of_ble_eq_true rfl) ?_
  intro Z hC hE
  replace hC : zCtx l X cX5_answer RX5 7 3 0 Z := hC
  change Z 0 G 0 [some (.ref (za G 20 0)), some (.int a), some (.int b), some (.int c), some (.int d), none, none] []
  obtain ⟨hvc, v1, v5, hrc, r12, htd, t39, htx, hgo, hru⟩ := hI
  refine z_il1 hC dX5_answer_0 ?_
  refine z_cSi1 hC (c_X5_isFace l X _) zm_X5_isFace zi_X5_isFace zk_X5_97 (by omega) (by decide) (by omega) (Nat.le_of_ble_eq_true rfl) dX5_answer_1 ?_
  rintro _ _ (⟨aN, ha, rfl, rfl, rfl⟩ | ⟨na, rfl, rfl⟩)
  · have ta : zin (nI aN) 8 = true := zin_t ha (by omega)
    have qa : (nI aN).toNatClampNeg = aN := nI_clamp (by omega)
    refine z_if_eq hC 43 dX5_answer_4 rfl (fun h => absurd h (by decide)) (fun _ => ?_)
    refine z_al0 hC dX5_answer_7 ?_
    refine z_il2 hC dX5_answer_8 ?_
    refine z_cVi1 hC (c_X5_isVersion l X _ (by rfl) hvc v5) zm_X5_isVersion zi_X5_isVersion zo_20 zk_X5_101 (by omega) (by decide) (by omega) (Nat.le_of_ble_eq_true rfl) dX5_answer_9 ?_
    rintro _ _ (⟨bN, hb, rfl, rfl, rfl⟩ | ⟨nb, rfl, rfl⟩)
    · have tb : zin (nI bN) vc = true := zin_t hb (by omega)
      have qb : (nI bN).toNatClampNeg = bN := nI_clamp (by omega)
      refine z_if_eq hC 43 dX5_answer_12 rfl (fun h => absurd h (by decide)) (fun _ => ?_)
      refine z_il3 hC dX5_answer_15 ?_
      refine z_iconst hC dX5_answer_16 zi_0 ?_
      refine z_bipush hC dX5_answer_17 zb_7 ?_
      refine z_cSi3 hC (c_X5_in0 l X _ (by decide)) zm_X5_in zi_X5_in zk_X5_93 (by omega) (by decide) (by omega) (Nat.le_of_ble_eq_true rfl) dX5_answer_19 ?_
      rintro _ _ (⟨cN, hc, rfl, rfl, rfl⟩ | ⟨nc, rfl, rfl⟩)
      · have tc : zin (nI cN) 8 = true := zin_t hc (by omega)
        have qc : (nI cN).toNatClampNeg = cN := nI_clamp (by omega)
        refine z_if_eq hC 43 dX5_answer_22 rfl (fun h => absurd h (by decide)) (fun _ => ?_)
        refine z_il4 hC dX5_answer_25 ?_
        refine z_bipush hC dX5_answer_27 zb_m9 ?_
        refine z_icmp_eq hC 46 dX5_answer_29 rfl (fun h29 => ?_) (fun h29 => ?_)
        · refine z_bipush hC dX5_answer_46 zb_40 ?_
          refine z_il1 hC dX5_answer_48 ?_
          refine z_imulN hC dX5_answer_49 ?_
          refine z_bipush hC dX5_answer_50 zb_8 ?_
          refine z_il2 hC dX5_answer_52 ?_
          refine z_imulN hC dX5_answer_53 ?_
          refine z_iaddN hC dX5_answer_54 ?_
          refine z_il3 hC dX5_answer_55 ?_
          refine z_iaddN hC dX5_answer_56 ?_
          refine z_is5 hC dX5_answer_57 (by decide) ?_
          refine z_al0 hC dX5_answer_59 ?_
          refine zgf_X5_13 hC dX5_answer_60 ?_
          refine z_il5 hC dX5_answer_63 ?_
          refine zal_21 hC (by omega) dX5_answer_65 ?_
          refine z_is6 hC dX5_answer_66 (by decide) ?_
          refine z_al0 hC dX5_answer_68 ?_
          refine zgf_X5_13 hC dX5_answer_69 ?_
          refine z_il5 hC dX5_answer_72 ?_
          refine z_il4 hC dX5_answer_74 ?_
          refine z_bipush hC dX5_answer_76 zb_m9 ?_
          refine z_icmp_ne hC 85 dX5_answer_78 rfl (fun h => absurd h29 h) (fun _ => ?_)
          refine z_iconst hC dX5_answer_81 zi_0 ?_
          refine z_goto hC 89 dX5_answer_82 rfl ?_
          refine zas_21 hC (by omega) dX5_answer_89 ?_
          refine z_il6 hC dX5_answer_90 ?_
          refine z_if_ne hC 100 dX5_answer_92 rfl (fun h92 => ?_) (fun h92 => ?_)
          · refine z_il6 hC dX5_answer_100 ?_
            refine z_iconst hC dX5_answer_102 zi_1 ?_
            refine z_isub hC dX5_answer_103 ?_
            exact z_reti hE (by omega) dX5_answer_104 (⟨by simp [xoAnswer, maAnswer, msAnswer, mShown, mHide, nI_add, ta, qa, tb, qb, tc, qc, h29, h92], by simp [xoAnswer, maAnswer, msAnswer, mShown, mHide, nI_add, ta, qa, tb, qb, tc, qc, h29, h92]⟩)
          · refine z_bipush hC dX5_answer_95 zb_m9 ?_
            refine z_goto hC 104 dX5_answer_97 rfl ?_
            exact z_reti hE (by omega) dX5_answer_104 (⟨by simp [xoAnswer, maAnswer, msAnswer, mShown, mHide, nI_add, ta, qa, tb, qb, tc, qc, h29, h92], by simp [xoAnswer, maAnswer, msAnswer, mShown, mHide, nI_add, ta, qa, tb, qb, tc, qc, h29, h92]⟩)
        · refine z_il4 hC dX5_answer_32 ?_
          refine z_iconst hC dX5_answer_34 zi_0 ?_
          refine z_bipush hC dX5_answer_35 zb_9 ?_
          refine z_cSi3 hC (c_X5_in0 l X _ (by decide)) zm_X5_in zi_X5_in zk_X5_93 (by omega) (by decide) (by omega) (Nat.le_of_ble_eq_true rfl) dX5_answer_37 ?_
          rintro _ _ (⟨dN, hd, rfl, rfl, rfl⟩ | ⟨nd, rfl, rfl⟩)
          · have td : zin (nI dN) 10 = true := zin_t hd (by omega)
            have qd : (nI dN).toNatClampNeg = dN := nI_clamp (by omega)
            refine z_if_ne hC 46 dX5_answer_40 rfl (fun _ => ?_) (fun h => absurd h (by decide))
            refine z_bipush hC dX5_answer_46 zb_40 ?_
            refine z_il1 hC dX5_answer_48 ?_
            refine z_imulN hC dX5_answer_49 ?_
            refine z_bipush hC dX5_answer_50 zb_8 ?_
            refine z_il2 hC dX5_answer_52 ?_
            refine z_imulN hC dX5_answer_53 ?_
            refine z_iaddN hC dX5_answer_54 ?_
            refine z_il3 hC dX5_answer_55 ?_
            refine z_iaddN hC dX5_answer_56 ?_
            refine z_is5 hC dX5_answer_57 (by decide) ?_
            refine z_al0 hC dX5_answer_59 ?_
            refine zgf_X5_13 hC dX5_answer_60 ?_
            refine z_il5 hC dX5_answer_63 ?_
            refine zal_21 hC (by omega) dX5_answer_65 ?_
            refine z_is6 hC dX5_answer_66 (by decide) ?_
            refine z_al0 hC dX5_answer_68 ?_
            refine zgf_X5_13 hC dX5_answer_69 ?_
            refine z_il5 hC dX5_answer_72 ?_
            refine z_il4 hC dX5_answer_74 ?_
            refine z_bipush hC dX5_answer_76 zb_m9 ?_
            refine z_icmp_ne hC 85 dX5_answer_78 rfl (fun _ => ?_) (fun h => absurd h h29)
            refine z_il4 hC dX5_answer_85 ?_
            refine z_iconst hC dX5_answer_87 zi_1 ?_
            refine z_iaddN hC dX5_answer_88 ?_
            refine zas_21 hC (by omega) dX5_answer_89 ?_
            refine z_il6 hC dX5_answer_90 ?_
            refine z_if_ne hC 100 dX5_answer_92 rfl (fun h92 => ?_) (fun h92 => ?_)
            · refine z_il6 hC dX5_answer_100 ?_
              refine z_iconst hC dX5_answer_102 zi_1 ?_
              refine z_isub hC dX5_answer_103 ?_
              exact z_reti hE (by omega) dX5_answer_104 (⟨by simp [xoAnswer, maAnswer, msAnswer, mShown, mHide, nI_add, ta, qa, tb, qb, tc, qc, h29, td, qd, h92], by simp [xoAnswer, maAnswer, msAnswer, mShown, mHide, nI_add, ta, qa, tb, qb, tc, qc, h29, td, qd, h92]⟩)
            · refine z_bipush hC dX5_answer_95 zb_m9 ?_
              refine z_goto hC 104 dX5_answer_97 rfl ?_
              exact z_reti hE (by omega) dX5_answer_104 (⟨by simp [xoAnswer, maAnswer, msAnswer, mShown, mHide, nI_add, ta, qa, tb, qb, tc, qc, h29, td, qd, h92], by simp [xoAnswer, maAnswer, msAnswer, mShown, mHide, nI_add, ta, qa, tb, qb, tc, qc, h29, td, qd, h92]⟩)
          · replace nd : zin d 10 = false := nd
            refine z_if_ne hC 46 dX5_answer_40 rfl (fun h => absurd h (by decide)) (fun _ => ?_)
            refine z_bipush hC dX5_answer_43 zb_m2 ?_
            exact z_reti hE (by omega) dX5_answer_45 (⟨by simp [xoAnswer, maAnswer, msAnswer, mShown, mHide, nI_add, ta, qa, tb, qb, tc, qc, h29, nd], by simp [xoAnswer, maAnswer, msAnswer, mShown, mHide, nI_add, ta, qa, tb, qb, tc, qc, h29, nd]⟩)
      · replace nc : zin c 8 = false := nc
        refine z_if_eq hC 43 dX5_answer_22 rfl (fun _ => ?_) (fun h => absurd h (by decide))
        refine z_bipush hC dX5_answer_43 zb_m2 ?_
        exact z_reti hE (by omega) dX5_answer_45 (⟨by simp [xoAnswer, maAnswer, msAnswer, mShown, mHide, nI_add, ta, qa, tb, qb, nc], by simp [xoAnswer, maAnswer, msAnswer, mShown, mHide, nI_add, ta, qa, tb, qb, nc]⟩)
    · replace nb : zin b vc = false := nb
      refine z_if_eq hC 43 dX5_answer_12 rfl (fun _ => ?_) (fun h => absurd h (by decide))
      refine z_bipush hC dX5_answer_43 zb_m2 ?_
      exact z_reti hE (by omega) dX5_answer_45 (⟨by simp [xoAnswer, maAnswer, msAnswer, mShown, mHide, nI_add, ta, qa, nb], by simp [xoAnswer, maAnswer, msAnswer, mShown, mHide, nI_add, ta, qa, nb]⟩)
  · replace na : zin a 8 = false := na
    refine z_if_eq hC 43 dX5_answer_4 rfl (fun _ => ?_) (fun h => absurd h (by decide))
    refine z_bipush hC dX5_answer_43 zb_m2 ?_
    exact z_reti hE (by omega) dX5_answer_45 (⟨by simp [xoAnswer, maAnswer, msAnswer, mShown, mHide, nI_add, na], by simp [xoAnswer, maAnswer, msAnswer, mShown, mHide, nI_add, na]⟩)

set_option maxHeartbeats 2000000 in
theorem q_differ (l : Launch) (X : zX) (G : zG) {r0 : Nat} (hr0 : r0 = za G 20 0) {vc rc td : Nat} (hI : mI G vc rc td) {a b c : Int32} : zC l yX5_differ cX5_differ 4 (some FieldType.int) 3 0 X [.ref r0, .int a, .int b, .int c] G (zPi (fun r G2 => r = maDiffer G vc a b c ∧ G = G2)) := by
  subst hr0
  refine zC_of zpn_X5 (zcat rfl) (Nat.le_of_ble_eq_true rfl) ?_
  intro Z hC hE
  replace hC : zCtx l X cX5_differ RX5 4 3 0 Z := hC
  change Z 0 G 0 [some (.ref (za G 20 0)), some (.int a), some (.int b), some (.int c)] []
  obtain ⟨hvc, v1, v5, hrc, r12, htd, t39, htx, hgo, hru⟩ := hI
  refine z_il1 hC dX5_differ_0 ?_
  refine z_cSi1 hC (c_X5_isFace l X _) zm_X5_isFace zi_X5_isFace zk_X5_97 (by omega) (by decide) (by omega) (Nat.le_of_ble_eq_true rfl) dX5_differ_1 ?_
  rintro _ _ (⟨aN, ha, rfl, rfl, rfl⟩ | ⟨na, rfl, rfl⟩)
  · have ta : zin (nI aN) 8 = true := zin_t ha (by omega)
    have qa : (nI aN).toNatClampNeg = aN := nI_clamp (by omega)
    refine z_if_eq hC 33 dX5_differ_4 rfl (fun h => absurd h (by decide)) (fun _ => ?_)
    refine z_al0 hC dX5_differ_7 ?_
    refine z_il2 hC dX5_differ_8 ?_
    refine z_cVi1 hC (c_X5_isVersion l X _ (by rfl) hvc v5) zm_X5_isVersion zi_X5_isVersion zo_20 zk_X5_101 (by omega) (by decide) (by omega) (Nat.le_of_ble_eq_true rfl) dX5_differ_9 ?_
    rintro _ _ (⟨bN, hb, rfl, rfl, rfl⟩ | ⟨nb, rfl, rfl⟩)
    · have tb : zin (nI bN) vc = true := zin_t hb (by omega)
      have qb : (nI bN).toNatClampNeg = bN := nI_clamp (by omega)
      refine z_if_eq hC 33 dX5_differ_12 rfl (fun h => absurd h (by decide)) (fun _ => ?_)
      refine z_al0 hC dX5_differ_15 ?_
      refine z_il3 hC dX5_differ_16 ?_
      refine z_cVi1 hC (c_X5_isVersion l X _ (by rfl) hvc v5) zm_X5_isVersion zi_X5_isVersion zo_20 zk_X5_101 (by omega) (by decide) (by omega) (Nat.le_of_ble_eq_true rfl) dX5_differ_17 ?_
      rintro _ _ (⟨cN, hc, rfl, rfl, rfl⟩ | ⟨nc, rfl, rfl⟩)
      · have tc : zin (nI cN) vc = true := zin_t hc (by omega)
        have qc : (nI cN).toNatClampNeg = cN := nI_clamp (by omega)
        refine z_if_eq hC 33 dX5_differ_20 rfl (fun h => absurd h (by decide)) (fun _ => ?_)
        refine z_al0 hC dX5_differ_23 ?_
        refine z_il1 hC dX5_differ_24 ?_
        refine z_il2 hC dX5_differ_25 ?_
        refine z_il3 hC dX5_differ_26 ?_
        refine z_cVi3 hC (c_X5_differs l X _ (by rfl) (by omega) (by omega) (by omega)) zm_X5_differs zi_X5_differs zo_20 zk_X5_104 (by omega) (by decide) (by omega) (Nat.le_of_ble_eq_true rfl) dX5_differ_27 ?_
        rintro _ _ ⟨rfl, rfl⟩
        refine z_goto hC 34 dX5_differ_30 rfl ?_
        exact z_reti hE (by omega) dX5_differ_34 (⟨by simp [xoDiffer, maDiffer, ta, qa, tb, qb, tc, qc], rfl⟩)
      · replace nc : zin c vc = false := nc
        refine z_if_eq hC 33 dX5_differ_20 rfl (fun _ => ?_) (fun h => absurd h (by decide))
        refine z_iconst hC dX5_differ_33 zi_m1 ?_
        exact z_reti hE (by omega) dX5_differ_34 (⟨by simp [xoDiffer, maDiffer, ta, qa, tb, qb, nc], rfl⟩)
    · replace nb : zin b vc = false := nb
      refine z_if_eq hC 33 dX5_differ_12 rfl (fun _ => ?_) (fun h => absurd h (by decide))
      refine z_iconst hC dX5_differ_33 zi_m1 ?_
      exact z_reti hE (by omega) dX5_differ_34 (⟨by simp [xoDiffer, maDiffer, ta, qa, nb], rfl⟩)
  · replace na : zin a 8 = false := na
    refine z_if_eq hC 33 dX5_differ_4 rfl (fun _ => ?_) (fun h => absurd h (by decide))
    refine z_iconst hC dX5_differ_33 zi_m1 ?_
    exact z_reti hE (by omega) dX5_differ_34 (⟨by simp [xoDiffer, maDiffer, na], rfl⟩)

set_option maxHeartbeats 2000000 in
theorem q_goes (l : Launch) (X : zX) (G : zG) {r0 : Nat} (hr0 : r0 = za G 20 0) {vc rc td : Nat} (hI : mI G vc rc td) {a b : Int32} : zC l yX5_goes cX5_goes 4 (some FieldType.int) 3 0 X [.ref r0, .int a, .int b] G (zPi (fun r G2 => r = maGoes G vc a b ∧ G2 = msGoes G vc a b)) := by
  subst hr0
  refine zC_of zpn_X5 (zcat rfl) (Nat.le_of_ble_eq_true rfl) ?_
  intro Z hC hE
  replace hC : zCtx l X cX5_goes RX5 4 3 0 Z := hC
  change Z 0 G 0 [some (.ref (za G 20 0)), some (.int a), some (.int b), none] []
  obtain ⟨hvc, v1, v5, hrc, r12, htd, t39, htx, hgo, hru⟩ := hI
  refine z_il1 hC dX5_goes_0 ?_
  refine z_cSi1 hC (c_X5_isHouse l X _) zm_X5_isHouse zi_X5_isHouse zk_X5_108 (by omega) (by decide) (by omega) (Nat.le_of_ble_eq_true rfl) dX5_goes_1 ?_
  rintro _ _ (⟨aN, ha, rfl, rfl, rfl⟩ | ⟨na, rfl, rfl⟩)
  · have ta : zin (nI aN) 6 = true := zin_t ha (by omega)
    have qa : (nI aN).toNatClampNeg = aN := nI_clamp (by omega)
    obtain ⟨sz, h12, hsz, hT⟩ := htx aN ha
    obtain ⟨vv, hvv, hv⟩ := hgo aN ha
    have qsz : mSz G aN = sz := by unfold mSz; rw [hsz]; exact nI_clamp (by omega)
    have qv : (zg G 22 0 aN).toNatClampNeg = vv := by rw [hv]; exact nI_clamp (by omega)
    refine z_if_eq hC 15 dX5_goes_4 rfl (fun h => absurd h (by decide)) (fun _ => ?_)
    refine z_al0 hC dX5_goes_7 ?_
    refine z_il2 hC dX5_goes_8 ?_
    refine z_cVi1 hC (c_X5_isVersion l X _ (by rfl) hvc v5) zm_X5_isVersion zi_X5_isVersion zo_20 zk_X5_101 (by omega) (by decide) (by omega) (Nat.le_of_ble_eq_true rfl) dX5_goes_9 ?_
    rintro _ _ (⟨bN, hb, rfl, rfl, rfl⟩ | ⟨nb, rfl, rfl⟩)
    · have tb : zin (nI bN) vc = true := zin_t hb (by omega)
      have qb : (nI bN).toNatClampNeg = bN := nI_clamp (by omega)
      refine z_if_ne hC 17 dX5_goes_12 rfl (fun _ => ?_) (fun h => absurd h (by decide))
      refine z_al0 hC dX5_goes_17 ?_
      refine zgf_X5_17 hC dX5_goes_18 ?_
      refine z_il1 hC dX5_goes_21 ?_
      refine zal_22 hC (by omega) dX5_goes_22 ?_
      refine z_is3 hC dX5_goes_23 (by decide) ?_
      refine z_al0 hC dX5_goes_24 ?_
      refine zgf_X5_17 hC dX5_goes_25 ?_
      refine z_il1 hC dX5_goes_28 ?_
      refine z_il2 hC dX5_goes_29 ?_
      refine zas_22 hC (by omega) dX5_goes_30 ?_
      refine z_il3 hC dX5_goes_31 ?_
      exact z_reti hE (by omega) dX5_goes_32 (⟨by simp [xoGoes, maGoes, msGoes, ta, qa, qsz, qv, tb, qb], by simp [xoGoes, maGoes, msGoes, ta, qa, qsz, qv, tb, qb]⟩)
    · replace nb : zin b vc = false := nb
      refine z_if_ne hC 17 dX5_goes_12 rfl (fun h => absurd h (by decide)) (fun _ => ?_)
      refine z_iconst hC dX5_goes_15 zi_m1 ?_
      exact z_reti hE (by omega) dX5_goes_16 (⟨by simp [xoGoes, maGoes, msGoes, ta, qa, qsz, qv, nb], by simp [xoGoes, maGoes, msGoes, ta, qa, qsz, qv, nb]⟩)
  · replace na : zin a 6 = false := na
    refine z_if_eq hC 15 dX5_goes_4 rfl (fun _ => ?_) (fun h => absurd h (by decide))
    refine z_iconst hC dX5_goes_15 zi_m1 ?_
    exact z_reti hE (by omega) dX5_goes_16 (⟨by simp [xoGoes, maGoes, msGoes, na], by simp [xoGoes, maGoes, msGoes, na]⟩)

set_option maxHeartbeats 2000000 in
theorem q_call (l : Launch) (X : zX) (G : zG) {r0 : Nat} (hr0 : r0 = za G 20 0) {vc rc td : Nat} (hI : mI G vc rc td) {a b c : Int32} : zC l yX5_call cX5_call 4 (some FieldType.int) 3 0 X [.ref r0, .int a, .int b, .int c] G (zPi (fun r G2 => r = maCall G a b c ∧ G2 = msCall G a b c)) := by
  subst hr0
  refine zC_of zpn_X5 (zcat rfl) (Nat.le_of_ble_eq_true rfl) ?_
  intro Z hC hE
  replace hC : zCtx l X cX5_call RX5 4 3 0 Z := hC
  change Z 0 G 0 [some (.ref (za G 20 0)), some (.int a), some (.int b), some (.int c)] []
  obtain ⟨hvc, v1, v5, hrc, r12, htd, t39, htx, hgo, hru⟩ := hI
  refine z_il1 hC dX5_call_0 ?_
  refine z_cSi1 hC (c_X5_isHouse l X _) zm_X5_isHouse zi_X5_isHouse zk_X5_108 (by omega) (by decide) (by omega) (Nat.le_of_ble_eq_true rfl) dX5_call_1 ?_
  rintro _ _ (⟨aN, ha, rfl, rfl, rfl⟩ | ⟨na, rfl, rfl⟩)
  · have ta : zin (nI aN) 6 = true := zin_t ha (by omega)
    have qa : (nI aN).toNatClampNeg = aN := nI_clamp (by omega)
    obtain ⟨sz, h12, hsz, hT⟩ := htx aN ha
    obtain ⟨vv, hvv, hv⟩ := hgo aN ha
    have qsz : mSz G aN = sz := by unfold mSz; rw [hsz]; exact nI_clamp (by omega)
    have qv : (zg G 22 0 aN).toNatClampNeg = vv := by rw [hv]; exact nI_clamp (by omega)
    refine z_if_eq hC 34 dX5_call_4 rfl (fun h => absurd h (by decide)) (fun _ => ?_)
    refine z_il2 hC dX5_call_7 ?_
    refine z_cSi1 hC (c_X5_isFace l X _) zm_X5_isFace zi_X5_isFace zk_X5_97 (by omega) (by decide) (by omega) (Nat.le_of_ble_eq_true rfl) dX5_call_8 ?_
    rintro _ _ (⟨bN, hb, rfl, rfl, rfl⟩ | ⟨nb, rfl, rfl⟩)
    · have tb : zin (nI bN) 8 = true := zin_t hb (by omega)
      have qb : (nI bN).toNatClampNeg = bN := nI_clamp (by omega)
      refine z_if_eq hC 34 dX5_call_11 rfl (fun h => absurd h (by decide)) (fun _ => ?_)
      refine z_il3 hC dX5_call_14 ?_
      refine z_cSi1 hC (c_X5_isSet l X _) zm_X5_isSet zi_X5_isSet zk_X5_111 (by omega) (by decide) (by omega) (Nat.le_of_ble_eq_true rfl) dX5_call_15 ?_
      rintro _ _ (⟨cN, hc, rfl, rfl, rfl⟩ | ⟨nc, rfl, rfl⟩)
      · have tc : zin (nI cN) 256 = true := zin_t hc (by omega)
        have qc : (nI cN).toNatClampNeg = cN := nI_clamp (by omega)
        refine z_if_eq hC 34 dX5_call_18 rfl (fun h => absurd h (by decide)) (fun _ => ?_)
        refine z_al0 hC dX5_call_21 ?_
        refine z_il1 hC dX5_call_22 ?_
        refine z_iconst hC dX5_call_23 zi_0 ?_
        refine z_il2 hC dX5_call_24 ?_
        refine z_iconst hC dX5_call_25 zi_0 ?_
        refine z_iconst hC dX5_call_26 zi_0 ?_
        refine z_il3 hC dX5_call_27 ?_
        refine z_cVi6 hC (c_X5_comes l X _ (by rfl) ha hsz h12) zm_X5_comes zi_X5_comes zo_20 zk_X5_114 (by omega) (by decide) (by omega) (Nat.le_of_ble_eq_true rfl) dX5_call_28 ?_
        rintro _ _ (⟨hm, rfl, rfl⟩ | ⟨hm, rfl, rfl⟩)
        · refine z_goto hC 35 dX5_call_31 rfl ?_
          exact z_reti hE (by omega) dX5_call_35 (⟨by simp [xoCall, maCall, msCall, ta, qa, qsz, qv, tb, qb, tc, qc, hm], by simp [xoCall, maCall, msCall, ta, qa, qsz, qv, tb, qb, tc, qc, hm]⟩)
        · have hm3 : (sz = 12) = True := eq_true hm
          refine z_goto hC 35 dX5_call_31 rfl ?_
          exact z_reti hE (by omega) dX5_call_35 (⟨by simp [xoCall, maCall, msCall, ta, qa, qsz, qv, tb, qb, tc, qc, hm3], by simp [xoCall, maCall, msCall, ta, qa, qsz, qv, tb, qb, tc, qc, hm3]⟩)
      · replace nc : zin c 256 = false := nc
        refine z_if_eq hC 34 dX5_call_18 rfl (fun _ => ?_) (fun h => absurd h (by decide))
        refine z_iconst hC dX5_call_34 zi_m1 ?_
        exact z_reti hE (by omega) dX5_call_35 (⟨by simp [xoCall, maCall, msCall, ta, qa, qsz, qv, tb, qb, nc], by simp [xoCall, maCall, msCall, ta, qa, qsz, qv, tb, qb, nc]⟩)
    · replace nb : zin b 8 = false := nb
      refine z_if_eq hC 34 dX5_call_11 rfl (fun _ => ?_) (fun h => absurd h (by decide))
      refine z_iconst hC dX5_call_34 zi_m1 ?_
      exact z_reti hE (by omega) dX5_call_35 (⟨by simp [xoCall, maCall, msCall, ta, qa, qsz, qv, nb], by simp [xoCall, maCall, msCall, ta, qa, qsz, qv, nb]⟩)
  · replace na : zin a 6 = false := na
    refine z_if_eq hC 34 dX5_call_4 rfl (fun _ => ?_) (fun h => absurd h (by decide))
    refine z_iconst hC dX5_call_34 zi_m1 ?_
    exact z_reti hE (by omega) dX5_call_35 (⟨by simp [xoCall, maCall, msCall, na], by simp [xoCall, maCall, msCall, na]⟩)

set_option maxHeartbeats 2000000 in
theorem q_wrap (l : Launch) (X : zX) (G : zG) {r0 : Nat} (hr0 : r0 = za G 20 0) {vc rc td : Nat} (hI : mI G vc rc td) {a b c d : Int32} : zC l yX5_wrap cX5_wrap 5 (some FieldType.int) 3 0 X [.ref r0, .int a, .int b, .int c, .int d] G (zPi (fun r G2 => r = maWrap G a b c d ∧ G2 = msWrap G a b c d)) := by
  subst hr0
  refine zC_of zpn_X5 (zcat rfl) (Nat.le_of_ble_eq_true rfl) ?_
  intro Z hC hE
  replace hC : zCtx l X cX5_wrap RX5 5 3 0 Z := hC
  change Z 0 G 0 [some (.ref (za G 20 0)), some (.int a), some (.int b), some (.int c), some (.int d)] []
  obtain ⟨hvc, v1, v5, hrc, r12, htd, t39, htx, hgo, hru⟩ := hI
  refine z_il1 hC dX5_wrap_0 ?_
  refine z_cSi1 hC (c_X5_isHouse l X _) zm_X5_isHouse zi_X5_isHouse zk_X5_108 (by omega) (by decide) (by omega) (Nat.le_of_ble_eq_true rfl) dX5_wrap_1 ?_
  rintro _ _ (⟨aN, ha, rfl, rfl, rfl⟩ | ⟨na, rfl, rfl⟩)
  · have ta : zin (nI aN) 6 = true := zin_t ha (by omega)
    have qa : (nI aN).toNatClampNeg = aN := nI_clamp (by omega)
    obtain ⟨sz, h12, hsz, hT⟩ := htx aN ha
    obtain ⟨vv, hvv, hv⟩ := hgo aN ha
    have qsz : mSz G aN = sz := by unfold mSz; rw [hsz]; exact nI_clamp (by omega)
    have qv : (zg G 22 0 aN).toNatClampNeg = vv := by rw [hv]; exact nI_clamp (by omega)
    refine z_if_eq hC 48 dX5_wrap_4 rfl (fun h => absurd h (by decide)) (fun _ => ?_)
    refine z_al0 hC dX5_wrap_7 ?_
    refine z_il1 hC dX5_wrap_8 ?_
    refine z_il2 hC dX5_wrap_9 ?_
    refine z_cVi2 hC (c_X5_isLine l X _ (by rfl) ha hsz h12) zm_X5_isLine zi_X5_isLine zo_20 zk_X5_118 (by omega) (by decide) (by omega) (Nat.le_of_ble_eq_true rfl) dX5_wrap_10 ?_
    rintro _ _ (⟨bN, hb, rfl, rfl, rfl⟩ | ⟨nb, rfl, rfl⟩)
    · have tb : zin (nI bN) sz = true := zin_t hb (by omega)
      have qb : (nI bN).toNatClampNeg = bN := nI_clamp (by omega)
      refine z_if_eq hC 48 dX5_wrap_13 rfl (fun h => absurd h (by decide)) (fun _ => ?_)
      refine z_il3 hC dX5_wrap_16 ?_
      refine z_iconst hC dX5_wrap_17 zi_0 ?_
      refine z_bipush hC dX5_wrap_18 zb_7 ?_
      refine z_cSi3 hC (c_X5_in0 l X _ (by decide)) zm_X5_in zi_X5_in zk_X5_93 (by omega) (by decide) (by omega) (Nat.le_of_ble_eq_true rfl) dX5_wrap_20 ?_
      rintro _ _ (⟨cN, hc, rfl, rfl, rfl⟩ | ⟨nc, rfl, rfl⟩)
      · have tc : zin (nI cN) 8 = true := zin_t hc (by omega)
        have qc : (nI cN).toNatClampNeg = cN := nI_clamp (by omega)
        refine z_if_eq hC 48 dX5_wrap_23 rfl (fun h => absurd h (by decide)) (fun _ => ?_)
        refine z_il4 hC dX5_wrap_26 ?_
        refine z_cSi1 hC (c_X5_isSet l X _) zm_X5_isSet zi_X5_isSet zk_X5_111 (by omega) (by decide) (by omega) (Nat.le_of_ble_eq_true rfl) dX5_wrap_28 ?_
        rintro _ _ (⟨dN, hd, rfl, rfl, rfl⟩ | ⟨nd, rfl, rfl⟩)
        · have td : zin (nI dN) 256 = true := zin_t hd (by omega)
          have qd : (nI dN).toNatClampNeg = dN := nI_clamp (by omega)
          refine z_if_eq hC 48 dX5_wrap_31 rfl (fun h => absurd h (by decide)) (fun _ => ?_)
          refine z_al0 hC dX5_wrap_34 ?_
          refine z_il1 hC dX5_wrap_35 ?_
          refine z_iconst hC dX5_wrap_36 zi_1 ?_
          refine z_il2 hC dX5_wrap_37 ?_
          refine z_iconst hC dX5_wrap_38 zi_0 ?_
          refine z_il3 hC dX5_wrap_39 ?_
          refine z_il4 hC dX5_wrap_40 ?_
          refine z_cVi6 hC (c_X5_comes l X _ (by rfl) ha hsz h12) zm_X5_comes zi_X5_comes zo_20 zk_X5_114 (by omega) (by decide) (by omega) (Nat.le_of_ble_eq_true rfl) dX5_wrap_42 ?_
          rintro _ _ (⟨hm, rfl, rfl⟩ | ⟨hm, rfl, rfl⟩)
          · refine z_goto hC 49 dX5_wrap_45 rfl ?_
            exact z_reti hE (by omega) dX5_wrap_49 (⟨by simp [moWrap, maWrap, msWrap, ta, qa, qsz, qv, tb, qb, tc, qc, td, qd, hm], by simp [moWrap, maWrap, msWrap, ta, qa, qsz, qv, tb, qb, tc, qc, td, qd, hm]⟩)
          · have hm3 : (sz = 12) = True := eq_true hm
            refine z_goto hC 49 dX5_wrap_45 rfl ?_
            exact z_reti hE (by omega) dX5_wrap_49 (⟨by simp [moWrap, maWrap, msWrap, ta, qa, qsz, qv, tb, qb, tc, qc, td, qd, hm3], by simp [moWrap, maWrap, msWrap, ta, qa, qsz, qv, tb, qb, tc, qc, td, qd, hm3]⟩)
        · replace nd : zin d 256 = false := nd
          refine z_if_eq hC 48 dX5_wrap_31 rfl (fun _ => ?_) (fun h => absurd h (by decide))
          refine z_iconst hC dX5_wrap_48 zi_m1 ?_
          exact z_reti hE (by omega) dX5_wrap_49 (⟨by simp [moWrap, maWrap, msWrap, ta, qa, qsz, qv, tb, qb, tc, qc, nd], by simp [moWrap, maWrap, msWrap, ta, qa, qsz, qv, tb, qb, tc, qc, nd]⟩)
      · replace nc : zin c 8 = false := nc
        refine z_if_eq hC 48 dX5_wrap_23 rfl (fun _ => ?_) (fun h => absurd h (by decide))
        refine z_iconst hC dX5_wrap_48 zi_m1 ?_
        exact z_reti hE (by omega) dX5_wrap_49 (⟨by simp [moWrap, maWrap, msWrap, ta, qa, qsz, qv, tb, qb, nc], by simp [moWrap, maWrap, msWrap, ta, qa, qsz, qv, tb, qb, nc]⟩)
    · replace nb : zin b sz = false := nb
      refine z_if_eq hC 48 dX5_wrap_13 rfl (fun _ => ?_) (fun h => absurd h (by decide))
      refine z_iconst hC dX5_wrap_48 zi_m1 ?_
      exact z_reti hE (by omega) dX5_wrap_49 (⟨by simp [moWrap, maWrap, msWrap, ta, qa, qsz, qv, nb], by simp [moWrap, maWrap, msWrap, ta, qa, qsz, qv, nb]⟩)
  · replace na : zin a 6 = false := na
    refine z_if_eq hC 48 dX5_wrap_4 rfl (fun _ => ?_) (fun h => absurd h (by decide))
    refine z_iconst hC dX5_wrap_48 zi_m1 ?_
    exact z_reti hE (by omega) dX5_wrap_49 (⟨by simp [moWrap, maWrap, msWrap, na], by simp [moWrap, maWrap, msWrap, na]⟩)

set_option maxHeartbeats 2000000 in
theorem q_split (l : Launch) (X : zX) (G : zG) {r0 : Nat} (hr0 : r0 = za G 20 0) {vc rc td : Nat} (hI : mI G vc rc td) {a b c d e : Int32} : zC l yX5_split cX5_split 6 (some FieldType.int) 3 0 X [.ref r0, .int a, .int b, .int c, .int d, .int e] G (zPi (fun r G2 => r = maSplit G a b c d e ∧ G2 = msSplit G a b c d e)) := by
  subst hr0
  refine zC_of zpn_X5 (zcat rfl) (Nat.le_of_ble_eq_true rfl) ?_
  intro Z hC hE
  replace hC : zCtx l X cX5_split RX5 6 3 0 Z := hC
  change Z 0 G 0 [some (.ref (za G 20 0)), some (.int a), some (.int b), some (.int c), some (.int d), some (.int e)] []
  obtain ⟨hvc, v1, v5, hrc, r12, htd, t39, htx, hgo, hru⟩ := hI
  refine z_il1 hC dX5_split_0 ?_
  refine z_cSi1 hC (c_X5_isHouse l X _) zm_X5_isHouse zi_X5_isHouse zk_X5_108 (by omega) (by decide) (by omega) (Nat.le_of_ble_eq_true rfl) dX5_split_1 ?_
  rintro _ _ (⟨aN, ha, rfl, rfl, rfl⟩ | ⟨na, rfl, rfl⟩)
  · have ta : zin (nI aN) 6 = true := zin_t ha (by omega)
    have qa : (nI aN).toNatClampNeg = aN := nI_clamp (by omega)
    obtain ⟨sz, h12, hsz, hT⟩ := htx aN ha
    obtain ⟨vv, hvv, hv⟩ := hgo aN ha
    have qsz : mSz G aN = sz := by unfold mSz; rw [hsz]; exact nI_clamp (by omega)
    have qv : (zg G 22 0 aN).toNatClampNeg = vv := by rw [hv]; exact nI_clamp (by omega)
    refine z_if_eq hC 59 dX5_split_4 rfl (fun h => absurd h (by decide)) (fun _ => ?_)
    refine z_al0 hC dX5_split_7 ?_
    refine z_il1 hC dX5_split_8 ?_
    refine z_il2 hC dX5_split_9 ?_
    refine z_cVi2 hC (c_X5_isLine l X _ (by rfl) ha hsz h12) zm_X5_isLine zi_X5_isLine zo_20 zk_X5_118 (by omega) (by decide) (by omega) (Nat.le_of_ble_eq_true rfl) dX5_split_10 ?_
    rintro _ _ (⟨bN, hb, rfl, rfl, rfl⟩ | ⟨nb, rfl, rfl⟩)
    · have tb : zin (nI bN) sz = true := zin_t hb (by omega)
      have qb : (nI bN).toNatClampNeg = bN := nI_clamp (by omega)
      refine z_if_eq hC 59 dX5_split_13 rfl (fun h => absurd h (by decide)) (fun _ => ?_)
      refine z_al0 hC dX5_split_16 ?_
      refine z_il1 hC dX5_split_17 ?_
      refine z_il3 hC dX5_split_18 ?_
      refine z_cVi2 hC (c_X5_isLine l X _ (by rfl) ha hsz h12) zm_X5_isLine zi_X5_isLine zo_20 zk_X5_118 (by omega) (by decide) (by omega) (Nat.le_of_ble_eq_true rfl) dX5_split_19 ?_
      rintro _ _ (⟨cN, hc, rfl, rfl, rfl⟩ | ⟨nc, rfl, rfl⟩)
      · have tc : zin (nI cN) sz = true := zin_t hc (by omega)
        have qc : (nI cN).toNatClampNeg = cN := nI_clamp (by omega)
        refine z_if_eq hC 59 dX5_split_22 rfl (fun h => absurd h (by decide)) (fun _ => ?_)
        refine z_il4 hC dX5_split_25 ?_
        refine z_iconst hC dX5_split_27 zi_1 ?_
        refine z_bipush hC dX5_split_28 zb_7 ?_
        refine z_cSi3 hC (c_X5_in1 l X _ (by decide)) zm_X5_in zi_X5_in zk_X5_93 (by omega) (by decide) (by omega) (Nat.le_of_ble_eq_true rfl) dX5_split_30 ?_
        rintro _ _ (⟨dN, h1d, hd, rfl, rfl, rfl⟩ | ⟨nd, rfl, rfl⟩)
        · have td : zinL (nI dN) 7 = true := zinL_t h1d hd (by decide)
          have qd : (nI dN).toNatClampNeg = dN := nI_clamp (by omega)
          refine z_if_eq hC 59 dX5_split_33 rfl (fun h => absurd h (by decide)) (fun _ => ?_)
          refine z_il5 hC dX5_split_36 ?_
          refine z_cSi1 hC (c_X5_isSet l X _) zm_X5_isSet zi_X5_isSet zk_X5_111 (by omega) (by decide) (by omega) (Nat.le_of_ble_eq_true rfl) dX5_split_38 ?_
          rintro _ _ (⟨eN, he, rfl, rfl, rfl⟩ | ⟨ne, rfl, rfl⟩)
          · have te : zin (nI eN) 256 = true := zin_t he (by omega)
            have qe : (nI eN).toNatClampNeg = eN := nI_clamp (by omega)
            refine z_if_eq hC 59 dX5_split_41 rfl (fun h => absurd h (by decide)) (fun _ => ?_)
            refine z_al0 hC dX5_split_44 ?_
            refine z_il1 hC dX5_split_45 ?_
            refine z_iconst hC dX5_split_46 zi_2 ?_
            refine z_il2 hC dX5_split_47 ?_
            refine z_il3 hC dX5_split_48 ?_
            refine z_il4 hC dX5_split_49 ?_
            refine z_il5 hC dX5_split_51 ?_
            refine z_cVi6 hC (c_X5_comes l X _ (by rfl) ha hsz h12) zm_X5_comes zi_X5_comes zo_20 zk_X5_114 (by omega) (by decide) (by omega) (Nat.le_of_ble_eq_true rfl) dX5_split_53 ?_
            rintro _ _ (⟨hm, rfl, rfl⟩ | ⟨hm, rfl, rfl⟩)
            · refine z_goto hC 60 dX5_split_56 rfl ?_
              exact z_reti hE (by omega) dX5_split_60 (⟨by simp [moSplit, maSplit, msSplit, ta, qa, qsz, qv, tb, qb, tc, qc, td, qd, te, qe, hm], by simp [moSplit, maSplit, msSplit, ta, qa, qsz, qv, tb, qb, tc, qc, td, qd, te, qe, hm]⟩)
            · have hm3 : (sz = 12) = True := eq_true hm
              refine z_goto hC 60 dX5_split_56 rfl ?_
              exact z_reti hE (by omega) dX5_split_60 (⟨by simp [moSplit, maSplit, msSplit, ta, qa, qsz, qv, tb, qb, tc, qc, td, qd, te, qe, hm3], by simp [moSplit, maSplit, msSplit, ta, qa, qsz, qv, tb, qb, tc, qc, td, qd, te, qe, hm3]⟩)
          · replace ne : zin e 256 = false := ne
            refine z_if_eq hC 59 dX5_split_41 rfl (fun _ => ?_) (fun h => absurd h (by decide))
            refine z_iconst hC dX5_split_59 zi_m1 ?_
            exact z_reti hE (by omega) dX5_split_60 (⟨by simp [moSplit, maSplit, msSplit, ta, qa, qsz, qv, tb, qb, tc, qc, td, qd, ne], by simp [moSplit, maSplit, msSplit, ta, qa, qsz, qv, tb, qb, tc, qc, td, qd, ne]⟩)
        · refine z_if_eq hC 59 dX5_split_33 rfl (fun _ => ?_) (fun h => absurd h (by decide))
          refine z_iconst hC dX5_split_59 zi_m1 ?_
          exact z_reti hE (by omega) dX5_split_60 (⟨by simp [moSplit, maSplit, msSplit, ta, qa, qsz, qv, tb, qb, tc, qc, nd], by simp [moSplit, maSplit, msSplit, ta, qa, qsz, qv, tb, qb, tc, qc, nd]⟩)
      · replace nc : zin c sz = false := nc
        refine z_if_eq hC 59 dX5_split_22 rfl (fun _ => ?_) (fun h => absurd h (by decide))
        refine z_iconst hC dX5_split_59 zi_m1 ?_
        exact z_reti hE (by omega) dX5_split_60 (⟨by simp [moSplit, maSplit, msSplit, ta, qa, qsz, qv, tb, qb, nc], by simp [moSplit, maSplit, msSplit, ta, qa, qsz, qv, tb, qb, nc]⟩)
    · replace nb : zin b sz = false := nb
      refine z_if_eq hC 59 dX5_split_13 rfl (fun _ => ?_) (fun h => absurd h (by decide))
      refine z_iconst hC dX5_split_59 zi_m1 ?_
      exact z_reti hE (by omega) dX5_split_60 (⟨by simp [moSplit, maSplit, msSplit, ta, qa, qsz, qv, nb], by simp [moSplit, maSplit, msSplit, ta, qa, qsz, qv, nb]⟩)
  · replace na : zin a 6 = false := na
    refine z_if_eq hC 59 dX5_split_4 rfl (fun _ => ?_) (fun h => absurd h (by decide))
    refine z_iconst hC dX5_split_59 zi_m1 ?_
    exact z_reti hE (by omega) dX5_split_60 (⟨by simp [moSplit, maSplit, msSplit, na], by simp [moSplit, maSplit, msSplit, na]⟩)

set_option maxHeartbeats 2000000 in
theorem q_clear (l : Launch) (X : zX) (G : zG) {r0 : Nat} (hr0 : r0 = za G 20 0) {vc rc td : Nat} (hI : mI G vc rc td) {a : Int32} : zC l yX5_clear cX5_clear 3 (some FieldType.int) 3 0 X [.ref r0, .int a] G (zPi (fun r G2 => r = maClear G a ∧ G2 = msClear G a)) := by
  subst hr0
  refine zC_of zpn_X5 (zcat rfl) (Nat.le_of_ble_eq_true rfl) ?_
  intro Z hC hE
  replace hC : zCtx l X cX5_clear RX5 3 3 0 Z := hC
  change Z 0 G 0 [some (.ref (za G 20 0)), some (.int a), none] []
  obtain ⟨hvc, v1, v5, hrc, r12, htd, t39, htx, hgo, hru⟩ := hI
  refine z_il1 hC dX5_clear_0 ?_
  refine z_cSi1 hC (c_X5_isHouse l X _) zm_X5_isHouse zi_X5_isHouse zk_X5_108 (by omega) (by decide) (by omega) (Nat.le_of_ble_eq_true rfl) dX5_clear_1 ?_
  rintro _ _ (⟨aN, ha, rfl, rfl, rfl⟩ | ⟨na, rfl, rfl⟩)
  · have ta : zin (nI aN) 6 = true := zin_t ha (by omega)
    have qa : (nI aN).toNatClampNeg = aN := nI_clamp (by omega)
    obtain ⟨sz, h12, hsz, hT⟩ := htx aN ha
    obtain ⟨vv, hvv, hv⟩ := hgo aN ha
    have qsz : mSz G aN = sz := by unfold mSz; rw [hsz]; exact nI_clamp (by omega)
    have qv : (zg G 22 0 aN).toNatClampNeg = vv := by rw [hv]; exact nI_clamp (by omega)
    refine z_if_ne hC 9 dX5_clear_4 rfl (fun _ => ?_) (fun h => absurd h (by decide))
    refine z_al0 hC dX5_clear_9 ?_
    refine zgf_X5_20 hC dX5_clear_10 ?_
    refine z_il1 hC dX5_clear_13 ?_
    refine zal_23 hC (by omega) dX5_clear_14 ?_
    refine z_is2 hC dX5_clear_15 (by decide) ?_
    refine z_al0 hC dX5_clear_16 ?_
    refine zgf_X5_20 hC dX5_clear_17 ?_
    refine z_il1 hC dX5_clear_20 ?_
    refine z_iconst hC dX5_clear_21 zi_0 ?_
    refine zas_23 hC (by omega) dX5_clear_22 ?_
    refine z_il2 hC dX5_clear_23 ?_
    exact z_reti hE (by omega) dX5_clear_24 (⟨by simp [maClear, msClear, ta, qa, qsz, qv], by simp [maClear, msClear, ta, qa, qsz, qv]⟩)
  · replace na : zin a 6 = false := na
    refine z_if_ne hC 9 dX5_clear_4 rfl (fun h => absurd h (by decide)) (fun _ => ?_)
    refine z_iconst hC dX5_clear_7 zi_m1 ?_
    exact z_reti hE (by omega) dX5_clear_8 (⟨by simp [maClear, msClear, na], by simp [maClear, msClear, na]⟩)

set_option maxHeartbeats 2000000 in
theorem q_count (l : Launch) (X : zX) (G : zG) {r0 : Nat} (hr0 : r0 = za G 20 0) {vc rc td : Nat} (hI : mI G vc rc td) {a b c d e : Int32} : zC l yX5_count cX5_count 6 (some FieldType.int) 3 0 X [.ref r0, .int a, .int b, .int c, .int d, .int e] G (zPi (fun r G2 => r = maCount G td a b c d e ∧ G2 = msCount G td a b c d e)) := by
  subst hr0
  refine zC_of zpn_X5 (zcat rfl) (Nat.le_of_ble_eq_true rfl) ?_
  intro Z hC hE
  replace hC : zCtx l X cX5_count RX5 6 3 0 Z := hC
  change Z 0 G 0 [some (.ref (za G 20 0)), some (.int a), some (.int b), some (.int c), some (.int d), some (.int e)] []
  obtain ⟨hvc, v1, v5, hrc, r12, htd, t39, htx, hgo, hru⟩ := hI
  refine z_il1 hC dX5_count_0 ?_
  refine z_cSi1 hC (c_X5_isHouse l X _) zm_X5_isHouse zi_X5_isHouse zk_X5_108 (by omega) (by decide) (by omega) (Nat.le_of_ble_eq_true rfl) dX5_count_1 ?_
  rintro _ _ (⟨aN, ha, rfl, rfl, rfl⟩ | ⟨na, rfl, rfl⟩)
  · have ta : zin (nI aN) 6 = true := zin_t ha (by omega)
    have qa : (nI aN).toNatClampNeg = aN := nI_clamp (by omega)
    obtain ⟨sz, h12, hsz, hT⟩ := htx aN ha
    obtain ⟨vv, hvv, hv⟩ := hgo aN ha
    have qsz : mSz G aN = sz := by unfold mSz; rw [hsz]; exact nI_clamp (by omega)
    have qv : (zg G 22 0 aN).toNatClampNeg = vv := by rw [hv]; exact nI_clamp (by omega)
    refine z_if_eq hC 49 dX5_count_4 rfl (fun h => absurd h (by decide)) (fun _ => ?_)
    refine z_il2 hC dX5_count_7 ?_
    refine z_cSi1 hC (c_X5_isFace l X _) zm_X5_isFace zi_X5_isFace zk_X5_97 (by omega) (by decide) (by omega) (Nat.le_of_ble_eq_true rfl) dX5_count_8 ?_
    rintro _ _ (⟨bN, hb, rfl, rfl, rfl⟩ | ⟨nb, rfl, rfl⟩)
    · have tb : zin (nI bN) 8 = true := zin_t hb (by omega)
      have qb : (nI bN).toNatClampNeg = bN := nI_clamp (by omega)
      refine z_if_eq hC 49 dX5_count_11 rfl (fun h => absurd h (by decide)) (fun _ => ?_)
      refine z_il3 hC dX5_count_14 ?_
      refine z_iconst hC dX5_count_15 zi_0 ?_
      refine z_al0 hC dX5_count_16 ?_
      refine zgf_X5_90 hC dX5_count_17 ?_
      refine z_top htd ?_
      refine z_cSi3 hC (c_X5_in0 l X _ (by omega)) zm_X5_in zi_X5_in zk_X5_93 (by omega) (by decide) (by omega) (Nat.le_of_ble_eq_true rfl) dX5_count_20 ?_
      rintro _ _ (⟨cN, hc, rfl, rfl, rfl⟩ | ⟨nc, rfl, rfl⟩)
      · have tc : zin (nI cN) (td + 1) = true := zin_t hc (by omega)
        have qc : (nI cN).toNatClampNeg = cN := nI_clamp (by omega)
        refine z_if_eq hC 49 dX5_count_23 rfl (fun h => absurd h (by decide)) (fun _ => ?_)
        refine z_il4 hC dX5_count_26 ?_
        refine z_iconst hC dX5_count_28 zi_0 ?_
        refine z_sipush hC dX5_count_29 zs_1000 ?_
        refine z_cSi3 hC (c_X5_in0 l X _ (by decide)) zm_X5_in zi_X5_in zk_X5_93 (by omega) (by decide) (by omega) (Nat.le_of_ble_eq_true rfl) dX5_count_32 ?_
        rintro _ _ (⟨dN, hd, rfl, rfl, rfl⟩ | ⟨nd, rfl, rfl⟩)
        · have td : zin (nI dN) 1001 = true := zin_t hd (by omega)
          have qd : (nI dN).toNatClampNeg = dN := nI_clamp (by omega)
          refine z_if_eq hC 49 dX5_count_35 rfl (fun h => absurd h (by decide)) (fun _ => ?_)
          refine z_il5 hC dX5_count_38 ?_
          refine z_iconst hC dX5_count_40 zi_0 ?_
          refine z_bipush hC dX5_count_41 zb_99 ?_
          refine z_cSi3 hC (c_X5_in0 l X _ (by decide)) zm_X5_in zi_X5_in zk_X5_93 (by omega) (by decide) (by omega) (Nat.le_of_ble_eq_true rfl) dX5_count_43 ?_
          rintro _ _ (⟨eN, he, rfl, rfl, rfl⟩ | ⟨ne, rfl, rfl⟩)
          · have te : zin (nI eN) 100 = true := zin_t he (by omega)
            have qe : (nI eN).toNatClampNeg = eN := nI_clamp (by omega)
            refine z_if_ne hC 51 dX5_count_46 rfl (fun _ => ?_) (fun h => absurd h (by decide))
            refine z_al0 hC dX5_count_51 ?_
            refine zgf_X5_41 hC dX5_count_52 ?_
            refine z_bipush hC dX5_count_55 zb_100 ?_
            refine z_il1 hC dX5_count_57 ?_
            refine z_imulN hC dX5_count_58 ?_
            refine z_il5 hC dX5_count_59 ?_
            refine z_iaddN hC dX5_count_61 ?_
            refine zal_30 hC (by omega) dX5_count_62 ?_
            refine z_if_eq hC 68 dX5_count_63 rfl (fun h63 => ?_) (fun h63 => ?_)
            · refine z_al0 hC dX5_count_68 ?_
              refine zgf_X5_41 hC dX5_count_69 ?_
              refine z_bipush hC dX5_count_72 zb_100 ?_
              refine z_il1 hC dX5_count_74 ?_
              refine z_imulN hC dX5_count_75 ?_
              refine z_il5 hC dX5_count_76 ?_
              refine z_iaddN hC dX5_count_78 ?_
              refine z_iconst hC dX5_count_79 zi_1 ?_
              refine zas_30 hC (by omega) dX5_count_80 ?_
              refine z_al0 hC dX5_count_81 ?_
              refine zgf_X5_45 hC dX5_count_82 ?_
              refine z_il1 hC dX5_count_85 ?_
              refine z_iconst hC dX5_count_86 zi_1 ?_
              refine zas_31 hC (by omega) dX5_count_87 ?_
              refine z_al0 hC dX5_count_88 ?_
              refine zgf_X5_38 hC dX5_count_89 ?_
              refine z_sipush hC dX5_count_92 zs_320 ?_
              refine z_il1 hC dX5_count_95 ?_
              refine z_imulN hC dX5_count_96 ?_
              refine z_bipush hC dX5_count_97 zb_40 ?_
              refine z_il2 hC dX5_count_99 ?_
              refine z_imulN hC dX5_count_100 ?_
              refine z_iaddN hC dX5_count_101 ?_
              refine z_il3 hC dX5_count_102 ?_
              refine z_iaddN hC dX5_count_103 ?_
              refine z_dup2 hC dX5_count_104 rfl rfl ?_
              refine zal_29 hC (by omega) dX5_count_105 ?_
              refine z_top ((by simp [zg_zu]) : _ = zg G 29 0 (320 * aN + 40 * bN + cN)) ?_
              refine z_il4 hC dX5_count_106 ?_
              refine z_iadd hC dX5_count_108 ?_
              refine zas_29 hC (by omega) dX5_count_109 ?_
              refine z_il4 hC dX5_count_110 ?_
              refine z_if_le hC 151 dX5_count_112 rfl (fun h112 => ?_) (fun h112 => ?_)
              · refine z_iconst hC dX5_count_151 zi_1 ?_
                exact z_reti hE (by omega) dX5_count_152 (⟨by simp [moCount, maCount, msCount, mCt, mOpn, ta, qa, qsz, qv, tb, qb, tc, qc, td, qd, te, qe, h63, h112], by simp [moCount, maCount, msCount, mCt, mOpn, ta, qa, qsz, qv, tb, qb, tc, qc, td, qd, te, qe, h63, h112]⟩)
              · refine z_al0 hC dX5_count_115 ?_
                refine z_il2 hC dX5_count_116 ?_
                refine z_cVi1 hC (c_X5_isShut l X _ (by rfl) (by omega)) zm_X5_isShut zi_X5_isShut zo_20 zk_X5_150 (by omega) (by decide) (by omega) (Nat.le_of_ble_eq_true rfl) dX5_count_117 ?_
                rintro _ _ (⟨hsh117, rfl, rfl⟩ | ⟨hsh117, rfl, rfl⟩)
                · refine z_if_eq hC 151 dX5_count_120 rfl (fun h => absurd h (by decide)) (fun _ => ?_)
                  refine z_il3 hC dX5_count_123 ?_
                  refine z_al0 hC dX5_count_124 ?_
                  refine zgf_X5_66 hC dX5_count_125 ?_
                  refine z_il2 hC dX5_count_128 ?_
                  refine zal_40 hC (by omega) dX5_count_129 ?_
                  refine z_icmp_lt hC 151 dX5_count_130 rfl (fun h130 => ?_) (fun h130 => ?_)
                  · refine z_iconst hC dX5_count_151 zi_1 ?_
                    exact z_reti hE (by omega) dX5_count_152 (⟨by simp [moCount, maCount, msCount, mCt, mOpn, ta, qa, qsz, qv, tb, qb, tc, qc, td, qd, te, qe, h63, h112, hsh117, h130], by simp [moCount, maCount, msCount, mCt, mOpn, ta, qa, qsz, qv, tb, qb, tc, qc, td, qd, te, qe, h63, h112, hsh117, h130]⟩)
                  · refine z_al0 hC dX5_count_133 ?_
                    refine zgf_X5_66 hC dX5_count_134 ?_
                    refine z_il2 hC dX5_count_137 ?_
                    refine z_bipush hC dX5_count_138 zb_m9 ?_
                    refine zas_40 hC (by omega) dX5_count_140 ?_
                    refine z_al0 hC dX5_count_141 ?_
                    refine zgf_X5_69 hC dX5_count_142 ?_
                    refine z_il2 hC dX5_count_145 ?_
                    refine z_dup2 hC dX5_count_146 rfl rfl ?_
                    refine zal_41 hC (by omega) dX5_count_147 ?_
                    refine z_iconst hC dX5_count_148 zi_1 ?_
                    refine z_iadd hC dX5_count_149 ?_
                    refine zas_41 hC (by omega) dX5_count_150 ?_
                    refine z_iconst hC dX5_count_151 zi_1 ?_
                    exact z_reti hE (by omega) dX5_count_152 (⟨by simp [moCount, maCount, msCount, mCt, mOpn, ta, qa, qsz, qv, tb, qb, tc, qc, td, qd, te, qe, h63, h112, hsh117, h130], by simp [moCount, maCount, msCount, mCt, mOpn, ta, qa, qsz, qv, tb, qb, tc, qc, td, qd, te, qe, h63, h112, hsh117, h130]⟩)
                · refine z_if_eq hC 151 dX5_count_120 rfl (fun _ => ?_) (fun h => absurd h (by decide))
                  refine z_iconst hC dX5_count_151 zi_1 ?_
                  exact z_reti hE (by omega) dX5_count_152 (⟨by simp [moCount, maCount, msCount, mCt, mOpn, ta, qa, qsz, qv, tb, qb, tc, qc, td, qd, te, qe, h63, h112, hsh117], by simp [moCount, maCount, msCount, mCt, mOpn, ta, qa, qsz, qv, tb, qb, tc, qc, td, qd, te, qe, h63, h112, hsh117]⟩)
            · refine z_iconst hC dX5_count_66 zi_0 ?_
              exact z_reti hE (by omega) dX5_count_67 (⟨by simp [moCount, maCount, msCount, mCt, mOpn, ta, qa, qsz, qv, tb, qb, tc, qc, td, qd, te, qe, h63], by simp [moCount, maCount, msCount, mCt, mOpn, ta, qa, qsz, qv, tb, qb, tc, qc, td, qd, te, qe, h63]⟩)
          · replace ne : zin e 100 = false := ne
            refine z_if_ne hC 51 dX5_count_46 rfl (fun h => absurd h (by decide)) (fun _ => ?_)
            refine z_iconst hC dX5_count_49 zi_m1 ?_
            exact z_reti hE (by omega) dX5_count_50 (⟨by simp [moCount, maCount, msCount, mCt, mOpn, ta, qa, qsz, qv, tb, qb, tc, qc, td, qd, ne], by simp [moCount, maCount, msCount, mCt, mOpn, ta, qa, qsz, qv, tb, qb, tc, qc, td, qd, ne]⟩)
        · replace nd : zin d 1001 = false := nd
          refine z_if_eq hC 49 dX5_count_35 rfl (fun _ => ?_) (fun h => absurd h (by decide))
          refine z_iconst hC dX5_count_49 zi_m1 ?_
          exact z_reti hE (by omega) dX5_count_50 (⟨by simp [moCount, maCount, msCount, mCt, mOpn, ta, qa, qsz, qv, tb, qb, tc, qc, nd], by simp [moCount, maCount, msCount, mCt, mOpn, ta, qa, qsz, qv, tb, qb, tc, qc, nd]⟩)
      · replace nc : zin c (td + 1) = false := nc
        refine z_if_eq hC 49 dX5_count_23 rfl (fun _ => ?_) (fun h => absurd h (by decide))
        refine z_iconst hC dX5_count_49 zi_m1 ?_
        exact z_reti hE (by omega) dX5_count_50 (⟨by simp [moCount, maCount, msCount, mCt, mOpn, ta, qa, qsz, qv, tb, qb, nc], by simp [moCount, maCount, msCount, mCt, mOpn, ta, qa, qsz, qv, tb, qb, nc]⟩)
    · replace nb : zin b 8 = false := nb
      refine z_if_eq hC 49 dX5_count_11 rfl (fun _ => ?_) (fun h => absurd h (by decide))
      refine z_iconst hC dX5_count_49 zi_m1 ?_
      exact z_reti hE (by omega) dX5_count_50 (⟨by simp [moCount, maCount, msCount, mCt, mOpn, ta, qa, qsz, qv, nb], by simp [moCount, maCount, msCount, mCt, mOpn, ta, qa, qsz, qv, nb]⟩)
  · replace na : zin a 6 = false := na
    refine z_if_eq hC 49 dX5_count_4 rfl (fun _ => ?_) (fun h => absurd h (by decide))
    refine z_iconst hC dX5_count_49 zi_m1 ?_
    exact z_reti hE (by omega) dX5_count_50 (⟨by simp [moCount, maCount, msCount, mCt, mOpn, na], by simp [moCount, maCount, msCount, mCt, mOpn, na]⟩)

set_option maxHeartbeats 2000000 in
theorem q_sum (l : Launch) (X : zX) (G : zG) {r0 : Nat} (hr0 : r0 = za G 20 0) {vc rc td : Nat} (hI : mI G vc rc td) {a b c d : Int32} : zC l yX5_sum cX5_sum 5 (some FieldType.int) 3 0 X [.ref r0, .int a, .int b, .int c, .int d] G (zPi (fun r G2 => r = maSum G a b c d ∧ G = G2)) := by
  subst hr0
  refine zC_of zpn_X5 (zcat rfl) (Nat.le_of_ble_eq_true rfl) ?_
  intro Z hC hE
  replace hC : zCtx l X cX5_sum RX5 5 3 0 Z := hC
  change Z 0 G 0 [some (.ref (za G 20 0)), some (.int a), some (.int b), some (.int c), some (.int d)] []
  obtain ⟨hvc, v1, v5, hrc, r12, htd, t39, htx, hgo, hru⟩ := hI
  refine z_il1 hC dX5_sum_0 ?_
  refine z_cSi1 hC (c_X5_isHouse l X _) zm_X5_isHouse zi_X5_isHouse zk_X5_108 (by omega) (by decide) (by omega) (Nat.le_of_ble_eq_true rfl) dX5_sum_1 ?_
  rintro _ _ (⟨aN, ha, rfl, rfl, rfl⟩ | ⟨na, rfl, rfl⟩)
  · have ta : zin (nI aN) 6 = true := zin_t ha (by omega)
    have qa : (nI aN).toNatClampNeg = aN := nI_clamp (by omega)
    obtain ⟨sz, h12, hsz, hT⟩ := htx aN ha
    obtain ⟨vv, hvv, hv⟩ := hgo aN ha
    have qsz : mSz G aN = sz := by unfold mSz; rw [hsz]; exact nI_clamp (by omega)
    have qv : (zg G 22 0 aN).toNatClampNeg = vv := by rw [hv]; exact nI_clamp (by omega)
    refine z_if_eq hC 35 dX5_sum_4 rfl (fun h => absurd h (by decide)) (fun _ => ?_)
    refine z_il2 hC dX5_sum_7 ?_
    refine z_cSi1 hC (c_X5_isFace l X _) zm_X5_isFace zi_X5_isFace zk_X5_97 (by omega) (by decide) (by omega) (Nat.le_of_ble_eq_true rfl) dX5_sum_8 ?_
    rintro _ _ (⟨bN, hb, rfl, rfl, rfl⟩ | ⟨nb, rfl, rfl⟩)
    · have tb : zin (nI bN) 8 = true := zin_t hb (by omega)
      have qb : (nI bN).toNatClampNeg = bN := nI_clamp (by omega)
      refine z_if_eq hC 35 dX5_sum_11 rfl (fun h => absurd h (by decide)) (fun _ => ?_)
      refine z_il3 hC dX5_sum_14 ?_
      refine z_il4 hC dX5_sum_15 ?_
      refine z_cSi2 hC (c_X5_isSpan l X _) zm_X5_isSpan zi_X5_isSpan zk_X5_153 (by omega) (by decide) (by omega) (Nat.le_of_ble_eq_true rfl) dX5_sum_17 ?_
      rintro _ _ (⟨cN, dN, hc, hd, rfl, rfl, rfl, rfl⟩ | ⟨nc, rfl, rfl⟩)
      · have tc : zspan (nI cN) (nI dN) = true := zspan_t hc hd
        have qc : (nI cN).toNatClampNeg = cN := nI_clamp (by omega)
        have qd : (nI dN).toNatClampNeg = dN := nI_clamp (by omega)
        refine z_if_eq hC 35 dX5_sum_20 rfl (fun h => absurd h (by decide)) (fun _ => ?_)
        refine z_al0 hC dX5_sum_23 ?_
        refine z_il1 hC dX5_sum_24 ?_
        refine z_il2 hC dX5_sum_25 ?_
        refine z_il3 hC dX5_sum_26 ?_
        refine z_il4 hC dX5_sum_27 ?_
        refine z_cVi4 hC (c_X5_sumOf l X _ (by rfl) (by omega) (by omega) (by omega) (by omega)) zm_X5_sumOf zi_X5_sumOf zo_20 zk_X5_156 (by omega) (by decide) (by omega) (Nat.le_of_ble_eq_true rfl) dX5_sum_29 ?_
        rintro _ _ ⟨rfl, rfl⟩
        refine z_goto hC 36 dX5_sum_32 rfl ?_
        exact z_reti hE (by omega) dX5_sum_36 (⟨by simp [xoSum, maSum, ta, qa, qsz, qv, tb, qb, tc, qc, qd], rfl⟩)
      · refine z_if_eq hC 35 dX5_sum_20 rfl (fun _ => ?_) (fun h => absurd h (by decide))
        refine z_iconst hC dX5_sum_35 zi_m1 ?_
        exact z_reti hE (by omega) dX5_sum_36 (⟨by simp [xoSum, maSum, ta, qa, qsz, qv, tb, qb, nc], rfl⟩)
    · replace nb : zin b 8 = false := nb
      refine z_if_eq hC 35 dX5_sum_11 rfl (fun _ => ?_) (fun h => absurd h (by decide))
      refine z_iconst hC dX5_sum_35 zi_m1 ?_
      exact z_reti hE (by omega) dX5_sum_36 (⟨by simp [xoSum, maSum, ta, qa, qsz, qv, nb], rfl⟩)
  · replace na : zin a 6 = false := na
    refine z_if_eq hC 35 dX5_sum_4 rfl (fun _ => ?_) (fun h => absurd h (by decide))
    refine z_iconst hC dX5_sum_35 zi_m1 ?_
    exact z_reti hE (by omega) dX5_sum_36 (⟨by simp [xoSum, maSum, na], rfl⟩)

set_option maxHeartbeats 2000000 in
theorem q_silent (l : Launch) (X : zX) (G : zG) {r0 : Nat} (hr0 : r0 = za G 20 0) {vc rc td : Nat} (hI : mI G vc rc td) {a : Int32} : zC l yX5_silent cX5_silent 2 (some FieldType.int) 3 0 X [.ref r0, .int a] G (zPi (fun r G2 => r = maSilent G a ∧ G = G2)) := by
  subst hr0
  refine zC_of zpn_X5 (zcat rfl) (Nat.le_of_ble_eq_true rfl) ?_
  intro Z hC hE
  replace hC : zCtx l X cX5_silent RX5 2 3 0 Z := hC
  change Z 0 G 0 [some (.ref (za G 20 0)), some (.int a)] []
  obtain ⟨hvc, v1, v5, hrc, r12, htd, t39, htx, hgo, hru⟩ := hI
  refine z_il1 hC dX5_silent_0 ?_
  refine z_cSi1 hC (c_X5_isHouse l X _) zm_X5_isHouse zi_X5_isHouse zk_X5_108 (by omega) (by decide) (by omega) (Nat.le_of_ble_eq_true rfl) dX5_silent_1 ?_
  rintro _ _ (⟨aN, ha, rfl, rfl, rfl⟩ | ⟨na, rfl, rfl⟩)
  · have ta : zin (nI aN) 6 = true := zin_t ha (by omega)
    have qa : (nI aN).toNatClampNeg = aN := nI_clamp (by omega)
    obtain ⟨sz, h12, hsz, hT⟩ := htx aN ha
    obtain ⟨vv, hvv, hv⟩ := hgo aN ha
    have qsz : mSz G aN = sz := by unfold mSz; rw [hsz]; exact nI_clamp (by omega)
    have qv : (zg G 22 0 aN).toNatClampNeg = vv := by rw [hv]; exact nI_clamp (by omega)
    refine z_if_ne hC 11 dX5_silent_4 rfl (fun _ => ?_) (fun h => absurd h (by decide))
    refine z_al0 hC dX5_silent_11 ?_
    refine z_il1 hC dX5_silent_12 ?_
    refine z_cVi1 hC (c_X5_isSilent l X _ (by rfl) (by omega)) zm_X5_isSilent zi_X5_isSilent zo_20 zk_X5_160 (by omega) (by decide) (by omega) (Nat.le_of_ble_eq_true rfl) dX5_silent_13 ?_
    rintro _ _ (⟨hsi13, rfl, rfl⟩ | ⟨hsi13, rfl, rfl⟩)
    · refine z_if_eq hC 23 dX5_silent_16 rfl (fun h => absurd h (by decide)) (fun _ => ?_)
      refine z_iconst hC dX5_silent_19 zi_1 ?_
      refine z_goto hC 24 dX5_silent_20 rfl ?_
      exact z_reti hE (by omega) dX5_silent_24 (⟨by simp [maSilent, ta, qa, qsz, qv, hsi13], rfl⟩)
    · refine z_if_eq hC 23 dX5_silent_16 rfl (fun _ => ?_) (fun h => absurd h (by decide))
      refine z_iconst hC dX5_silent_23 zi_0 ?_
      exact z_reti hE (by omega) dX5_silent_24 (⟨by simp [maSilent, ta, qa, qsz, qv, hsi13], rfl⟩)
  · replace na : zin a 6 = false := na
    refine z_if_ne hC 11 dX5_silent_4 rfl (fun h => absurd h (by decide)) (fun _ => ?_)
    refine z_iconst hC dX5_silent_7 zi_m1 ?_
    refine z_goto hC 24 dX5_silent_8 rfl ?_
    exact z_reti hE (by omega) dX5_silent_24 (⟨by simp [maSilent, na], rfl⟩)

set_option maxHeartbeats 2000000 in
theorem q_most (l : Launch) (X : zX) (G : zG) {r0 : Nat} (hr0 : r0 = za G 20 0) {vc rc td : Nat} (hI : mI G vc rc td) {a b c : Int32} : zC l yX5_most cX5_most 6 (some FieldType.int) 3 0 X [.ref r0, .int a, .int b, .int c] G (zPi (fun r G2 => r = maMost G a b c ∧ G = G2)) := by
  subst hr0
  refine zC_of zpn_X5 (zcat rfl) (Nat.le_of_ble_eq_true rfl) ?_
  intro Z hC hE
  replace hC : zCtx l X cX5_most RX5 6 3 0 Z := hC
  change Z 0 G 0 [some (.ref (za G 20 0)), some (.int a), some (.int b), some (.int c), none, none] []
  obtain ⟨hvc, v1, v5, hrc, r12, htd, t39, htx, hgo, hru⟩ := hI
  refine z_il1 hC dX5_most_0 ?_
  refine z_cSi1 hC (c_X5_isFace l X _) zm_X5_isFace zi_X5_isFace zk_X5_97 (by omega) (by decide) (by omega) (Nat.le_of_ble_eq_true rfl) dX5_most_1 ?_
  rintro _ _ (⟨aN, ha, rfl, rfl, rfl⟩ | ⟨na, rfl, rfl⟩)
  · have ta : zin (nI aN) 8 = true := zin_t ha (by omega)
    have qa : (nI aN).toNatClampNeg = aN := nI_clamp (by omega)
    refine z_if_eq hC 15 dX5_most_4 rfl (fun h => absurd h (by decide)) (fun _ => ?_)
    refine z_il2 hC dX5_most_7 ?_
    refine z_il3 hC dX5_most_8 ?_
    refine z_cSi2 hC (c_X5_isSpan l X _) zm_X5_isSpan zi_X5_isSpan zk_X5_153 (by omega) (by decide) (by omega) (Nat.le_of_ble_eq_true rfl) dX5_most_9 ?_
    rintro _ _ (⟨bN, cN, hb, hc, rfl, rfl, rfl, rfl⟩ | ⟨nb, rfl, rfl⟩)
    · have tb : zspan (nI bN) (nI cN) = true := zspan_t hb hc
      have qb : (nI bN).toNatClampNeg = bN := nI_clamp (by omega)
      have qc : (nI cN).toNatClampNeg = cN := nI_clamp (by omega)
      refine z_if_ne hC 17 dX5_most_12 rfl (fun _ => ?_) (fun h => absurd h (by decide))
      refine z_iconst hC dX5_most_17 zi_0 ?_
      refine z_is4 hC dX5_most_18 (by decide) ?_
      refine z_iconst hC dX5_most_20 zi_0 ?_
      refine z_is5 hC dX5_most_21 (by decide) ?_
      refine z_loop (N := 6) (fun n => Z 0 G 23 [some (.ref (za G 20 0)), some (.int (nI aN)), some (.int (nI bN)), some (.int (nI cN)), some (.int (mMo G aN bN cN ((nI cN - nI bN) + nI 1) n)), some (.int (nI n))] []) ?_ ?_ 0 (Nat.zero_le _)
      · change Z 0 G 23 [some (.ref (za G 20 0)), some (.int (nI aN)), some (.int (nI bN)), some (.int (nI cN)), some (.int (mMo G aN bN cN ((nI cN - nI bN) + nI 1) 6)), some (.int (nI 6))] []
        refine z_il5 hC dX5_most_23 ?_
        refine z_bipush hC dX5_most_25 zb_6 ?_
        refine z_icmp_ge hC 72 dX5_most_27 rfl (fun _ => ?_) (fun h => absurd (nI_le (Nat.le_refl _) (by omega)) h)
        refine z_il4 hC dX5_most_72 ?_
        exact z_reti hE (by omega) dX5_most_74 (⟨by simp [xoMost, maMost, ta, qa, tb, qb, qc], rfl⟩)
      · intro n hn ih
        change Z 0 G 23 [some (.ref (za G 20 0)), some (.int (nI aN)), some (.int (nI bN)), some (.int (nI cN)), some (.int (mMo G aN bN cN ((nI cN - nI bN) + nI 1) n)), some (.int (nI n))] []
        replace ih : Z 0 G 23 [some (.ref (za G 20 0)), some (.int (nI aN)), some (.int (nI bN)), some (.int (nI cN)), some (.int (mMo G aN bN cN ((nI cN - nI bN) + nI 1) (n + 1))), some (.int (nI (n + 1)))] [] := ih
        refine z_il5 hC dX5_most_23 ?_
        refine z_bipush hC dX5_most_25 zb_6 ?_
        refine z_icmp_ge hC 72 dX5_most_27 rfl (fun h => absurd h (nI_ge hn (by omega))) (fun _ => ?_)
        refine z_il4 hC dX5_most_30 ?_
        refine z_al0 hC dX5_most_32 ?_
        refine z_il5 hC dX5_most_33 ?_
        refine z_cVi1 hC (c_X5_isSilent l X _ (by rfl) (by omega)) zm_X5_isSilent zi_X5_isSilent zo_20 zk_X5_160 (by omega) (by decide) (by omega) (Nat.le_of_ble_eq_true rfl) dX5_most_35 ?_
        rintro _ _ (⟨hsi35, rfl, rfl⟩ | ⟨hsi35, rfl, rfl⟩)
        · refine z_if_eq hC 54 dX5_most_38 rfl (fun h => absurd h (by decide)) (fun _ => ?_)
          refine z_al0 hC dX5_most_41 ?_
          refine zgf_X5_48 hC dX5_most_42 ?_
          refine z_il3 hC dX5_most_45 ?_
          refine z_il2 hC dX5_most_46 ?_
          refine z_isub hC dX5_most_47 ?_
          refine z_iconst hC dX5_most_48 zi_1 ?_
          refine z_iadd hC dX5_most_49 ?_
          refine z_imul hC dX5_most_50 ?_
          refine z_goto hC 63 dX5_most_51 rfl ?_
          refine z_iadd hC dX5_most_63 ?_
          refine z_is4 hC dX5_most_64 (by decide) ?_
          refine z_inc5 hC dX5_most_66 (by decide) ?_
          refine z_goto hC 23 dX5_most_69 rfl ?_
          rw [mMo_t hsi35] at ih
          exact ih
        · refine z_if_eq hC 54 dX5_most_38 rfl (fun _ => ?_) (fun h => absurd h (by decide))
          refine z_al0 hC dX5_most_54 ?_
          refine z_il5 hC dX5_most_55 ?_
          refine z_il1 hC dX5_most_57 ?_
          refine z_il2 hC dX5_most_58 ?_
          refine z_il3 hC dX5_most_59 ?_
          refine z_cVi4 hC (c_X5_sumOf l X _ (by rfl) (by omega) (by omega) (by omega) (by omega)) zm_X5_sumOf zi_X5_sumOf zo_20 zk_X5_156 (by omega) (by decide) (by omega) (Nat.le_of_ble_eq_true rfl) dX5_most_60 ?_
          rintro _ _ ⟨rfl, rfl⟩
          refine z_iadd hC dX5_most_63 ?_
          refine z_is4 hC dX5_most_64 (by decide) ?_
          refine z_inc5 hC dX5_most_66 (by decide) ?_
          refine z_goto hC 23 dX5_most_69 rfl ?_
          rw [mMo_f hsi35] at ih
          exact ih
    · refine z_if_ne hC 17 dX5_most_12 rfl (fun h => absurd h (by decide)) (fun _ => ?_)
      refine z_iconst hC dX5_most_15 zi_m1 ?_
      exact z_reti hE (by omega) dX5_most_16 (⟨by simp [xoMost, maMost, ta, qa, nb], rfl⟩)
  · replace na : zin a 8 = false := na
    refine z_if_eq hC 15 dX5_most_4 rfl (fun _ => ?_) (fun h => absurd h (by decide))
    refine z_iconst hC dX5_most_15 zi_m1 ?_
    exact z_reti hE (by omega) dX5_most_16 (⟨by simp [xoMost, maMost, na], rfl⟩)

set_option maxHeartbeats 2000000 in
theorem q_rule (l : Launch) (X : zX) (G : zG) {r0 : Nat} (hr0 : r0 = za G 20 0) {vc rc td : Nat} (hI : mI G vc rc td) {a b c d : Int32} : zC l yX5_rule cX5_rule 5 (some FieldType.int) 3 0 X [.ref r0, .int a, .int b, .int c, .int d] G (zPi (fun r G2 => r = maRule rc a b c d ∧ G2 = msRule G rc a b c d)) := by
  subst hr0
  refine zC_of zpn_X5 (zcat rfl) (Nat.le_of_ble_eq_true rfl) ?_
  intro Z hC hE
  replace hC : zCtx l X cX5_rule RX5 5 3 0 Z := hC
  change Z 0 G 0 [some (.ref (za G 20 0)), some (.int a), some (.int b), some (.int c), some (.int d)] []
  obtain ⟨hvc, v1, v5, hrc, r12, htd, t39, htx, hgo, hru⟩ := hI
  refine z_il1 hC dX5_rule_0 ?_
  refine z_cSi1 hC (c_X5_isFace l X _) zm_X5_isFace zi_X5_isFace zk_X5_97 (by omega) (by decide) (by omega) (Nat.le_of_ble_eq_true rfl) dX5_rule_1 ?_
  rintro _ _ (⟨aN, ha, rfl, rfl, rfl⟩ | ⟨na, rfl, rfl⟩)
  · have ta : zin (nI aN) 8 = true := zin_t ha (by omega)
    have qa : (nI aN).toNatClampNeg = aN := nI_clamp (by omega)
    refine z_if_eq hC 36 dX5_rule_4 rfl (fun h => absurd h (by decide)) (fun _ => ?_)
    refine z_il2 hC dX5_rule_7 ?_
    refine z_iconst hC dX5_rule_8 zi_1 ?_
    refine z_sipush hC dX5_rule_9 zs_255 ?_
    refine z_cSi3 hC (c_X5_in1 l X _ (by decide)) zm_X5_in zi_X5_in zk_X5_93 (by omega) (by decide) (by omega) (Nat.le_of_ble_eq_true rfl) dX5_rule_12 ?_
    rintro _ _ (⟨bN, h1b, hb, rfl, rfl, rfl⟩ | ⟨nb, rfl, rfl⟩)
    · have tb : zinL (nI bN) 255 = true := zinL_t h1b hb (by decide)
      have qb : (nI bN).toNatClampNeg = bN := nI_clamp (by omega)
      refine z_if_eq hC 36 dX5_rule_15 rfl (fun h => absurd h (by decide)) (fun _ => ?_)
      refine z_il3 hC dX5_rule_18 ?_
      refine z_cSi1 hC (c_X5_isFace l X _) zm_X5_isFace zi_X5_isFace zk_X5_97 (by omega) (by decide) (by omega) (Nat.le_of_ble_eq_true rfl) dX5_rule_19 ?_
      rintro _ _ (⟨cN, hc, rfl, rfl, rfl⟩ | ⟨nc, rfl, rfl⟩)
      · have tc : zin (nI cN) 8 = true := zin_t hc (by omega)
        have qc : (nI cN).toNatClampNeg = cN := nI_clamp (by omega)
        refine z_if_eq hC 36 dX5_rule_22 rfl (fun h => absurd h (by decide)) (fun _ => ?_)
        refine z_il4 hC dX5_rule_25 ?_
        refine z_iconst hC dX5_rule_27 zi_0 ?_
        refine z_bipush hC dX5_rule_28 zb_7 ?_
        refine z_cSi3 hC (c_X5_in0 l X _ (by decide)) zm_X5_in zi_X5_in zk_X5_93 (by omega) (by decide) (by omega) (Nat.le_of_ble_eq_true rfl) dX5_rule_30 ?_
        rintro _ _ (⟨dN, hd, rfl, rfl, rfl⟩ | ⟨nd, rfl, rfl⟩)
        · have td : zin (nI dN) 8 = true := zin_t hd (by omega)
          have qd : (nI dN).toNatClampNeg = dN := nI_clamp (by omega)
          refine z_if_ne hC 38 dX5_rule_33 rfl (fun _ => ?_) (fun h => absurd h (by decide))
          refine z_al0 hC dX5_rule_38 ?_
          refine zgf_X5_163 hC dX5_rule_39 ?_
          refine z_top hrc ?_
          refine z_bipush hC dX5_rule_42 zb_12 ?_
          refine z_icmp_ne hC 50 dX5_rule_44 rfl (fun h44 => ?_) (fun h44 => ?_)
          · have hr12 : ¬ rc = 12 := fun h => h44 ((n12ne (by omega)).mpr h)
            have hr13 : rc < 12 := by omega
            refine z_al0 hC dX5_rule_50 ?_
            refine zgf_X5_51 hC dX5_rule_51 ?_
            refine z_al0 hC dX5_rule_54 ?_
            refine zgf_X5_163 hC dX5_rule_55 ?_
            refine z_top hrc ?_
            refine z_il1 hC dX5_rule_58 ?_
            refine zas_34 hC (by omega) dX5_rule_59 ?_
            refine z_al0 hC dX5_rule_60 ?_
            refine zgf_X5_54 hC dX5_rule_61 ?_
            refine z_al0 hC dX5_rule_64 ?_
            refine zgf_X5_163 hC dX5_rule_65 ?_
            refine z_top ((by simp [zg_zu, hrc]) : _ = nI rc) ?_
            refine z_il2 hC dX5_rule_68 ?_
            refine zas_35 hC (by omega) dX5_rule_69 ?_
            refine z_al0 hC dX5_rule_70 ?_
            refine zgf_X5_57 hC dX5_rule_71 ?_
            refine z_al0 hC dX5_rule_74 ?_
            refine zgf_X5_163 hC dX5_rule_75 ?_
            refine z_top ((by simp [zg_zu, hrc]) : _ = nI rc) ?_
            refine z_il3 hC dX5_rule_78 ?_
            refine zas_36 hC (by omega) dX5_rule_79 ?_
            refine z_al0 hC dX5_rule_80 ?_
            refine zgf_X5_60 hC dX5_rule_81 ?_
            refine z_al0 hC dX5_rule_84 ?_
            refine zgf_X5_163 hC dX5_rule_85 ?_
            refine z_top ((by simp [zg_zu, hrc]) : _ = nI rc) ?_
            refine z_il4 hC dX5_rule_88 ?_
            refine zas_37 hC (by omega) dX5_rule_90 ?_
            refine z_al0 hC dX5_rule_91 ?_
            refine z_dup hC dX5_rule_92 rfl ?_
            refine zgf_X5_163 hC dX5_rule_93 ?_
            refine z_top ((by simp [zg_zu, hrc]) : _ = nI rc) ?_
            refine z_iconst hC dX5_rule_96 zi_1 ?_
            refine z_iaddN hC dX5_rule_97 ?_
            refine zpf_X5_163 hC dX5_rule_98 ?_
            refine z_al0 hC dX5_rule_101 ?_
            refine zgf_X5_163 hC dX5_rule_102 ?_
            refine z_top ((by simp [zg_zu]) : _ = nI (rc + 1)) ?_
            refine z_iconst hC dX5_rule_105 zi_1 ?_
            refine z_isubN hC dX5_rule_106 (by omega) ?_
            exact z_reti hE (by omega) dX5_rule_107 (⟨by simp [moRule, maRule, msRule, ta, qa, tb, qb, tc, qc, td, qd, h44, hr12], by simp [moRule, maRule, msRule, ta, qa, tb, qb, tc, qc, td, qd, h44, hr12]⟩)
          · have hr12 : (rc = 12) = True := eq_true ((n12ne (by omega)).mp h44)
            refine z_bipush hC dX5_rule_47 zb_m3 ?_
            exact z_reti hE (by omega) dX5_rule_49 (⟨by simp [moRule, maRule, msRule, ta, qa, tb, qb, tc, qc, td, qd, h44, hr12], by simp [moRule, maRule, msRule, ta, qa, tb, qb, tc, qc, td, qd, h44, hr12]⟩)
        · replace nd : zin d 8 = false := nd
          refine z_if_ne hC 38 dX5_rule_33 rfl (fun h => absurd h (by decide)) (fun _ => ?_)
          refine z_iconst hC dX5_rule_36 zi_m1 ?_
          exact z_reti hE (by omega) dX5_rule_37 (⟨by simp [moRule, maRule, msRule, ta, qa, tb, qb, tc, qc, nd], by simp [moRule, maRule, msRule, ta, qa, tb, qb, tc, qc, nd]⟩)
      · replace nc : zin c 8 = false := nc
        refine z_if_eq hC 36 dX5_rule_22 rfl (fun _ => ?_) (fun h => absurd h (by decide))
        refine z_iconst hC dX5_rule_36 zi_m1 ?_
        exact z_reti hE (by omega) dX5_rule_37 (⟨by simp [moRule, maRule, msRule, ta, qa, tb, qb, nc], by simp [moRule, maRule, msRule, ta, qa, tb, qb, nc]⟩)
    · refine z_if_eq hC 36 dX5_rule_15 rfl (fun _ => ?_) (fun h => absurd h (by decide))
      refine z_iconst hC dX5_rule_36 zi_m1 ?_
      exact z_reti hE (by omega) dX5_rule_37 (⟨by simp [moRule, maRule, msRule, ta, qa, nb], by simp [moRule, maRule, msRule, ta, qa, nb]⟩)
  · replace na : zin a 8 = false := na
    refine z_if_eq hC 36 dX5_rule_4 rfl (fun _ => ?_) (fun h => absurd h (by decide))
    refine z_iconst hC dX5_rule_36 zi_m1 ?_
    exact z_reti hE (by omega) dX5_rule_37 (⟨by simp [moRule, maRule, msRule, na], by simp [moRule, maRule, msRule, na]⟩)

set_option maxHeartbeats 2000000 in
theorem q_clash (l : Launch) (X : zX) (G : zG) {r0 : Nat} (hr0 : r0 = za G 20 0) {vc rc td : Nat} (hI : mI G vc rc td) {a b : Int32} : zC l yX5_clash cX5_clash 4 (some FieldType.int) 3 0 X [.ref r0, .int a, .int b] G (zPi (fun r G2 => r = maClash G rc a b ∧ G = G2)) := by
  subst hr0
  refine zC_of zpn_X5 (zcat rfl) (Nat.le_of_ble_eq_true rfl) ?_
  intro Z hC hE
  replace hC : zCtx l X cX5_clash RX5 4 3 0 Z := hC
  change Z 0 G 0 [some (.ref (za G 20 0)), some (.int a), some (.int b), none] []
  obtain ⟨hvc, v1, v5, hrc, r12, htd, t39, htx, hgo, hru⟩ := hI
  refine z_al0 hC dX5_clash_0 ?_
  refine z_il1 hC dX5_clash_1 ?_
  refine z_cVi1 hC (c_X5_isRule l X _ (by rfl) hrc r12) zm_X5_isRule zi_X5_isRule zo_20 zk_X5_166 (by omega) (by decide) (by omega) (Nat.le_of_ble_eq_true rfl) dX5_clash_2 ?_
  rintro _ _ (⟨aN, ha, rfl, rfl, rfl⟩ | ⟨na, rfl, rfl⟩)
  · have ta : zin (nI aN) rc = true := zin_t ha (by omega)
    have qa : (nI aN).toNatClampNeg = aN := nI_clamp (by omega)
    refine z_if_eq hC 16 dX5_clash_5 rfl (fun h => absurd h (by decide)) (fun _ => ?_)
    refine z_al0 hC dX5_clash_8 ?_
    refine z_il2 hC dX5_clash_9 ?_
    refine z_cVi1 hC (c_X5_isRule l X _ (by rfl) hrc r12) zm_X5_isRule zi_X5_isRule zo_20 zk_X5_166 (by omega) (by decide) (by omega) (Nat.le_of_ble_eq_true rfl) dX5_clash_10 ?_
    rintro _ _ (⟨bN, hb, rfl, rfl, rfl⟩ | ⟨nb, rfl, rfl⟩)
    · have tb : zin (nI bN) rc = true := zin_t hb (by omega)
      have qb : (nI bN).toNatClampNeg = bN := nI_clamp (by omega)
      refine z_if_ne hC 18 dX5_clash_13 rfl (fun _ => ?_) (fun h => absurd h (by decide))
      refine z_al0 hC dX5_clash_18 ?_
      refine zgf_X5_51 hC dX5_clash_19 ?_
      refine z_il1 hC dX5_clash_22 ?_
      refine zal_34 hC (by omega) dX5_clash_23 ?_
      refine z_al0 hC dX5_clash_24 ?_
      refine zgf_X5_51 hC dX5_clash_25 ?_
      refine z_il2 hC dX5_clash_28 ?_
      refine zal_34 hC (by omega) dX5_clash_29 ?_
      refine z_icmp_ne hC 53 dX5_clash_30 rfl (fun h30 => ?_) (fun h30 => ?_)
      · refine z_iconst hC dX5_clash_53 zi_0 ?_
        refine z_is3 hC dX5_clash_54 (by decide) ?_
        refine z_il3 hC dX5_clash_55 ?_
        refine z_if_eq hC 93 dX5_clash_56 rfl (fun _ => ?_) (fun h => absurd h (by decide))
        refine z_iconst hC dX5_clash_93 zi_0 ?_
        exact z_reti hE (by omega) dX5_clash_94 (⟨by simp [xoClash, maClash, mCl, ta, qa, tb, qb, h30], rfl⟩)
      · refine z_al0 hC dX5_clash_33 ?_
        refine zgf_X5_54 hC dX5_clash_34 ?_
        refine z_il1 hC dX5_clash_37 ?_
        refine zal_35 hC (by omega) dX5_clash_38 ?_
        refine z_al0 hC dX5_clash_39 ?_
        refine zgf_X5_54 hC dX5_clash_40 ?_
        refine z_il2 hC dX5_clash_43 ?_
        refine zal_35 hC (by omega) dX5_clash_44 ?_
        refine z_iand hC dX5_clash_45 ?_
        refine z_if_eq hC 53 dX5_clash_46 rfl (fun h46 => ?_) (fun h46 => ?_)
        · refine z_iconst hC dX5_clash_53 zi_0 ?_
          refine z_is3 hC dX5_clash_54 (by decide) ?_
          refine z_il3 hC dX5_clash_55 ?_
          refine z_if_eq hC 93 dX5_clash_56 rfl (fun _ => ?_) (fun h => absurd h (by decide))
          refine z_iconst hC dX5_clash_93 zi_0 ?_
          exact z_reti hE (by omega) dX5_clash_94 (⟨by simp [xoClash, maClash, mCl, ta, qa, tb, qb, h30, h46], rfl⟩)
        · refine z_iconst hC dX5_clash_49 zi_1 ?_
          refine z_goto hC 54 dX5_clash_50 rfl ?_
          refine z_is3 hC dX5_clash_54 (by decide) ?_
          refine z_il3 hC dX5_clash_55 ?_
          refine z_if_eq hC 93 dX5_clash_56 rfl (fun h => absurd h (by decide)) (fun _ => ?_)
          refine z_al0 hC dX5_clash_59 ?_
          refine zgf_X5_57 hC dX5_clash_60 ?_
          refine z_il1 hC dX5_clash_63 ?_
          refine zal_36 hC (by omega) dX5_clash_64 ?_
          refine z_al0 hC dX5_clash_65 ?_
          refine zgf_X5_57 hC dX5_clash_66 ?_
          refine z_il2 hC dX5_clash_69 ?_
          refine zal_36 hC (by omega) dX5_clash_70 ?_
          refine z_icmp_ne hC 89 dX5_clash_71 rfl (fun h71 => ?_) (fun h71 => ?_)
          · refine z_iconst hC dX5_clash_89 zi_1 ?_
            refine z_goto hC 94 dX5_clash_90 rfl ?_
            exact z_reti hE (by omega) dX5_clash_94 (⟨by simp [xoClash, maClash, mCl, ta, qa, tb, qb, h30, h46, h71], rfl⟩)
          · refine z_al0 hC dX5_clash_74 ?_
            refine zgf_X5_60 hC dX5_clash_75 ?_
            refine z_il1 hC dX5_clash_78 ?_
            refine zal_37 hC (by omega) dX5_clash_79 ?_
            refine z_al0 hC dX5_clash_80 ?_
            refine zgf_X5_60 hC dX5_clash_81 ?_
            refine z_il2 hC dX5_clash_84 ?_
            refine zal_37 hC (by omega) dX5_clash_85 ?_
            refine z_icmp_eq hC 93 dX5_clash_86 rfl (fun h86 => ?_) (fun h86 => ?_)
            · refine z_iconst hC dX5_clash_93 zi_0 ?_
              exact z_reti hE (by omega) dX5_clash_94 (⟨by simp [xoClash, maClash, mCl, ta, qa, tb, qb, h30, h46, h71, h86], rfl⟩)
            · refine z_iconst hC dX5_clash_89 zi_1 ?_
              refine z_goto hC 94 dX5_clash_90 rfl ?_
              exact z_reti hE (by omega) dX5_clash_94 (⟨by simp [xoClash, maClash, mCl, ta, qa, tb, qb, h30, h46, h71, h86], rfl⟩)
    · replace nb : zin b rc = false := nb
      refine z_if_ne hC 18 dX5_clash_13 rfl (fun h => absurd h (by decide)) (fun _ => ?_)
      refine z_iconst hC dX5_clash_16 zi_m1 ?_
      exact z_reti hE (by omega) dX5_clash_17 (⟨by simp [xoClash, maClash, mCl, ta, qa, nb], rfl⟩)
  · replace na : zin a rc = false := na
    refine z_if_eq hC 16 dX5_clash_5 rfl (fun _ => ?_) (fun h => absurd h (by decide))
    refine z_iconst hC dX5_clash_16 zi_m1 ?_
    exact z_reti hE (by omega) dX5_clash_17 (⟨by simp [xoClash, maClash, mCl, na], rfl⟩)

set_option maxHeartbeats 2000000 in
theorem q_days (l : Launch) (X : zX) (G : zG) {r0 : Nat} (hr0 : r0 = za G 20 0) {vc rc td : Nat} (hI : mI G vc rc td) {a : Int32} : zC l yX5_days cX5_days 2 (some FieldType.int) 2 0 X [.ref r0, .int a] G (zPi (fun r G2 => r = maDays G a ∧ G2 = msDays G a)) := by
  subst hr0
  refine zC_of zpn_X5 (zcat rfl) (Nat.le_of_ble_eq_true rfl) ?_
  intro Z hC hE
  replace hC : zCtx l X cX5_days RX5 2 2 0 Z := hC
  change Z 0 G 0 [some (.ref (za G 20 0)), some (.int a)] []
  obtain ⟨hvc, v1, v5, hrc, r12, htd, t39, htx, hgo, hru⟩ := hI
  refine z_il1 hC dX5_days_0 ?_
  refine z_iconst hC dX5_days_1 zi_1 ?_
  refine z_bipush hC dX5_days_2 zb_20 ?_
  refine z_cSi3 hC (c_X5_in1 l X _ (by decide)) zm_X5_in zi_X5_in zk_X5_93 (by omega) (by decide) (by omega) (Nat.le_of_ble_eq_true rfl) dX5_days_4 ?_
  rintro _ _ (⟨aN, h1a, ha, rfl, rfl, rfl⟩ | ⟨na, rfl, rfl⟩)
  · have ta : zinL (nI aN) 20 = true := zinL_t h1a ha (by decide)
    have qa : (nI aN).toNatClampNeg = aN := nI_clamp (by omega)
    refine z_if_ne hC 12 dX5_days_7 rfl (fun _ => ?_) (fun h => absurd h (by decide))
    refine z_al0 hC dX5_days_12 ?_
    refine zgf_X5_90 hC dX5_days_13 ?_
    refine z_il1 hC dX5_days_16 ?_
    refine z_iadd hC dX5_days_17 ?_
    refine z_bipush hC dX5_days_18 zb_40 ?_
    refine z_icmp_lt hC 26 dX5_days_20 rfl (fun h20 => ?_) (fun h20 => ?_)
    · refine z_al0 hC dX5_days_26 ?_
      refine z_dup hC dX5_days_27 rfl ?_
      refine zgf_X5_90 hC dX5_days_28 ?_
      refine z_il1 hC dX5_days_31 ?_
      refine z_iadd hC dX5_days_32 ?_
      refine zpf_X5_90 hC dX5_days_33 ?_
      refine z_al0 hC dX5_days_36 ?_
      refine zgf_X5_90 hC dX5_days_37 ?_
      exact z_reti hE (by omega) dX5_days_40 (⟨by simp [maDays, msDays, zg_zu, ta, qa, h20], by simp [maDays, msDays, zg_zu, ta, qa, h20]⟩)
    · refine z_bipush hC dX5_days_23 zb_m2 ?_
      exact z_reti hE (by omega) dX5_days_25 (⟨by simp [maDays, msDays, zg_zu, ta, qa, h20], by simp [maDays, msDays, zg_zu, ta, qa, h20]⟩)
  · refine z_if_ne hC 12 dX5_days_7 rfl (fun h => absurd h (by decide)) (fun _ => ?_)
    refine z_iconst hC dX5_days_10 zi_m1 ?_
    exact z_reti hE (by omega) dX5_days_11 (⟨by simp [maDays, msDays, zg_zu, na], by simp [maDays, msDays, zg_zu, na]⟩)

set_option maxHeartbeats 2000000 in
theorem q_promise (l : Launch) (X : zX) (G : zG) {r0 : Nat} (hr0 : r0 = za G 20 0) {vc rc td : Nat} (hI : mI G vc rc td) {a b c : Int32} : zC l yX5_promise cX5_promise 5 (some FieldType.int) 3 0 X [.ref r0, .int a, .int b, .int c] G (zPi (fun r G2 => r = maPromise G a b c ∧ G2 = msPromise G a b c)) := by
  subst hr0
  refine zC_of zpn_X5 (zcat rfl) (Nat.le_of_ble_eq_true rfl) ?_
  intro Z hC hE
  replace hC : zCtx l X cX5_promise RX5 5 3 0 Z := hC
  change Z 0 G 0 [some (.ref (za G 20 0)), some (.int a), some (.int b), some (.int c), none] []
  obtain ⟨hvc, v1, v5, hrc, r12, htd, t39, htx, hgo, hru⟩ := hI
  refine z_il1 hC dX5_promise_0 ?_
  refine z_cSi1 hC (c_X5_isFace l X _) zm_X5_isFace zi_X5_isFace zk_X5_97 (by omega) (by decide) (by omega) (Nat.le_of_ble_eq_true rfl) dX5_promise_1 ?_
  rintro _ _ (⟨aN, ha, rfl, rfl, rfl⟩ | ⟨na, rfl, rfl⟩)
  · have ta : zin (nI aN) 8 = true := zin_t ha (by omega)
    have qa : (nI aN).toNatClampNeg = aN := nI_clamp (by omega)
    refine z_if_eq hC 30 dX5_promise_4 rfl (fun h => absurd h (by decide)) (fun _ => ?_)
    refine z_il2 hC dX5_promise_7 ?_
    refine z_cSi1 hC (c_X5_isHouse l X _) zm_X5_isHouse zi_X5_isHouse zk_X5_108 (by omega) (by decide) (by omega) (Nat.le_of_ble_eq_true rfl) dX5_promise_8 ?_
    rintro _ _ (⟨bN, hb, rfl, rfl, rfl⟩ | ⟨nb, rfl, rfl⟩)
    · have tb : zin (nI bN) 6 = true := zin_t hb (by omega)
      have qb : (nI bN).toNatClampNeg = bN := nI_clamp (by omega)
      obtain ⟨sz, h12, hsz, hT⟩ := htx bN hb
      obtain ⟨vv, hvv, hv⟩ := hgo bN hb
      have qsz : mSz G bN = sz := by unfold mSz; rw [hsz]; exact nI_clamp (by omega)
      have qv : (zg G 22 0 bN).toNatClampNeg = vv := by rw [hv]; exact nI_clamp (by omega)
      refine z_if_eq hC 30 dX5_promise_11 rfl (fun h => absurd h (by decide)) (fun _ => ?_)
      refine z_il3 hC dX5_promise_14 ?_
      refine z_bipush hC dX5_promise_15 zb_m9 ?_
      refine z_icmp_eq hC 33 dX5_promise_17 rfl (fun h17 => ?_) (fun h17 => ?_)
      · refine z_al0 hC dX5_promise_33 ?_
        refine z_il1 hC dX5_promise_34 ?_
        refine z_cVi1 hC (c_X5_isShut l X _ (by rfl) (by omega)) zm_X5_isShut zi_X5_isShut zo_20 zk_X5_150 (by omega) (by decide) (by omega) (Nat.le_of_ble_eq_true rfl) dX5_promise_35 ?_
        rintro _ _ (⟨hsh35, rfl, rfl⟩ | ⟨hsh35, rfl, rfl⟩)
        · refine z_if_eq hC 44 dX5_promise_38 rfl (fun h => absurd h (by decide)) (fun _ => ?_)
          refine z_bipush hC dX5_promise_41 zb_m3 ?_
          exact z_reti hE (by omega) dX5_promise_43 (⟨by simp [xoPromise, maPromise, msPromise, mHide, nI_add, ta, qa, tb, qb, qsz, qv, h17, hsh35], by simp [xoPromise, maPromise, msPromise, mHide, nI_add, ta, qa, tb, qb, qsz, qv, h17, hsh35]⟩)
        · refine z_if_eq hC 44 dX5_promise_38 rfl (fun _ => ?_) (fun h => absurd h (by decide))
          refine z_al0 hC dX5_promise_44 ?_
          refine zgf_X5_63 hC dX5_promise_45 ?_
          refine z_bipush hC dX5_promise_48 zb_6 ?_
          refine z_il1 hC dX5_promise_50 ?_
          refine z_imulN hC dX5_promise_51 ?_
          refine z_il2 hC dX5_promise_52 ?_
          refine z_iaddN hC dX5_promise_53 ?_
          refine zal_39 hC (by omega) dX5_promise_54 ?_
          refine z_cSi1 hC (c_X5_shown l X _) zm_X5_shown zi_X5_shown zk_X5_172 (by omega) (by decide) (by omega) (Nat.le_of_ble_eq_true rfl) dX5_promise_55 ?_
          rintro _ _ ⟨rfl, rfl⟩
          refine z_is4 hC dX5_promise_58 (by decide) ?_
          refine z_al0 hC dX5_promise_60 ?_
          refine zgf_X5_63 hC dX5_promise_61 ?_
          refine z_bipush hC dX5_promise_64 zb_6 ?_
          refine z_il1 hC dX5_promise_66 ?_
          refine z_imulN hC dX5_promise_67 ?_
          refine z_il2 hC dX5_promise_68 ?_
          refine z_iaddN hC dX5_promise_69 ?_
          refine z_il3 hC dX5_promise_70 ?_
          refine z_bipush hC dX5_promise_71 zb_m9 ?_
          refine z_icmp_ne hC 80 dX5_promise_73 rfl (fun h => absurd h17 h) (fun _ => ?_)
          refine z_iconst hC dX5_promise_76 zi_0 ?_
          refine z_goto hC 83 dX5_promise_77 rfl ?_
          refine zas_39 hC (by omega) dX5_promise_83 ?_
          refine z_il3 hC dX5_promise_84 ?_
          refine z_bipush hC dX5_promise_85 zb_m9 ?_
          refine z_icmp_eq hC 120 dX5_promise_87 rfl (fun _ => ?_) (fun h => absurd h17 h)
          refine z_il4 hC dX5_promise_120 ?_
          exact z_reti hE (by omega) dX5_promise_122 (⟨by simp [xoPromise, maPromise, msPromise, mHide, nI_add, ta, qa, tb, qb, qsz, qv, h17, hsh35], by simp [xoPromise, maPromise, msPromise, mHide, nI_add, ta, qa, tb, qb, qsz, qv, h17, hsh35]⟩)
      · refine z_il3 hC dX5_promise_20 ?_
        refine z_iconst hC dX5_promise_21 zi_0 ?_
        refine z_bipush hC dX5_promise_22 zb_39 ?_
        refine z_cSi3 hC (c_X5_in0 l X _ (by decide)) zm_X5_in zi_X5_in zk_X5_93 (by omega) (by decide) (by omega) (Nat.le_of_ble_eq_true rfl) dX5_promise_24 ?_
        rintro _ _ (⟨cN, hc, rfl, rfl, rfl⟩ | ⟨nc, rfl, rfl⟩)
        · have tc : zin (nI cN) 40 = true := zin_t hc (by omega)
          have qc : (nI cN).toNatClampNeg = cN := nI_clamp (by omega)
          refine z_if_ne hC 33 dX5_promise_27 rfl (fun _ => ?_) (fun h => absurd h (by decide))
          refine z_al0 hC dX5_promise_33 ?_
          refine z_il1 hC dX5_promise_34 ?_
          refine z_cVi1 hC (c_X5_isShut l X _ (by rfl) (by omega)) zm_X5_isShut zi_X5_isShut zo_20 zk_X5_150 (by omega) (by decide) (by omega) (Nat.le_of_ble_eq_true rfl) dX5_promise_35 ?_
          rintro _ _ (⟨hsh35, rfl, rfl⟩ | ⟨hsh35, rfl, rfl⟩)
          · refine z_if_eq hC 44 dX5_promise_38 rfl (fun h => absurd h (by decide)) (fun _ => ?_)
            refine z_bipush hC dX5_promise_41 zb_m3 ?_
            exact z_reti hE (by omega) dX5_promise_43 (⟨by simp [xoPromise, maPromise, msPromise, mHide, nI_add, ta, qa, tb, qb, qsz, qv, h17, tc, qc, hsh35], by simp [xoPromise, maPromise, msPromise, mHide, nI_add, ta, qa, tb, qb, qsz, qv, h17, tc, qc, hsh35]⟩)
          · refine z_if_eq hC 44 dX5_promise_38 rfl (fun _ => ?_) (fun h => absurd h (by decide))
            refine z_al0 hC dX5_promise_44 ?_
            refine zgf_X5_63 hC dX5_promise_45 ?_
            refine z_bipush hC dX5_promise_48 zb_6 ?_
            refine z_il1 hC dX5_promise_50 ?_
            refine z_imulN hC dX5_promise_51 ?_
            refine z_il2 hC dX5_promise_52 ?_
            refine z_iaddN hC dX5_promise_53 ?_
            refine zal_39 hC (by omega) dX5_promise_54 ?_
            refine z_cSi1 hC (c_X5_shown l X _) zm_X5_shown zi_X5_shown zk_X5_172 (by omega) (by decide) (by omega) (Nat.le_of_ble_eq_true rfl) dX5_promise_55 ?_
            rintro _ _ ⟨rfl, rfl⟩
            refine z_is4 hC dX5_promise_58 (by decide) ?_
            refine z_al0 hC dX5_promise_60 ?_
            refine zgf_X5_63 hC dX5_promise_61 ?_
            refine z_bipush hC dX5_promise_64 zb_6 ?_
            refine z_il1 hC dX5_promise_66 ?_
            refine z_imulN hC dX5_promise_67 ?_
            refine z_il2 hC dX5_promise_68 ?_
            refine z_iaddN hC dX5_promise_69 ?_
            refine z_il3 hC dX5_promise_70 ?_
            refine z_bipush hC dX5_promise_71 zb_m9 ?_
            refine z_icmp_ne hC 80 dX5_promise_73 rfl (fun _ => ?_) (fun h => absurd h h17)
            refine z_il3 hC dX5_promise_80 ?_
            refine z_iconst hC dX5_promise_81 zi_1 ?_
            refine z_iaddN hC dX5_promise_82 ?_
            refine zas_39 hC (by omega) dX5_promise_83 ?_
            refine z_il3 hC dX5_promise_84 ?_
            refine z_bipush hC dX5_promise_85 zb_m9 ?_
            refine z_icmp_eq hC 120 dX5_promise_87 rfl (fun h => absurd h h17) (fun _ => ?_)
            refine z_al0 hC dX5_promise_90 ?_
            refine zgf_X5_66 hC dX5_promise_91 ?_
            refine z_il1 hC dX5_promise_94 ?_
            refine zal_40 hC (by omega) dX5_promise_95 ?_
            refine z_top ((by simp [zg_zu]) : _ = zg G 40 0 aN) ?_
            refine z_bipush hC dX5_promise_96 zb_m9 ?_
            refine z_icmp_eq hC 120 dX5_promise_98 rfl (fun h98 => ?_) (fun h98 => ?_)
            · refine z_il4 hC dX5_promise_120 ?_
              exact z_reti hE (by omega) dX5_promise_122 (⟨by simp [xoPromise, maPromise, msPromise, mHide, nI_add, ta, qa, tb, qb, qsz, qv, h17, tc, qc, hsh35, h98], by simp [xoPromise, maPromise, msPromise, mHide, nI_add, ta, qa, tb, qb, qsz, qv, h17, tc, qc, hsh35, h98]⟩)
            · refine z_al0 hC dX5_promise_101 ?_
              refine zgf_X5_66 hC dX5_promise_102 ?_
              refine z_il1 hC dX5_promise_105 ?_
              refine zal_40 hC (by omega) dX5_promise_106 ?_
              refine z_top ((by simp [zg_zu]) : _ = zg G 40 0 aN) ?_
              refine z_il3 hC dX5_promise_107 ?_
              refine z_icmp_gt hC 120 dX5_promise_108 rfl (fun h108 => ?_) (fun h108 => ?_)
              · refine z_il4 hC dX5_promise_120 ?_
                exact z_reti hE (by omega) dX5_promise_122 (⟨by simp [xoPromise, maPromise, msPromise, mHide, nI_add, ta, qa, tb, qb, qsz, qv, h17, tc, qc, hsh35, h98, h108], by simp [xoPromise, maPromise, msPromise, mHide, nI_add, ta, qa, tb, qb, qsz, qv, h17, tc, qc, hsh35, h98, h108]⟩)
              · refine z_al0 hC dX5_promise_111 ?_
                refine zgf_X5_66 hC dX5_promise_112 ?_
                refine z_il1 hC dX5_promise_115 ?_
                refine z_il3 hC dX5_promise_116 ?_
                refine z_iconst hC dX5_promise_117 zi_1 ?_
                refine z_iaddN hC dX5_promise_118 ?_
                refine zas_40 hC (by omega) dX5_promise_119 ?_
                refine z_il4 hC dX5_promise_120 ?_
                exact z_reti hE (by omega) dX5_promise_122 (⟨by simp [xoPromise, maPromise, msPromise, mHide, nI_add, ta, qa, tb, qb, qsz, qv, h17, tc, qc, hsh35, h98, h108], by simp [xoPromise, maPromise, msPromise, mHide, nI_add, ta, qa, tb, qb, qsz, qv, h17, tc, qc, hsh35, h98, h108]⟩)
        · replace nc : zin c 40 = false := nc
          refine z_if_ne hC 33 dX5_promise_27 rfl (fun h => absurd h (by decide)) (fun _ => ?_)
          refine z_bipush hC dX5_promise_30 zb_m2 ?_
          exact z_reti hE (by omega) dX5_promise_32 (⟨by simp [xoPromise, maPromise, msPromise, mHide, nI_add, ta, qa, tb, qb, qsz, qv, h17, nc], by simp [xoPromise, maPromise, msPromise, mHide, nI_add, ta, qa, tb, qb, qsz, qv, h17, nc]⟩)
    · replace nb : zin b 6 = false := nb
      refine z_if_eq hC 30 dX5_promise_11 rfl (fun _ => ?_) (fun h => absurd h (by decide))
      refine z_bipush hC dX5_promise_30 zb_m2 ?_
      exact z_reti hE (by omega) dX5_promise_32 (⟨by simp [xoPromise, maPromise, msPromise, mHide, nI_add, ta, qa, nb], by simp [xoPromise, maPromise, msPromise, mHide, nI_add, ta, qa, nb]⟩)
  · replace na : zin a 8 = false := na
    refine z_if_eq hC 30 dX5_promise_4 rfl (fun _ => ?_) (fun h => absurd h (by decide))
    refine z_bipush hC dX5_promise_30 zb_m2 ?_
    exact z_reti hE (by omega) dX5_promise_32 (⟨by simp [xoPromise, maPromise, msPromise, mHide, nI_add, na], by simp [xoPromise, maPromise, msPromise, mHide, nI_add, na]⟩)

set_option maxHeartbeats 2000000 in
theorem q_shut (l : Launch) (X : zX) (G : zG) {r0 : Nat} (hr0 : r0 = za G 20 0) {vc rc td : Nat} (hI : mI G vc rc td) {a b : Int32} : zC l yX5_shut cX5_shut 3 (some FieldType.int) 3 0 X [.ref r0, .int a, .int b] G (zPi (fun r G2 => r = maShut G td a b ∧ G2 = msShut G td a b)) := by
  subst hr0
  refine zC_of zpn_X5 (zcat rfl) (Nat.le_of_ble_eq_true rfl) ?_
  intro Z hC hE
  replace hC : zCtx l X cX5_shut RX5 3 3 0 Z := hC
  change Z 0 G 0 [some (.ref (za G 20 0)), some (.int a), some (.int b)] []
  obtain ⟨hvc, v1, v5, hrc, r12, htd, t39, htx, hgo, hru⟩ := hI
  refine z_il1 hC dX5_shut_0 ?_
  refine z_cSi1 hC (c_X5_isFace l X _) zm_X5_isFace zi_X5_isFace zk_X5_97 (by omega) (by decide) (by omega) (Nat.le_of_ble_eq_true rfl) dX5_shut_1 ?_
  rintro _ _ (⟨aN, ha, rfl, rfl, rfl⟩ | ⟨na, rfl, rfl⟩)
  · have ta : zin (nI aN) 8 = true := zin_t ha (by omega)
    have qa : (nI aN).toNatClampNeg = aN := nI_clamp (by omega)
    refine z_if_eq hC 20 dX5_shut_4 rfl (fun h => absurd h (by decide)) (fun _ => ?_)
    refine z_il2 hC dX5_shut_7 ?_
    refine z_al0 hC dX5_shut_8 ?_
    refine zgf_X5_90 hC dX5_shut_9 ?_
    refine z_top htd ?_
    refine z_bipush hC dX5_shut_12 zb_40 ?_
    refine z_cSi3 hC (c_X5_inG l X _) zm_X5_in zi_X5_in zk_X5_93 (by omega) (by decide) (by omega) (Nat.le_of_ble_eq_true rfl) dX5_shut_14 ?_
    rintro _ _ (⟨hb1, hb2, rfl, rfl⟩ | ⟨hb1, rfl, rfl⟩ | ⟨hb1, hb2, rfl, rfl⟩)
    · have hb3 := Int32.not_lt.mp hb2
      refine z_if_ne hC 22 dX5_shut_17 rfl (fun _ => ?_) (fun h => absurd h (by decide))
      refine z_al0 hC dX5_shut_22 ?_
      refine z_il1 hC dX5_shut_23 ?_
      refine z_cVi1 hC (c_X5_isShut l X _ (by rfl) (by omega)) zm_X5_isShut zi_X5_isShut zo_20 zk_X5_150 (by omega) (by decide) (by omega) (Nat.le_of_ble_eq_true rfl) dX5_shut_24 ?_
      rintro _ _ (⟨hsh24, rfl, rfl⟩ | ⟨hsh24, rfl, rfl⟩)
      · refine z_if_ne hC 39 dX5_shut_27 rfl (fun _ => ?_) (fun h => absurd h (by decide))
        refine z_bipush hC dX5_shut_39 zb_m2 ?_
        exact z_reti hE (by omega) dX5_shut_41 (⟨by simp [moShut, maShut, msShut, ta, qa, hb1, hb3, hsh24], by simp [moShut, maShut, msShut, ta, qa, hb1, hb3, hsh24]⟩)
      · refine z_if_ne hC 39 dX5_shut_27 rfl (fun h => absurd h (by decide)) (fun _ => ?_)
        refine z_al0 hC dX5_shut_30 ?_
        refine z_il1 hC dX5_shut_31 ?_
        refine z_cVi1 hC (c_X5_latest l X _ (by rfl) (by omega)) zm_X5_latest zi_X5_latest zo_20 zk_X5_176 (by omega) (by decide) (by omega) (Nat.le_of_ble_eq_true rfl) dX5_shut_32 ?_
        rintro _ _ ⟨elat, rfl⟩
        rw [elat]
        refine z_il2 hC dX5_shut_35 ?_
        refine z_icmp_lt hC 42 dX5_shut_36 rfl (fun h36 => ?_) (fun h36 => ?_)
        · refine z_al0 hC dX5_shut_42 ?_
          refine zgf_X5_66 hC dX5_shut_43 ?_
          refine z_il1 hC dX5_shut_46 ?_
          refine z_il2 hC dX5_shut_47 ?_
          refine zas_40 hC (by omega) dX5_shut_48 ?_
          refine z_il2 hC dX5_shut_49 ?_
          exact z_reti hE (by omega) dX5_shut_50 (⟨by simp [moShut, maShut, msShut, ta, qa, hb1, hb3, hsh24, h36], by simp [moShut, maShut, msShut, ta, qa, hb1, hb3, hsh24, h36]⟩)
        · refine z_bipush hC dX5_shut_39 zb_m2 ?_
          exact z_reti hE (by omega) dX5_shut_41 (⟨by simp [moShut, maShut, msShut, ta, qa, hb1, hb3, hsh24, h36], by simp [moShut, maShut, msShut, ta, qa, hb1, hb3, hsh24, h36]⟩)
    · refine z_if_ne hC 22 dX5_shut_17 rfl (fun h => absurd h (by decide)) (fun _ => ?_)
      refine z_iconst hC dX5_shut_20 zi_m1 ?_
      exact z_reti hE (by omega) dX5_shut_21 (⟨by simp [moShut, maShut, msShut, ta, qa, hb1], by simp [moShut, maShut, msShut, ta, qa, hb1]⟩)
    · have hb3 := Int32.not_le.mpr hb2
      refine z_if_ne hC 22 dX5_shut_17 rfl (fun h => absurd h (by decide)) (fun _ => ?_)
      refine z_iconst hC dX5_shut_20 zi_m1 ?_
      exact z_reti hE (by omega) dX5_shut_21 (⟨by simp [moShut, maShut, msShut, ta, qa, hb1, hb3], by simp [moShut, maShut, msShut, ta, qa, hb1, hb3]⟩)
  · replace na : zin a 8 = false := na
    refine z_if_eq hC 20 dX5_shut_4 rfl (fun _ => ?_) (fun h => absurd h (by decide))
    refine z_iconst hC dX5_shut_20 zi_m1 ?_
    exact z_reti hE (by omega) dX5_shut_21 (⟨by simp [moShut, maShut, msShut, na], by simp [moShut, maShut, msShut, na]⟩)

set_option maxHeartbeats 2000000 in
theorem q_open (l : Launch) (X : zX) (G : zG) {r0 : Nat} (hr0 : r0 = za G 20 0) {vc rc td : Nat} (hI : mI G vc rc td) {a : Int32} : zC l yX5_open cX5_open 3 (some FieldType.int) 3 0 X [.ref r0, .int a] G (zPi (fun r G2 => r = maOpen G a ∧ G2 = msOpen G a)) := by
  subst hr0
  refine zC_of zpn_X5 (zcat rfl) (Nat.le_of_ble_eq_true rfl) ?_
  intro Z hC hE
  replace hC : zCtx l X cX5_open RX5 3 3 0 Z := hC
  change Z 0 G 0 [some (.ref (za G 20 0)), some (.int a), none] []
  obtain ⟨hvc, v1, v5, hrc, r12, htd, t39, htx, hgo, hru⟩ := hI
  refine z_il1 hC dX5_open_0 ?_
  refine z_cSi1 hC (c_X5_isFace l X _) zm_X5_isFace zi_X5_isFace zk_X5_97 (by omega) (by decide) (by omega) (Nat.le_of_ble_eq_true rfl) dX5_open_1 ?_
  rintro _ _ (⟨aN, ha, rfl, rfl, rfl⟩ | ⟨na, rfl, rfl⟩)
  · have ta : zin (nI aN) 8 = true := zin_t ha (by omega)
    have qa : (nI aN).toNatClampNeg = aN := nI_clamp (by omega)
    refine z_if_ne hC 9 dX5_open_4 rfl (fun _ => ?_) (fun h => absurd h (by decide))
    refine z_al0 hC dX5_open_9 ?_
    refine zgf_X5_66 hC dX5_open_10 ?_
    refine z_il1 hC dX5_open_13 ?_
    refine zal_40 hC (by omega) dX5_open_14 ?_
    refine z_bipush hC dX5_open_15 zb_m9 ?_
    refine z_icmp_ne hC 23 dX5_open_17 rfl (fun h17 => ?_) (fun h17 => ?_)
    · refine z_al0 hC dX5_open_23 ?_
      refine zgf_X5_66 hC dX5_open_24 ?_
      refine z_il1 hC dX5_open_27 ?_
      refine zal_40 hC (by omega) dX5_open_28 ?_
      refine z_is2 hC dX5_open_29 (by decide) ?_
      refine z_al0 hC dX5_open_30 ?_
      refine zgf_X5_66 hC dX5_open_31 ?_
      refine z_il1 hC dX5_open_34 ?_
      refine z_bipush hC dX5_open_35 zb_m9 ?_
      refine zas_40 hC (by omega) dX5_open_37 ?_
      refine z_il2 hC dX5_open_38 ?_
      exact z_reti hE (by omega) dX5_open_39 (⟨by simp [maOpen, msOpen, ta, qa, h17], by simp [maOpen, msOpen, ta, qa, h17]⟩)
    · refine z_bipush hC dX5_open_20 zb_m2 ?_
      exact z_reti hE (by omega) dX5_open_22 (⟨by simp [maOpen, msOpen, ta, qa, h17], by simp [maOpen, msOpen, ta, qa, h17]⟩)
  · replace na : zin a 8 = false := na
    refine z_if_ne hC 9 dX5_open_4 rfl (fun h => absurd h (by decide)) (fun _ => ?_)
    refine z_iconst hC dX5_open_7 zi_m1 ?_
    exact z_reti hE (by omega) dX5_open_8 (⟨by simp [maOpen, msOpen, na], by simp [maOpen, msOpen, na]⟩)

set_option maxHeartbeats 2000000 in
theorem q_about (l : Launch) (X : zX) (G : zG) {r0 : Nat} (hr0 : r0 = za G 20 0) {vc rc td : Nat} (hI : mI G vc rc td) {a b : Int32} : zC l yX5_about cX5_about 3 (some FieldType.int) 3 0 X [.ref r0, .int a, .int b] G (zPi (fun r G2 => r = maAbout G a b ∧ G = G2)) := by
  subst hr0
  refine zC_of zpn_X5 (zcat rfl) (Nat.le_of_ble_eq_true rfl) ?_
  intro Z hC hE
  replace hC : zCtx l X cX5_about RX5 3 3 0 Z := hC
  change Z 0 G 0 [some (.ref (za G 20 0)), some (.int a), some (.int b)] []
  obtain ⟨hvc, v1, v5, hrc, r12, htd, t39, htx, hgo, hru⟩ := hI
  refine z_il1 hC dX5_about_0 ?_
  refine z_cSi1 hC (c_X5_isFace l X _) zm_X5_isFace zi_X5_isFace zk_X5_97 (by omega) (by decide) (by omega) (Nat.le_of_ble_eq_true rfl) dX5_about_1 ?_
  rintro _ _ (⟨aN, ha, rfl, rfl, rfl⟩ | ⟨na, rfl, rfl⟩)
  · have ta : zin (nI aN) 8 = true := zin_t ha (by omega)
    have qa : (nI aN).toNatClampNeg = aN := nI_clamp (by omega)
    refine z_if_ne hC 9 dX5_about_4 rfl (fun _ => ?_) (fun h => absurd h (by decide))
    refine z_il2 hC dX5_about_9 ?_
    rcases zsw4 b with rfl | rfl | rfl | rfl | hsw
    · refine z_tabIn (off := 30) hC 40 dX5_about_10 (by decide +kernel) (by decide +kernel) (by decide +kernel) rfl ?_
      refine z_al0 hC dX5_about_40 ?_
      refine zgf_X5_66 hC dX5_about_41 ?_
      refine z_il1 hC dX5_about_44 ?_
      refine zal_40 hC (by omega) dX5_about_45 ?_
      exact z_reti hE (by omega) dX5_about_46 (⟨by simp [maAbout, ta, qa, zt0, zt1, zt2, zt3, zt4, zne01, zne02, zne03, zne04, zne10, zne12, zne13, zne14, zne20, zne21, zne23, zne24, zne30, zne31, zne32, zne34, zne40, zne41, zne42, zne43], rfl⟩)
    · refine z_tabIn (off := 37) hC 47 dX5_about_10 (by decide +kernel) (by decide +kernel) (by decide +kernel) rfl ?_
      refine z_al0 hC dX5_about_47 ?_
      refine z_il1 hC dX5_about_48 ?_
      refine z_cVi1 hC (c_X5_isShut l X _ (by rfl) (by omega)) zm_X5_isShut zi_X5_isShut zo_20 zk_X5_150 (by omega) (by decide) (by omega) (Nat.le_of_ble_eq_true rfl) dX5_about_49 ?_
      rintro _ _ (⟨hsh49, rfl, rfl⟩ | ⟨hsh49, rfl, rfl⟩)
      · refine z_if_eq hC 59 dX5_about_52 rfl (fun h => absurd h (by decide)) (fun _ => ?_)
        refine z_iconst hC dX5_about_55 zi_1 ?_
        refine z_goto hC 60 dX5_about_56 rfl ?_
        exact z_reti hE (by omega) dX5_about_60 (⟨by simp [maAbout, ta, qa, hsh49, zt0, zt1, zt2, zt3, zt4, zne01, zne02, zne03, zne04, zne10, zne12, zne13, zne14, zne20, zne21, zne23, zne24, zne30, zne31, zne32, zne34, zne40, zne41, zne42, zne43], rfl⟩)
      · refine z_if_eq hC 59 dX5_about_52 rfl (fun _ => ?_) (fun h => absurd h (by decide))
        refine z_iconst hC dX5_about_59 zi_0 ?_
        exact z_reti hE (by omega) dX5_about_60 (⟨by simp [maAbout, ta, qa, hsh49, zt0, zt1, zt2, zt3, zt4, zne01, zne02, zne03, zne04, zne10, zne12, zne13, zne14, zne20, zne21, zne23, zne24, zne30, zne31, zne32, zne34, zne40, zne41, zne42, zne43], rfl⟩)
    · refine z_tabIn (off := 51) hC 61 dX5_about_10 (by decide +kernel) (by decide +kernel) (by decide +kernel) rfl ?_
      refine z_al0 hC dX5_about_61 ?_
      refine z_il1 hC dX5_about_62 ?_
      refine z_cVi1 hC (c_X5_latest l X _ (by rfl) (by omega)) zm_X5_latest zi_X5_latest zo_20 zk_X5_176 (by omega) (by decide) (by omega) (Nat.le_of_ble_eq_true rfl) dX5_about_63 ?_
      rintro _ _ ⟨elat, rfl⟩
      rw [elat]
      exact z_reti hE (by omega) dX5_about_66 (⟨by simp [maAbout, ta, qa, zt0, zt1, zt2, zt3, zt4, zne01, zne02, zne03, zne04, zne10, zne12, zne13, zne14, zne20, zne21, zne23, zne24, zne30, zne31, zne32, zne34, zne40, zne41, zne42, zne43], rfl⟩)
    · refine z_tabIn (off := 57) hC 67 dX5_about_10 (by decide +kernel) (by decide +kernel) (by decide +kernel) rfl ?_
      refine z_al0 hC dX5_about_67 ?_
      refine zgf_X5_69 hC dX5_about_68 ?_
      refine z_il1 hC dX5_about_71 ?_
      refine zal_41 hC (by omega) dX5_about_72 ?_
      exact z_reti hE (by omega) dX5_about_73 (⟨by simp [maAbout, ta, qa, zt0, zt1, zt2, zt3, zt4, zne01, zne02, zne03, zne04, zne10, zne12, zne13, zne14, zne20, zne21, zne23, zne24, zne30, zne31, zne32, zne34, zne40, zne41, zne42, zne43], rfl⟩)
    · refine z_tabOut hC 74 dX5_about_10 hsw rfl ?_
      refine z_iconst hC dX5_about_74 zi_m1 ?_
      exact z_reti hE (by omega) dX5_about_75 (⟨by unfold maAbout; rw [if_pos ta, if_pos hsw], rfl⟩)
  · replace na : zin a 8 = false := na
    refine z_if_ne hC 9 dX5_about_4 rfl (fun h => absurd h (by decide)) (fun _ => ?_)
    refine z_iconst hC dX5_about_7 zi_m1 ?_
    exact z_reti hE (by omega) dX5_about_8 (⟨by simp [maAbout, na, zt0, zt1, zt2, zt3, zt4, zne01, zne02, zne03, zne04, zne10, zne12, zne13, zne14, zne20, zne21, zne23, zne24, zne30, zne31, zne32, zne34, zne40, zne41, zne42, zne43], rfl⟩)

set_option maxHeartbeats 2000000 in
theorem q_set (l : Launch) (X : zX) (G : zG) {r0 : Nat} (hr0 : r0 = za G 20 0) {vc rc td : Nat} (hI : mI G vc rc td) {a b c : Int32} : zC l yX5_set cX5_set 5 (some FieldType.int) 3 0 X [.ref r0, .int a, .int b, .int c] G (zPi (fun r G2 => r = maSet G a b c ∧ G2 = msSet G a b c)) := by
  subst hr0
  refine zC_of zpn_X5 (zcat rfl) (Nat.le_of_ble_eq_true rfl) ?_
  intro Z hC hE
  replace hC : zCtx l X cX5_set RX5 5 3 0 Z := hC
  change Z 0 G 0 [some (.ref (za G 20 0)), some (.int a), some (.int b), some (.int c), none] []
  obtain ⟨hvc, v1, v5, hrc, r12, htd, t39, htx, hgo, hru⟩ := hI
  refine z_iconst hC dX5_set_0 zi_m1 ?_
  refine z_is4 hC dX5_set_1 (by decide) ?_
  refine z_il3 hC dX5_set_3 ?_
  refine z_iconst hC dX5_set_4 zi_0 ?_
  refine z_sipush hC dX5_set_5 zs_1000 ?_
  refine z_cSi3 hC (c_X5_in0 l X _ (by decide)) zm_X5_in zi_X5_in zk_X5_93 (by omega) (by decide) (by omega) (Nat.le_of_ble_eq_true rfl) dX5_set_8 ?_
  rintro _ _ (⟨cN, hc, rfl, rfl, rfl⟩ | ⟨nc, rfl, rfl⟩)
  · have tc : zin (nI cN) 1001 = true := zin_t hc (by omega)
    have qc : (nI cN).toNatClampNeg = cN := nI_clamp (by omega)
    refine z_if_ne hC 16 dX5_set_11 rfl (fun _ => ?_) (fun h => absurd h (by decide))
    refine z_il1 hC dX5_set_16 ?_
    refine z_if_ne hC 45 dX5_set_17 rfl (fun h17 => ?_) (fun h17 => ?_)
    · refine z_il1 hC dX5_set_45 ?_
      refine z_iconst hC dX5_set_46 zi_1 ?_
      refine z_icmp_ne hC 75 dX5_set_47 rfl (fun h47 => ?_) (fun h47 => ?_)
      · refine z_il1 hC dX5_set_75 ?_
        refine z_iconst hC dX5_set_76 zi_2 ?_
        refine z_icmp_ne hC 91 dX5_set_77 rfl (fun h77 => ?_) (fun h77 => ?_)
        · refine z_il4 hC dX5_set_91 ?_
          exact z_reti hE (by omega) dX5_set_93 (⟨by simp [maSet, msSet, z01, z02, z12, tc, qc, h17, h47, h77], by simp [maSet, msSet, z01, z02, z12, tc, qc, h17, h47, h77]⟩)
        · refine z_al0 hC dX5_set_80 ?_
          refine zgf_X5_48 hC dX5_set_81 ?_
          refine z_is4 hC dX5_set_84 (by decide) ?_
          refine z_al0 hC dX5_set_86 ?_
          refine z_il3 hC dX5_set_87 ?_
          refine zpf_X5_48 hC dX5_set_88 ?_
          refine z_il4 hC dX5_set_91 ?_
          exact z_reti hE (by omega) dX5_set_93 (⟨by simp [maSet, msSet, z01, z02, z12, tc, qc, h17, h47, h77], by simp [maSet, msSet, z01, z02, z12, tc, qc, h17, h47, h77]⟩)
      · refine z_il2 hC dX5_set_50 ?_
        refine z_cSi1 hC (c_X5_isHouse l X _) zm_X5_isHouse zi_X5_isHouse zk_X5_108 (by omega) (by decide) (by omega) (Nat.le_of_ble_eq_true rfl) dX5_set_51 ?_
        rintro _ _ (⟨bN, hb, rfl, rfl, rfl⟩ | ⟨nb, rfl, rfl⟩)
        · have tb : zin (nI bN) 6 = true := zin_t hb (by omega)
          have qb : (nI bN).toNatClampNeg = bN := nI_clamp (by omega)
          obtain ⟨sz, h12, hsz, hT⟩ := htx bN hb
          obtain ⟨vv, hvv, hv⟩ := hgo bN hb
          have qsz : mSz G bN = sz := by unfold mSz; rw [hsz]; exact nI_clamp (by omega)
          have qv : (zg G 22 0 bN).toNatClampNeg = vv := by rw [hv]; exact nI_clamp (by omega)
          refine z_if_eq hC 75 dX5_set_54 rfl (fun h => absurd h (by decide)) (fun _ => ?_)
          refine z_al0 hC dX5_set_57 ?_
          refine zgf_X5_75 hC dX5_set_58 ?_
          refine z_il2 hC dX5_set_61 ?_
          refine zal_43 hC (by omega) dX5_set_62 ?_
          refine z_is4 hC dX5_set_63 (by decide) ?_
          refine z_al0 hC dX5_set_65 ?_
          refine zgf_X5_75 hC dX5_set_66 ?_
          refine z_il2 hC dX5_set_69 ?_
          refine z_il3 hC dX5_set_70 ?_
          refine zas_43 hC (by omega) dX5_set_71 ?_
          refine z_goto hC 91 dX5_set_72 rfl ?_
          refine z_il4 hC dX5_set_91 ?_
          exact z_reti hE (by omega) dX5_set_93 (⟨by simp [maSet, msSet, z01, z02, z12, tc, qc, h17, h47, tb, qb, qsz, qv], by simp [maSet, msSet, z01, z02, z12, tc, qc, h17, h47, tb, qb, qsz, qv]⟩)
        · replace nb : zin b 6 = false := nb
          refine z_if_eq hC 75 dX5_set_54 rfl (fun _ => ?_) (fun h => absurd h (by decide))
          refine z_il1 hC dX5_set_75 ?_
          refine z_iconst hC dX5_set_76 zi_2 ?_
          refine z_icmp_ne hC 91 dX5_set_77 rfl (fun _ => ?_) (fun h => absurd (h.symm.trans h47) z12)
          refine z_il4 hC dX5_set_91 ?_
          exact z_reti hE (by omega) dX5_set_93 (⟨by simp [maSet, msSet, z01, z02, z12, tc, qc, h17, h47, nb], by simp [maSet, msSet, z01, z02, z12, tc, qc, h17, h47, nb]⟩)
    · refine z_il2 hC dX5_set_20 ?_
      refine z_cSi1 hC (c_X5_isFace l X _) zm_X5_isFace zi_X5_isFace zk_X5_97 (by omega) (by decide) (by omega) (Nat.le_of_ble_eq_true rfl) dX5_set_21 ?_
      rintro _ _ (⟨bN, hb, rfl, rfl, rfl⟩ | ⟨nb, rfl, rfl⟩)
      · have tb : zin (nI bN) 8 = true := zin_t hb (by omega)
        have qb : (nI bN).toNatClampNeg = bN := nI_clamp (by omega)
        refine z_if_eq hC 45 dX5_set_24 rfl (fun h => absurd h (by decide)) (fun _ => ?_)
        refine z_al0 hC dX5_set_27 ?_
        refine zgf_X5_72 hC dX5_set_28 ?_
        refine z_il2 hC dX5_set_31 ?_
        refine zal_42 hC (by omega) dX5_set_32 ?_
        refine z_is4 hC dX5_set_33 (by decide) ?_
        refine z_al0 hC dX5_set_35 ?_
        refine zgf_X5_72 hC dX5_set_36 ?_
        refine z_il2 hC dX5_set_39 ?_
        refine z_il3 hC dX5_set_40 ?_
        refine zas_42 hC (by omega) dX5_set_41 ?_
        refine z_goto hC 91 dX5_set_42 rfl ?_
        refine z_il4 hC dX5_set_91 ?_
        exact z_reti hE (by omega) dX5_set_93 (⟨by simp [maSet, msSet, z01, z02, z12, tc, qc, h17, tb, qb], by simp [maSet, msSet, z01, z02, z12, tc, qc, h17, tb, qb]⟩)
      · replace nb : zin b 8 = false := nb
        refine z_if_eq hC 45 dX5_set_24 rfl (fun _ => ?_) (fun h => absurd h (by decide))
        refine z_il1 hC dX5_set_45 ?_
        refine z_iconst hC dX5_set_46 zi_1 ?_
        refine z_icmp_ne hC 75 dX5_set_47 rfl (fun _ => ?_) (fun h => absurd (h.symm.trans h17) z01)
        refine z_il1 hC dX5_set_75 ?_
        refine z_iconst hC dX5_set_76 zi_2 ?_
        refine z_icmp_ne hC 91 dX5_set_77 rfl (fun _ => ?_) (fun h => absurd (h.symm.trans h17) z02)
        refine z_il4 hC dX5_set_91 ?_
        exact z_reti hE (by omega) dX5_set_93 (⟨by simp [maSet, msSet, z01, z02, z12, tc, qc, h17, nb], by simp [maSet, msSet, z01, z02, z12, tc, qc, h17, nb]⟩)
  · replace nc : zin c 1001 = false := nc
    refine z_if_ne hC 16 dX5_set_11 rfl (fun h => absurd h (by decide)) (fun _ => ?_)
    refine z_iconst hC dX5_set_14 zi_m1 ?_
    exact z_reti hE (by omega) dX5_set_15 (⟨by simp [maSet, msSet, z01, z02, z12, nc], by simp [maSet, msSet, z01, z02, z12, nc]⟩)

set_option maxHeartbeats 2000000 in
theorem q_told (l : Launch) (X : zX) (G : zG) {r0 : Nat} (hr0 : r0 = za G 20 0) {vc rc td : Nat} (hI : mI G vc rc td) {a : Int32} : zC l yX5_told cX5_told 4 (some FieldType.int) 2 0 X [.ref r0, .int a] G (zPi (fun r G2 => r = maTold G a ∧ G = G2)) := by
  subst hr0
  refine zC_of zpn_X5 (zcat rfl) (Nat.le_of_ble_eq_true rfl) ?_
  intro Z hC hE
  replace hC : zCtx l X cX5_told RX5 4 2 0 Z := hC
  change Z 0 G 0 [some (.ref (za G 20 0)), some (.int a), none, none] []
  obtain ⟨hvc, v1, v5, hrc, r12, htd, t39, htx, hgo, hru⟩ := hI
  refine z_iconst hC dX5_told_0 zi_0 ?_
  refine z_is2 hC dX5_told_1 (by decide) ?_
  refine z_il1 hC dX5_told_2 ?_
  rcases zsw5 a with rfl | rfl | rfl | rfl | rfl | hsw
  · refine z_tabIn (off := 33) hC 36 dX5_told_3 (by decide +kernel) (by decide +kernel) (by decide +kernel) rfl ?_
    refine z_al0 hC dX5_told_36 ?_
    refine zgf_X5_7 hC dX5_told_37 ?_
    exact z_reti hE (by omega) dX5_told_40 (⟨by simp [maTold, zt0, zt1, zt2, zt3, zt4, zne01, zne02, zne03, zne04, zne10, zne12, zne13, zne14, zne20, zne21, zne23, zne24, zne30, zne31, zne32, zne34, zne40, zne41, zne42, zne43], rfl⟩)
  · refine z_tabIn (off := 38) hC 41 dX5_told_3 (by decide +kernel) (by decide +kernel) (by decide +kernel) rfl ?_
    refine z_al0 hC dX5_told_41 ?_
    refine zgf_X5_90 hC dX5_told_42 ?_
    exact z_reti hE (by omega) dX5_told_45 (⟨by simp [maTold, zt0, zt1, zt2, zt3, zt4, zne01, zne02, zne03, zne04, zne10, zne12, zne13, zne14, zne20, zne21, zne23, zne24, zne30, zne31, zne32, zne34, zne40, zne41, zne42, zne43], rfl⟩)
  · refine z_tabIn (off := 43) hC 46 dX5_told_3 (by decide +kernel) (by decide +kernel) (by decide +kernel) rfl ?_
    refine z_al0 hC dX5_told_46 ?_
    refine zgf_X5_163 hC dX5_told_47 ?_
    exact z_reti hE (by omega) dX5_told_50 (⟨by simp [maTold, zt0, zt1, zt2, zt3, zt4, zne01, zne02, zne03, zne04, zne10, zne12, zne13, zne14, zne20, zne21, zne23, zne24, zne30, zne31, zne32, zne34, zne40, zne41, zne42, zne43], rfl⟩)
  · refine z_tabIn (off := 48) hC 51 dX5_told_3 (by decide +kernel) (by decide +kernel) (by decide +kernel) rfl ?_
    refine z_iconst hC dX5_told_51 zi_0 ?_
    refine z_is3 hC dX5_told_52 (by decide) ?_
    refine z_loop (N := 6) (fun n => Z 0 G 53 [some (.ref (za G 20 0)), some (.int (nI 3)), some (.int (nI (ctF (fun h => mSilent G h) n))), some (.int (nI n))] []) ?_ ?_ 0 (Nat.zero_le _)
    · change Z 0 G 53 [some (.ref (za G 20 0)), some (.int (nI 3)), some (.int (nI (ctF (fun h => mSilent G h) 6))), some (.int (nI 6))] []
      refine z_il3 hC dX5_told_53 ?_
      refine z_bipush hC dX5_told_54 zb_6 ?_
      refine z_icmp_ge hC 81 dX5_told_56 rfl (fun _ => ?_) (fun h => absurd (nI_le (Nat.le_refl _) (by omega)) h)
      refine z_il2 hC dX5_told_81 ?_
      exact z_reti hE (by omega) dX5_told_82 (⟨by simp [maTold, zt0, zt1, zt2, zt3, zt4, zne01, zne02, zne03, zne04, zne10, zne12, zne13, zne14, zne20, zne21, zne23, zne24, zne30, zne31, zne32, zne34, zne40, zne41, zne42, zne43], rfl⟩)
    · intro n hn ih
      change Z 0 G 53 [some (.ref (za G 20 0)), some (.int (nI 3)), some (.int (nI (ctF (fun h => mSilent G h) n))), some (.int (nI n))] []
      replace ih : Z 0 G 53 [some (.ref (za G 20 0)), some (.int (nI 3)), some (.int (nI (ctF (fun h => mSilent G h) (n + 1)))), some (.int (nI (n + 1)))] [] := ih
      refine z_il3 hC dX5_told_53 ?_
      refine z_bipush hC dX5_told_54 zb_6 ?_
      refine z_icmp_ge hC 81 dX5_told_56 rfl (fun h => absurd h (nI_ge hn (by omega))) (fun _ => ?_)
      refine z_il2 hC dX5_told_59 ?_
      refine z_al0 hC dX5_told_60 ?_
      refine z_il3 hC dX5_told_61 ?_
      refine z_cVi1 hC (c_X5_isSilent l X _ (by rfl) (by omega)) zm_X5_isSilent zi_X5_isSilent zo_20 zk_X5_160 (by omega) (by decide) (by omega) (Nat.le_of_ble_eq_true rfl) dX5_told_62 ?_
      rintro _ _ (⟨hsi62, rfl, rfl⟩ | ⟨hsi62, rfl, rfl⟩)
      · refine z_if_eq hC 72 dX5_told_65 rfl (fun h => absurd h (by decide)) (fun _ => ?_)
        refine z_iconst hC dX5_told_68 zi_1 ?_
        refine z_goto hC 73 dX5_told_69 rfl ?_
        refine z_iaddN hC dX5_told_73 ?_
        refine z_is2 hC dX5_told_74 (by decide) ?_
        refine z_inc3 hC dX5_told_75 (by decide) ?_
        refine z_goto hC 53 dX5_told_78 rfl ?_
        rw [ctF_t0 hsi62] at ih
        exact ih
      · refine z_if_eq hC 72 dX5_told_65 rfl (fun _ => ?_) (fun h => absurd h (by decide))
        refine z_iconst hC dX5_told_72 zi_0 ?_
        refine z_iaddN hC dX5_told_73 ?_
        refine z_is2 hC dX5_told_74 (by decide) ?_
        refine z_inc3 hC dX5_told_75 (by decide) ?_
        refine z_goto hC 53 dX5_told_78 rfl ?_
        rw [ctF_f0 hsi62] at ih
        exact ih
  · refine z_tabIn (off := 80) hC 83 dX5_told_3 (by decide +kernel) (by decide +kernel) (by decide +kernel) rfl ?_
    refine z_iconst hC dX5_told_83 zi_0 ?_
    refine z_is3 hC dX5_told_84 (by decide) ?_
    refine z_loop (N := 8) (fun n => Z 0 G 85 [some (.ref (za G 20 0)), some (.int (nI 4)), some (.int (nI (ctF (fun h => mIsh G h) n))), some (.int (nI n))] []) ?_ ?_ 0 (Nat.zero_le _)
    · change Z 0 G 85 [some (.ref (za G 20 0)), some (.int (nI 4)), some (.int (nI (ctF (fun h => mIsh G h) 8))), some (.int (nI 8))] []
      refine z_il3 hC dX5_told_85 ?_
      refine z_bipush hC dX5_told_86 zb_8 ?_
      refine z_icmp_ge hC 113 dX5_told_88 rfl (fun _ => ?_) (fun h => absurd (nI_le (Nat.le_refl _) (by omega)) h)
      refine z_il2 hC dX5_told_113 ?_
      exact z_reti hE (by omega) dX5_told_114 (⟨by simp [maTold, zt0, zt1, zt2, zt3, zt4, zne01, zne02, zne03, zne04, zne10, zne12, zne13, zne14, zne20, zne21, zne23, zne24, zne30, zne31, zne32, zne34, zne40, zne41, zne42, zne43], rfl⟩)
    · intro n hn ih
      change Z 0 G 85 [some (.ref (za G 20 0)), some (.int (nI 4)), some (.int (nI (ctF (fun h => mIsh G h) n))), some (.int (nI n))] []
      replace ih : Z 0 G 85 [some (.ref (za G 20 0)), some (.int (nI 4)), some (.int (nI (ctF (fun h => mIsh G h) (n + 1)))), some (.int (nI (n + 1)))] [] := ih
      refine z_il3 hC dX5_told_85 ?_
      refine z_bipush hC dX5_told_86 zb_8 ?_
      refine z_icmp_ge hC 113 dX5_told_88 rfl (fun h => absurd h (nI_ge hn (by omega))) (fun _ => ?_)
      refine z_il2 hC dX5_told_91 ?_
      refine z_al0 hC dX5_told_92 ?_
      refine z_il3 hC dX5_told_93 ?_
      refine z_cVi1 hC (c_X5_isShut l X _ (by rfl) (by omega)) zm_X5_isShut zi_X5_isShut zo_20 zk_X5_150 (by omega) (by decide) (by omega) (Nat.le_of_ble_eq_true rfl) dX5_told_94 ?_
      rintro _ _ (⟨hsh94, rfl, rfl⟩ | ⟨hsh94, rfl, rfl⟩)
      · refine z_if_eq hC 104 dX5_told_97 rfl (fun h => absurd h (by decide)) (fun _ => ?_)
        refine z_iconst hC dX5_told_100 zi_1 ?_
        refine z_goto hC 105 dX5_told_101 rfl ?_
        refine z_iaddN hC dX5_told_105 ?_
        refine z_is2 hC dX5_told_106 (by decide) ?_
        refine z_inc3 hC dX5_told_107 (by decide) ?_
        refine z_goto hC 85 dX5_told_110 rfl ?_
        rw [ctF_t0 hsh94] at ih
        exact ih
      · refine z_if_eq hC 104 dX5_told_97 rfl (fun _ => ?_) (fun h => absurd h (by decide))
        refine z_iconst hC dX5_told_104 zi_0 ?_
        refine z_iaddN hC dX5_told_105 ?_
        refine z_is2 hC dX5_told_106 (by decide) ?_
        refine z_inc3 hC dX5_told_107 (by decide) ?_
        refine z_goto hC 85 dX5_told_110 rfl ?_
        rw [ctF_f0 hsh94] at ih
        exact ih
  · refine z_tabOut hC 115 dX5_told_3 hsw rfl ?_
    refine z_iconst hC dX5_told_115 zi_m1 ?_
    exact z_reti hE (by omega) dX5_told_116 (⟨by unfold maTold; rw [if_pos hsw], rfl⟩)

set_option maxHeartbeats 2000000 in
theorem q_trace (l : Launch) (X : zX) (G : zG) {r0 : Nat} (hr0 : r0 = za G 20 0)  : zC l yX5_trace cX5_trace 1 (some FieldType.long) 1 0 X [.ref r0] G (zPl (fun r G2 => r = zt G 1 ∧ G = G2)) := by
  subst hr0
  refine zC_of zpn_X5 (zcat rfl) (Nat.le_of_ble_eq_true rfl) ?_
  intro Z hC hE
  replace hC : zCtx l X cX5_trace RX5 1 1 0 Z := hC
  change Z 0 G 0 [some (.ref (za G 20 0))] []
  refine z_al0 hC dX5_trace_0 ?_
  refine zgf_X5_144 hC dX5_trace_1 ?_
  exact z_retl hE (by omega) dX5_trace_4 (⟨rfl, rfl⟩)

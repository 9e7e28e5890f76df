set_option maxHeartbeats 2000000 in
theorem c_X4_isWithin (l : Launch) (X : zX) (G : zG) {x : Int32} {m : Nat} (hm : m < 2 ^ 31) : zC l yX4_isWithin cX4_isWithin 2 (some FieldType.boolean) 1 0 X [.int x, .int (nI m)] G (zPi (fun r G2 => (∃ a, a < m + 1 ∧ x = nI a ∧ r = nI 1 ∧ G = G2) ∨ (zin x (m + 1) = false ∧ r = nI 0 ∧ G = G2))) := by
  refine zC_of zpn_X4 (zcat rfl) (Nat.le_of_ble_eq_true rfl) ?_
  intro Z hC hE
  replace hC : zCtx l X cX4_isWithin RX4 2 1 0 Z := hC
  change Z 0 G 0 [some (.int x), some (.int (nI m))] []
  refine z_il0 hC dX4_isWithin_0 ?_
  refine z_if_lt hC 13 dX4_isWithin_1 rfl (fun h1 => ?_) (fun h1 => ?_)
  · refine z_iconst hC dX4_isWithin_13 zi_0 ?_
    exact z_retz0 hE (by omega) dX4_isWithin_14 (Or.inr ⟨zin_f0 h1, rfl, rfl⟩)
  · refine z_il0 hC dX4_isWithin_4 ?_
    refine z_il1 hC dX4_isWithin_5 ?_
    refine z_icmp_gt hC 13 dX4_isWithin_6 rfl (fun h6 => ?_) (fun h6 => ?_)
    · refine z_iconst hC dX4_isWithin_13 zi_0 ?_
      exact z_retz0 hE (by omega) dX4_isWithin_14 (Or.inr ⟨zin_f1 hm h6, rfl, rfl⟩)
    · refine z_iconst hC dX4_isWithin_9 zi_1 ?_
      refine z_goto hC 14 dX4_isWithin_10 rfl ?_
      exact z_retz1 hE (by omega) dX4_isWithin_14 (by obtain ⟨a, ha, e⟩ := zin_c hm h1 h6; exact Or.inl ⟨a, ha, e, rfl, rfl⟩)

set_option maxHeartbeats 2000000 in
theorem c_X4_isWithinS (l : Launch) (X : zX) (G : zG) {x : Int32} {n : Nat} (hn : n < 2 ^ 30) : zC l yX4_isWithin cX4_isWithin 2 (some FieldType.boolean) 1 0 X [.int x, .int (nI n - nI 1)] G (zPi (fun r G2 => (∃ a, a < n ∧ x = nI a ∧ r = nI 1 ∧ G = G2) ∨ (zin x n = false ∧ r = nI 0 ∧ G = G2))) := by
  refine zC_of zpn_X4 (zcat rfl) (Nat.le_of_ble_eq_true rfl) ?_
  intro Z hC hE
  replace hC : zCtx l X cX4_isWithin RX4 2 1 0 Z := hC
  change Z 0 G 0 [some (.int x), some (.int (nI n - nI 1))] []
  refine z_il0 hC dX4_isWithin_0 ?_
  refine z_if_lt hC 13 dX4_isWithin_1 rfl (fun h1 => ?_) (fun h1 => ?_)
  · refine z_iconst hC dX4_isWithin_13 zi_0 ?_
    exact z_retz0 hE (by omega) dX4_isWithin_14 (Or.inr ⟨zin_f0 h1, rfl, rfl⟩)
  · refine z_il0 hC dX4_isWithin_4 ?_
    refine z_il1 hC dX4_isWithin_5 ?_
    refine z_icmp_gt hC 13 dX4_isWithin_6 rfl (fun h6 => ?_) (fun h6 => ?_)
    · refine z_iconst hC dX4_isWithin_13 zi_0 ?_
      exact z_retz0 hE (by omega) dX4_isWithin_14 (Or.inr ⟨zin_f2 hn h6, rfl, rfl⟩)
    · refine z_iconst hC dX4_isWithin_9 zi_1 ?_
      refine z_goto hC 14 dX4_isWithin_10 rfl ?_
      exact z_retz1 hE (by omega) dX4_isWithin_14 (by obtain ⟨a, ha, e⟩ := zin_c2 hn h1 h6; exact Or.inl ⟨a, ha, e, rfl, rfl⟩)

set_option maxHeartbeats 2000000 in
theorem c_X4_isFace (l : Launch) (X : zX) (G : zG) {x : Int32} : zC l yX4_isFace cX4_isFace 1 (some FieldType.boolean) 2 0 X [.int x] G (zPi (fun r G2 => (∃ a, a < 8 ∧ x = nI a ∧ r = nI 1 ∧ G = G2) ∨ (zin x 8 = false ∧ r = nI 0 ∧ G = G2))) := by
  refine zC_of zpn_X4 (zcat rfl) (Nat.le_of_ble_eq_true rfl) ?_
  intro Z hC hE
  replace hC : zCtx l X cX4_isFace RX4 1 2 0 Z := hC
  change Z 0 G 0 [some (.int x)] []
  refine z_il0 hC dX4_isFace_0 ?_
  refine z_bipush hC dX4_isFace_1 zb_7 ?_
  refine z_cSi2 hC (c_X4_isWithin l X _ (by omega)) zm_X4_isWithin zi_X4_isWithin zk_X4_58 (by omega) (by decide) (by omega) (Nat.le_of_ble_eq_true rfl) dX4_isFace_3 ?_
  rintro _ _ (⟨xN, hx, rfl, rfl, rfl⟩ | ⟨nx, rfl, rfl⟩)
  · exact z_retz1 hE (by omega) dX4_isFace_6 (Or.inl ⟨xN, hx, rfl, rfl, rfl⟩)
  · exact z_retz0 hE (by omega) dX4_isFace_6 (Or.inr ⟨nx, rfl, rfl⟩)

set_option maxHeartbeats 2000000 in
theorem c_X4_isDay (l : Launch) (X : zX) (G : zG) {x : Int32} : zC l yX4_isDay cX4_isDay 1 (some FieldType.boolean) 2 0 X [.int x] G (zPi (fun r G2 => (∃ a, a < 40 ∧ x = nI a ∧ r = nI 1 ∧ G = G2) ∨ (zin x 40 = false ∧ r = nI 0 ∧ G = G2))) := by
  refine zC_of zpn_X4 (zcat rfl) (Nat.le_of_ble_eq_true rfl) ?_
  intro Z hC hE
  replace hC : zCtx l X cX4_isDay RX4 1 2 0 Z := hC
  change Z 0 G 0 [some (.int x)] []
  refine z_il0 hC dX4_isDay_0 ?_
  refine z_bipush hC dX4_isDay_1 zb_39 ?_
  refine z_cSi2 hC (c_X4_isWithin l X _ (by omega)) zm_X4_isWithin zi_X4_isWithin zk_X4_58 (by omega) (by decide) (by omega) (Nat.le_of_ble_eq_true rfl) dX4_isDay_3 ?_
  rintro _ _ (⟨xN, hx, rfl, rfl, rfl⟩ | ⟨nx, rfl, rfl⟩)
  · exact z_retz1 hE (by omega) dX4_isDay_6 (Or.inl ⟨xN, hx, rfl, rfl, rfl⟩)
  · exact z_retz0 hE (by omega) dX4_isDay_6 (Or.inr ⟨nx, rfl, rfl⟩)

set_option maxHeartbeats 2000000 in
theorem c_X4_isSpan (l : Launch) (X : zX) (G : zG) {x y : Int32} : zC l yX4_isSpan cX4_isSpan 2 (some FieldType.boolean) 3 0 X [.int x, .int y] G (zPi (fun r G2 => (∃ a b, a ≤ b ∧ b < 40 ∧ x = nI a ∧ y = nI b ∧ r = nI 1 ∧ G = G2) ∨ (zspan x y = false ∧ r = nI 0 ∧ G = G2))) := by
  refine zC_of zpn_X4 (zcat rfl) (Nat.le_of_ble_eq_true rfl) ?_
  intro Z hC hE
  replace hC : zCtx l X cX4_isSpan RX4 2 3 0 Z := hC
  change Z 0 G 0 [some (.int x), some (.int y)] []
  refine z_il0 hC dX4_isSpan_0 ?_
  refine z_cSi1 hC (c_X4_isDay l X _) zm_X4_isDay zi_X4_isDay zk_X4_121 (by omega) (by decide) (by omega) (Nat.le_of_ble_eq_true rfl) dX4_isSpan_1 ?_
  rintro _ _ (⟨xN, hx, rfl, rfl, rfl⟩ | ⟨nx, rfl, rfl⟩)
  · refine z_if_eq hC 23 dX4_isSpan_4 rfl (fun h => absurd h (by decide)) (fun _ => ?_)
    refine z_il1 hC dX4_isSpan_7 ?_
    refine z_cSi1 hC (c_X4_isDay l X _) zm_X4_isDay zi_X4_isDay zk_X4_121 (by omega) (by decide) (by omega) (Nat.le_of_ble_eq_true rfl) dX4_isSpan_8 ?_
    rintro _ _ (⟨yN, hy, rfl, rfl, rfl⟩ | ⟨ny, rfl, rfl⟩)
    · refine z_if_eq hC 23 dX4_isSpan_11 rfl (fun h => absurd h (by decide)) (fun _ => ?_)
      refine z_il0 hC dX4_isSpan_14 ?_
      refine z_il1 hC dX4_isSpan_15 ?_
      refine z_icmp_gt hC 23 dX4_isSpan_16 rfl (fun h16 => ?_) (fun h16 => ?_)
      · refine z_iconst hC dX4_isSpan_23 zi_0 ?_
        exact z_retz0 hE (by omega) dX4_isSpan_24 (Or.inr ⟨zspan_f3 h16, rfl, rfl⟩)
      · refine z_iconst hC dX4_isSpan_19 zi_1 ?_
        refine z_goto hC 24 dX4_isSpan_20 rfl ?_
        exact z_retz1 hE (by omega) dX4_isSpan_24 (Or.inl ⟨xN, yN, Nat.le_of_not_lt (fun h => h16 ((nI_ltI (by omega) (by omega)).mpr h)), hy, rfl, rfl, rfl, rfl⟩)
    · refine z_if_eq hC 23 dX4_isSpan_11 rfl (fun _ => ?_) (fun h => absurd h (by decide))
      refine z_iconst hC dX4_isSpan_23 zi_0 ?_
      exact z_retz0 hE (by omega) dX4_isSpan_24 (Or.inr ⟨zspan_f2 ny, rfl, rfl⟩)
  · refine z_if_eq hC 23 dX4_isSpan_4 rfl (fun _ => ?_) (fun h => absurd h (by decide))
    refine z_iconst hC dX4_isSpan_23 zi_0 ?_
    exact z_retz0 hE (by omega) dX4_isSpan_24 (Or.inr ⟨zspan_f1 nx, rfl, rfl⟩)

set_option maxHeartbeats 2000000 in
theorem c_X4_isVersion (l : Launch) (X : zX) (G : zG) {r0 : Nat} (hr0 : r0 = za G 0 0) {x : Int32} {vc : Nat} (hvc : zg G 0 0 4 = nI vc) (h5 : vc ≤ 5) : zC l yX4_isVersion cX4_isVersion 2 (some FieldType.boolean) 2 0 X [.ref r0, .int x] G (zPi (fun r G2 => (∃ a, a < vc ∧ x = nI a ∧ r = nI 1 ∧ G = G2) ∨ (zin x vc = false ∧ r = nI 0 ∧ G = G2))) := by
  subst hr0
  refine zC_of zpn_X4 (zcat rfl) (Nat.le_of_ble_eq_true rfl) ?_
  intro Z hC hE
  replace hC : zCtx l X cX4_isVersion RX4 2 2 0 Z := hC
  change Z 0 G 0 [some (.ref (za G 0 0)), some (.int x)] []
  refine z_il1 hC dX4_isVersion_0 ?_
  refine z_al0 hC dX4_isVersion_1 ?_
  refine zgf_X4_31 hC dX4_isVersion_2 ?_
  refine z_top hvc ?_
  refine z_iconst hC dX4_isVersion_5 zi_1 ?_
  refine z_isub hC dX4_isVersion_6 ?_
  refine z_cSi2 hC (c_X4_isWithinS l X _ (by omega)) zm_X4_isWithin zi_X4_isWithin zk_X4_58 (by omega) (by decide) (by omega) (Nat.le_of_ble_eq_true rfl) dX4_isVersion_7 ?_
  rintro _ _ (⟨xN, hx, rfl, rfl, rfl⟩ | ⟨nx, rfl, rfl⟩)
  · exact z_retz1 hE (by omega) dX4_isVersion_10 (Or.inl ⟨xN, hx, rfl, rfl, rfl⟩)
  · exact z_retz0 hE (by omega) dX4_isVersion_10 (Or.inr ⟨nx, rfl, rfl⟩)

set_option maxHeartbeats 2000000 in
theorem c_X4_doorAt (l : Launch) (X : zX) (G : zG) {r0 : Nat} (hr0 : r0 = za G 0 0) {x : Int32} : zC l yX4_doorAt cX4_doorAt 2 (some (FieldType.object "WhoCalls$Door")) 3 0 X [.ref r0, .int x] G (zPa (fun r G2 => (∃ a, a < 8 ∧ x = nI a ∧ r = .ref (za G 4 a) ∧ G = G2) ∨ (zin x 8 = false ∧ r = .null ∧ G = G2))) := by
  subst hr0
  refine zC_of zpn_X4 (zcat rfl) (Nat.le_of_ble_eq_true rfl) ?_
  intro Z hC hE
  replace hC : zCtx l X cX4_doorAt RX4 2 3 0 Z := hC
  change Z 0 G 0 [some (.ref (za G 0 0)), some (.int x)] []
  refine z_il1 hC dX4_doorAt_0 ?_
  refine z_cSi1 hC (c_X4_isFace l X _) zm_X4_isFace zi_X4_isFace zk_X4_80 (by omega) (by decide) (by omega) (Nat.le_of_ble_eq_true rfl) dX4_doorAt_1 ?_
  rintro _ _ (⟨xN, hx, rfl, rfl, rfl⟩ | ⟨nx, rfl, rfl⟩)
  · refine z_if_eq hC 16 dX4_doorAt_4 rfl (fun h => absurd h (by decide)) (fun _ => ?_)
    refine z_al0 hC dX4_doorAt_7 ?_
    refine zgf_X4_11 hC dX4_doorAt_8 ?_
    refine z_il1 hC dX4_doorAt_11 ?_
    refine zal_1 hC (hx) dX4_doorAt_12 ?_
    refine z_goto hC 17 dX4_doorAt_13 rfl ?_
    exact z_retaR hE (by omega) dX4_doorAt_17 (Or.inl ⟨xN, hx, rfl, rfl, rfl⟩)
  · refine z_if_eq hC 16 dX4_doorAt_4 rfl (fun _ => ?_) (fun h => absurd h (by decide))
    refine z_null hC dX4_doorAt_16 ?_
    exact z_retaN hE (by omega) dX4_doorAt_17 (Or.inr ⟨nx, rfl, rfl⟩)

set_option maxHeartbeats 2000000 in
theorem c_X4_houseAt (l : Launch) (X : zX) (G : zG) {r0 : Nat} (hr0 : r0 = za G 0 0) {x : Int32} : zC l yX4_houseAt cX4_houseAt 2 (some (FieldType.object "WhoCalls$House")) 2 0 X [.ref r0, .int x] G (zPa (fun r G2 => (∃ a, a < 6 ∧ x = nI a ∧ r = .ref (za G 7 a) ∧ G = G2) ∨ (zin x 6 = false ∧ r = .null ∧ G = G2))) := by
  subst hr0
  refine zC_of zpn_X4 (zcat rfl) (Nat.le_of_ble_eq_true rfl) ?_
  intro Z hC hE
  replace hC : zCtx l X cX4_houseAt RX4 2 2 0 Z := hC
  change Z 0 G 0 [some (.ref (za G 0 0)), some (.int x)] []
  refine z_il1 hC dX4_houseAt_0 ?_
  refine z_iconst hC dX4_houseAt_1 zi_5 ?_
  refine z_cSi2 hC (c_X4_isWithin l X _ (by omega)) zm_X4_isWithin zi_X4_isWithin zk_X4_58 (by omega) (by decide) (by omega) (Nat.le_of_ble_eq_true rfl) dX4_houseAt_2 ?_
  rintro _ _ (⟨xN, hx, rfl, rfl, rfl⟩ | ⟨nx, rfl, rfl⟩)
  · refine z_if_eq hC 17 dX4_houseAt_5 rfl (fun h => absurd h (by decide)) (fun _ => ?_)
    refine z_al0 hC dX4_houseAt_8 ?_
    refine zgf_X4_17 hC dX4_houseAt_9 ?_
    refine z_il1 hC dX4_houseAt_12 ?_
    refine zal_2 hC (hx) dX4_houseAt_13 ?_
    refine z_goto hC 18 dX4_houseAt_14 rfl ?_
    exact z_retaR hE (by omega) dX4_houseAt_18 (Or.inl ⟨xN, hx, rfl, rfl, rfl⟩)
  · refine z_if_eq hC 17 dX4_houseAt_5 rfl (fun _ => ?_) (fun h => absurd h (by decide))
    refine z_null hC dX4_houseAt_17 ?_
    exact z_retaN hE (by omega) dX4_houseAt_18 (Or.inr ⟨nx, rfl, rfl⟩)

set_option maxHeartbeats 2000000 in
theorem c_X4_ruleAt (l : Launch) (X : zX) (G : zG) {r0 : Nat} (hr0 : r0 = za G 0 0) {x : Int32} {rc : Nat} (hrc : zg G 0 0 3 = nI rc) (hr12 : rc ≤ 12) (hn0 : zn G 0 = rc) (hn1 : zn G 1 = rc) : zC l yX4_ruleAt cX4_ruleAt 2 (some (FieldType.object "WhoCalls$Rule")) 2 0 X [.ref r0, .int x] G (zPa (fun r G2 => (∃ a, a < rc ∧ x = nI a ∧ r = .ref (za G 17 a) ∧ G = G2) ∨ (zin x rc = false ∧ r = .null ∧ G = G2))) := by
  subst hr0
  refine zC_of zpn_X4 (zcat rfl) (Nat.le_of_ble_eq_true rfl) ?_
  intro Z hC hE
  replace hC : zCtx l X cX4_ruleAt RX4 2 2 0 Z := hC
  change Z 0 G 0 [some (.ref (za G 0 0)), some (.int x)] []
  refine z_il1 hC dX4_ruleAt_0 ?_
  refine z_al0 hC dX4_ruleAt_1 ?_
  refine zgf_X4_27 hC dX4_ruleAt_2 ?_
  refine z_top hrc ?_
  refine z_iconst hC dX4_ruleAt_5 zi_1 ?_
  refine z_isub hC dX4_ruleAt_6 ?_
  refine z_cSi2 hC (c_X4_isWithinS l X _ (by omega)) zm_X4_isWithin zi_X4_isWithin zk_X4_58 (by omega) (by decide) (by omega) (Nat.le_of_ble_eq_true rfl) dX4_ruleAt_7 ?_
  rintro _ _ (⟨xN, hx, rfl, rfl, rfl⟩ | ⟨nx, rfl, rfl⟩)
  · refine z_if_eq hC 22 dX4_ruleAt_10 rfl (fun h => absurd h (by decide)) (fun _ => ?_)
    refine z_al0 hC dX4_ruleAt_13 ?_
    refine zgf_X4_23 hC dX4_ruleAt_14 ?_
    refine z_il1 hC dX4_ruleAt_17 ?_
    refine zal_3 hC (by omega) (by omega) dX4_ruleAt_18 ?_
    refine z_goto hC 23 dX4_ruleAt_19 rfl ?_
    exact z_retaR hE (by omega) dX4_ruleAt_23 (Or.inl ⟨xN, hx, rfl, rfl, rfl⟩)
  · refine z_if_eq hC 22 dX4_ruleAt_10 rfl (fun _ => ?_) (fun h => absurd h (by decide))
    refine z_null hC dX4_ruleAt_22 ?_
    exact z_retaN hE (by omega) dX4_ruleAt_23 (Or.inr ⟨nx, rfl, rfl⟩)

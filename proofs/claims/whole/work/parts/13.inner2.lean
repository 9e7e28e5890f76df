set_option maxHeartbeats 2000000 in
theorem c_X4_isWithinT (l : Launch) (X : zX) (G : zG) {a m : Nat} (h0 : a ≤ m) (hm : m < 2 ^ 31) : zC l yX4_isWithin cX4_isWithin 2 (some FieldType.boolean) 1 0 X [.int (nI a), .int (nI m)] G (zPi (fun r G2 => r = nI 1 ∧ G = G2)) := by
  refine zC_of zpn_X4 (zcat rfl) (Nat.le_of_ble_eq_true rfl) ?_
  intro Z hC hE
  replace hC : zCtx l X cX4_isWithin RX4 2 1 0 Z := hC
  change Z 0 G 0 [some (.int (nI a)), some (.int (nI m))] []
  refine z_il0 hC dX4_isWithin_0 ?_
  refine z_if_lt hC 13 dX4_isWithin_1 rfl (fun h => absurd h (nI_pos (by omega))) (fun _ => ?_)
  refine z_il0 hC dX4_isWithin_4 ?_
  refine z_il1 hC dX4_isWithin_5 ?_
  refine z_icmp_gt hC 13 dX4_isWithin_6 rfl (fun h => absurd h (nI_nlt h0 (by omega))) (fun _ => ?_)
  refine z_iconst hC dX4_isWithin_9 zi_1 ?_
  refine z_goto hC 14 dX4_isWithin_10 rfl ?_
  exact z_retz1 hE (by omega) dX4_isWithin_14 (⟨rfl, rfl⟩)

set_option maxHeartbeats 2000000 in
theorem c_X4_isWithinST (l : Launch) (X : zX) (G : zG) {a n : Nat} (h0 : a < n) (hm : n < 2 ^ 30) : zC l yX4_isWithin cX4_isWithin 2 (some FieldType.boolean) 1 0 X [.int (nI a), .int (nI n - nI 1)] G (zPi (fun r G2 => r = nI 1 ∧ G = G2)) := by
  refine zC_of zpn_X4 (zcat rfl) (Nat.le_of_ble_eq_true rfl) ?_
  intro Z hC hE
  replace hC : zCtx l X cX4_isWithin RX4 2 1 0 Z := hC
  change Z 0 G 0 [some (.int (nI a)), some (.int (nI n - nI 1))] []
  refine z_il0 hC dX4_isWithin_0 ?_
  refine z_if_lt hC 13 dX4_isWithin_1 rfl (fun h => absurd h (nI_pos (by omega))) (fun _ => ?_)
  refine z_il0 hC dX4_isWithin_4 ?_
  refine z_il1 hC dX4_isWithin_5 ?_
  refine z_icmp_gt hC 13 dX4_isWithin_6 rfl (fun h => absurd h (by rw [pk_sub (by omega)]; exact nI_nlt (by omega) (by omega))) (fun _ => ?_)
  refine z_iconst hC dX4_isWithin_9 zi_1 ?_
  refine z_goto hC 14 dX4_isWithin_10 rfl ?_
  exact z_retz1 hE (by omega) dX4_isWithin_14 (⟨rfl, rfl⟩)

set_option maxHeartbeats 2000000 in
theorem c_X4_isFaceT (l : Launch) (X : zX) (G : zG) {a : Nat} (h0 : a < 8) : zC l yX4_isFace cX4_isFace 1 (some FieldType.boolean) 2 0 X [.int (nI a)] G (zPi (fun r G2 => r = nI 1 ∧ G = G2)) := by
  refine zC_of zpn_X4 (zcat rfl) (Nat.le_of_ble_eq_true rfl) ?_
  intro Z hC hE
  replace hC : zCtx l X cX4_isFace RX4 1 2 0 Z := hC
  change Z 0 G 0 [some (.int (nI a))] []
  refine z_il0 hC dX4_isFace_0 ?_
  refine z_bipush hC dX4_isFace_1 zb_7 ?_
  refine z_cSi2 hC (c_X4_isWithinT l X _ (by omega) (by omega)) zm_X4_isWithin zi_X4_isWithin zk_X4_58 (by omega) (by decide) (by omega) (Nat.le_of_ble_eq_true rfl) dX4_isFace_3 ?_
  rintro _ _ ⟨rfl, rfl⟩
  exact z_retz1 hE (by omega) dX4_isFace_6 (⟨rfl, rfl⟩)

set_option maxHeartbeats 2000000 in
theorem c_X4_doorAtT (l : Launch) (X : zX) (G : zG) {r0 : Nat} (hr0 : r0 = za G 0 0) {a : Nat} (h0 : a < 8) : zC l yX4_doorAt cX4_doorAt 2 (some (FieldType.object "WhoCalls$Door")) 3 0 X [.ref r0, .int (nI a)] G (zPa (fun r G2 => r = .ref (za G 4 a) ∧ G = G2)) := by
  subst hr0
  refine zC_of zpn_X4 (zcat rfl) (Nat.le_of_ble_eq_true rfl) ?_
  intro Z hC hE
  replace hC : zCtx l X cX4_doorAt RX4 2 3 0 Z := hC
  change Z 0 G 0 [some (.ref (za G 0 0)), some (.int (nI a))] []
  refine z_il1 hC dX4_doorAt_0 ?_
  refine z_cSi1 hC (c_X4_isFaceT l X _ (by omega)) zm_X4_isFace zi_X4_isFace zk_X4_80 (by omega) (by decide) (by omega) (Nat.le_of_ble_eq_true rfl) dX4_doorAt_1 ?_
  rintro _ _ ⟨rfl, rfl⟩
  refine z_if_eq hC 16 dX4_doorAt_4 rfl (fun h => absurd h (by decide)) (fun _ => ?_)
  refine z_al0 hC dX4_doorAt_7 ?_
  refine zgf_X4_11 hC dX4_doorAt_8 ?_
  refine z_il1 hC dX4_doorAt_11 ?_
  refine zal_1 hC (h0) dX4_doorAt_12 ?_
  refine z_goto hC 17 dX4_doorAt_13 rfl ?_
  exact z_retaR hE (by omega) dX4_doorAt_17 (⟨rfl, rfl⟩)

set_option maxHeartbeats 2000000 in
theorem c_X4_houseAtT (l : Launch) (X : zX) (G : zG) {r0 : Nat} (hr0 : r0 = za G 0 0) {a : Nat} (h0 : a < 6) : zC l yX4_houseAt cX4_houseAt 2 (some (FieldType.object "WhoCalls$House")) 2 0 X [.ref r0, .int (nI a)] G (zPa (fun r G2 => r = .ref (za G 7 a) ∧ G = G2)) := by
  subst hr0
  refine zC_of zpn_X4 (zcat rfl) (Nat.le_of_ble_eq_true rfl) ?_
  intro Z hC hE
  replace hC : zCtx l X cX4_houseAt RX4 2 2 0 Z := hC
  change Z 0 G 0 [some (.ref (za G 0 0)), some (.int (nI a))] []
  refine z_il1 hC dX4_houseAt_0 ?_
  refine z_iconst hC dX4_houseAt_1 zi_5 ?_
  refine z_cSi2 hC (c_X4_isWithinT l X _ (by omega) (by omega)) zm_X4_isWithin zi_X4_isWithin zk_X4_58 (by omega) (by decide) (by omega) (Nat.le_of_ble_eq_true rfl) dX4_houseAt_2 ?_
  rintro _ _ ⟨rfl, rfl⟩
  refine z_if_eq hC 17 dX4_houseAt_5 rfl (fun h => absurd h (by decide)) (fun _ => ?_)
  refine z_al0 hC dX4_houseAt_8 ?_
  refine zgf_X4_17 hC dX4_houseAt_9 ?_
  refine z_il1 hC dX4_houseAt_12 ?_
  refine zal_2 hC (h0) dX4_houseAt_13 ?_
  refine z_goto hC 18 dX4_houseAt_14 rfl ?_
  exact z_retaR hE (by omega) dX4_houseAt_18 (⟨rfl, rfl⟩)

set_option maxHeartbeats 2000000 in
theorem c_X4_ruleAtT (l : Launch) (X : zX) (G : zG) {r0 : Nat} (hr0 : r0 = za G 0 0) {a rc : Nat} (h0 : a < rc) (hrc : zg G 0 0 3 = nI rc) (hr12 : rc ≤ 12) (hn0 : zn G 0 = rc) (hn1 : zn G 1 = rc) : zC l yX4_ruleAt cX4_ruleAt 2 (some (FieldType.object "WhoCalls$Rule")) 2 0 X [.ref r0, .int (nI a)] G (zPa (fun r G2 => r = .ref (za G 17 a) ∧ G = G2)) := by
  subst hr0
  refine zC_of zpn_X4 (zcat rfl) (Nat.le_of_ble_eq_true rfl) ?_
  intro Z hC hE
  replace hC : zCtx l X cX4_ruleAt RX4 2 2 0 Z := hC
  change Z 0 G 0 [some (.ref (za G 0 0)), some (.int (nI a))] []
  refine z_il1 hC dX4_ruleAt_0 ?_
  refine z_al0 hC dX4_ruleAt_1 ?_
  refine zgf_X4_27 hC dX4_ruleAt_2 ?_
  refine z_top hrc ?_
  refine z_iconst hC dX4_ruleAt_5 zi_1 ?_
  refine z_isub hC dX4_ruleAt_6 ?_
  refine z_cSi2 hC (c_X4_isWithinST l X _ (by omega) (by omega)) zm_X4_isWithin zi_X4_isWithin zk_X4_58 (by omega) (by decide) (by omega) (Nat.le_of_ble_eq_true rfl) dX4_ruleAt_7 ?_
  rintro _ _ ⟨rfl, rfl⟩
  refine z_if_eq hC 22 dX4_ruleAt_10 rfl (fun h => absurd h (by decide)) (fun _ => ?_)
  refine z_al0 hC dX4_ruleAt_13 ?_
  refine zgf_X4_23 hC dX4_ruleAt_14 ?_
  refine z_il1 hC dX4_ruleAt_17 ?_
  refine zal_3 hC (by omega) (by omega) dX4_ruleAt_18 ?_
  refine z_goto hC 23 dX4_ruleAt_19 rfl ?_
  exact z_retaR hE (by omega) dX4_ruleAt_23 (⟨rfl, rfl⟩)

set_option maxHeartbeats 2000000 in
theorem c_X3_hasT (l : Launch) (X : zX) (G : zG) {i : Nat} {r0 : Nat} (hr0 : r0 = za G 10 i)  (hi : i < 6) {a n : Nat} (h0 : a < n) (hsz : zg G 10 i 6 = nI n) (h12 : n ≤ 12) : zC l yX3_has cX3_has 2 (some FieldType.boolean) 2 0 X [.ref r0, .int (nI a)] G (zPi (fun r G2 => r = nI 1 ∧ G = G2)) := by
  subst hr0
  refine zC_of zpn_X3 (zcat rfl) (Nat.le_of_ble_eq_true rfl) ?_
  intro Z hC hE
  replace hC : zCtx l X cX3_has RX3 2 2 0 Z := hC
  change Z 0 G 0 [some (.ref (za G 10 i)), some (.int (nI a))] []
  refine z_il1 hC dX3_has_0 ?_
  refine z_al0 hC dX3_has_1 ?_
  refine zgf_X3_30 hC hi dX3_has_2 ?_
  refine z_top hsz ?_
  refine z_iconst hC dX3_has_5 zi_1 ?_
  refine z_isub hC dX3_has_6 ?_
  refine z_cSNi2 hC (c_X4_isWithinST l X _ (by omega) (by omega)) zm_X4_isWithin zi_X4_isWithin zkn_X3_34 (by omega) (by decide) (by omega) (Nat.le_of_ble_eq_true rfl) dX3_has_7 ?_
  rintro _ _ ⟨rfl, rfl⟩
  exact z_retz1 hE (by omega) dX3_has_10 (⟨rfl, rfl⟩)

set_option maxHeartbeats 2000000 in
theorem c_X3_steps_aux (l : Launch) (X : zX) (G : zG) {i sz : Nat} (hi : i < 6) (hsz : zg G 10 i 6 = nI sz) (h12 : sz ≤ 12) (hT : zTx G i sz) : ∀ (n : Nat) {r0 : Nat} (_ : r0 = za G 10 i) {s k : Nat} {a : Int32} (_ : s < n) (_ : k + n ≤ 12) (_ : s < sz), zC l yX3_steps cX3_steps 6 (some FieldType.int) (n + 2) 0 X [.ref r0, .int (nI s), .int a, .int (nI k)] G (zPi (fun r G2 => r = xSteps G i n s a ∧ G = G2)) := by
  intro n
  induction n with
  | zero => intro r0 hr0 s k a h1 h2 h3; omega
  | succ n ih =>
    intro r0 hr0 s k a hsn hkn hs
    subst hr0
    refine zC_of zpn_X3 (zcat rfl) (Nat.le_of_ble_eq_true rfl) ?_
    intro Z hC hE
    replace hC : zCtx l X cX3_steps RX3 6 (n + 1 + 2) 0 Z := hC
    change Z 0 G 0 [some (.ref (za G 10 i)), some (.int (nI s)), some (.int a), some (.int (nI k)), none, none] []
    refine z_il2 hC dX3_steps_0 ?_
    refine z_if_eq hC 18 dX3_steps_1 rfl (fun h1 => ?_) (fun h1 => ?_)
    · refine z_iconst hC dX3_steps_18 zi_0 ?_
      exact z_reti hE (by omega) dX3_steps_19 (⟨(xSteps_a0 G i n s h1).symm, rfl⟩)
    · refine z_il3 hC dX3_steps_4 ?_
      refine z_bipush hC dX3_steps_5 zb_12 ?_
      refine z_icmp_ge hC 18 dX3_steps_7 rfl (fun h => absurd h (nI_ge (show k < 12 by omega) (by decide))) (fun _ => ?_)
      refine z_al0 hC dX3_steps_10 ?_
      refine z_il1 hC dX3_steps_11 ?_
      refine z_cVi1 hC (c_X3_hasT l X _ (by rfl) hi hs hsz h12) zm_X3_has zi_X3_has (zo_10 hi) zk_X3_50 (by omega) (by decide) (by omega) (Nat.le_of_ble_eq_true rfl) dX3_steps_12 ?_
      rintro _ _ ⟨rfl, rfl⟩
      refine z_if_ne hC 20 dX3_steps_15 rfl (fun _ => ?_) (fun h => absurd h (by decide))
      refine z_al0 hC dX3_steps_20 ?_
      refine zgf_X3_21 hC hi dX3_steps_21 ?_
      refine z_il1 hC dX3_steps_24 ?_
      refine zal_14 hC hi (by omega) dX3_steps_25 ?_
      refine z_is4 hC dX3_steps_26 (by decide) ?_
      refine z_al0 hC dX3_steps_28 ?_
      refine zgf_X3_9 hC hi dX3_steps_29 ?_
      refine z_il1 hC dX3_steps_32 ?_
      refine zal_11 hC hi (by omega) dX3_steps_33 ?_
      rcases hT s hs with h0 | ⟨hk, f, hf, ef⟩ | ⟨hk, f, g, hf, hg, ef, eg⟩
      · refine z_top h0 ?_
        refine z_look (off := 26) hC 60 dX3_steps_34 (by decide +kernel) (by decide +kernel) rfl ?_
        refine z_iconst hC dX3_steps_60 zi_1 ?_
        exact z_reti hE (by omega) dX3_steps_61 (⟨(xSteps_k0 h1 h0).symm, rfl⟩)
      · refine z_top hk ?_
        refine z_look (off := 28) hC 62 dX3_steps_34 (by decide +kernel) (by decide +kernel) rfl ?_
        refine z_bipush hC dX3_steps_62 zb_10 ?_
        refine z_al0 hC dX3_steps_64 ?_
        refine z_al0 hC dX3_steps_65 ?_
        refine zgf_X3_15 hC hi dX3_steps_66 ?_
        refine z_il1 hC dX3_steps_69 ?_
        refine zal_12 hC hi (by omega) dX3_steps_70 ?_
        refine z_top ef ?_
        refine z_il2 hC dX3_steps_71 ?_
        refine z_il4 hC dX3_steps_72 ?_
        refine z_cSi2 hC (c_X3_turned l X _) zm_X3_turned zi_X3_turned zk_X3_54 (by omega) (by decide) (by omega) (Nat.le_of_ble_eq_true rfl) dX3_steps_74 ?_
        rintro _ _ ⟨rfl, rfl⟩
        refine z_il3 hC dX3_steps_77 ?_
        refine z_iconst hC dX3_steps_78 zi_1 ?_
        refine z_iaddN hC dX3_steps_79 ?_
        refine z_cSi4 hC (ih (by rfl) (by omega) (by omega) (by omega)) zm_X3_steps zi_X3_steps zk_X3_46 (by omega) (by decide) (by omega) (Nat.le_of_ble_eq_true rfl) dX3_steps_80 ?_
        rintro _ _ ⟨rfl, rfl⟩
        refine z_iadd hC dX3_steps_83 ?_
        exact z_reti hE (by omega) dX3_steps_84 (⟨(xSteps_k1 h1 hk ef (by omega)).symm, rfl⟩)
      · refine z_top hk ?_
        refine z_look (off := 51) hC 85 dX3_steps_34 (by decide +kernel) (by decide +kernel) rfl ?_
        refine z_iconst hC dX3_steps_85 zi_1 ?_
        refine z_il4 hC dX3_steps_86 ?_
        refine z_ishl hC dX3_steps_88 ?_
        refine z_iconst hC dX3_steps_89 zi_1 ?_
        refine z_isub hC dX3_steps_90 ?_
        refine z_is5 hC dX3_steps_91 (by decide) ?_
        refine z_bipush hC dX3_steps_93 zb_100 ?_
        refine z_al0 hC dX3_steps_95 ?_
        refine z_al0 hC dX3_steps_96 ?_
        refine zgf_X3_15 hC hi dX3_steps_97 ?_
        refine z_il1 hC dX3_steps_100 ?_
        refine zal_12 hC hi (by omega) dX3_steps_101 ?_
        refine z_top ef ?_
        refine z_il2 hC dX3_steps_102 ?_
        refine z_il5 hC dX3_steps_103 ?_
        refine z_iand hC dX3_steps_105 ?_
        refine z_il3 hC dX3_steps_106 ?_
        refine z_iconst hC dX3_steps_107 zi_1 ?_
        refine z_iaddN hC dX3_steps_108 ?_
        refine z_cSi4 hC (ih (by rfl) (by omega) (by omega) (by omega)) zm_X3_steps zi_X3_steps zk_X3_46 (by omega) (by decide) (by omega) (Nat.le_of_ble_eq_true rfl) dX3_steps_109 ?_
        rintro _ _ ⟨rfl, rfl⟩
        refine z_iadd hC dX3_steps_112 ?_
        refine z_al0 hC dX3_steps_113 ?_
        refine z_al0 hC dX3_steps_114 ?_
        refine zgf_X3_18 hC hi dX3_steps_115 ?_
        refine z_il1 hC dX3_steps_118 ?_
        refine zal_13 hC hi (by omega) dX3_steps_119 ?_
        refine z_top eg ?_
        refine z_il2 hC dX3_steps_120 ?_
        refine z_il5 hC dX3_steps_121 ?_
        refine z_iconst hC dX3_steps_123 zi_m1 ?_
        refine z_ixor hC dX3_steps_124 ?_
        refine z_iand hC dX3_steps_125 ?_
        refine z_il3 hC dX3_steps_126 ?_
        refine z_iconst hC dX3_steps_127 zi_1 ?_
        refine z_iaddN hC dX3_steps_128 ?_
        refine z_cSi4 hC (ih (by rfl) (by omega) (by omega) (by omega)) zm_X3_steps zi_X3_steps zk_X3_46 (by omega) (by decide) (by omega) (Nat.le_of_ble_eq_true rfl) dX3_steps_129 ?_
        rintro _ _ ⟨rfl, rfl⟩
        refine z_iadd hC dX3_steps_132 ?_
        exact z_reti hE (by omega) dX3_steps_133 (⟨(xSteps_k2 h1 hk ef (by omega) eg (by omega)).symm, rfl⟩)

set_option maxHeartbeats 2000000 in
theorem c_X3_stepsOf (l : Launch) (X : zX) (G : zG) {i : Nat} {r0 : Nat} (hr0 : r0 = za G 10 i)  (hi : i < 6) {s sz : Nat} (hs : s < sz) (hsz : zg G 10 i 6 = nI sz) (h12 : sz ≤ 12) (hT : zTx G i sz) : zC l yX3_stepsOf cX3_stepsOf 2 (some FieldType.int) 15 0 X [.ref r0, .int (nI s)] G (zPi (fun r G2 => r = xSteps G i 12 s (zg G 15 i s) ∧ G = G2)) := by
  subst hr0
  refine zC_of zpn_X3 (zcat rfl) (Nat.le_of_ble_eq_true rfl) ?_
  intro Z hC hE
  replace hC : zCtx l X cX3_stepsOf RX3 2 15 0 Z := hC
  change Z 0 G 0 [some (.ref (za G 10 i)), some (.int (nI s))] []
  refine z_al0 hC dX3_stepsOf_0 ?_
  refine z_il1 hC dX3_stepsOf_1 ?_
  refine z_al0 hC dX3_stepsOf_2 ?_
  refine zgf_X3_24 hC hi dX3_stepsOf_3 ?_
  refine z_il1 hC dX3_stepsOf_6 ?_
  refine zal_15 hC hi (by omega) dX3_stepsOf_7 ?_
  refine z_iconst hC dX3_stepsOf_8 zi_0 ?_
  refine z_cSi4 hC (c_X3_steps_aux l X _ hi hsz h12 hT 12 (by rfl) (by omega) (by omega) (by omega)) zm_X3_steps zi_X3_steps zk_X3_46 (by omega) (by decide) (by omega) (Nat.le_of_ble_eq_true rfl) dX3_stepsOf_9 ?_
  rintro _ _ ⟨rfl, rfl⟩
  exact z_reti hE (by omega) dX3_stepsOf_12 (⟨rfl, rfl⟩)

set_option maxHeartbeats 2000000 in
theorem c_X4_isHeld (l : Launch) (X : zX) (G : zG) {r0 : Nat} (hr0 : r0 = za G 0 0) {q v u f t d : Nat} (hq : q < zn G 0) (hv5 : v < 5) (hu5 : u < 5) (hf8 : f < 8) (ht8 : t < 8) (hd8 : d < 8) (ef : zg G 17 q 0 = nI f) (et : zg G 17 q 2 = nI t) (ed : zg G 17 q 3 = nI d) : zC l yX4_isHeld cX4_isHeld 8 (some FieldType.boolean) 4 0 X [.ref r0, .ref (za G 17 q), .int (nI v), .int (nI u)] G (zPi (fun r G2 => (xHeld G f (zg G 17 q 1) t d v u = true ∧ r = nI 1 ∧ G = G2) ∨ (xHeld G f (zg G 17 q 1) t d v u = false ∧ r = nI 0 ∧ G = G2))) := by
  subst hr0
  refine zC_of zpn_X4 (zcat rfl) (Nat.le_of_ble_eq_true rfl) ?_
  intro Z hC hE
  replace hC : zCtx l X cX4_isHeld RX4 8 4 0 Z := hC
  change Z 0 G 0 [some (.ref (za G 0 0)), some (.ref (za G 17 q)), some (.int (nI v)), some (.int (nI u)), none, none, none, none] []
  refine z_al0 hC dX4_isHeld_0 ?_
  refine z_al1 hC dX4_isHeld_1 ?_
  refine zgf_X4_168 hC hq dX4_isHeld_2 ?_
  refine z_top ef ?_
  refine z_cVa1 hC (c_X4_doorAtT l X _ (by rfl) (by omega)) zm_X4_doorAt zi_X4_doorAt zo_0 zk_X4_50 (by omega) (by decide) (by omega) (Nat.le_of_ble_eq_true rfl) dX4_isHeld_5 ?_
  rintro _ _ ⟨rfl, rfl⟩
  refine z_as4 hC dX4_isHeld_8 (by decide) ?_
  refine z_al0 hC dX4_isHeld_10 ?_
  refine z_al1 hC dX4_isHeld_11 ?_
  refine zgf_X4_174 hC hq dX4_isHeld_12 ?_
  refine z_top et ?_
  refine z_cVa1 hC (c_X4_doorAtT l X _ (by rfl) (by omega)) zm_X4_doorAt zi_X4_doorAt zo_0 zk_X4_50 (by omega) (by decide) (by omega) (Nat.le_of_ble_eq_true rfl) dX4_isHeld_15 ?_
  rintro _ _ ⟨rfl, rfl⟩
  refine z_as5 hC dX4_isHeld_18 (by decide) ?_
  refine z_al4 hC dX4_isHeld_20 ?_
  refine z_ifnull hC dX4_isHeld_22 ?_
  refine z_al5 hC dX4_isHeld_25 ?_
  refine z_ifnonnull hC 32 dX4_isHeld_27 rfl ?_
  refine z_iconst hC dX4_isHeld_32 zi_0 ?_
  refine z_is6 hC dX4_isHeld_33 (by decide) ?_
  refine z_loop (N := 8) (fun n => (∀ j, j < n → (fun a => decide ((zg G 17 q 1 >>> (nI a &&& 31)) &&& nI 1 = 0 ∨ zg G 5 f (v * 8 + a) = zg G 5 t (u * 8 + (a + d) % 8))) j = true) → Z 0 G 35 [some (.ref (za G 0 0)), some (.ref (za G 17 q)), some (.int (nI v)), some (.int (nI u)), some (.ref (za G 4 f)), some (.ref (za G 4 t)), some (.int (nI n)), none] []) ?_ ?_ 0 (Nat.zero_le _) lt_0
  · intro hv
    change Z 0 G 35 [some (.ref (za G 0 0)), some (.ref (za G 17 q)), some (.int (nI v)), some (.int (nI u)), some (.ref (za G 4 f)), some (.ref (za G 4 t)), some (.int (nI 8)), none] []
    refine z_il6 hC dX4_isHeld_35 ?_
    refine z_bipush hC dX4_isHeld_37 zb_8 ?_
    refine z_icmp_ge hC 101 dX4_isHeld_39 rfl (fun _ => ?_) (fun h => absurd (nI_le (Nat.le_refl _) (by omega)) h)
    refine z_iconst hC dX4_isHeld_101 zi_1 ?_
    exact z_retz1 hE (by omega) dX4_isHeld_102 (Or.inl ⟨alF_t hv, rfl, rfl⟩)
  · intro n hn ih hv
    change Z 0 G 35 [some (.ref (za G 0 0)), some (.ref (za G 17 q)), some (.int (nI v)), some (.int (nI u)), some (.ref (za G 4 f)), some (.ref (za G 4 t)), some (.int (nI n)), none] []
    replace ih : (∀ j, j < (n + 1) → (fun a => decide ((zg G 17 q 1 >>> (nI a &&& 31)) &&& nI 1 = 0 ∨ zg G 5 f (v * 8 + a) = zg G 5 t (u * 8 + (a + d) % 8))) j = true) → Z 0 G 35 [some (.ref (za G 0 0)), some (.ref (za G 17 q)), some (.int (nI v)), some (.int (nI u)), some (.ref (za G 4 f)), some (.ref (za G 4 t)), some (.int (nI (n + 1))), none] [] := ih
    refine z_il6 hC dX4_isHeld_35 ?_
    refine z_bipush hC dX4_isHeld_37 zb_8 ?_
    refine z_icmp_ge hC 101 dX4_isHeld_39 rfl (fun h => absurd h (nI_ge hn (by omega))) (fun _ => ?_)
    refine z_al1 hC dX4_isHeld_42 ?_
    refine zgf_X4_171 hC hq dX4_isHeld_43 ?_
    refine z_il6 hC dX4_isHeld_46 ?_
    refine z_ishr hC dX4_isHeld_48 ?_
    refine z_iconst hC dX4_isHeld_49 zi_1 ?_
    refine z_iand hC dX4_isHeld_50 ?_
    refine z_if_eq hC 58 dX4_isHeld_51 rfl (fun h51 => ?_) (fun h51 => ?_)
    · refine z_iconst hC dX4_isHeld_58 zi_0 ?_
      refine z_is7 hC dX4_isHeld_59 (by decide) ?_
      refine z_il7 hC dX4_isHeld_61 ?_
      refine z_if_eq hC 95 dX4_isHeld_63 rfl (fun _ => ?_) (fun h => absurd h (by decide))
      refine z_inc6 hC dX4_isHeld_95 (by decide) ?_
      refine z_goto hC 35 dX4_isHeld_98 rfl ?_
      refine z_dr7 hC ?_
      exact ih (lt_s hv (decide_eq_true (Or.inl h51)))
    · refine z_iconst hC dX4_isHeld_54 zi_1 ?_
      refine z_goto hC 59 dX4_isHeld_55 rfl ?_
      refine z_is7 hC dX4_isHeld_59 (by decide) ?_
      refine z_il7 hC dX4_isHeld_61 ?_
      refine z_if_eq hC 95 dX4_isHeld_63 rfl (fun h => absurd h (by decide)) (fun _ => ?_)
      refine z_al4 hC dX4_isHeld_66 ?_
      refine z_il2 hC dX4_isHeld_68 ?_
      refine z_il6 hC dX4_isHeld_69 ?_
      refine z_cVNi2 hC (c_X0_answerTo l X _ (by rfl) hf8 (by omega) (by omega)) zm_X0_answerTo zi_X0_answerTo (zo_4 hf8) zkn_X4_62 (by omega) (by decide) (by omega) (Nat.le_of_ble_eq_true rfl) dX4_isHeld_71 ?_
      rintro _ _ ⟨rfl, rfl⟩
      refine z_al5 hC dX4_isHeld_74 ?_
      refine z_il3 hC dX4_isHeld_76 ?_
      refine z_il6 hC dX4_isHeld_77 ?_
      refine z_al1 hC dX4_isHeld_79 ?_
      refine zgf_X4_177 hC hq dX4_isHeld_80 ?_
      refine z_top ed ?_
      refine z_iaddN hC dX4_isHeld_83 ?_
      refine z_bipush hC dX4_isHeld_84 zb_8 ?_
      refine z_iremN hC dX4_isHeld_86 (by omega) (by omega) (by omega) ?_
      refine z_cVNi2 hC (c_X0_answerTo l X _ (by rfl) ht8 (by omega) (by omega)) zm_X0_answerTo zi_X0_answerTo (zo_4 ht8) zkn_X4_62 (by omega) (by decide) (by omega) (Nat.le_of_ble_eq_true rfl) dX4_isHeld_87 ?_
      rintro _ _ ⟨rfl, rfl⟩
      refine z_icmp_eq hC 95 dX4_isHeld_90 rfl (fun h90 => ?_) (fun h90 => ?_)
      · refine z_inc6 hC dX4_isHeld_95 (by decide) ?_
        refine z_goto hC 35 dX4_isHeld_98 rfl ?_
        refine z_dr7 hC ?_
        exact ih (lt_s hv (decide_eq_true (Or.inr h90)))
      · refine z_iconst hC dX4_isHeld_93 zi_0 ?_
        exact z_retz0 hE (by omega) dX4_isHeld_94 (Or.inr ⟨alF_f (k := n) (decide_eq_false (fun h => h.elim h51 h90)) hn, rfl, rfl⟩)

set_option maxHeartbeats 2000000 in
theorem c_X4_silentHouses (l : Launch) (X : zX) (G : zG) {r0 : Nat} (hr0 : r0 = za G 0 0)  : zC l yX4_silentHouses cX4_silentHouses 6 (some FieldType.int) 2 0 X [.ref r0] G (zPi (fun r G2 => r = nI (ctF (fun h => xSilent G h) 6) ∧ G = G2)) := by
  subst hr0
  refine zC_of zpn_X4 (zcat rfl) (Nat.le_of_ble_eq_true rfl) ?_
  intro Z hC hE
  replace hC : zCtx l X cX4_silentHouses RX4 6 2 0 Z := hC
  change Z 0 G 0 [some (.ref (za G 0 0)), none, none, none, none, none] []
  refine z_iconst hC dX4_silentHouses_0 zi_0 ?_
  refine z_is1 hC dX4_silentHouses_1 (by decide) ?_
  refine z_al0 hC dX4_silentHouses_2 ?_
  refine zgf_X4_17 hC dX4_silentHouses_3 ?_
  refine z_as2 hC dX4_silentHouses_6 (by decide) ?_
  refine z_al2 hC dX4_silentHouses_7 ?_
  refine zlen_2 hC dX4_silentHouses_8 ?_
  refine z_is3 hC dX4_silentHouses_9 (by decide) ?_
  refine z_iconst hC dX4_silentHouses_10 zi_0 ?_
  refine z_is4 hC dX4_silentHouses_11 (by decide) ?_
  refine z_loop (N := 6) (fun n => Z 0 G 13 [some (.ref (za G 0 0)), some (.int (nI (ctF (fun h => xSilent G h) n))), some (.ref (za G 2 0)), some (.int (nI 6)), some (.int (nI n)), none] []) ?_ ?_ 0 (Nat.zero_le _)
  · change Z 0 G 13 [some (.ref (za G 0 0)), some (.int (nI (ctF (fun h => xSilent G h) 6))), some (.ref (za G 2 0)), some (.int (nI 6)), some (.int (nI 6)), none] []
    refine z_il4 hC dX4_silentHouses_13 ?_
    refine z_il3 hC dX4_silentHouses_15 ?_
    refine z_icmp_ge hC 42 dX4_silentHouses_16 rfl (fun _ => ?_) (fun h => absurd (nI_le (Nat.le_refl _) (by omega)) h)
    refine z_il1 hC dX4_silentHouses_42 ?_
    exact z_reti hE (by omega) dX4_silentHouses_43 (⟨rfl, rfl⟩)
  · intro n hn ih
    change Z 0 G 13 [some (.ref (za G 0 0)), some (.int (nI (ctF (fun h => xSilent G h) n))), some (.ref (za G 2 0)), some (.int (nI 6)), some (.int (nI n)), none] []
    replace ih : Z 0 G 13 [some (.ref (za G 0 0)), some (.int (nI (ctF (fun h => xSilent G h) (n + 1)))), some (.ref (za G 2 0)), some (.int (nI 6)), some (.int (nI (n + 1))), none] [] := ih
    refine z_il4 hC dX4_silentHouses_13 ?_
    refine z_il3 hC dX4_silentHouses_15 ?_
    refine z_icmp_ge hC 42 dX4_silentHouses_16 rfl (fun h => absurd h (nI_ge hn (by omega))) (fun _ => ?_)
    refine z_al2 hC dX4_silentHouses_19 ?_
    refine z_il4 hC dX4_silentHouses_20 ?_
    refine zal_2 hC (hn) dX4_silentHouses_22 ?_
    refine z_as5 hC dX4_silentHouses_23 (by decide) ?_
    refine z_al5 hC dX4_silentHouses_25 ?_
    refine z_cVNi0 hC (c_X1_isSilent l X _ (by rfl) hn) zm_X1_isSilent zi_X1_isSilent (zo_7 hn) zkn_X4_147 (by omega) (by decide) (by omega) (Nat.le_of_ble_eq_true rfl) dX4_silentHouses_27 ?_
    rintro _ _ (⟨hsi, rfl, rfl⟩ | ⟨hsi, rfl, rfl⟩)
    · refine z_if_eq hC 36 dX4_silentHouses_30 rfl (fun h => absurd h (by decide)) (fun _ => ?_)
      refine z_inc1 hC dX4_silentHouses_33 (by decide) ?_
      refine z_inc4 hC dX4_silentHouses_36 (by decide) ?_
      refine z_goto hC 13 dX4_silentHouses_39 rfl ?_
      refine z_dr5 hC ?_
      rw [ctF_t hsi] at ih
      exact ih
    · refine z_if_eq hC 36 dX4_silentHouses_30 rfl (fun _ => ?_) (fun h => absurd h (by decide))
      refine z_inc4 hC dX4_silentHouses_36 (by decide) ?_
      refine z_goto hC 13 dX4_silentHouses_39 rfl ?_
      refine z_dr5 hC ?_
      rw [ctF_f hsi] at ih
      exact ih

set_option maxHeartbeats 2000000 in
theorem c_X4_shutDoors (l : Launch) (X : zX) (G : zG) {r0 : Nat} (hr0 : r0 = za G 0 0)  : zC l yX4_shutDoors cX4_shutDoors 6 (some FieldType.int) 2 0 X [.ref r0] G (zPi (fun r G2 => r = nI (ctF (fun h => xShut G h (zg G 0 0 5)) 8) ∧ G = G2)) := by
  subst hr0
  refine zC_of zpn_X4 (zcat rfl) (Nat.le_of_ble_eq_true rfl) ?_
  intro Z hC hE
  replace hC : zCtx l X cX4_shutDoors RX4 6 2 0 Z := hC
  change Z 0 G 0 [some (.ref (za G 0 0)), none, none, none, none, none] []
  refine z_iconst hC dX4_shutDoors_0 zi_0 ?_
  refine z_is1 hC dX4_shutDoors_1 (by decide) ?_
  refine z_al0 hC dX4_shutDoors_2 ?_
  refine zgf_X4_11 hC dX4_shutDoors_3 ?_
  refine z_as2 hC dX4_shutDoors_6 (by decide) ?_
  refine z_al2 hC dX4_shutDoors_7 ?_
  refine zlen_1 hC dX4_shutDoors_8 ?_
  refine z_is3 hC dX4_shutDoors_9 (by decide) ?_
  refine z_iconst hC dX4_shutDoors_10 zi_0 ?_
  refine z_is4 hC dX4_shutDoors_11 (by decide) ?_
  refine z_loop (N := 8) (fun n => Z 0 G 13 [some (.ref (za G 0 0)), some (.int (nI (ctF (fun h => xShut G h (zg G 0 0 5)) n))), some (.ref (za G 1 0)), some (.int (nI 8)), some (.int (nI n)), none] []) ?_ ?_ 0 (Nat.zero_le _)
  · change Z 0 G 13 [some (.ref (za G 0 0)), some (.int (nI (ctF (fun h => xShut G h (zg G 0 0 5)) 8))), some (.ref (za G 1 0)), some (.int (nI 8)), some (.int (nI 8)), none] []
    refine z_il4 hC dX4_shutDoors_13 ?_
    refine z_il3 hC dX4_shutDoors_15 ?_
    refine z_icmp_ge hC 46 dX4_shutDoors_16 rfl (fun _ => ?_) (fun h => absurd (nI_le (Nat.le_refl _) (by omega)) h)
    refine z_il1 hC dX4_shutDoors_46 ?_
    exact z_reti hE (by omega) dX4_shutDoors_47 (⟨rfl, rfl⟩)
  · intro n hn ih
    change Z 0 G 13 [some (.ref (za G 0 0)), some (.int (nI (ctF (fun h => xShut G h (zg G 0 0 5)) n))), some (.ref (za G 1 0)), some (.int (nI 8)), some (.int (nI n)), none] []
    replace ih : Z 0 G 13 [some (.ref (za G 0 0)), some (.int (nI (ctF (fun h => xShut G h (zg G 0 0 5)) (n + 1)))), some (.ref (za G 1 0)), some (.int (nI 8)), some (.int (nI (n + 1))), none] [] := ih
    refine z_il4 hC dX4_shutDoors_13 ?_
    refine z_il3 hC dX4_shutDoors_15 ?_
    refine z_icmp_ge hC 46 dX4_shutDoors_16 rfl (fun h => absurd h (nI_ge hn (by omega))) (fun _ => ?_)
    refine z_al2 hC dX4_shutDoors_19 ?_
    refine z_il4 hC dX4_shutDoors_20 ?_
    refine zal_1 hC (hn) dX4_shutDoors_22 ?_
    refine z_as5 hC dX4_shutDoors_23 (by decide) ?_
    refine z_al5 hC dX4_shutDoors_25 ?_
    refine z_al0 hC dX4_shutDoors_27 ?_
    refine zgf_X4_34 hC dX4_shutDoors_28 ?_
    refine z_cVNi1 hC (c_X0_isShutOn l X _ (by rfl) hn) zm_X0_isShutOn zi_X0_isShutOn (zo_4 hn) zkn_X4_132 (by omega) (by decide) (by omega) (Nat.le_of_ble_eq_true rfl) dX4_shutDoors_31 ?_
    rintro _ _ (⟨hsh, rfl, rfl⟩ | ⟨hsh, rfl, rfl⟩)
    · refine z_if_eq hC 40 dX4_shutDoors_34 rfl (fun h => absurd h (by decide)) (fun _ => ?_)
      refine z_inc1 hC dX4_shutDoors_37 (by decide) ?_
      refine z_inc4 hC dX4_shutDoors_40 (by decide) ?_
      refine z_goto hC 13 dX4_shutDoors_43 rfl ?_
      refine z_dr5 hC ?_
      rw [ctF_t hsh] at ih
      exact ih
    · refine z_if_eq hC 40 dX4_shutDoors_34 rfl (fun _ => ?_) (fun h => absurd h (by decide))
      refine z_inc4 hC dX4_shutDoors_40 (by decide) ?_
      refine z_goto hC 13 dX4_shutDoors_43 rfl ?_
      refine z_dr5 hC ?_
      rw [ctF_f hsh] at ih
      exact ih

set_option maxHeartbeats 2000000 in
theorem c_X4_becomeCost (l : Launch) (X : zX) (G : zG) {i : Nat} (hi : i < 8) {x : Int32} : zC l yX4_becomeCost cX4_becomeCost 3 (some FieldType.int) 1 0 X [.ref (za G 4 i), .int x] G (zPi (fun r G2 => r = zg G 4 i 4 ∧ G2 = zu G 4 i 4 x)) := by
  refine zC_of zpn_X4 (zcat rfl) (Nat.le_of_ble_eq_true rfl) ?_
  intro Z hC hE
  replace hC : zCtx l X cX4_becomeCost RX4 3 1 0 Z := hC
  change Z 0 G 0 [some (.ref (za G 4 i)), some (.int x), none] []
  refine z_al0 hC dX4_becomeCost_0 ?_
  refine z_ifnonnull hC 6 dX4_becomeCost_1 rfl ?_
  refine z_al0 hC dX4_becomeCost_6 ?_
  refine zgf_X4_210 hC hi dX4_becomeCost_7 ?_
  refine z_is2 hC dX4_becomeCost_10 (by decide) ?_
  refine z_al0 hC dX4_becomeCost_11 ?_
  refine z_il1 hC dX4_becomeCost_12 ?_
  refine zpf_X4_210 hC hi dX4_becomeCost_13 ?_
  refine z_il2 hC dX4_becomeCost_16 ?_
  exact z_reti hE (by omega) dX4_becomeCost_17 (⟨rfl, rfl⟩)

set_option maxHeartbeats 2000000 in
theorem c_X4_becomeCostN (l : Launch) (X : zX) (G : zG) {x : Int32} : zC l yX4_becomeCost cX4_becomeCost 3 (some FieldType.int) 1 0 X [.null, .int x] G (zPi (fun r G2 => r = -1 ∧ G2 = G)) := by
  refine zC_of zpn_X4 (zcat rfl) (Nat.le_of_ble_eq_true rfl) ?_
  intro Z hC hE
  replace hC : zCtx l X cX4_becomeCost RX4 3 1 0 Z := hC
  change Z 0 G 0 [some (.null), some (.int x), none] []
  refine z_nl0 hC dX4_becomeCost_0 ?_
  refine z_ifnonnullN hC dX4_becomeCost_1 ?_
  refine z_iconst hC dX4_becomeCost_4 zi_m1 ?_
  exact z_reti hE (by omega) dX4_becomeCost_5 (⟨rfl, rfl⟩)

set_option maxHeartbeats 2000000 in
theorem c_X4_becomeHours (l : Launch) (X : zX) (G : zG) {i : Nat} (hi : i < 6) {x : Int32} : zC l yX4_becomeHours cX4_becomeHours 3 (some FieldType.int) 1 0 X [.ref (za G 7 i), .int x] G (zPi (fun r G2 => r = zg G 7 i 5 ∧ G2 = zu G 7 i 5 x)) := by
  refine zC_of zpn_X4 (zcat rfl) (Nat.le_of_ble_eq_true rfl) ?_
  intro Z hC hE
  replace hC : zCtx l X cX4_becomeHours RX4 3 1 0 Z := hC
  change Z 0 G 0 [some (.ref (za G 7 i)), some (.int x), none] []
  refine z_al0 hC dX4_becomeHours_0 ?_
  refine z_ifnonnull hC 6 dX4_becomeHours_1 rfl ?_
  refine z_al0 hC dX4_becomeHours_6 ?_
  refine zgf_X4_216 hC hi dX4_becomeHours_7 ?_
  refine z_is2 hC dX4_becomeHours_10 (by decide) ?_
  refine z_al0 hC dX4_becomeHours_11 ?_
  refine z_il1 hC dX4_becomeHours_12 ?_
  refine zpf_X4_216 hC hi dX4_becomeHours_13 ?_
  refine z_il2 hC dX4_becomeHours_16 ?_
  exact z_reti hE (by omega) dX4_becomeHours_17 (⟨rfl, rfl⟩)

set_option maxHeartbeats 2000000 in
theorem c_X4_becomeHoursN (l : Launch) (X : zX) (G : zG) {x : Int32} : zC l yX4_becomeHours cX4_becomeHours 3 (some FieldType.int) 1 0 X [.null, .int x] G (zPi (fun r G2 => r = -1 ∧ G2 = G)) := by
  refine zC_of zpn_X4 (zcat rfl) (Nat.le_of_ble_eq_true rfl) ?_
  intro Z hC hE
  replace hC : zCtx l X cX4_becomeHours RX4 3 1 0 Z := hC
  change Z 0 G 0 [some (.null), some (.int x), none] []
  refine z_nl0 hC dX4_becomeHours_0 ?_
  refine z_ifnonnullN hC dX4_becomeHours_1 ?_
  refine z_iconst hC dX4_becomeHours_4 zi_m1 ?_
  exact z_reti hE (by omega) dX4_becomeHours_5 (⟨rfl, rfl⟩)

set_option maxHeartbeats 2000000 in
theorem c_X4_hoursWithout (l : Launch) (X : zX) (G : zG) {r0 : Nat} (hr0 : r0 = za G 0 0) {f : Int32} (hall : ∀ h, h < 6 → ∃ n, n ≤ 12 ∧ zg G 10 h 6 = nI n) : zC l yX4_hoursWithout cX4_hoursWithout 7 (some FieldType.int) 3 0 X [.ref r0, .int f] G (zPi (fun r G2 => r = xHrs G f 6 ∧ G = G2)) := by
  subst hr0
  refine zC_of zpn_X4 (zcat rfl) (Nat.le_of_ble_eq_true rfl) ?_
  intro Z hC hE
  replace hC : zCtx l X cX4_hoursWithout RX4 7 3 0 Z := hC
  change Z 0 G 0 [some (.ref (za G 0 0)), some (.int f), none, none, none, none, none] []
  refine z_iconst hC dX4_hoursWithout_0 zi_0 ?_
  refine z_is2 hC dX4_hoursWithout_1 (by decide) ?_
  refine z_al0 hC dX4_hoursWithout_2 ?_
  refine zgf_X4_17 hC dX4_hoursWithout_3 ?_
  refine z_as3 hC dX4_hoursWithout_6 (by decide) ?_
  refine z_al3 hC dX4_hoursWithout_7 ?_
  refine zlen_2 hC dX4_hoursWithout_8 ?_
  refine z_is4 hC dX4_hoursWithout_9 (by decide) ?_
  refine z_iconst hC dX4_hoursWithout_11 zi_0 ?_
  refine z_is5 hC dX4_hoursWithout_12 (by decide) ?_
  refine z_loop (N := 6) (fun n => Z 0 G 14 [some (.ref (za G 0 0)), some (.int f), some (.int (xHrs G f n)), some (.ref (za G 2 0)), some (.int (nI 6)), some (.int (nI n)), none] []) ?_ ?_ 0 (Nat.zero_le _)
  · change Z 0 G 14 [some (.ref (za G 0 0)), some (.int f), some (.int (xHrs G f 6)), some (.ref (za G 2 0)), some (.int (nI 6)), some (.int (nI 6)), none] []
    refine z_il5 hC dX4_hoursWithout_14 ?_
    refine z_il4 hC dX4_hoursWithout_16 ?_
    refine z_icmp_ge hC 53 dX4_hoursWithout_18 rfl (fun _ => ?_) (fun h => absurd (nI_le (Nat.le_refl _) (by omega)) h)
    refine z_il2 hC dX4_hoursWithout_53 ?_
    exact z_reti hE (by omega) dX4_hoursWithout_54 (⟨rfl, rfl⟩)
  · intro n hn ih
    change Z 0 G 14 [some (.ref (za G 0 0)), some (.int f), some (.int (xHrs G f n)), some (.ref (za G 2 0)), some (.int (nI 6)), some (.int (nI n)), none] []
    replace ih : Z 0 G 14 [some (.ref (za G 0 0)), some (.int f), some (.int (xHrs G f (n + 1))), some (.ref (za G 2 0)), some (.int (nI 6)), some (.int (nI (n + 1))), none] [] := ih
    refine z_il5 hC dX4_hoursWithout_14 ?_
    refine z_il4 hC dX4_hoursWithout_16 ?_
    refine z_icmp_ge hC 53 dX4_hoursWithout_18 rfl (fun h => absurd h (nI_ge hn (by omega))) (fun _ => ?_)
    obtain ⟨sz, h12, hsz⟩ := hall n hn
    refine z_al3 hC dX4_hoursWithout_21 ?_
    refine z_il5 hC dX4_hoursWithout_22 ?_
    refine zal_2 hC (hn) dX4_hoursWithout_24 ?_
    refine z_as6 hC dX4_hoursWithout_25 (by decide) ?_
    refine z_al6 hC dX4_hoursWithout_27 ?_
    refine zgf_X4_83 hC hn dX4_hoursWithout_29 ?_
    refine z_il1 hC dX4_hoursWithout_32 ?_
    refine z_cVNi1 hC (c_X3_used l X _ (by rfl) hn (by assumption) (by assumption)) zm_X3_used zi_X3_used (zo_10 hn) zkn_X4_113 (by omega) (by decide) (by omega) (Nat.le_of_ble_eq_true rfl) dX4_hoursWithout_33 ?_
    rintro _ _ ⟨rfl, rfl⟩
    refine z_if_eq hC 47 dX4_hoursWithout_36 rfl (fun h36 => ?_) (fun h36 => ?_)
    · refine z_inc5 hC dX4_hoursWithout_47 (by decide) ?_
      refine z_goto hC 14 dX4_hoursWithout_50 rfl ?_
      refine z_dr6 hC ?_
      rw [xHrs_t h36] at ih
      exact ih
    · refine z_il2 hC dX4_hoursWithout_39 ?_
      refine z_al6 hC dX4_hoursWithout_40 ?_
      refine zgf_X4_216 hC hn dX4_hoursWithout_42 ?_
      refine z_iadd hC dX4_hoursWithout_45 ?_
      refine z_is2 hC dX4_hoursWithout_46 (by decide) ?_
      refine z_inc5 hC dX4_hoursWithout_47 (by decide) ?_
      refine z_goto hC 14 dX4_hoursWithout_50 rfl ?_
      refine z_dr6 hC ?_
      rw [xHrs_f h36] at ih
      exact ih

set_option maxHeartbeats 2000000 in
theorem c_X4_isKept (l : Launch) (X : zX) (G : zG) {r0 : Nat} (hr0 : r0 = za G 0 0) {i : Nat} (hi : i < 8) {x : Int32} : zC l yX4_isKept cX4_isKept 3 (some FieldType.boolean) 4 0 X [.ref r0, .ref (za G 4 i), .int x] G (zPi (fun r G2 => (xKept G i x = true ∧ r = nI 1 ∧ G = G2) ∨ (xKept G i x = false ∧ r = nI 0 ∧ G = G2))) := by
  subst hr0
  refine zC_of zpn_X4 (zcat rfl) (Nat.le_of_ble_eq_true rfl) ?_
  intro Z hC hE
  replace hC : zCtx l X cX4_isKept RX4 3 4 0 Z := hC
  change Z 0 G 0 [some (.ref (za G 0 0)), some (.ref (za G 4 i)), some (.int x)] []
  refine z_al1 hC dX4_isKept_0 ?_
  refine z_al0 hC dX4_isKept_1 ?_
  refine zgf_X4_34 hC dX4_isKept_2 ?_
  refine z_iconst hC dX4_isKept_5 zi_1 ?_
  refine z_iadd hC dX4_isKept_6 ?_
  refine z_cVNi1 hC (c_X0_isPromised l X _ (by rfl) hi) zm_X0_isPromised zi_X0_isPromised (zo_4 hi) zkn_X4_183 (by omega) (by decide) (by omega) (Nat.le_of_ble_eq_true rfl) dX4_isKept_7 ?_
  rintro _ _ (⟨hpr, rfl, rfl⟩ | ⟨hpr, rfl, rfl⟩)
  · refine z_if_ne hC 21 dX4_isKept_10 rfl (fun _ => ?_) (fun h => absurd h (by decide))
    refine z_iconst hC dX4_isKept_21 zi_1 ?_
    refine z_goto hC 26 dX4_isKept_22 rfl ?_
    exact z_retz1 hE (by omega) dX4_isKept_26 (Or.inl ⟨decide_eq_true (Or.inl hpr), rfl, rfl⟩)
  · refine z_if_ne hC 21 dX4_isKept_10 rfl (fun h => absurd h (by decide)) (fun _ => ?_)
    refine z_al1 hC dX4_isKept_13 ?_
    refine zgf_X4_210 hC hi dX4_isKept_14 ?_
    refine z_il2 hC dX4_isKept_17 ?_
    refine z_icmp_ge hC 25 dX4_isKept_18 rfl (fun h18 => ?_) (fun h18 => ?_)
    · refine z_iconst hC dX4_isKept_25 zi_0 ?_
      exact z_retz0 hE (by omega) dX4_isKept_26 (Or.inr ⟨decide_eq_false (fun h => h.elim (fun q => absurd q (Int32.not_le.mpr hpr)) (fun q => absurd q (Int32.not_lt.mpr h18))), rfl, rfl⟩)
    · refine z_iconst hC dX4_isKept_21 zi_1 ?_
      refine z_goto hC 26 dX4_isKept_22 rfl ?_
      exact z_retz1 hE (by omega) dX4_isKept_26 (Or.inl ⟨decide_eq_true (Or.inr (Int32.not_le.mp h18)), rfl, rfl⟩)

set_option maxHeartbeats 2000000 in
theorem c_J6_bitCount_0f7a4 (l : Launch) (X : zX) (G : zG) {x : Int32} : zC l yJ6_bitCount_0f7a4 cJ6_bitCount_0f7a4 1 (some FieldType.int) 1 0 X [.int x] G (zPi (fun r G2 => r = xBc x ∧ G = G2)) := by
  refine zC_of zpn_J6 (zcat rfl) (Nat.le_of_ble_eq_true rfl) ?_
  intro Z hC hE
  replace hC : zCtx l X cJ6_bitCount_0f7a4 RJ6 1 1 0 Z := hC
  change Z 0 G 0 [some (.int x)] []
  refine z_il0 hC dJ6_bitCount_0f7a4_0 ?_
  refine z_il0 hC dJ6_bitCount_0f7a4_1 ?_
  refine z_iconst hC dJ6_bitCount_0f7a4_2 zi_1 ?_
  refine z_iushr hC dJ6_bitCount_0f7a4_3 rfl ?_
  refine z_ldcw hC zcn_J6_265 dJ6_bitCount_0f7a4_4 ?_
  refine z_iand hC dJ6_bitCount_0f7a4_7 ?_
  refine z_isub hC dJ6_bitCount_0f7a4_8 ?_
  refine z_is0 hC dJ6_bitCount_0f7a4_9 (by decide) ?_
  refine z_il0 hC dJ6_bitCount_0f7a4_10 ?_
  refine z_ldcw hC zcn_J6_266 dJ6_bitCount_0f7a4_11 ?_
  refine z_iand hC dJ6_bitCount_0f7a4_14 ?_
  refine z_il0 hC dJ6_bitCount_0f7a4_15 ?_
  refine z_iconst hC dJ6_bitCount_0f7a4_16 zi_2 ?_
  refine z_iushr hC dJ6_bitCount_0f7a4_17 rfl ?_
  refine z_ldcw hC zcn_J6_266 dJ6_bitCount_0f7a4_18 ?_
  refine z_iand hC dJ6_bitCount_0f7a4_21 ?_
  refine z_iadd hC dJ6_bitCount_0f7a4_22 ?_
  refine z_is0 hC dJ6_bitCount_0f7a4_23 (by decide) ?_
  refine z_il0 hC dJ6_bitCount_0f7a4_24 ?_
  refine z_il0 hC dJ6_bitCount_0f7a4_25 ?_
  refine z_iconst hC dJ6_bitCount_0f7a4_26 zi_4 ?_
  refine z_iushr hC dJ6_bitCount_0f7a4_27 rfl ?_
  refine z_iadd hC dJ6_bitCount_0f7a4_28 ?_
  refine z_ldcw hC zcn_J6_267 dJ6_bitCount_0f7a4_29 ?_
  refine z_iand hC dJ6_bitCount_0f7a4_32 ?_
  refine z_is0 hC dJ6_bitCount_0f7a4_33 (by decide) ?_
  refine z_il0 hC dJ6_bitCount_0f7a4_34 ?_
  refine z_il0 hC dJ6_bitCount_0f7a4_35 ?_
  refine z_bipush hC dJ6_bitCount_0f7a4_36 zb_8 ?_
  refine z_iushr hC dJ6_bitCount_0f7a4_38 rfl ?_
  refine z_iadd hC dJ6_bitCount_0f7a4_39 ?_
  refine z_is0 hC dJ6_bitCount_0f7a4_40 (by decide) ?_
  refine z_il0 hC dJ6_bitCount_0f7a4_41 ?_
  refine z_il0 hC dJ6_bitCount_0f7a4_42 ?_
  refine z_bipush hC dJ6_bitCount_0f7a4_43 zb_16 ?_
  refine z_iushr hC dJ6_bitCount_0f7a4_45 rfl ?_
  refine z_iadd hC dJ6_bitCount_0f7a4_46 ?_
  refine z_is0 hC dJ6_bitCount_0f7a4_47 (by decide) ?_
  refine z_il0 hC dJ6_bitCount_0f7a4_48 ?_
  refine z_bipush hC dJ6_bitCount_0f7a4_49 zb_63 ?_
  refine z_iand hC dJ6_bitCount_0f7a4_51 ?_
  exact z_reti hE (by omega) dJ6_bitCount_0f7a4_52 (⟨rfl, rfl⟩)

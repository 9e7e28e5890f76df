set_option maxHeartbeats 2000000 in
theorem c_X0_answerTo (l : Launch) (X : zX) (G : zG) {i v a : Nat} {r0 : Nat} (hr0 : r0 = za G 4 i)  (hi : i < 8) (hv : v < 5) (ha : a < 8) : zC l yX0_answerTo cX0_answerTo 3 (some FieldType.int) 1 0 X [.ref r0, .int (nI v), .int (nI a)] G (zPi (fun r G2 => r = zg G 5 i (v * 8 + a) ∧ G = G2)) := by
  subst hr0
  refine zC_of zpn_X0 (zcat rfl) (Nat.le_of_ble_eq_true rfl) ?_
  intro Z hC hE
  replace hC : zCtx l X cX0_answerTo RX0 3 1 0 Z := hC
  change Z 0 G 0 [some (.ref (za G 4 i)), some (.int (nI v)), some (.int (nI a))] []
  refine z_al0 hC dX0_answerTo_0 ?_
  refine zgf_X0_9 hC hi dX0_answerTo_1 ?_
  refine z_il1 hC dX0_answerTo_4 ?_
  refine z_bipush hC dX0_answerTo_5 zb_8 ?_
  refine z_imulN hC dX0_answerTo_7 ?_
  refine z_il2 hC dX0_answerTo_8 ?_
  refine z_iaddN hC dX0_answerTo_9 ?_
  refine zal_5 hC hi (by omega) dX0_answerTo_10 ?_
  exact z_reti hE (by omega) dX0_answerTo_11 (⟨rfl, rfl⟩)

set_option maxHeartbeats 2000000 in
theorem c_X0_copyAnswers (l : Launch) (X : zX) (G : zG) {i v u : Nat} {r0 : Nat} (hr0 : r0 = za G 4 i)  (hi : i < 8) (hv : v < 5) (hu : u < 5) : zC l yX0_copyAnswers cX0_copyAnswers 3 none 1 0 X [.ref r0, .int (nI v), .int (nI u)] G (zPv (fun G2 => G2 = zuA G 5 i (va_cpy (zg G 5 i) (zg G 5 i) (v * 8) (u * 8) 8))) := by
  subst hr0
  refine zC_of zpn_X0 (zcat rfl) (Nat.le_of_ble_eq_true rfl) ?_
  intro Z hC hE
  replace hC : zCtx l X cX0_copyAnswers RX0 3 1 0 Z := hC
  change Z 0 G 0 [some (.ref (za G 4 i)), some (.int (nI v)), some (.int (nI u))] []
  refine z_al0 hC dX0_copyAnswers_0 ?_
  refine zgf_X0_9 hC hi dX0_copyAnswers_1 ?_
  refine z_il1 hC dX0_copyAnswers_4 ?_
  refine z_bipush hC dX0_copyAnswers_5 zb_8 ?_
  refine z_imulN hC dX0_copyAnswers_7 ?_
  refine z_al0 hC dX0_copyAnswers_8 ?_
  refine zgf_X0_9 hC hi dX0_copyAnswers_9 ?_
  refine z_il2 hC dX0_copyAnswers_12 ?_
  refine z_bipush hC dX0_copyAnswers_13 zb_8 ?_
  refine z_imulN hC dX0_copyAnswers_15 ?_
  refine z_bipush hC dX0_copyAnswers_16 zb_8 ?_
  refine z_copy5 hC hi (by omega) (by omega) (by omega) (Nat.le_of_ble_eq_true rfl) dX0_copyAnswers_18 ?_
  exact z_retv hE (by omega) dX0_copyAnswers_21 (rfl)

set_option maxHeartbeats 2000000 in
theorem c_X0_differing (l : Launch) (X : zX) (G : zG) {i v u : Nat} {r0 : Nat} (hr0 : r0 = za G 4 i)  (hi : i < 8) (hv : v < 5) (hu : u < 5) : zC l yX0_differing cX0_differing 5 (some FieldType.int) 2 0 X [.ref r0, .int (nI v), .int (nI u)] G (zPi (fun r G2 => r = xDif G i v u ∧ G = G2)) := by
  subst hr0
  refine zC_of zpn_X0 (zcat rfl) (Nat.le_of_ble_eq_true rfl) ?_
  intro Z hC hE
  replace hC : zCtx l X cX0_differing RX0 5 2 0 Z := hC
  change Z 0 G 0 [some (.ref (za G 4 i)), some (.int (nI v)), some (.int (nI u)), none, none] []
  refine z_iconst hC dX0_differing_0 zi_0 ?_
  refine z_is3 hC dX0_differing_1 (by decide) ?_
  refine z_iconst hC dX0_differing_2 zi_0 ?_
  refine z_is4 hC dX0_differing_3 (by decide) ?_
  refine z_loop (N := 8) (fun n => Z 0 G 5 [some (.ref (za G 4 i)), some (.int (nI v)), some (.int (nI u)), some (.int (bo (fun a => decide (¬ zg G 5 i (v * 8 + a) = zg G 5 i (u * 8 + a))) n)), some (.int (nI n))] []) ?_ ?_ 0 (Nat.zero_le _)
  · change Z 0 G 5 [some (.ref (za G 4 i)), some (.int (nI v)), some (.int (nI u)), some (.int (bo (fun a => decide (¬ zg G 5 i (v * 8 + a) = zg G 5 i (u * 8 + a))) 8)), some (.int (nI 8))] []
    refine z_il4 hC dX0_differing_5 ?_
    refine z_bipush hC dX0_differing_7 zb_8 ?_
    refine z_icmp_ge hC 42 dX0_differing_9 rfl (fun _ => ?_) (fun h => absurd (nI_le (Nat.le_refl _) (by omega)) h)
    refine z_il3 hC dX0_differing_42 ?_
    exact z_reti hE (by omega) dX0_differing_43 (⟨rfl, rfl⟩)
  · intro n hn ih
    change Z 0 G 5 [some (.ref (za G 4 i)), some (.int (nI v)), some (.int (nI u)), some (.int (bo (fun a => decide (¬ zg G 5 i (v * 8 + a) = zg G 5 i (u * 8 + a))) n)), some (.int (nI n))] []
    replace ih : Z 0 G 5 [some (.ref (za G 4 i)), some (.int (nI v)), some (.int (nI u)), some (.int (bo (fun a => decide (¬ zg G 5 i (v * 8 + a) = zg G 5 i (u * 8 + a))) (n + 1))), some (.int (nI (n + 1)))] [] := ih
    refine z_il4 hC dX0_differing_5 ?_
    refine z_bipush hC dX0_differing_7 zb_8 ?_
    refine z_icmp_ge hC 42 dX0_differing_9 rfl (fun h => absurd h (nI_ge hn (by omega))) (fun _ => ?_)
    refine z_al0 hC dX0_differing_12 ?_
    refine z_il1 hC dX0_differing_13 ?_
    refine z_il4 hC dX0_differing_14 ?_
    refine z_cVi2 hC (c_X0_answerTo l X _ (by rfl) hi (by omega) (by omega)) zm_X0_answerTo zi_X0_answerTo (zo_4 hi) zk_X0_40 (by omega) (by decide) (by omega) (Nat.le_of_ble_eq_true rfl) dX0_differing_16 ?_
    rintro _ _ ⟨rfl, rfl⟩
    refine z_al0 hC dX0_differing_19 ?_
    refine z_il2 hC dX0_differing_20 ?_
    refine z_il4 hC dX0_differing_21 ?_
    refine z_cVi2 hC (c_X0_answerTo l X _ (by rfl) hi (by omega) (by omega)) zm_X0_answerTo zi_X0_answerTo (zo_4 hi) zk_X0_40 (by omega) (by decide) (by omega) (Nat.le_of_ble_eq_true rfl) dX0_differing_23 ?_
    rintro _ _ ⟨rfl, rfl⟩
    refine z_icmp_eq hC 36 dX0_differing_26 rfl (fun h26 => ?_) (fun h26 => ?_)
    · refine z_inc4 hC dX0_differing_36 (by decide) ?_
      refine z_goto hC 5 dX0_differing_39 rfl ?_
      rw [bo_f (by simp [h26])] at ih
      exact ih
    · refine z_il3 hC dX0_differing_29 ?_
      refine z_iconst hC dX0_differing_30 zi_1 ?_
      refine z_il4 hC dX0_differing_31 ?_
      refine z_ishl hC dX0_differing_33 ?_
      refine z_ior hC dX0_differing_34 ?_
      refine z_is3 hC dX0_differing_35 (by decide) ?_
      refine z_inc4 hC dX0_differing_36 (by decide) ?_
      refine z_goto hC 5 dX0_differing_39 rfl ?_
      rw [bo_t (by simp [h26])] at ih
      exact ih

set_option maxHeartbeats 2000000 in
theorem c_X0_latestPromise (l : Launch) (X : zX) (G : zG) {i : Nat} {r0 : Nat} (hr0 : r0 = za G 4 i)  (hi : i < 8) : zC l yX0_latestPromise cX0_latestPromise 6 (some FieldType.int) 2 0 X [.ref r0] G (zPi (fun r G2 => r = xLat G i ∧ G = G2)) := by
  subst hr0
  refine zC_of zpn_X0 (zcat rfl) (Nat.le_of_ble_eq_true rfl) ?_
  intro Z hC hE
  replace hC : zCtx l X cX0_latestPromise RX0 6 2 0 Z := hC
  change Z 0 G 0 [some (.ref (za G 4 i)), none, none, none, none, none] []
  refine z_bipush hC dX0_latestPromise_0 zb_m9 ?_
  refine z_is1 hC dX0_latestPromise_2 (by decide) ?_
  refine z_al0 hC dX0_latestPromise_3 ?_
  refine zgf_X0_15 hC hi dX0_latestPromise_4 ?_
  refine z_as2 hC dX0_latestPromise_7 (by decide) ?_
  refine z_al2 hC dX0_latestPromise_8 ?_
  refine zlen_6 hC hi dX0_latestPromise_9 ?_
  refine z_is3 hC dX0_latestPromise_10 (by decide) ?_
  refine z_iconst hC dX0_latestPromise_11 zi_0 ?_
  refine z_is4 hC dX0_latestPromise_12 (by decide) ?_
  refine z_loop (N := 6) (fun n => Z 0 G 14 [some (.ref (za G 4 i)), some (.int (mxP (zg G 6 i) n)), some (.ref (za G 6 i)), some (.int (nI 6)), some (.int (nI n)), none] []) ?_ ?_ 0 (Nat.zero_le _)
  · change Z 0 G 14 [some (.ref (za G 4 i)), some (.int (mxP (zg G 6 i) 6)), some (.ref (za G 6 i)), some (.int (nI 6)), some (.int (nI 6)), none] []
    refine z_il4 hC dX0_latestPromise_14 ?_
    refine z_il3 hC dX0_latestPromise_16 ?_
    refine z_icmp_ge hC 39 dX0_latestPromise_17 rfl (fun _ => ?_) (fun h => absurd (nI_le (Nat.le_refl _) (by omega)) h)
    refine z_il1 hC dX0_latestPromise_39 ?_
    exact z_reti hE (by omega) dX0_latestPromise_40 (⟨rfl, rfl⟩)
  · intro n hn ih
    change Z 0 G 14 [some (.ref (za G 4 i)), some (.int (mxP (zg G 6 i) n)), some (.ref (za G 6 i)), some (.int (nI 6)), some (.int (nI n)), none] []
    replace ih : Z 0 G 14 [some (.ref (za G 4 i)), some (.int (mxP (zg G 6 i) (n + 1))), some (.ref (za G 6 i)), some (.int (nI 6)), some (.int (nI (n + 1))), none] [] := ih
    refine z_il4 hC dX0_latestPromise_14 ?_
    refine z_il3 hC dX0_latestPromise_16 ?_
    refine z_icmp_ge hC 39 dX0_latestPromise_17 rfl (fun h => absurd h (nI_ge hn (by omega))) (fun _ => ?_)
    refine z_al2 hC dX0_latestPromise_20 ?_
    refine z_il4 hC dX0_latestPromise_21 ?_
    refine zal_6 hC hi (by omega) dX0_latestPromise_23 ?_
    refine z_is5 hC dX0_latestPromise_24 (by decide) ?_
    refine z_il1 hC dX0_latestPromise_26 ?_
    refine z_il5 hC dX0_latestPromise_27 ?_
    refine z_mmax hC zk_X0_44 (by omega) (Nat.le_of_ble_eq_true rfl) (by omega) dX0_latestPromise_29 ?_
    refine z_is1 hC dX0_latestPromise_32 (by decide) ?_
    refine z_inc4 hC dX0_latestPromise_33 (by decide) ?_
    refine z_goto hC 14 dX0_latestPromise_36 rfl ?_
    refine z_dr5 hC ?_
    exact ih

set_option maxHeartbeats 2000000 in
theorem c_X0_isPromised (l : Launch) (X : zX) (G : zG) {i : Nat} {r0 : Nat} (hr0 : r0 = za G 4 i)  (hi : i < 8) {d : Int32} : zC l yX0_isPromised cX0_isPromised 2 (some FieldType.boolean) 3 0 X [.ref r0, .int d] G (zPi (fun r G2 => (d ≤ xLat G i ∧ r = nI 1 ∧ G = G2) ∨ (xLat G i < d ∧ r = nI 0 ∧ G = G2))) := by
  subst hr0
  refine zC_of zpn_X0 (zcat rfl) (Nat.le_of_ble_eq_true rfl) ?_
  intro Z hC hE
  replace hC : zCtx l X cX0_isPromised RX0 2 3 0 Z := hC
  change Z 0 G 0 [some (.ref (za G 4 i)), some (.int d)] []
  refine z_al0 hC dX0_isPromised_0 ?_
  refine z_cVi0 hC (c_X0_latestPromise l X _ (by rfl) hi) zm_X0_latestPromise zi_X0_latestPromise (zo_4 hi) zk_X0_49 (by omega) (by decide) (by omega) (Nat.le_of_ble_eq_true rfl) dX0_isPromised_1 ?_
  rintro _ _ ⟨rfl, rfl⟩
  refine z_il1 hC dX0_isPromised_4 ?_
  refine z_icmp_lt hC 12 dX0_isPromised_5 rfl (fun h5 => ?_) (fun h5 => ?_)
  · refine z_iconst hC dX0_isPromised_12 zi_0 ?_
    exact z_retz0 hE (by omega) dX0_isPromised_13 (Or.inr ⟨h5, rfl, rfl⟩)
  · refine z_iconst hC dX0_isPromised_8 zi_1 ?_
    refine z_goto hC 13 dX0_isPromised_9 rfl ?_
    exact z_retz1 hE (by omega) dX0_isPromised_13 (Or.inl ⟨Int32.not_lt.mp h5, rfl, rfl⟩)

set_option maxHeartbeats 2000000 in
theorem c_X0_isShutOn (l : Launch) (X : zX) (G : zG) {i : Nat} {r0 : Nat} (hr0 : r0 = za G 4 i)  (hi : i < 8) {d : Int32} : zC l yX0_isShutOn cX0_isShutOn 2 (some FieldType.boolean) 1 0 X [.ref r0, .int d] G (zPi (fun r G2 => (xShut G i d = true ∧ r = nI 1 ∧ G = G2) ∨ (xShut G i d = false ∧ r = nI 0 ∧ G = G2))) := by
  subst hr0
  refine zC_of zpn_X0 (zcat rfl) (Nat.le_of_ble_eq_true rfl) ?_
  intro Z hC hE
  replace hC : zCtx l X cX0_isShutOn RX0 2 1 0 Z := hC
  change Z 0 G 0 [some (.ref (za G 4 i)), some (.int d)] []
  refine z_al0 hC dX0_isShutOn_0 ?_
  refine zgf_X0_18 hC hi dX0_isShutOn_1 ?_
  refine z_bipush hC dX0_isShutOn_4 zb_m9 ?_
  refine z_icmp_eq hC 21 dX0_isShutOn_6 rfl (fun h6 => ?_) (fun h6 => ?_)
  · refine z_iconst hC dX0_isShutOn_21 zi_0 ?_
    exact z_retz0 hE (by omega) dX0_isShutOn_22 (Or.inr ⟨by simp [xShut, h6], rfl, rfl⟩)
  · refine z_al0 hC dX0_isShutOn_9 ?_
    refine zgf_X0_18 hC hi dX0_isShutOn_10 ?_
    refine z_il1 hC dX0_isShutOn_13 ?_
    refine z_icmp_gt hC 21 dX0_isShutOn_14 rfl (fun h14 => ?_) (fun h14 => ?_)
    · refine z_iconst hC dX0_isShutOn_21 zi_0 ?_
      exact z_retz0 hE (by omega) dX0_isShutOn_22 (Or.inr ⟨by simp [xShut, Int32.not_le.mpr h14], rfl, rfl⟩)
    · refine z_iconst hC dX0_isShutOn_17 zi_1 ?_
      refine z_goto hC 22 dX0_isShutOn_18 rfl ?_
      exact z_retz1 hE (by omega) dX0_isShutOn_22 (Or.inl ⟨by simp [xShut, h6, Int32.not_lt.mp h14], rfl, rfl⟩)

set_option maxHeartbeats 2000000 in
theorem c_X3_has (l : Launch) (X : zX) (G : zG) {i : Nat} {r0 : Nat} (hr0 : r0 = za G 10 i)  (hi : i < 6) {x : Int32} {n : Nat} (hsz : zg G 10 i 6 = nI n) (h12 : n ≤ 12) : zC l yX3_has cX3_has 2 (some FieldType.boolean) 2 0 X [.ref r0, .int x] G (zPi (fun r G2 => (∃ a, a < n ∧ x = nI a ∧ r = nI 1 ∧ G = G2) ∨ (zin x n = false ∧ r = nI 0 ∧ G = G2))) := by
  subst hr0
  refine zC_of zpn_X3 (zcat rfl) (Nat.le_of_ble_eq_true rfl) ?_
  intro Z hC hE
  replace hC : zCtx l X cX3_has RX3 2 2 0 Z := hC
  change Z 0 G 0 [some (.ref (za G 10 i)), some (.int x)] []
  refine z_il1 hC dX3_has_0 ?_
  refine z_al0 hC dX3_has_1 ?_
  refine zgf_X3_30 hC hi dX3_has_2 ?_
  refine z_top hsz ?_
  refine z_iconst hC dX3_has_5 zi_1 ?_
  refine z_isub hC dX3_has_6 ?_
  refine z_cSNi2 hC (c_X4_isWithinS l X _ (by omega)) zm_X4_isWithin zi_X4_isWithin zkn_X3_34 (by omega) (by decide) (by omega) (Nat.le_of_ble_eq_true rfl) dX3_has_7 ?_
  rintro _ _ (⟨xN, hx, rfl, rfl, rfl⟩ | ⟨nx, rfl, rfl⟩)
  · exact z_retz1 hE (by omega) dX3_has_10 (Or.inl ⟨xN, hx, rfl, rfl, rfl⟩)
  · exact z_retz0 hE (by omega) dX3_has_10 (Or.inr ⟨nx, rfl, rfl⟩)

set_option maxHeartbeats 2000000 in
theorem c_X3_added (l : Launch) (X : zX) (G : zG) {i : Nat} {r0 : Nat} (hr0 : r0 = za G 10 i)  (hi : i < 6) {k f g d t : Int32} {n : Nat} (hsz : zg G 10 i 6 = nI n) (h12 : n < 12) : zC l yX3_added cX3_added 6 (some FieldType.int) 1 0 X [.ref r0, .int k, .int f, .int g, .int d, .int t] G (zPi (fun r G2 => r = nI n ∧ G2 = zu (zu (zu (zu (zu (zu G 11 i n k) 12 i n f) 13 i n g) 14 i n d) 15 i n t) 10 i 6 (nI (n + 1)))) := by
  subst hr0
  refine zC_of zpn_X3 (zcat rfl) (Nat.le_of_ble_eq_true rfl) ?_
  intro Z hC hE
  replace hC : zCtx l X cX3_added RX3 6 1 0 Z := hC
  change Z 0 G 0 [some (.ref (za G 10 i)), some (.int k), some (.int f), some (.int g), some (.int d), some (.int t)] []
  refine z_al0 hC dX3_added_0 ?_
  refine zgf_X3_9 hC hi dX3_added_1 ?_
  refine z_al0 hC dX3_added_4 ?_
  refine zgf_X3_30 hC hi dX3_added_5 ?_
  refine z_top hsz ?_
  refine z_il1 hC dX3_added_8 ?_
  refine zas_11 hC hi (by omega) dX3_added_9 ?_
  refine z_al0 hC dX3_added_10 ?_
  refine zgf_X3_15 hC hi dX3_added_11 ?_
  refine z_al0 hC dX3_added_14 ?_
  refine zgf_X3_30 hC hi dX3_added_15 ?_
  refine z_top ((by simp [zg_zu, hsz]) : _ = nI n) ?_
  refine z_il2 hC dX3_added_18 ?_
  refine zas_12 hC hi (by omega) dX3_added_19 ?_
  refine z_al0 hC dX3_added_20 ?_
  refine zgf_X3_18 hC hi dX3_added_21 ?_
  refine z_al0 hC dX3_added_24 ?_
  refine zgf_X3_30 hC hi dX3_added_25 ?_
  refine z_top ((by simp [zg_zu, hsz]) : _ = nI n) ?_
  refine z_il3 hC dX3_added_28 ?_
  refine zas_13 hC hi (by omega) dX3_added_29 ?_
  refine z_al0 hC dX3_added_30 ?_
  refine zgf_X3_21 hC hi dX3_added_31 ?_
  refine z_al0 hC dX3_added_34 ?_
  refine zgf_X3_30 hC hi dX3_added_35 ?_
  refine z_top ((by simp [zg_zu, hsz]) : _ = nI n) ?_
  refine z_il4 hC dX3_added_38 ?_
  refine zas_14 hC hi (by omega) dX3_added_40 ?_
  refine z_al0 hC dX3_added_41 ?_
  refine zgf_X3_24 hC hi dX3_added_42 ?_
  refine z_al0 hC dX3_added_45 ?_
  refine zgf_X3_30 hC hi dX3_added_46 ?_
  refine z_top ((by simp [zg_zu, hsz]) : _ = nI n) ?_
  refine z_il5 hC dX3_added_49 ?_
  refine zas_15 hC hi (by omega) dX3_added_51 ?_
  refine z_al0 hC dX3_added_52 ?_
  refine z_dup hC dX3_added_53 rfl ?_
  refine zgf_X3_30 hC hi dX3_added_54 ?_
  refine z_top ((by simp [zg_zu, hsz]) : _ = nI n) ?_
  refine z_iconst hC dX3_added_57 zi_1 ?_
  refine z_iaddN hC dX3_added_58 ?_
  refine zpf_X3_30 hC hi dX3_added_59 ?_
  refine z_al0 hC dX3_added_62 ?_
  refine zgf_X3_30 hC hi dX3_added_63 ?_
  refine z_top ((by simp [zg_zu]) : _ = nI (n + 1)) ?_
  refine z_iconst hC dX3_added_66 zi_1 ?_
  refine z_isubN hC dX3_added_67 (by omega) ?_
  exact z_reti hE (by omega) dX3_added_68 (⟨by simp, rfl⟩)

set_option maxHeartbeats 2000000 in
theorem c_X3_addCall (l : Launch) (X : zX) (G : zG) {i : Nat} {r0 : Nat} (hr0 : r0 = za G 10 i)  (hi : i < 6) {f : Nat} (hf : f < 8) {t : Int32} {m : Nat} (hsz : zg G 10 i 6 = nI m) (h12 : m ≤ 12) : zC l yX3_addCall cX3_addCall 4 (some FieldType.int) 2 0 X [.ref r0, .int (nI f), .int t] G (zPi (fun r G2 => (m < 12 ∧ r = nI m ∧ G2 = zu (zu (zu (zu (zu (zu (zuA G 16 i (endF (zg G 16 i) (m * 8) (fun v => nI (f * 8 + v)) 8)) 11 i m (nI 0)) 12 i m (nI 0)) 13 i m (nI 0)) 14 i m (nI 0)) 15 i m t) 10 i 6 (nI (m + 1))) ∨ (m = 12 ∧ r = -3 ∧ G2 = G))) := by
  subst hr0
  refine zC_of zpn_X3 (zcat rfl) (Nat.le_of_ble_eq_true rfl) ?_
  intro Z hC hE
  replace hC : zCtx l X cX3_addCall RX3 4 2 0 Z := hC
  change Z 0 G 0 [some (.ref (za G 10 i)), some (.int (nI f)), some (.int t), none] []
  refine z_al0 hC dX3_addCall_0 ?_
  refine zgf_X3_30 hC hi dX3_addCall_1 ?_
  refine z_top hsz ?_
  refine z_bipush hC dX3_addCall_4 zb_12 ?_
  refine z_icmp_lt hC 12 dX3_addCall_6 rfl (fun h6 => ?_) (fun h6 => ?_)
  · have hm : m < 12 := (nI_ltI (by omega) (by decide)).mp h6
    refine z_iconst hC dX3_addCall_12 zi_0 ?_
    refine z_is3 hC dX3_addCall_13 (by decide) ?_
    refine zG0 (zuA_id G 16 i (endF_0 (zg G 16 i) (m * 8) (fun v => nI (f * 8 + v)))) ?_
    refine z_loop (N := 8) (fun n => Z 0 (zuA G 16 i (endF (zg G 16 i) (m * 8) (fun v => nI (f * 8 + v)) n)) 14 [some (.ref (za G 10 i)), some (.int (nI f)), some (.int t), some (.int (nI n))] []) ?_ ?_ 0 (Nat.zero_le _)
    · change Z 0 (zuA G 16 i (endF (zg G 16 i) (m * 8) (fun v => nI (f * 8 + v)) 8)) 14 [some (.ref (za G 10 i)), some (.int (nI f)), some (.int t), some (.int (nI 8))] []
      refine z_il3 hC dX3_addCall_14 ?_
      refine z_bipush hC dX3_addCall_15 zb_8 ?_
      refine z_icmp_ge hC 46 dX3_addCall_17 rfl (fun _ => ?_) (fun h => absurd (nI_le (Nat.le_refl _) (by omega)) h)
      refine z_al0 hC dX3_addCall_46 ?_
      refine z_iconst hC dX3_addCall_47 zi_0 ?_
      refine z_iconst hC dX3_addCall_48 zi_0 ?_
      refine z_iconst hC dX3_addCall_49 zi_0 ?_
      refine z_iconst hC dX3_addCall_50 zi_0 ?_
      refine z_il2 hC dX3_addCall_51 ?_
      refine z_cVi5 hC (c_X3_added l X _ (by rfl) hi (n := m) (by simp [zg_zuA, hsz]) hm) zm_X3_added zi_X3_added (zo_10 hi) zk_X3_38 (by omega) (by decide) (by omega) (Nat.le_of_ble_eq_true rfl) dX3_addCall_52 ?_
      rintro _ _ ⟨rfl, rfl⟩
      exact z_reti hE (by omega) dX3_addCall_55 (Or.inl ⟨hm, rfl, rfl⟩)
    · intro n hn ih
      change Z 0 (zuA G 16 i (endF (zg G 16 i) (m * 8) (fun v => nI (f * 8 + v)) n)) 14 [some (.ref (za G 10 i)), some (.int (nI f)), some (.int t), some (.int (nI n))] []
      replace ih : Z 0 (zuA G 16 i (endF (zg G 16 i) (m * 8) (fun v => nI (f * 8 + v)) (n + 1))) 14 [some (.ref (za G 10 i)), some (.int (nI f)), some (.int t), some (.int (nI (n + 1)))] [] := ih
      refine z_il3 hC dX3_addCall_14 ?_
      refine z_bipush hC dX3_addCall_15 zb_8 ?_
      refine z_icmp_ge hC 46 dX3_addCall_17 rfl (fun h => absurd h (nI_ge hn (by omega))) (fun _ => ?_)
      refine z_al0 hC dX3_addCall_20 ?_
      refine zgf_X3_27 hC hi dX3_addCall_21 ?_
      refine z_al0 hC dX3_addCall_24 ?_
      refine zgf_X3_30 hC hi dX3_addCall_25 ?_
      refine z_top ((by simp [zg_zuA, hsz]) : _ = nI m) ?_
      refine z_bipush hC dX3_addCall_28 zb_8 ?_
      refine z_imulN hC dX3_addCall_30 ?_
      refine z_il3 hC dX3_addCall_31 ?_
      refine z_iaddN hC dX3_addCall_32 ?_
      refine z_il1 hC dX3_addCall_33 ?_
      refine z_bipush hC dX3_addCall_34 zb_8 ?_
      refine z_imulN hC dX3_addCall_36 ?_
      refine z_il3 hC dX3_addCall_37 ?_
      refine z_iaddN hC dX3_addCall_38 ?_
      refine zas_16 hC hi (by omega) dX3_addCall_39 ?_
      refine z_inc3 hC dX3_addCall_40 (by decide) ?_
      refine z_goto hC 14 dX3_addCall_43 rfl ?_
      rw [zuA_put] at ih
      exact ih
  · refine z_bipush hC dX3_addCall_9 zb_m3 ?_
    exact z_reti hE (by omega) dX3_addCall_11 (Or.inr ⟨by have h7 : ¬ m < 12 := fun h => h6 ((nI_ltI (by omega) (by decide)).mpr h); omega, rfl, rfl⟩)

set_option maxHeartbeats 2000000 in
theorem c_X3_addWrap (l : Launch) (X : zX) (G : zG) {i : Nat} {r0 : Nat} (hr0 : r0 = za G 10 i)  (hi : i < 6) {s d : Nat} {t : Int32} {m : Nat} (hsz : zg G 10 i 6 = nI m) (h12 : m ≤ 12) (hs : s < m) (hd : d < 8) : zC l yX3_addWrap cX3_addWrap 5 (some FieldType.int) 2 0 X [.ref r0, .int (nI s), .int (nI d), .int t] G (zPi (fun r G2 => (m < 12 ∧ r = nI m ∧ G2 = zu (zu (zu (zu (zu (zu (zuA G 16 i (endF (zg G 16 i) (m * 8) (fun v => zg G 16 i (s * 8 + (v + d) % 8)) 8)) 11 i m (nI 1)) 12 i m (nI s)) 13 i m (nI s)) 14 i m (nI d)) 15 i m t) 10 i 6 (nI (m + 1))) ∨ (m = 12 ∧ r = -3 ∧ G2 = G))) := by
  subst hr0
  refine zC_of zpn_X3 (zcat rfl) (Nat.le_of_ble_eq_true rfl) ?_
  intro Z hC hE
  replace hC : zCtx l X cX3_addWrap RX3 5 2 0 Z := hC
  change Z 0 G 0 [some (.ref (za G 10 i)), some (.int (nI s)), some (.int (nI d)), some (.int t), none] []
  refine z_al0 hC dX3_addWrap_0 ?_
  refine zgf_X3_30 hC hi dX3_addWrap_1 ?_
  refine z_top hsz ?_
  refine z_bipush hC dX3_addWrap_4 zb_12 ?_
  refine z_icmp_lt hC 12 dX3_addWrap_6 rfl (fun h6 => ?_) (fun h6 => ?_)
  · have hm : m < 12 := (nI_ltI (by omega) (by decide)).mp h6
    refine z_iconst hC dX3_addWrap_12 zi_0 ?_
    refine z_is4 hC dX3_addWrap_13 (by decide) ?_
    refine zG0 (zuA_id G 16 i (endF_0 (zg G 16 i) (m * 8) (fun v => zg G 16 i (s * 8 + (v + d) % 8)))) ?_
    refine z_loop (N := 8) (fun n => Z 0 (zuA G 16 i (endF (zg G 16 i) (m * 8) (fun v => zg G 16 i (s * 8 + (v + d) % 8)) n)) 15 [some (.ref (za G 10 i)), some (.int (nI s)), some (.int (nI d)), some (.int t), some (.int (nI n))] []) ?_ ?_ 0 (Nat.zero_le _)
    · change Z 0 (zuA G 16 i (endF (zg G 16 i) (m * 8) (fun v => zg G 16 i (s * 8 + (v + d) % 8)) 8)) 15 [some (.ref (za G 10 i)), some (.int (nI s)), some (.int (nI d)), some (.int t), some (.int (nI 8))] []
      refine z_il4 hC dX3_addWrap_15 ?_
      refine z_bipush hC dX3_addWrap_17 zb_8 ?_
      refine z_icmp_ge hC 60 dX3_addWrap_19 rfl (fun _ => ?_) (fun h => absurd (nI_le (Nat.le_refl _) (by omega)) h)
      refine z_al0 hC dX3_addWrap_60 ?_
      refine z_iconst hC dX3_addWrap_61 zi_1 ?_
      refine z_il1 hC dX3_addWrap_62 ?_
      refine z_il1 hC dX3_addWrap_63 ?_
      refine z_il2 hC dX3_addWrap_64 ?_
      refine z_il3 hC dX3_addWrap_65 ?_
      refine z_cVi5 hC (c_X3_added l X _ (by rfl) hi (n := m) (by simp [zg_zuA, hsz]) hm) zm_X3_added zi_X3_added (zo_10 hi) zk_X3_38 (by omega) (by decide) (by omega) (Nat.le_of_ble_eq_true rfl) dX3_addWrap_66 ?_
      rintro _ _ ⟨rfl, rfl⟩
      exact z_reti hE (by omega) dX3_addWrap_69 (Or.inl ⟨hm, rfl, rfl⟩)
    · intro n hn ih
      change Z 0 (zuA G 16 i (endF (zg G 16 i) (m * 8) (fun v => zg G 16 i (s * 8 + (v + d) % 8)) n)) 15 [some (.ref (za G 10 i)), some (.int (nI s)), some (.int (nI d)), some (.int t), some (.int (nI n))] []
      replace ih : Z 0 (zuA G 16 i (endF (zg G 16 i) (m * 8) (fun v => zg G 16 i (s * 8 + (v + d) % 8)) (n + 1))) 15 [some (.ref (za G 10 i)), some (.int (nI s)), some (.int (nI d)), some (.int t), some (.int (nI (n + 1)))] [] := ih
      refine z_il4 hC dX3_addWrap_15 ?_
      refine z_bipush hC dX3_addWrap_17 zb_8 ?_
      refine z_icmp_ge hC 60 dX3_addWrap_19 rfl (fun h => absurd h (nI_ge hn (by omega))) (fun _ => ?_)
      refine z_al0 hC dX3_addWrap_22 ?_
      refine zgf_X3_27 hC hi dX3_addWrap_23 ?_
      refine z_al0 hC dX3_addWrap_26 ?_
      refine zgf_X3_30 hC hi dX3_addWrap_27 ?_
      refine z_top ((by simp [zg_zuA, hsz]) : _ = nI m) ?_
      refine z_bipush hC dX3_addWrap_30 zb_8 ?_
      refine z_imulN hC dX3_addWrap_32 ?_
      refine z_il4 hC dX3_addWrap_33 ?_
      refine z_iaddN hC dX3_addWrap_35 ?_
      refine z_al0 hC dX3_addWrap_36 ?_
      refine zgf_X3_27 hC hi dX3_addWrap_37 ?_
      refine z_il1 hC dX3_addWrap_40 ?_
      refine z_bipush hC dX3_addWrap_41 zb_8 ?_
      refine z_imulN hC dX3_addWrap_43 ?_
      refine z_il4 hC dX3_addWrap_44 ?_
      refine z_il2 hC dX3_addWrap_46 ?_
      refine z_iaddN hC dX3_addWrap_47 ?_
      refine z_bipush hC dX3_addWrap_48 zb_8 ?_
      refine z_iremN hC dX3_addWrap_50 (by omega) (by omega) (by omega) ?_
      refine z_iaddN hC dX3_addWrap_51 ?_
      refine zal_16 hC hi (by omega) dX3_addWrap_52 ?_
      refine z_top (endF_lo G 16 i m _ (by omega)) ?_
      refine zas_16 hC hi (by omega) dX3_addWrap_53 ?_
      refine z_inc4 hC dX3_addWrap_54 (by decide) ?_
      refine z_goto hC 15 dX3_addWrap_57 rfl ?_
      rw [zuA_put] at ih
      exact ih
  · refine z_bipush hC dX3_addWrap_9 zb_m3 ?_
    exact z_reti hE (by omega) dX3_addWrap_11 (Or.inr ⟨by have h7 : ¬ m < 12 := fun h => h6 ((nI_ltI (by omega) (by decide)).mpr h); omega, rfl, rfl⟩)

set_option maxHeartbeats 2000000 in
theorem c_X3_addSplit (l : Launch) (X : zX) (G : zG) {i : Nat} {r0 : Nat} (hr0 : r0 = za G 10 i)  (hi : i < 6) {s u b : Nat} {t : Int32} {m : Nat} (hsz : zg G 10 i 6 = nI m) (h12 : m ≤ 12) (hs : s < m) (hu : u < m) (hb : b < 8) : zC l yX3_addSplit cX3_addSplit 6 (some FieldType.int) 2 0 X [.ref r0, .int (nI s), .int (nI u), .int (nI b), .int t] G (zPi (fun r G2 => (m < 12 ∧ r = nI m ∧ G2 = zu (zu (zu (zu (zu (zu (zuA G 16 i (endF (zg G 16 i) (m * 8) (fun v => zg G 16 i ((if v < b then s else u) * 8 + v)) 8)) 11 i m (nI 2)) 12 i m (nI s)) 13 i m (nI u)) 14 i m (nI b)) 15 i m t) 10 i 6 (nI (m + 1))) ∨ (m = 12 ∧ r = -3 ∧ G2 = G))) := by
  subst hr0
  refine zC_of zpn_X3 (zcat rfl) (Nat.le_of_ble_eq_true rfl) ?_
  intro Z hC hE
  replace hC : zCtx l X cX3_addSplit RX3 6 2 0 Z := hC
  change Z 0 G 0 [some (.ref (za G 10 i)), some (.int (nI s)), some (.int (nI u)), some (.int (nI b)), some (.int t), none] []
  refine z_al0 hC dX3_addSplit_0 ?_
  refine zgf_X3_30 hC hi dX3_addSplit_1 ?_
  refine z_top hsz ?_
  refine z_bipush hC dX3_addSplit_4 zb_12 ?_
  refine z_icmp_lt hC 12 dX3_addSplit_6 rfl (fun h6 => ?_) (fun h6 => ?_)
  · have hm : m < 12 := (nI_ltI (by omega) (by decide)).mp h6
    refine z_iconst hC dX3_addSplit_12 zi_0 ?_
    refine z_is5 hC dX3_addSplit_13 (by decide) ?_
    refine zG0 (zuA_id G 16 i (endF_0 (zg G 16 i) (m * 8) (fun v => zg G 16 i ((if v < b then s else u) * 8 + v)))) ?_
    refine z_loop (N := 8) (fun n => Z 0 (zuA G 16 i (endF (zg G 16 i) (m * 8) (fun v => zg G 16 i ((if v < b then s else u) * 8 + v)) n)) 15 [some (.ref (za G 10 i)), some (.int (nI s)), some (.int (nI u)), some (.int (nI b)), some (.int t), some (.int (nI n))] []) ?_ ?_ 0 (Nat.zero_le _)
    · change Z 0 (zuA G 16 i (endF (zg G 16 i) (m * 8) (fun v => zg G 16 i ((if v < b then s else u) * 8 + v)) 8)) 15 [some (.ref (za G 10 i)), some (.int (nI s)), some (.int (nI u)), some (.int (nI b)), some (.int t), some (.int (nI 8))] []
      refine z_il5 hC dX3_addSplit_15 ?_
      refine z_bipush hC dX3_addSplit_17 zb_8 ?_
      refine z_icmp_ge hC 65 dX3_addSplit_19 rfl (fun _ => ?_) (fun h => absurd (nI_le (Nat.le_refl _) (by omega)) h)
      refine z_al0 hC dX3_addSplit_65 ?_
      refine z_iconst hC dX3_addSplit_66 zi_2 ?_
      refine z_il1 hC dX3_addSplit_67 ?_
      refine z_il2 hC dX3_addSplit_68 ?_
      refine z_il3 hC dX3_addSplit_69 ?_
      refine z_il4 hC dX3_addSplit_70 ?_
      refine z_cVi5 hC (c_X3_added l X _ (by rfl) hi (n := m) (by simp [zg_zuA, hsz]) hm) zm_X3_added zi_X3_added (zo_10 hi) zk_X3_38 (by omega) (by decide) (by omega) (Nat.le_of_ble_eq_true rfl) dX3_addSplit_72 ?_
      rintro _ _ ⟨rfl, rfl⟩
      exact z_reti hE (by omega) dX3_addSplit_75 (Or.inl ⟨hm, rfl, rfl⟩)
    · intro n hn ih
      change Z 0 (zuA G 16 i (endF (zg G 16 i) (m * 8) (fun v => zg G 16 i ((if v < b then s else u) * 8 + v)) n)) 15 [some (.ref (za G 10 i)), some (.int (nI s)), some (.int (nI u)), some (.int (nI b)), some (.int t), some (.int (nI n))] []
      replace ih : Z 0 (zuA G 16 i (endF (zg G 16 i) (m * 8) (fun v => zg G 16 i ((if v < b then s else u) * 8 + v)) (n + 1))) 15 [some (.ref (za G 10 i)), some (.int (nI s)), some (.int (nI u)), some (.int (nI b)), some (.int t), some (.int (nI (n + 1)))] [] := ih
      refine z_il5 hC dX3_addSplit_15 ?_
      refine z_bipush hC dX3_addSplit_17 zb_8 ?_
      refine z_icmp_ge hC 65 dX3_addSplit_19 rfl (fun h => absurd h (nI_ge hn (by omega))) (fun _ => ?_)
      refine z_al0 hC dX3_addSplit_22 ?_
      refine zgf_X3_27 hC hi dX3_addSplit_23 ?_
      refine z_al0 hC dX3_addSplit_26 ?_
      refine zgf_X3_30 hC hi dX3_addSplit_27 ?_
      refine z_top ((by simp [zg_zuA, hsz]) : _ = nI m) ?_
      refine z_bipush hC dX3_addSplit_30 zb_8 ?_
      refine z_imulN hC dX3_addSplit_32 ?_
      refine z_il5 hC dX3_addSplit_33 ?_
      refine z_iaddN hC dX3_addSplit_35 ?_
      refine z_al0 hC dX3_addSplit_36 ?_
      refine zgf_X3_27 hC hi dX3_addSplit_37 ?_
      refine z_il5 hC dX3_addSplit_40 ?_
      refine z_il3 hC dX3_addSplit_42 ?_
      refine z_icmp_ge hC 50 dX3_addSplit_43 rfl (fun h43 => ?_) (fun h43 => ?_)
      · have hq : ¬ n < b := fun h => absurd h43 (nI_ge h (by omega))
        refine z_il2 hC dX3_addSplit_50 ?_
        refine z_bipush hC dX3_addSplit_51 zb_8 ?_
        refine z_imulN hC dX3_addSplit_53 ?_
        refine z_il5 hC dX3_addSplit_54 ?_
        refine z_iaddN hC dX3_addSplit_56 ?_
        refine zal_16 hC hi (by omega) dX3_addSplit_57 ?_
        refine z_top (endF_lo G 16 i m _ (by omega)) ?_
        refine zas_16 hC hi (by omega) dX3_addSplit_58 ?_
        refine z_inc5 hC dX3_addSplit_59 (by decide) ?_
        refine z_goto hC 15 dX3_addSplit_62 rfl ?_
        rw [zuA_put, if_neg hq] at ih
        exact ih
      · have hq : n < b := Nat.lt_of_not_le (fun h => h43 ((nI_leI (by omega) (by omega)).mpr h))
        refine z_il1 hC dX3_addSplit_46 ?_
        refine z_goto hC 51 dX3_addSplit_47 rfl ?_
        refine z_bipush hC dX3_addSplit_51 zb_8 ?_
        refine z_imulN hC dX3_addSplit_53 ?_
        refine z_il5 hC dX3_addSplit_54 ?_
        refine z_iaddN hC dX3_addSplit_56 ?_
        refine zal_16 hC hi (by omega) dX3_addSplit_57 ?_
        refine z_top (endF_lo G 16 i m _ (by omega)) ?_
        refine zas_16 hC hi (by omega) dX3_addSplit_58 ?_
        refine z_inc5 hC dX3_addSplit_59 (by decide) ?_
        refine z_goto hC 15 dX3_addSplit_62 rfl ?_
        rw [zuA_put, if_pos hq] at ih
        exact ih
  · refine z_bipush hC dX3_addSplit_9 zb_m3 ?_
    exact z_reti hE (by omega) dX3_addSplit_11 (Or.inr ⟨by have h7 : ¬ m < 12 := fun h => h6 ((nI_ltI (by omega) (by decide)).mpr h); omega, rfl, rfl⟩)

set_option maxHeartbeats 2000000 in
theorem c_X3_seenBy (l : Launch) (X : zX) (G : zG) {i s : Nat} {r0 : Nat} (hr0 : r0 = za G 10 i)  (hi : i < 6) (hs : s < 12) {f : Int32} : zC l yX3_seenBy cX3_seenBy 6 (some FieldType.int) 1 0 X [.ref r0, .int (nI s), .int f] G (zPi (fun r G2 => r = xSees G i s f ∧ G = G2)) := by
  subst hr0
  refine zC_of zpn_X3 (zcat rfl) (Nat.le_of_ble_eq_true rfl) ?_
  intro Z hC hE
  replace hC : zCtx l X cX3_seenBy RX3 6 1 0 Z := hC
  change Z 0 G 0 [some (.ref (za G 10 i)), some (.int (nI s)), some (.int f), none, none, none] []
  refine z_iconst hC dX3_seenBy_0 zi_0 ?_
  refine z_is3 hC dX3_seenBy_1 (by decide) ?_
  refine z_iconst hC dX3_seenBy_2 zi_0 ?_
  refine z_is4 hC dX3_seenBy_3 (by decide) ?_
  refine z_loop (N := 8) (fun n => Z 0 G 5 [some (.ref (za G 10 i)), some (.int (nI s)), some (.int f), some (.int (sbX (zg G 16 i) (zg G 15 i s) f (s * 8) n)), some (.int (nI n)), none] []) ?_ ?_ 0 (Nat.zero_le _)
  · change Z 0 G 5 [some (.ref (za G 10 i)), some (.int (nI s)), some (.int f), some (.int (sbX (zg G 16 i) (zg G 15 i s) f (s * 8) 8)), some (.int (nI 8)), none] []
    refine z_il4 hC dX3_seenBy_5 ?_
    refine z_bipush hC dX3_seenBy_7 zb_8 ?_
    refine z_icmp_ge hC 65 dX3_seenBy_9 rfl (fun _ => ?_) (fun h => absurd (nI_le (Nat.le_refl _) (by omega)) h)
    refine z_il3 hC dX3_seenBy_65 ?_
    exact z_reti hE (by omega) dX3_seenBy_66 (⟨rfl, rfl⟩)
  · intro n hn ih
    change Z 0 G 5 [some (.ref (za G 10 i)), some (.int (nI s)), some (.int f), some (.int (sbX (zg G 16 i) (zg G 15 i s) f (s * 8) n)), some (.int (nI n)), none] []
    replace ih : Z 0 G 5 [some (.ref (za G 10 i)), some (.int (nI s)), some (.int f), some (.int (sbX (zg G 16 i) (zg G 15 i s) f (s * 8) (n + 1))), some (.int (nI (n + 1))), none] [] := ih
    refine z_il4 hC dX3_seenBy_5 ?_
    refine z_bipush hC dX3_seenBy_7 zb_8 ?_
    refine z_icmp_ge hC 65 dX3_seenBy_9 rfl (fun h => absurd h (nI_ge hn (by omega))) (fun _ => ?_)
    refine z_al0 hC dX3_seenBy_12 ?_
    refine zgf_X3_27 hC hi dX3_seenBy_13 ?_
    refine z_il1 hC dX3_seenBy_16 ?_
    refine z_bipush hC dX3_seenBy_17 zb_8 ?_
    refine z_imulN hC dX3_seenBy_19 ?_
    refine z_il4 hC dX3_seenBy_20 ?_
    refine z_iaddN hC dX3_seenBy_22 ?_
    refine zal_16 hC hi (by omega) dX3_seenBy_23 ?_
    refine z_is5 hC dX3_seenBy_24 (by decide) ?_
    refine z_al0 hC dX3_seenBy_26 ?_
    refine zgf_X3_24 hC hi dX3_seenBy_27 ?_
    refine z_il1 hC dX3_seenBy_30 ?_
    refine zal_15 hC hi (by omega) dX3_seenBy_31 ?_
    refine z_il4 hC dX3_seenBy_32 ?_
    refine z_ishr hC dX3_seenBy_34 ?_
    refine z_iconst hC dX3_seenBy_35 zi_1 ?_
    refine z_iand hC dX3_seenBy_36 ?_
    refine z_if_eq hC 59 dX3_seenBy_37 rfl (fun h37 => ?_) (fun h37 => ?_)
    · refine z_inc4 hC dX3_seenBy_59 (by decide) ?_
      refine z_goto hC 5 dX3_seenBy_62 rfl ?_
      refine z_dr5 hC ?_
      rw [sbX_s, if_pos h37] at ih
      exact ih
    · refine z_il5 hC dX3_seenBy_40 ?_
      refine z_bipush hC dX3_seenBy_42 zb_8 ?_
      refine z_idiv hC dX3_seenBy_44 (nI_ne0 (by decide) (by decide)) ?_
      refine z_il2 hC dX3_seenBy_45 ?_
      refine z_icmp_ne hC 59 dX3_seenBy_46 rfl (fun h46 => ?_) (fun h46 => ?_)
      · refine z_inc4 hC dX3_seenBy_59 (by decide) ?_
        refine z_goto hC 5 dX3_seenBy_62 rfl ?_
        refine z_dr5 hC ?_
        rw [sbX_s, if_neg h37, if_neg h46] at ih
        exact ih
      · refine z_il3 hC dX3_seenBy_49 ?_
        refine z_iconst hC dX3_seenBy_50 zi_1 ?_
        refine z_il5 hC dX3_seenBy_51 ?_
        refine z_bipush hC dX3_seenBy_53 zb_8 ?_
        refine z_irem hC dX3_seenBy_55 (nI_ne0 (by decide) (by decide)) ?_
        refine z_ishl hC dX3_seenBy_56 ?_
        refine z_ior hC dX3_seenBy_57 ?_
        refine z_is3 hC dX3_seenBy_58 (by decide) ?_
        refine z_inc4 hC dX3_seenBy_59 (by decide) ?_
        refine z_goto hC 5 dX3_seenBy_62 rfl ?_
        refine z_dr5 hC ?_
        rw [sbX_s, if_neg h37, if_pos h46] at ih
        exact ih

set_option maxHeartbeats 2000000 in
theorem c_X3_used (l : Launch) (X : zX) (G : zG) {i : Nat} {r0 : Nat} (hr0 : r0 = za G 10 i)  (hi : i < 6) {f : Int32} {n : Nat} (hsz : zg G 10 i 6 = nI n) (h12 : n ≤ 12) : zC l yX3_used cX3_used 4 (some FieldType.int) 2 0 X [.ref r0, .int f] G (zPi (fun r G2 => r = xUsed G i f ∧ G = G2)) := by
  subst hr0
  refine zC_of zpn_X3 (zcat rfl) (Nat.le_of_ble_eq_true rfl) ?_
  intro Z hC hE
  replace hC : zCtx l X cX3_used RX3 4 2 0 Z := hC
  change Z 0 G 0 [some (.ref (za G 10 i)), some (.int f), none, none] []
  refine z_iconst hC dX3_used_0 zi_0 ?_
  refine z_is2 hC dX3_used_1 (by decide) ?_
  refine z_iconst hC dX3_used_2 zi_0 ?_
  refine z_is3 hC dX3_used_3 (by decide) ?_
  refine z_loop (N := n) (fun k => Z 0 G 4 [some (.ref (za G 10 i)), some (.int f), some (.int (orF (fun s => xSees G i s f) k)), some (.int (nI k))] []) ?_ ?_ 0 (Nat.zero_le _)
  · change Z 0 G 4 [some (.ref (za G 10 i)), some (.int f), some (.int (orF (fun s => xSees G i s f) n)), some (.int (nI n))] []
    refine z_il3 hC dX3_used_4 ?_
    refine z_al0 hC dX3_used_5 ?_
    refine zgf_X3_30 hC hi dX3_used_6 ?_
    refine z_top hsz ?_
    refine z_icmp_ge hC 27 dX3_used_9 rfl (fun _ => ?_) (fun h => absurd (nI_le (Nat.le_refl _) (by omega)) h)
    refine z_il2 hC dX3_used_27 ?_
    exact z_reti hE (by omega) dX3_used_28 (⟨by simp only [xUsed, hsz, nI_clamp (show n < 2 ^ 31 by omega)], rfl⟩)
  · intro k hn ih
    change Z 0 G 4 [some (.ref (za G 10 i)), some (.int f), some (.int (orF (fun s => xSees G i s f) k)), some (.int (nI k))] []
    replace ih : Z 0 G 4 [some (.ref (za G 10 i)), some (.int f), some (.int (orF (fun s => xSees G i s f) (k + 1))), some (.int (nI (k + 1)))] [] := ih
    refine z_il3 hC dX3_used_4 ?_
    refine z_al0 hC dX3_used_5 ?_
    refine zgf_X3_30 hC hi dX3_used_6 ?_
    refine z_top hsz ?_
    refine z_icmp_ge hC 27 dX3_used_9 rfl (fun h => absurd h (nI_ge hn (by omega))) (fun _ => ?_)
    refine z_il2 hC dX3_used_12 ?_
    refine z_al0 hC dX3_used_13 ?_
    refine z_il3 hC dX3_used_14 ?_
    refine z_il1 hC dX3_used_15 ?_
    refine z_cVi2 hC (c_X3_seenBy l X _ (by rfl) hi (by omega)) zm_X3_seenBy zi_X3_seenBy (zo_10 hi) zk_X3_42 (by omega) (by decide) (by omega) (Nat.le_of_ble_eq_true rfl) dX3_used_16 ?_
    rintro _ _ ⟨rfl, rfl⟩
    refine z_ior hC dX3_used_19 ?_
    refine z_is2 hC dX3_used_20 (by decide) ?_
    refine z_inc3 hC dX3_used_21 (by decide) ?_
    refine z_goto hC 4 dX3_used_24 rfl ?_
    exact ih

set_option maxHeartbeats 2000000 in
theorem c_X3_someSeesOnly (l : Launch) (X : zX) (G : zG) {i : Nat} {r0 : Nat} (hr0 : r0 = za G 10 i)  (hi : i < 6) {f al : Int32} {n : Nat} (hsz : zg G 10 i 6 = nI n) (h12 : n ≤ 12) : zC l yX3_someSeesOnly cX3_someSeesOnly 5 (some FieldType.boolean) 2 0 X [.ref r0, .int f, .int al] G (zPi (fun r G2 => (xOnly G i f al = true ∧ r = nI 1 ∧ G = G2) ∨ (xOnly G i f al = false ∧ r = nI 0 ∧ G = G2))) := by
  subst hr0
  refine zC_of zpn_X3 (zcat rfl) (Nat.le_of_ble_eq_true rfl) ?_
  intro Z hC hE
  replace hC : zCtx l X cX3_someSeesOnly RX3 5 2 0 Z := hC
  change Z 0 G 0 [some (.ref (za G 10 i)), some (.int f), some (.int al), none, none] []
  refine z_iconst hC dX3_someSeesOnly_0 zi_0 ?_
  refine z_is3 hC dX3_someSeesOnly_1 (by decide) ?_
  refine z_loop (N := n) (fun k => (∀ j, j < k → (fun s => decide (¬ xSees G i s f = 0 ∧ xSees G i s f &&& (al ^^^ (-1)) = 0)) j = false) → Z 0 G 2 [some (.ref (za G 10 i)), some (.int f), some (.int al), some (.int (nI k)), none] []) ?_ ?_ 0 (Nat.zero_le _) lt_0
  · intro hv
    change Z 0 G 2 [some (.ref (za G 10 i)), some (.int f), some (.int al), some (.int (nI n)), none] []
    refine z_il3 hC dX3_someSeesOnly_2 ?_
    refine z_al0 hC dX3_someSeesOnly_3 ?_
    refine zgf_X3_30 hC hi dX3_someSeesOnly_4 ?_
    refine z_top hsz ?_
    refine z_icmp_ge hC 40 dX3_someSeesOnly_7 rfl (fun _ => ?_) (fun h => absurd (nI_le (Nat.le_refl _) (by omega)) h)
    refine z_iconst hC dX3_someSeesOnly_40 zi_0 ?_
    exact z_retz0 hE (by omega) dX3_someSeesOnly_41 (Or.inr ⟨by simp only [xOnly, hsz, nI_clamp (show n < 2 ^ 31 by omega)]; exact anF_f hv, rfl, rfl⟩)
  · intro k hn ih hv
    change Z 0 G 2 [some (.ref (za G 10 i)), some (.int f), some (.int al), some (.int (nI k)), none] []
    replace ih : (∀ j, j < (k + 1) → (fun s => decide (¬ xSees G i s f = 0 ∧ xSees G i s f &&& (al ^^^ (-1)) = 0)) j = false) → Z 0 G 2 [some (.ref (za G 10 i)), some (.int f), some (.int al), some (.int (nI (k + 1))), none] [] := ih
    refine z_il3 hC dX3_someSeesOnly_2 ?_
    refine z_al0 hC dX3_someSeesOnly_3 ?_
    refine zgf_X3_30 hC hi dX3_someSeesOnly_4 ?_
    refine z_top hsz ?_
    refine z_icmp_ge hC 40 dX3_someSeesOnly_7 rfl (fun h => absurd h (nI_ge hn (by omega))) (fun _ => ?_)
    refine z_al0 hC dX3_someSeesOnly_10 ?_
    refine z_il3 hC dX3_someSeesOnly_11 ?_
    refine z_il1 hC dX3_someSeesOnly_12 ?_
    refine z_cVi2 hC (c_X3_seenBy l X _ (by rfl) hi (by omega)) zm_X3_seenBy zi_X3_seenBy (zo_10 hi) zk_X3_42 (by omega) (by decide) (by omega) (Nat.le_of_ble_eq_true rfl) dX3_someSeesOnly_13 ?_
    rintro _ _ ⟨rfl, rfl⟩
    refine z_is4 hC dX3_someSeesOnly_16 (by decide) ?_
    refine z_il4 hC dX3_someSeesOnly_18 ?_
    refine z_if_eq hC 34 dX3_someSeesOnly_20 rfl (fun h20 => ?_) (fun h20 => ?_)
    · refine z_inc3 hC dX3_someSeesOnly_34 (by decide) ?_
      refine z_goto hC 2 dX3_someSeesOnly_37 rfl ?_
      refine z_dr4 hC ?_
      exact ih (lt_s hv (decide_eq_false (fun h => h.1 h20)))
    · refine z_il4 hC dX3_someSeesOnly_23 ?_
      refine z_il2 hC dX3_someSeesOnly_25 ?_
      refine z_iconst hC dX3_someSeesOnly_26 zi_m1 ?_
      refine z_ixor hC dX3_someSeesOnly_27 ?_
      refine z_iand hC dX3_someSeesOnly_28 ?_
      refine z_if_ne hC 34 dX3_someSeesOnly_29 rfl (fun h29 => ?_) (fun h29 => ?_)
      · refine z_inc3 hC dX3_someSeesOnly_34 (by decide) ?_
        refine z_goto hC 2 dX3_someSeesOnly_37 rfl ?_
        refine z_dr4 hC ?_
        exact ih (lt_s hv (decide_eq_false (fun h => h29 h.2)))
      · refine z_iconst hC dX3_someSeesOnly_32 zi_1 ?_
        exact z_retz1 hE (by omega) dX3_someSeesOnly_33 (Or.inl ⟨by simp only [xOnly, hsz, nI_clamp (show n < 2 ^ 31 by omega)]; exact anF_t (k := k) (decide_eq_true ⟨h20, h29⟩) hn, rfl, rfl⟩)

set_option maxHeartbeats 2000000 in
theorem c_X3_turned (l : Launch) (X : zX) (G : zG) {x d : Int32} : zC l yX3_turned cX3_turned 2 (some FieldType.int) 1 0 X [.int x, .int d] G (zPi (fun r G2 => r = xTurn x d ∧ G = G2)) := by
  refine zC_of zpn_X3 (zcat rfl) (Nat.le_of_ble_eq_true rfl) ?_
  intro Z hC hE
  replace hC : zCtx l X cX3_turned RX3 2 1 0 Z := hC
  change Z 0 G 0 [some (.int x), some (.int d)] []
  refine z_il0 hC dX3_turned_0 ?_
  refine z_il1 hC dX3_turned_1 ?_
  refine z_ishl hC dX3_turned_2 ?_
  refine z_il0 hC dX3_turned_3 ?_
  refine z_bipush hC dX3_turned_4 zb_8 ?_
  refine z_il1 hC dX3_turned_6 ?_
  refine z_isub hC dX3_turned_7 ?_
  refine z_ishr hC dX3_turned_8 ?_
  refine z_ior hC dX3_turned_9 ?_
  refine z_sipush hC dX3_turned_10 zs_255 ?_
  refine z_iand hC dX3_turned_13 ?_
  exact z_reti hE (by omega) dX3_turned_14 (⟨rfl, rfl⟩)

set_option maxHeartbeats 2000000 in
theorem c_X1_addCount (l : Launch) (X : zX) (G : zG) {i f d mk : Nat} {r0 : Nat} (hr0 : r0 = za G 7 i)  (hi : i < 6) (hf : f < 8) (hd : d < 40) (hmk : mk < 100) {x : Int32} : zC l yX1_addCount cX1_addCount 5 none 1 0 X [.ref r0, .int (nI f), .int (nI d), .int x, .int (nI mk)] G (zPv (fun G2 => G2 = zu (zu (zu G 9 i mk (nI 1)) 7 i 3 (nI 1)) 8 i (f * 40 + d) (zg G 8 i (f * 40 + d) + x))) := by
  subst hr0
  refine zC_of zpn_X1 (zcat rfl) (Nat.le_of_ble_eq_true rfl) ?_
  intro Z hC hE
  replace hC : zCtx l X cX1_addCount RX1 5 1 0 Z := hC
  change Z 0 G 0 [some (.ref (za G 7 i)), some (.int (nI f)), some (.int (nI d)), some (.int x), some (.int (nI mk))] []
  refine z_al0 hC dX1_addCount_0 ?_
  refine zgf_X1_22 hC hi dX1_addCount_1 ?_
  refine z_il4 hC dX1_addCount_4 ?_
  refine z_iconst hC dX1_addCount_6 zi_1 ?_
  refine zas_9 hC hi (by omega) dX1_addCount_7 ?_
  refine z_al0 hC dX1_addCount_8 ?_
  refine z_iconst hC dX1_addCount_9 zi_1 ?_
  refine zpf_X1_26 hC hi dX1_addCount_10 ?_
  refine z_al0 hC dX1_addCount_13 ?_
  refine zgf_X1_18 hC hi dX1_addCount_14 ?_
  refine z_il1 hC dX1_addCount_17 ?_
  refine z_bipush hC dX1_addCount_18 zb_40 ?_
  refine z_imulN hC dX1_addCount_20 ?_
  refine z_il2 hC dX1_addCount_21 ?_
  refine z_iaddN hC dX1_addCount_22 ?_
  refine z_dup2 hC dX1_addCount_23 rfl rfl ?_
  refine zal_8 hC hi (by omega) dX1_addCount_24 ?_
  refine z_top ((by simp [zg_zu]) : _ = zg G 8 i (f * 40 + d)) ?_
  refine z_il3 hC dX1_addCount_25 ?_
  refine z_iadd hC dX1_addCount_26 ?_
  refine zas_8 hC hi (by omega) dX1_addCount_27 ?_
  exact z_retv hE (by omega) dX1_addCount_28 (rfl)

set_option maxHeartbeats 2000000 in
theorem c_X1_counted (l : Launch) (X : zX) (G : zG) {i f a b : Nat} {r0 : Nat} (hr0 : r0 = za G 7 i)  (hi : i < 6) (hf : f < 8) (hab : a ≤ b + 1) (hb : b < 40) : zC l yX1_counted cX1_counted 6 (some FieldType.int) 1 0 X [.ref r0, .int (nI f), .int (nI a), .int (nI b)] G (zPi (fun r G2 => r = xSum G i f a (b + 1) ∧ G = G2)) := by
  subst hr0
  refine zC_of zpn_X1 (zcat rfl) (Nat.le_of_ble_eq_true rfl) ?_
  intro Z hC hE
  replace hC : zCtx l X cX1_counted RX1 6 1 0 Z := hC
  change Z 0 G 0 [some (.ref (za G 7 i)), some (.int (nI f)), some (.int (nI a)), some (.int (nI b)), none, none] []
  refine z_iconst hC dX1_counted_0 zi_0 ?_
  refine z_is4 hC dX1_counted_1 (by decide) ?_
  refine z_il2 hC dX1_counted_3 ?_
  refine z_is5 hC dX1_counted_4 (by decide) ?_
  rw [← smT_0 (fun d => zg G 8 i (f * 40 + d)) a]
  refine z_loop (N := (b + 1)) (fun n => a ≤ n → Z 0 G 6 [some (.ref (za G 7 i)), some (.int (nI f)), some (.int (nI a)), some (.int (nI b)), some (.int (smT (fun d => zg G 8 i (f * 40 + d)) a n)), some (.int (nI n))] []) ?_ ?_ a (hab) (Nat.le_refl _)
  · intro hv
    change Z 0 G 6 [some (.ref (za G 7 i)), some (.int (nI f)), some (.int (nI a)), some (.int (nI b)), some (.int (smT (fun d => zg G 8 i (f * 40 + d)) a (b + 1))), some (.int (nI (b + 1)))] []
    refine z_il5 hC dX1_counted_6 ?_
    refine z_il3 hC dX1_counted_8 ?_
    refine z_icmp_gt hC 35 dX1_counted_9 rfl (fun _ => ?_) (fun h => absurd (nI_lt (Nat.lt_succ_self _) (by omega)) h)
    refine z_il4 hC dX1_counted_35 ?_
    exact z_reti hE (by omega) dX1_counted_37 (⟨rfl, rfl⟩)
  · intro n hn ih hv
    change Z 0 G 6 [some (.ref (za G 7 i)), some (.int (nI f)), some (.int (nI a)), some (.int (nI b)), some (.int (smT (fun d => zg G 8 i (f * 40 + d)) a n)), some (.int (nI n))] []
    replace ih : a ≤ (n + 1) → Z 0 G 6 [some (.ref (za G 7 i)), some (.int (nI f)), some (.int (nI a)), some (.int (nI b)), some (.int (smT (fun d => zg G 8 i (f * 40 + d)) a (n + 1))), some (.int (nI (n + 1)))] [] := ih
    refine z_il5 hC dX1_counted_6 ?_
    refine z_il3 hC dX1_counted_8 ?_
    refine z_icmp_gt hC 35 dX1_counted_9 rfl (fun h => absurd h (Int32.not_lt.mpr (nI_le (Nat.le_of_lt_succ hn) (by omega)))) (fun _ => ?_)
    refine z_il4 hC dX1_counted_12 ?_
    refine z_al0 hC dX1_counted_14 ?_
    refine zgf_X1_18 hC hi dX1_counted_15 ?_
    refine z_il1 hC dX1_counted_18 ?_
    refine z_bipush hC dX1_counted_19 zb_40 ?_
    refine z_imulN hC dX1_counted_21 ?_
    refine z_il5 hC dX1_counted_22 ?_
    refine z_iaddN hC dX1_counted_24 ?_
    refine zal_8 hC hi (by omega) dX1_counted_25 ?_
    refine z_iadd hC dX1_counted_26 ?_
    refine z_is4 hC dX1_counted_27 (by decide) ?_
    refine z_inc5 hC dX1_counted_29 (by decide) ?_
    refine z_goto hC 6 dX1_counted_32 rfl ?_
    have ih2 := ih (by omega)
    rw [smT_s _ hv] at ih2
    exact ih2

set_option maxHeartbeats 2000000 in
theorem c_X1_calledAround (l : Launch) (X : zX) (G : zG) {i f d : Nat} {r0 : Nat} (hr0 : r0 = za G 7 i)  (hi : i < 6) (hf : f < 8) (hd : d ≤ 40) : zC l yX1_calledAround cX1_calledAround 3 (some FieldType.boolean) 2 0 X [.ref r0, .int (nI f), .int (nI d)] G (zPi (fun r G2 => (0 < xSum G i f (d - 7) (min d 39 + 1) ∧ r = nI 1 ∧ G = G2) ∨ (¬ 0 < xSum G i f (d - 7) (min d 39 + 1) ∧ r = nI 0 ∧ G = G2))) := by
  subst hr0
  refine zC_of zpn_X1 (zcat rfl) (Nat.le_of_ble_eq_true rfl) ?_
  intro Z hC hE
  replace hC : zCtx l X cX1_calledAround RX1 3 2 0 Z := hC
  change Z 0 G 0 [some (.ref (za G 7 i)), some (.int (nI f)), some (.int (nI d))] []
  refine z_al0 hC dX1_calledAround_0 ?_
  refine z_il1 hC dX1_calledAround_1 ?_
  refine z_il2 hC dX1_calledAround_2 ?_
  refine z_bipush hC dX1_calledAround_3 zb_7 ?_
  refine z_isub hC dX1_calledAround_5 ?_
  refine z_iconst hC dX1_calledAround_6 zi_0 ?_
  refine z_mmax hC zk_X1_37 (by omega) (Nat.le_of_ble_eq_true rfl) (by omega) dX1_calledAround_7 ?_
  refine z_top (zmax7 (by omega)) ?_
  refine z_il2 hC dX1_calledAround_10 ?_
  refine z_bipush hC dX1_calledAround_11 zb_39 ?_
  refine z_mmin hC zk_X1_43 (by omega) (Nat.le_of_ble_eq_true rfl) (by omega) dX1_calledAround_13 ?_
  refine z_top (zmin39 (by omega)) ?_
  refine z_cVi3 hC (c_X1_counted l X _ (by rfl) hi (by omega) (by omega) (by omega)) zm_X1_counted zi_X1_counted (zo_7 hi) zk_X1_46 (by omega) (by decide) (by omega) (Nat.le_of_ble_eq_true rfl) dX1_calledAround_16 ?_
  rintro _ _ ⟨rfl, rfl⟩
  refine z_if_le hC 26 dX1_calledAround_19 rfl (fun h19 => ?_) (fun h19 => ?_)
  · refine z_iconst hC dX1_calledAround_26 zi_0 ?_
    exact z_retz0 hE (by omega) dX1_calledAround_27 (Or.inr ⟨Int32.not_lt.mpr h19, rfl, rfl⟩)
  · refine z_iconst hC dX1_calledAround_22 zi_1 ?_
    refine z_goto hC 27 dX1_calledAround_23 rfl ?_
    exact z_retz1 hE (by omega) dX1_calledAround_27 (Or.inl ⟨Int32.not_le.mp h19, rfl, rfl⟩)

set_option maxHeartbeats 2000000 in
theorem c_X1_isSilent (l : Launch) (X : zX) (G : zG) {i : Nat} {r0 : Nat} (hr0 : r0 = za G 7 i)  (hi : i < 6) : zC l yX1_isSilent cX1_isSilent 1 (some FieldType.boolean) 1 0 X [.ref r0] G (zPi (fun r G2 => (xSilent G i = true ∧ r = nI 1 ∧ G = G2) ∨ (xSilent G i = false ∧ r = nI 0 ∧ G = G2))) := by
  subst hr0
  refine zC_of zpn_X1 (zcat rfl) (Nat.le_of_ble_eq_true rfl) ?_
  intro Z hC hE
  replace hC : zCtx l X cX1_isSilent RX1 1 1 0 Z := hC
  change Z 0 G 0 [some (.ref (za G 7 i))] []
  refine z_al0 hC dX1_isSilent_0 ?_
  refine zgf_X1_12 hC hi dX1_isSilent_1 ?_
  refine zgf_X1_50 hC hi dX1_isSilent_4 ?_
  refine z_if_ne hC 21 dX1_isSilent_7 rfl (fun h7 => ?_) (fun h7 => ?_)
  · refine z_iconst hC dX1_isSilent_21 zi_0 ?_
    exact z_retz0 hE (by omega) dX1_isSilent_22 (Or.inr ⟨by simp [xSilent, h7], rfl, rfl⟩)
  · refine z_al0 hC dX1_isSilent_10 ?_
    refine zgf_X1_26 hC hi dX1_isSilent_11 ?_
    refine z_if_ne hC 21 dX1_isSilent_14 rfl (fun h14 => ?_) (fun h14 => ?_)
    · refine z_iconst hC dX1_isSilent_21 zi_0 ?_
      exact z_retz0 hE (by omega) dX1_isSilent_22 (Or.inr ⟨by simp [xSilent, h14], rfl, rfl⟩)
    · refine z_iconst hC dX1_isSilent_17 zi_1 ?_
      refine z_goto hC 22 dX1_isSilent_18 rfl ?_
      exact z_retz1 hE (by omega) dX1_isSilent_22 (Or.inl ⟨by simp [xSilent, h7, h14], rfl, rfl⟩)

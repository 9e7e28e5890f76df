set_option maxHeartbeats 2000000 in
theorem p_answer (l : Launch) (X : zX) (G : zG) {r0 : Nat} (hr0 : r0 = za G 0 0) {vc rc td : Nat} (hI : xI G vc rc td) {a b c d : Int32} : zC l yX4_answer cX4_answer 7 (some FieldType.int) 4 0 X [.ref r0, .int a, .int b, .int c, .int d] G (zPi (fun r G2 => r = xaAnswer G vc a b c d ∧ G2 = xsAnswer G vc a b c d)) := by
  subst hr0
  refine zC_of zpn_X4 (zcat rfl) (Nat.le_of_ble_eq_true rfl) ?_
  intro Z hC hE
  replace hC : zCtx l X cX4_answer RX4 7 4 0 Z := hC
  change Z 0 G 0 [some (.ref (za G 0 0)), some (.int a), some (.int b), some (.int c), some (.int d), none, none] []
  obtain ⟨hvc, v1, v5, hrc, r12, hn0, hn1, htd, t39, htx, hgo, hru⟩ := hI
  refine z_al0 hC dX4_answer_0 ?_
  refine z_il1 hC dX4_answer_1 ?_
  refine z_cVa1 hC (c_X4_doorAt l X _ (by rfl)) zm_X4_doorAt zi_X4_doorAt zo_0 zk_X4_50 (by omega) (by decide) (by omega) (Nat.le_of_ble_eq_true rfl) dX4_answer_2 ?_
  rintro _ _ (⟨aN, ha, rfl, rfl, rfl⟩ | ⟨na, rfl, rfl⟩)
  · have ta : zin (nI aN) 8 = true := zin_t ha (by omega)
    have qa : (nI aN).toNatClampNeg = aN := nI_clamp (by omega)
    refine z_as5 hC dX4_answer_5 (by decide) ?_
    refine z_al5 hC dX4_answer_7 ?_
    refine z_ifnull hC dX4_answer_9 ?_
    refine z_al0 hC dX4_answer_12 ?_
    refine z_il2 hC dX4_answer_13 ?_
    refine z_cVi1 hC (c_X4_isVersion l X _ (by rfl) hvc v5) zm_X4_isVersion zi_X4_isVersion zo_0 zk_X4_54 (by omega) (by decide) (by omega) (Nat.le_of_ble_eq_true rfl) dX4_answer_14 ?_
    rintro _ _ (⟨bN, hb, rfl, rfl, rfl⟩ | ⟨nb, rfl, rfl⟩)
    · have tb : zin (nI bN) vc = true := zin_t hb (by omega)
      have qb : (nI bN).toNatClampNeg = bN := nI_clamp (by omega)
      refine z_if_eq hC 29 dX4_answer_17 rfl (fun h => absurd h (by decide)) (fun _ => ?_)
      refine z_il3 hC dX4_answer_20 ?_
      refine z_bipush hC dX4_answer_21 zb_7 ?_
      refine z_cSi2 hC (c_X4_isWithin l X _ (by decide)) zm_X4_isWithin zi_X4_isWithin zk_X4_58 (by omega) (by decide) (by omega) (Nat.le_of_ble_eq_true rfl) dX4_answer_23 ?_
      rintro _ _ (⟨cN, hc, rfl, rfl, rfl⟩ | ⟨nc, rfl, rfl⟩)
      · have tc : zin (nI cN) 8 = true := zin_t hc (by omega)
        have qc : (nI cN).toNatClampNeg = cN := nI_clamp (by omega)
        refine z_if_ne hC 32 dX4_answer_26 rfl (fun _ => ?_) (fun h => absurd h (by decide))
        refine z_il4 hC dX4_answer_32 ?_
        refine z_bipush hC dX4_answer_34 zb_m9 ?_
        refine z_icmp_eq hC 52 dX4_answer_36 rfl (fun h36 => ?_) (fun h36 => ?_)
        · refine z_al5 hC dX4_answer_52 ?_
          refine z_il2 hC dX4_answer_54 ?_
          refine z_il3 hC dX4_answer_55 ?_
          refine z_cVNi2 hC (c_X0_answerTo l X _ (by rfl) ha (by omega) (by omega)) zm_X0_answerTo zi_X0_answerTo (zo_4 ha) zkn_X4_62 (by omega) (by decide) (by omega) (Nat.le_of_ble_eq_true rfl) dX4_answer_56 ?_
          rintro _ _ ⟨rfl, rfl⟩
          refine z_is6 hC dX4_answer_59 (by decide) ?_
          refine z_al5 hC dX4_answer_61 ?_
          refine zgf_X4_66 hC ha dX4_answer_63 ?_
          refine z_il2 hC dX4_answer_66 ?_
          refine z_bipush hC dX4_answer_67 zb_8 ?_
          refine z_imulN hC dX4_answer_69 ?_
          refine z_il3 hC dX4_answer_70 ?_
          refine z_iaddN hC dX4_answer_71 ?_
          refine z_il4 hC dX4_answer_72 ?_
          refine zas_5 hC ha (by omega) dX4_answer_74 ?_
          refine z_il6 hC dX4_answer_75 ?_
          exact z_reti hE (by omega) dX4_answer_77 (⟨by simp [xoAnswer, xaAnswer, xsAnswer, ta, qa, tb, qb, tc, qc, h36], by simp [xoAnswer, xaAnswer, xsAnswer, ta, qa, tb, qb, tc, qc, h36]⟩)
        · refine z_il4 hC dX4_answer_39 ?_
          refine z_bipush hC dX4_answer_41 zb_9 ?_
          refine z_cSi2 hC (c_X4_isWithin l X _ (by decide)) zm_X4_isWithin zi_X4_isWithin zk_X4_58 (by omega) (by decide) (by omega) (Nat.le_of_ble_eq_true rfl) dX4_answer_43 ?_
          rintro _ _ (⟨dN, hd, rfl, rfl, rfl⟩ | ⟨nd, rfl, rfl⟩)
          · have td : zin (nI dN) 10 = true := zin_t hd (by omega)
            have qd : (nI dN).toNatClampNeg = dN := nI_clamp (by omega)
            refine z_if_ne hC 52 dX4_answer_46 rfl (fun _ => ?_) (fun h => absurd h (by decide))
            refine z_al5 hC dX4_answer_52 ?_
            refine z_il2 hC dX4_answer_54 ?_
            refine z_il3 hC dX4_answer_55 ?_
            refine z_cVNi2 hC (c_X0_answerTo l X _ (by rfl) ha (by omega) (by omega)) zm_X0_answerTo zi_X0_answerTo (zo_4 ha) zkn_X4_62 (by omega) (by decide) (by omega) (Nat.le_of_ble_eq_true rfl) dX4_answer_56 ?_
            rintro _ _ ⟨rfl, rfl⟩
            refine z_is6 hC dX4_answer_59 (by decide) ?_
            refine z_al5 hC dX4_answer_61 ?_
            refine zgf_X4_66 hC ha dX4_answer_63 ?_
            refine z_il2 hC dX4_answer_66 ?_
            refine z_bipush hC dX4_answer_67 zb_8 ?_
            refine z_imulN hC dX4_answer_69 ?_
            refine z_il3 hC dX4_answer_70 ?_
            refine z_iaddN hC dX4_answer_71 ?_
            refine z_il4 hC dX4_answer_72 ?_
            refine zas_5 hC ha (by omega) dX4_answer_74 ?_
            refine z_il6 hC dX4_answer_75 ?_
            exact z_reti hE (by omega) dX4_answer_77 (⟨by simp [xoAnswer, xaAnswer, xsAnswer, ta, qa, tb, qb, tc, qc, h36, td, qd], by simp [xoAnswer, xaAnswer, xsAnswer, ta, qa, tb, qb, tc, qc, h36, td, qd]⟩)
          · replace nd : zin d 10 = false := nd
            refine z_if_ne hC 52 dX4_answer_46 rfl (fun h => absurd h (by decide)) (fun _ => ?_)
            refine z_bipush hC dX4_answer_49 zb_m2 ?_
            exact z_reti hE (by omega) dX4_answer_51 (⟨by simp [xoAnswer, xaAnswer, xsAnswer, ta, qa, tb, qb, tc, qc, h36, nd], by simp [xoAnswer, xaAnswer, xsAnswer, ta, qa, tb, qb, tc, qc, h36, nd]⟩)
      · replace nc : zin c 8 = false := nc
        refine z_if_ne hC 32 dX4_answer_26 rfl (fun h => absurd h (by decide)) (fun _ => ?_)
        refine z_bipush hC dX4_answer_29 zb_m2 ?_
        exact z_reti hE (by omega) dX4_answer_31 (⟨by simp [xoAnswer, xaAnswer, xsAnswer, ta, qa, tb, qb, nc], by simp [xoAnswer, xaAnswer, xsAnswer, ta, qa, tb, qb, nc]⟩)
    · replace nb : zin b vc = false := nb
      refine z_if_eq hC 29 dX4_answer_17 rfl (fun _ => ?_) (fun h => absurd h (by decide))
      refine z_bipush hC dX4_answer_29 zb_m2 ?_
      exact z_reti hE (by omega) dX4_answer_31 (⟨by simp [xoAnswer, xaAnswer, xsAnswer, ta, qa, nb], by simp [xoAnswer, xaAnswer, xsAnswer, ta, qa, nb]⟩)
  · replace na : zin a 8 = false := na
    refine z_ns5 hC dX4_answer_5 (by decide) ?_
    refine z_nl5 hC dX4_answer_7 ?_
    refine z_ifnullN hC 29 dX4_answer_9 rfl ?_
    refine z_bipush hC dX4_answer_29 zb_m2 ?_
    exact z_reti hE (by omega) dX4_answer_31 (⟨by simp [xoAnswer, xaAnswer, xsAnswer, na], by simp [xoAnswer, xaAnswer, xsAnswer, na]⟩)

set_option maxHeartbeats 2000000 in
theorem p_differ (l : Launch) (X : zX) (G : zG) {r0 : Nat} (hr0 : r0 = za G 0 0) {vc rc td : Nat} (hI : xI G vc rc td) {a b c : Int32} : zC l yX4_differ cX4_differ 5 (some FieldType.int) 4 0 X [.ref r0, .int a, .int b, .int c] G (zPi (fun r G2 => r = xaDiffer G vc a b c ∧ G = G2)) := by
  subst hr0
  refine zC_of zpn_X4 (zcat rfl) (Nat.le_of_ble_eq_true rfl) ?_
  intro Z hC hE
  replace hC : zCtx l X cX4_differ RX4 5 4 0 Z := hC
  change Z 0 G 0 [some (.ref (za G 0 0)), some (.int a), some (.int b), some (.int c), none] []
  obtain ⟨hvc, v1, v5, hrc, r12, hn0, hn1, htd, t39, htx, hgo, hru⟩ := hI
  refine z_al0 hC dX4_differ_0 ?_
  refine z_il1 hC dX4_differ_1 ?_
  refine z_cVa1 hC (c_X4_doorAt l X _ (by rfl)) zm_X4_doorAt zi_X4_doorAt zo_0 zk_X4_50 (by omega) (by decide) (by omega) (Nat.le_of_ble_eq_true rfl) dX4_differ_2 ?_
  rintro _ _ (⟨aN, ha, rfl, rfl, rfl⟩ | ⟨na, rfl, rfl⟩)
  · have ta : zin (nI aN) 8 = true := zin_t ha (by omega)
    have qa : (nI aN).toNatClampNeg = aN := nI_clamp (by omega)
    refine z_as4 hC dX4_differ_5 (by decide) ?_
    refine z_al4 hC dX4_differ_7 ?_
    refine z_ifnull hC dX4_differ_9 ?_
    refine z_al0 hC dX4_differ_12 ?_
    refine z_il2 hC dX4_differ_13 ?_
    refine z_cVi1 hC (c_X4_isVersion l X _ (by rfl) hvc v5) zm_X4_isVersion zi_X4_isVersion zo_0 zk_X4_54 (by omega) (by decide) (by omega) (Nat.le_of_ble_eq_true rfl) dX4_differ_14 ?_
    rintro _ _ (⟨bN, hb, rfl, rfl, rfl⟩ | ⟨nb, rfl, rfl⟩)
    · have tb : zin (nI bN) vc = true := zin_t hb (by omega)
      have qb : (nI bN).toNatClampNeg = bN := nI_clamp (by omega)
      refine z_if_eq hC 28 dX4_differ_17 rfl (fun h => absurd h (by decide)) (fun _ => ?_)
      refine z_al0 hC dX4_differ_20 ?_
      refine z_il3 hC dX4_differ_21 ?_
      refine z_cVi1 hC (c_X4_isVersion l X _ (by rfl) hvc v5) zm_X4_isVersion zi_X4_isVersion zo_0 zk_X4_54 (by omega) (by decide) (by omega) (Nat.le_of_ble_eq_true rfl) dX4_differ_22 ?_
      rintro _ _ (⟨cN, hc, rfl, rfl, rfl⟩ | ⟨nc, rfl, rfl⟩)
      · have tc : zin (nI cN) vc = true := zin_t hc (by omega)
        have qc : (nI cN).toNatClampNeg = cN := nI_clamp (by omega)
        refine z_if_ne hC 30 dX4_differ_25 rfl (fun _ => ?_) (fun h => absurd h (by decide))
        refine z_al4 hC dX4_differ_30 ?_
        refine z_il2 hC dX4_differ_32 ?_
        refine z_il3 hC dX4_differ_33 ?_
        refine z_cVNi2 hC (c_X0_differing l X _ (by rfl) ha (by omega) (by omega)) zm_X0_differing zi_X0_differing (zo_4 ha) zkn_X4_70 (by omega) (by decide) (by omega) (Nat.le_of_ble_eq_true rfl) dX4_differ_34 ?_
        rintro _ _ ⟨rfl, rfl⟩
        exact z_reti hE (by omega) dX4_differ_37 (⟨by simp [xoDiffer, xaDiffer, ta, qa, tb, qb, tc, qc], rfl⟩)
      · replace nc : zin c vc = false := nc
        refine z_if_ne hC 30 dX4_differ_25 rfl (fun h => absurd h (by decide)) (fun _ => ?_)
        refine z_iconst hC dX4_differ_28 zi_m1 ?_
        exact z_reti hE (by omega) dX4_differ_29 (⟨by simp [xoDiffer, xaDiffer, ta, qa, tb, qb, nc], rfl⟩)
    · replace nb : zin b vc = false := nb
      refine z_if_eq hC 28 dX4_differ_17 rfl (fun _ => ?_) (fun h => absurd h (by decide))
      refine z_iconst hC dX4_differ_28 zi_m1 ?_
      exact z_reti hE (by omega) dX4_differ_29 (⟨by simp [xoDiffer, xaDiffer, ta, qa, nb], rfl⟩)
  · replace na : zin a 8 = false := na
    refine z_ns4 hC dX4_differ_5 (by decide) ?_
    refine z_nl4 hC dX4_differ_7 ?_
    refine z_ifnullN hC 28 dX4_differ_9 rfl ?_
    refine z_iconst hC dX4_differ_28 zi_m1 ?_
    exact z_reti hE (by omega) dX4_differ_29 (⟨by simp [xoDiffer, xaDiffer, na], rfl⟩)

set_option maxHeartbeats 2000000 in
theorem p_goes (l : Launch) (X : zX) (G : zG) {r0 : Nat} (hr0 : r0 = za G 0 0) {vc rc td : Nat} (hI : xI G vc rc td) {a b : Int32} : zC l yX4_goes cX4_goes 5 (some FieldType.int) 3 0 X [.ref r0, .int a, .int b] G (zPi (fun r G2 => r = xaGoes G vc a b ∧ G2 = xsGoes G vc a b)) := by
  subst hr0
  refine zC_of zpn_X4 (zcat rfl) (Nat.le_of_ble_eq_true rfl) ?_
  intro Z hC hE
  replace hC : zCtx l X cX4_goes RX4 5 3 0 Z := hC
  change Z 0 G 0 [some (.ref (za G 0 0)), some (.int a), some (.int b), none, none] []
  obtain ⟨hvc, v1, v5, hrc, r12, hn0, hn1, htd, t39, htx, hgo, hru⟩ := hI
  refine z_al0 hC dX4_goes_0 ?_
  refine z_il1 hC dX4_goes_1 ?_
  refine z_cVa1 hC (c_X4_houseAt l X _ (by rfl)) zm_X4_houseAt zi_X4_houseAt zo_0 zk_X4_73 (by omega) (by decide) (by omega) (Nat.le_of_ble_eq_true rfl) dX4_goes_2 ?_
  rintro _ _ (⟨aN, ha, rfl, rfl, rfl⟩ | ⟨na, rfl, rfl⟩)
  · have ta : zin (nI aN) 6 = true := zin_t ha (by omega)
    have qa : (nI aN).toNatClampNeg = aN := nI_clamp (by omega)
    obtain ⟨sz, h12, hsz, hT⟩ := htx aN ha
    obtain ⟨vv, hvv, hv⟩ := hgo aN ha
    have qsz : xSz G aN = sz := by unfold xSz; rw [hsz]; exact nI_clamp (by omega)
    have qv : (zg G 7 aN 4).toNatClampNeg = vv := by rw [hv]; exact nI_clamp (by omega)
    refine z_as3 hC dX4_goes_5 (by decide) ?_
    refine z_al3 hC dX4_goes_6 ?_
    refine z_ifnull hC dX4_goes_7 ?_
    refine z_al0 hC dX4_goes_10 ?_
    refine z_il2 hC dX4_goes_11 ?_
    refine z_cVi1 hC (c_X4_isVersion l X _ (by rfl) hvc v5) zm_X4_isVersion zi_X4_isVersion zo_0 zk_X4_54 (by omega) (by decide) (by omega) (Nat.le_of_ble_eq_true rfl) dX4_goes_12 ?_
    rintro _ _ (⟨bN, hb, rfl, rfl, rfl⟩ | ⟨nb, rfl, rfl⟩)
    · have tb : zin (nI bN) vc = true := zin_t hb (by omega)
      have qb : (nI bN).toNatClampNeg = bN := nI_clamp (by omega)
      refine z_if_ne hC 20 dX4_goes_15 rfl (fun _ => ?_) (fun h => absurd h (by decide))
      refine z_al3 hC dX4_goes_20 ?_
      refine zgf_X4_77 hC ha dX4_goes_21 ?_
      refine z_is4 hC dX4_goes_24 (by decide) ?_
      refine z_al3 hC dX4_goes_26 ?_
      refine z_il2 hC dX4_goes_27 ?_
      refine zpf_X4_77 hC ha dX4_goes_28 ?_
      refine z_il4 hC dX4_goes_31 ?_
      exact z_reti hE (by omega) dX4_goes_33 (⟨by simp [xoGoes, xaGoes, xsGoes, ta, qa, qsz, qv, tb, qb], by simp [xoGoes, xaGoes, xsGoes, ta, qa, qsz, qv, tb, qb]⟩)
    · replace nb : zin b vc = false := nb
      refine z_if_ne hC 20 dX4_goes_15 rfl (fun h => absurd h (by decide)) (fun _ => ?_)
      refine z_iconst hC dX4_goes_18 zi_m1 ?_
      exact z_reti hE (by omega) dX4_goes_19 (⟨by simp [xoGoes, xaGoes, xsGoes, ta, qa, qsz, qv, nb], by simp [xoGoes, xaGoes, xsGoes, ta, qa, qsz, qv, nb]⟩)
  · replace na : zin a 6 = false := na
    refine z_ns3 hC dX4_goes_5 (by decide) ?_
    refine z_nl3 hC dX4_goes_6 ?_
    refine z_ifnullN hC 18 dX4_goes_7 rfl ?_
    refine z_iconst hC dX4_goes_18 zi_m1 ?_
    exact z_reti hE (by omega) dX4_goes_19 (⟨by simp [xoGoes, xaGoes, xsGoes, na], by simp [xoGoes, xaGoes, xsGoes, na]⟩)

set_option maxHeartbeats 2000000 in
theorem p_call (l : Launch) (X : zX) (G : zG) {r0 : Nat} (hr0 : r0 = za G 0 0) {vc rc td : Nat} (hI : xI G vc rc td) {a b c : Int32} : zC l yX4_call cX4_call 5 (some FieldType.int) 3 0 X [.ref r0, .int a, .int b, .int c] G (zPi (fun r G2 => r = xaCall G a b c ∧ G2 = xsCall G a b c)) := by
  subst hr0
  refine zC_of zpn_X4 (zcat rfl) (Nat.le_of_ble_eq_true rfl) ?_
  intro Z hC hE
  replace hC : zCtx l X cX4_call RX4 5 3 0 Z := hC
  change Z 0 G 0 [some (.ref (za G 0 0)), some (.int a), some (.int b), some (.int c), none] []
  obtain ⟨hvc, v1, v5, hrc, r12, hn0, hn1, htd, t39, htx, hgo, hru⟩ := hI
  refine z_al0 hC dX4_call_0 ?_
  refine z_il1 hC dX4_call_1 ?_
  refine z_cVa1 hC (c_X4_houseAt l X _ (by rfl)) zm_X4_houseAt zi_X4_houseAt zo_0 zk_X4_73 (by omega) (by decide) (by omega) (Nat.le_of_ble_eq_true rfl) dX4_call_2 ?_
  rintro _ _ (⟨aN, ha, rfl, rfl, rfl⟩ | ⟨na, rfl, rfl⟩)
  · have ta : zin (nI aN) 6 = true := zin_t ha (by omega)
    have qa : (nI aN).toNatClampNeg = aN := nI_clamp (by omega)
    obtain ⟨sz, h12, hsz, hT⟩ := htx aN ha
    obtain ⟨vv, hvv, hv⟩ := hgo aN ha
    have qsz : xSz G aN = sz := by unfold xSz; rw [hsz]; exact nI_clamp (by omega)
    have qv : (zg G 7 aN 4).toNatClampNeg = vv := by rw [hv]; exact nI_clamp (by omega)
    refine z_as4 hC dX4_call_5 (by decide) ?_
    refine z_al4 hC dX4_call_7 ?_
    refine z_ifnull hC dX4_call_9 ?_
    refine z_il2 hC dX4_call_12 ?_
    refine z_cSi1 hC (c_X4_isFace l X _) zm_X4_isFace zi_X4_isFace zk_X4_80 (by omega) (by decide) (by omega) (Nat.le_of_ble_eq_true rfl) dX4_call_13 ?_
    rintro _ _ (⟨bN, hb, rfl, rfl, rfl⟩ | ⟨nb, rfl, rfl⟩)
    · have tb : zin (nI bN) 8 = true := zin_t hb (by omega)
      have qb : (nI bN).toNatClampNeg = bN := nI_clamp (by omega)
      refine z_if_eq hC 29 dX4_call_16 rfl (fun h => absurd h (by decide)) (fun _ => ?_)
      refine z_il3 hC dX4_call_19 ?_
      refine z_sipush hC dX4_call_20 zs_255 ?_
      refine z_cSi2 hC (c_X4_isWithin l X _ (by decide)) zm_X4_isWithin zi_X4_isWithin zk_X4_58 (by omega) (by decide) (by omega) (Nat.le_of_ble_eq_true rfl) dX4_call_23 ?_
      rintro _ _ (⟨cN, hc, rfl, rfl, rfl⟩ | ⟨nc, rfl, rfl⟩)
      · have tc : zin (nI cN) 256 = true := zin_t hc (by omega)
        have qc : (nI cN).toNatClampNeg = cN := nI_clamp (by omega)
        refine z_if_ne hC 31 dX4_call_26 rfl (fun _ => ?_) (fun h => absurd h (by decide))
        refine z_al4 hC dX4_call_31 ?_
        refine zgf_X4_83 hC ha dX4_call_33 ?_
        refine z_il2 hC dX4_call_36 ?_
        refine z_il3 hC dX4_call_37 ?_
        refine z_cVNi2 hC (c_X3_addCall l X _ (by rfl) ha hb hsz h12) zm_X3_addCall zi_X3_addCall (zo_10 ha) zkn_X4_87 (by omega) (by decide) (by omega) (Nat.le_of_ble_eq_true rfl) dX4_call_38 ?_
        rintro _ _ (⟨hm, rfl, rfl⟩ | ⟨hm, rfl, rfl⟩)
        · exact z_reti hE (by omega) dX4_call_41 (⟨by simp [xoCall, xaCall, xsCall, xAdd, ta, qa, qsz, qv, tb, qb, tc, qc, hm], by simp [xoCall, xaCall, xsCall, xAdd, ta, qa, qsz, qv, tb, qb, tc, qc, hm]⟩)
        · have hm2 : ¬ sz < 12 := by omega
          exact z_reti hE (by omega) dX4_call_41 (⟨by simp [xoCall, xaCall, xsCall, xAdd, ta, qa, qsz, qv, tb, qb, tc, qc, hm2], by simp [xoCall, xaCall, xsCall, xAdd, ta, qa, qsz, qv, tb, qb, tc, qc, hm2]⟩)
      · replace nc : zin c 256 = false := nc
        refine z_if_ne hC 31 dX4_call_26 rfl (fun h => absurd h (by decide)) (fun _ => ?_)
        refine z_iconst hC dX4_call_29 zi_m1 ?_
        exact z_reti hE (by omega) dX4_call_30 (⟨by simp [xoCall, xaCall, xsCall, xAdd, ta, qa, qsz, qv, tb, qb, nc], by simp [xoCall, xaCall, xsCall, xAdd, ta, qa, qsz, qv, tb, qb, nc]⟩)
    · replace nb : zin b 8 = false := nb
      refine z_if_eq hC 29 dX4_call_16 rfl (fun _ => ?_) (fun h => absurd h (by decide))
      refine z_iconst hC dX4_call_29 zi_m1 ?_
      exact z_reti hE (by omega) dX4_call_30 (⟨by simp [xoCall, xaCall, xsCall, xAdd, ta, qa, qsz, qv, nb], by simp [xoCall, xaCall, xsCall, xAdd, ta, qa, qsz, qv, nb]⟩)
  · replace na : zin a 6 = false := na
    refine z_ns4 hC dX4_call_5 (by decide) ?_
    refine z_nl4 hC dX4_call_7 ?_
    refine z_ifnullN hC 29 dX4_call_9 rfl ?_
    refine z_iconst hC dX4_call_29 zi_m1 ?_
    exact z_reti hE (by omega) dX4_call_30 (⟨by simp [xoCall, xaCall, xsCall, xAdd, na], by simp [xoCall, xaCall, xsCall, xAdd, na]⟩)

set_option maxHeartbeats 2000000 in
theorem p_wrap (l : Launch) (X : zX) (G : zG) {r0 : Nat} (hr0 : r0 = za G 0 0) {vc rc td : Nat} (hI : xI G vc rc td) {a b c d : Int32} : zC l yX4_wrap cX4_wrap 6 (some FieldType.int) 3 0 X [.ref r0, .int a, .int b, .int c, .int d] G (zPi (fun r G2 => r = xaWrap G a b c d ∧ G2 = xsWrap G a b c d)) := by
  subst hr0
  refine zC_of zpn_X4 (zcat rfl) (Nat.le_of_ble_eq_true rfl) ?_
  intro Z hC hE
  replace hC : zCtx l X cX4_wrap RX4 6 3 0 Z := hC
  change Z 0 G 0 [some (.ref (za G 0 0)), some (.int a), some (.int b), some (.int c), some (.int d), none] []
  obtain ⟨hvc, v1, v5, hrc, r12, hn0, hn1, htd, t39, htx, hgo, hru⟩ := hI
  refine z_al0 hC dX4_wrap_0 ?_
  refine z_il1 hC dX4_wrap_1 ?_
  refine z_cVa1 hC (c_X4_houseAt l X _ (by rfl)) zm_X4_houseAt zi_X4_houseAt zo_0 zk_X4_73 (by omega) (by decide) (by omega) (Nat.le_of_ble_eq_true rfl) dX4_wrap_2 ?_
  rintro _ _ (⟨aN, ha, rfl, rfl, rfl⟩ | ⟨na, rfl, rfl⟩)
  · have ta : zin (nI aN) 6 = true := zin_t ha (by omega)
    have qa : (nI aN).toNatClampNeg = aN := nI_clamp (by omega)
    obtain ⟨sz, h12, hsz, hT⟩ := htx aN ha
    obtain ⟨vv, hvv, hv⟩ := hgo aN ha
    have qsz : xSz G aN = sz := by unfold xSz; rw [hsz]; exact nI_clamp (by omega)
    have qv : (zg G 7 aN 4).toNatClampNeg = vv := by rw [hv]; exact nI_clamp (by omega)
    refine z_as5 hC dX4_wrap_5 (by decide) ?_
    refine z_al5 hC dX4_wrap_7 ?_
    refine z_ifnull hC dX4_wrap_9 ?_
    refine z_al5 hC dX4_wrap_12 ?_
    refine zgf_X4_83 hC ha dX4_wrap_14 ?_
    refine z_il2 hC dX4_wrap_17 ?_
    refine z_cVNi1 hC (c_X3_has l X _ (by rfl) ha hsz h12) zm_X3_has zi_X3_has (zo_10 ha) zkn_X4_92 (by omega) (by decide) (by omega) (Nat.le_of_ble_eq_true rfl) dX4_wrap_18 ?_
    rintro _ _ (⟨bN, hb, rfl, rfl, rfl⟩ | ⟨nb, rfl, rfl⟩)
    · have tb : zin (nI bN) sz = true := zin_t hb (by omega)
      have qb : (nI bN).toNatClampNeg = bN := nI_clamp (by omega)
      refine z_if_eq hC 44 dX4_wrap_21 rfl (fun h => absurd h (by decide)) (fun _ => ?_)
      refine z_il3 hC dX4_wrap_24 ?_
      refine z_bipush hC dX4_wrap_25 zb_7 ?_
      refine z_cSi2 hC (c_X4_isWithin l X _ (by decide)) zm_X4_isWithin zi_X4_isWithin zk_X4_58 (by omega) (by decide) (by omega) (Nat.le_of_ble_eq_true rfl) dX4_wrap_27 ?_
      rintro _ _ (⟨cN, hc, rfl, rfl, rfl⟩ | ⟨nc, rfl, rfl⟩)
      · have tc : zin (nI cN) 8 = true := zin_t hc (by omega)
        have qc : (nI cN).toNatClampNeg = cN := nI_clamp (by omega)
        refine z_if_eq hC 44 dX4_wrap_30 rfl (fun h => absurd h (by decide)) (fun _ => ?_)
        refine z_il4 hC dX4_wrap_33 ?_
        refine z_sipush hC dX4_wrap_35 zs_255 ?_
        refine z_cSi2 hC (c_X4_isWithin l X _ (by decide)) zm_X4_isWithin zi_X4_isWithin zk_X4_58 (by omega) (by decide) (by omega) (Nat.le_of_ble_eq_true rfl) dX4_wrap_38 ?_
        rintro _ _ (⟨dN, hd, rfl, rfl, rfl⟩ | ⟨nd, rfl, rfl⟩)
        · have td : zin (nI dN) 256 = true := zin_t hd (by omega)
          have qd : (nI dN).toNatClampNeg = dN := nI_clamp (by omega)
          refine z_if_ne hC 46 dX4_wrap_41 rfl (fun _ => ?_) (fun h => absurd h (by decide))
          refine z_al5 hC dX4_wrap_46 ?_
          refine zgf_X4_83 hC ha dX4_wrap_48 ?_
          refine z_il2 hC dX4_wrap_51 ?_
          refine z_il3 hC dX4_wrap_52 ?_
          refine z_il4 hC dX4_wrap_53 ?_
          refine z_cVNi3 hC (c_X3_addWrap l X _ (by rfl) ha hsz h12 hb hc) zm_X3_addWrap zi_X3_addWrap (zo_10 ha) zkn_X4_95 (by omega) (by decide) (by omega) (Nat.le_of_ble_eq_true rfl) dX4_wrap_55 ?_
          rintro _ _ (⟨hm, rfl, rfl⟩ | ⟨hm, rfl, rfl⟩)
          · exact z_reti hE (by omega) dX4_wrap_58 (⟨by simp [xoWrap, xaWrap, xsWrap, xAdd, ta, qa, qsz, qv, tb, qb, tc, qc, td, qd, hm], by simp [xoWrap, xaWrap, xsWrap, xAdd, ta, qa, qsz, qv, tb, qb, tc, qc, td, qd, hm]⟩)
          · have hm2 : ¬ sz < 12 := by omega
            exact z_reti hE (by omega) dX4_wrap_58 (⟨by simp [xoWrap, xaWrap, xsWrap, xAdd, ta, qa, qsz, qv, tb, qb, tc, qc, td, qd, hm2], by simp [xoWrap, xaWrap, xsWrap, xAdd, ta, qa, qsz, qv, tb, qb, tc, qc, td, qd, hm2]⟩)
        · replace nd : zin d 256 = false := nd
          refine z_if_ne hC 46 dX4_wrap_41 rfl (fun h => absurd h (by decide)) (fun _ => ?_)
          refine z_iconst hC dX4_wrap_44 zi_m1 ?_
          exact z_reti hE (by omega) dX4_wrap_45 (⟨by simp [xoWrap, xaWrap, xsWrap, xAdd, ta, qa, qsz, qv, tb, qb, tc, qc, nd], by simp [xoWrap, xaWrap, xsWrap, xAdd, ta, qa, qsz, qv, tb, qb, tc, qc, nd]⟩)
      · replace nc : zin c 8 = false := nc
        refine z_if_eq hC 44 dX4_wrap_30 rfl (fun _ => ?_) (fun h => absurd h (by decide))
        refine z_iconst hC dX4_wrap_44 zi_m1 ?_
        exact z_reti hE (by omega) dX4_wrap_45 (⟨by simp [xoWrap, xaWrap, xsWrap, xAdd, ta, qa, qsz, qv, tb, qb, nc], by simp [xoWrap, xaWrap, xsWrap, xAdd, ta, qa, qsz, qv, tb, qb, nc]⟩)
    · replace nb : zin b sz = false := nb
      refine z_if_eq hC 44 dX4_wrap_21 rfl (fun _ => ?_) (fun h => absurd h (by decide))
      refine z_iconst hC dX4_wrap_44 zi_m1 ?_
      exact z_reti hE (by omega) dX4_wrap_45 (⟨by simp [xoWrap, xaWrap, xsWrap, xAdd, ta, qa, qsz, qv, nb], by simp [xoWrap, xaWrap, xsWrap, xAdd, ta, qa, qsz, qv, nb]⟩)
  · replace na : zin a 6 = false := na
    refine z_ns5 hC dX4_wrap_5 (by decide) ?_
    refine z_nl5 hC dX4_wrap_7 ?_
    refine z_ifnullN hC 44 dX4_wrap_9 rfl ?_
    refine z_iconst hC dX4_wrap_44 zi_m1 ?_
    exact z_reti hE (by omega) dX4_wrap_45 (⟨by simp [xoWrap, xaWrap, xsWrap, xAdd, na], by simp [xoWrap, xaWrap, xsWrap, xAdd, na]⟩)

set_option maxHeartbeats 2000000 in
theorem p_split (l : Launch) (X : zX) (G : zG) {r0 : Nat} (hr0 : r0 = za G 0 0) {vc rc td : Nat} (hI : xI G vc rc td) {a b c d e : Int32} : zC l yX4_split cX4_split 7 (some FieldType.int) 3 0 X [.ref r0, .int a, .int b, .int c, .int d, .int e] G (zPi (fun r G2 => r = xaSplit G a b c d e ∧ G2 = xsSplit G a b c d e)) := by
  subst hr0
  refine zC_of zpn_X4 (zcat rfl) (Nat.le_of_ble_eq_true rfl) ?_
  intro Z hC hE
  replace hC : zCtx l X cX4_split RX4 7 3 0 Z := hC
  change Z 0 G 0 [some (.ref (za G 0 0)), some (.int a), some (.int b), some (.int c), some (.int d), some (.int e), none] []
  obtain ⟨hvc, v1, v5, hrc, r12, hn0, hn1, htd, t39, htx, hgo, hru⟩ := hI
  refine z_al0 hC dX4_split_0 ?_
  refine z_il1 hC dX4_split_1 ?_
  refine z_cVa1 hC (c_X4_houseAt l X _ (by rfl)) zm_X4_houseAt zi_X4_houseAt zo_0 zk_X4_73 (by omega) (by decide) (by omega) (Nat.le_of_ble_eq_true rfl) dX4_split_2 ?_
  rintro _ _ (⟨aN, ha, rfl, rfl, rfl⟩ | ⟨na, rfl, rfl⟩)
  · have ta : zin (nI aN) 6 = true := zin_t ha (by omega)
    have qa : (nI aN).toNatClampNeg = aN := nI_clamp (by omega)
    obtain ⟨sz, h12, hsz, hT⟩ := htx aN ha
    obtain ⟨vv, hvv, hv⟩ := hgo aN ha
    have qsz : xSz G aN = sz := by unfold xSz; rw [hsz]; exact nI_clamp (by omega)
    have qv : (zg G 7 aN 4).toNatClampNeg = vv := by rw [hv]; exact nI_clamp (by omega)
    refine z_as6 hC dX4_split_5 (by decide) ?_
    refine z_al6 hC dX4_split_7 ?_
    refine z_ifnull hC dX4_split_9 ?_
    refine z_al6 hC dX4_split_12 ?_
    refine zgf_X4_83 hC ha dX4_split_14 ?_
    refine z_il2 hC dX4_split_17 ?_
    refine z_cVNi1 hC (c_X3_has l X _ (by rfl) ha hsz h12) zm_X3_has zi_X3_has (zo_10 ha) zkn_X4_92 (by omega) (by decide) (by omega) (Nat.le_of_ble_eq_true rfl) dX4_split_18 ?_
    rintro _ _ (⟨bN, hb, rfl, rfl, rfl⟩ | ⟨nb, rfl, rfl⟩)
    · have tb : zin (nI bN) sz = true := zin_t hb (by omega)
      have qb : (nI bN).toNatClampNeg = bN := nI_clamp (by omega)
      refine z_if_eq hC 36 dX4_split_21 rfl (fun h => absurd h (by decide)) (fun _ => ?_)
      refine z_al6 hC dX4_split_24 ?_
      refine zgf_X4_83 hC ha dX4_split_26 ?_
      refine z_il3 hC dX4_split_29 ?_
      refine z_cVNi1 hC (c_X3_has l X _ (by rfl) ha hsz h12) zm_X3_has zi_X3_has (zo_10 ha) zkn_X4_92 (by omega) (by decide) (by omega) (Nat.le_of_ble_eq_true rfl) dX4_split_30 ?_
      rintro _ _ (⟨cN, hc, rfl, rfl, rfl⟩ | ⟨nc, rfl, rfl⟩)
      · have tc : zin (nI cN) sz = true := zin_t hc (by omega)
        have qc : (nI cN).toNatClampNeg = cN := nI_clamp (by omega)
        refine z_if_ne hC 38 dX4_split_33 rfl (fun _ => ?_) (fun h => absurd h (by decide))
        refine z_il4 hC dX4_split_38 ?_
        refine z_iconst hC dX4_split_40 zi_1 ?_
        refine z_icmp_lt hC 62 dX4_split_41 rfl (fun h41 => ?_) (fun h41 => ?_)
        · have nd := zin1_f0 h41
          refine z_iconst hC dX4_split_62 zi_m1 ?_
          exact z_reti hE (by omega) dX4_split_63 (⟨by simp [xoSplit, xaSplit, xsSplit, xAdd, ta, qa, qsz, qv, tb, qb, tc, qc, h41, nd], by simp [xoSplit, xaSplit, xsSplit, xAdd, ta, qa, qsz, qv, tb, qb, tc, qc, h41, nd]⟩)
        · refine z_il4 hC dX4_split_44 ?_
          refine z_bipush hC dX4_split_46 zb_7 ?_
          refine z_icmp_gt hC 62 dX4_split_48 rfl (fun h48 => ?_) (fun h48 => ?_)
          · have nd := zin1_f1 h48
            refine z_iconst hC dX4_split_62 zi_m1 ?_
            exact z_reti hE (by omega) dX4_split_63 (⟨by simp [xoSplit, xaSplit, xsSplit, xAdd, ta, qa, qsz, qv, tb, qb, tc, qc, h41, h48, nd], by simp [xoSplit, xaSplit, xsSplit, xAdd, ta, qa, qsz, qv, tb, qb, tc, qc, h41, h48, nd]⟩)
          · obtain ⟨dN, hd1, hd8, rfl⟩ := zin1_c h41 h48
            have td2 := zin1_t hd1 hd8
            have qd : (nI dN).toNatClampNeg = dN := nI_clamp (by omega)
            refine z_il5 hC dX4_split_51 ?_
            refine z_sipush hC dX4_split_53 zs_255 ?_
            refine z_cSi2 hC (c_X4_isWithin l X _ (by decide)) zm_X4_isWithin zi_X4_isWithin zk_X4_58 (by omega) (by decide) (by omega) (Nat.le_of_ble_eq_true rfl) dX4_split_56 ?_
            rintro _ _ (⟨eN, he, rfl, rfl, rfl⟩ | ⟨ne, rfl, rfl⟩)
            · have te : zin (nI eN) 256 = true := zin_t he (by omega)
              have qe : (nI eN).toNatClampNeg = eN := nI_clamp (by omega)
              refine z_if_ne hC 64 dX4_split_59 rfl (fun _ => ?_) (fun h => absurd h (by decide))
              refine z_al6 hC dX4_split_64 ?_
              refine zgf_X4_83 hC ha dX4_split_66 ?_
              refine z_il2 hC dX4_split_69 ?_
              refine z_il3 hC dX4_split_70 ?_
              refine z_il4 hC dX4_split_71 ?_
              refine z_il5 hC dX4_split_73 ?_
              refine z_cVNi4 hC (c_X3_addSplit l X _ (by rfl) ha hsz h12 hb hc hd8) zm_X3_addSplit zi_X3_addSplit (zo_10 ha) zkn_X4_99 (by omega) (by decide) (by omega) (Nat.le_of_ble_eq_true rfl) dX4_split_75 ?_
              rintro _ _ (⟨hm, rfl, rfl⟩ | ⟨hm, rfl, rfl⟩)
              · exact z_reti hE (by omega) dX4_split_78 (⟨by simp [xoSplit, xaSplit, xsSplit, xAdd, ta, qa, qsz, qv, tb, qb, tc, qc, td2, qd, te, qe, hm], by simp [xoSplit, xaSplit, xsSplit, xAdd, ta, qa, qsz, qv, tb, qb, tc, qc, td2, qd, te, qe, hm]⟩)
              · have hm2 : ¬ sz < 12 := by omega
                exact z_reti hE (by omega) dX4_split_78 (⟨by simp [xoSplit, xaSplit, xsSplit, xAdd, ta, qa, qsz, qv, tb, qb, tc, qc, td2, qd, te, qe, hm2], by simp [xoSplit, xaSplit, xsSplit, xAdd, ta, qa, qsz, qv, tb, qb, tc, qc, td2, qd, te, qe, hm2]⟩)
            · replace ne : zin e 256 = false := ne
              refine z_if_ne hC 64 dX4_split_59 rfl (fun h => absurd h (by decide)) (fun _ => ?_)
              refine z_iconst hC dX4_split_62 zi_m1 ?_
              exact z_reti hE (by omega) dX4_split_63 (⟨by simp [xoSplit, xaSplit, xsSplit, xAdd, ta, qa, qsz, qv, tb, qb, tc, qc, td2, qd, ne], by simp [xoSplit, xaSplit, xsSplit, xAdd, ta, qa, qsz, qv, tb, qb, tc, qc, td2, qd, ne]⟩)
      · replace nc : zin c sz = false := nc
        refine z_if_ne hC 38 dX4_split_33 rfl (fun h => absurd h (by decide)) (fun _ => ?_)
        refine z_iconst hC dX4_split_36 zi_m1 ?_
        exact z_reti hE (by omega) dX4_split_37 (⟨by simp [xoSplit, xaSplit, xsSplit, xAdd, ta, qa, qsz, qv, tb, qb, nc], by simp [xoSplit, xaSplit, xsSplit, xAdd, ta, qa, qsz, qv, tb, qb, nc]⟩)
    · replace nb : zin b sz = false := nb
      refine z_if_eq hC 36 dX4_split_21 rfl (fun _ => ?_) (fun h => absurd h (by decide))
      refine z_iconst hC dX4_split_36 zi_m1 ?_
      exact z_reti hE (by omega) dX4_split_37 (⟨by simp [xoSplit, xaSplit, xsSplit, xAdd, ta, qa, qsz, qv, nb], by simp [xoSplit, xaSplit, xsSplit, xAdd, ta, qa, qsz, qv, nb]⟩)
  · replace na : zin a 6 = false := na
    refine z_ns6 hC dX4_split_5 (by decide) ?_
    refine z_nl6 hC dX4_split_7 ?_
    refine z_ifnullN hC 36 dX4_split_9 rfl ?_
    refine z_iconst hC dX4_split_36 zi_m1 ?_
    exact z_reti hE (by omega) dX4_split_37 (⟨by simp [xoSplit, xaSplit, xsSplit, xAdd, na], by simp [xoSplit, xaSplit, xsSplit, xAdd, na]⟩)

set_option maxHeartbeats 2000000 in
theorem p_clear (l : Launch) (X : zX) (G : zG) {r0 : Nat} (hr0 : r0 = za G 0 0) {vc rc td : Nat} (hI : xI G vc rc td) {a : Int32} : zC l yX4_clear cX4_clear 4 (some FieldType.int) 3 0 X [.ref r0, .int a] G (zPi (fun r G2 => r = xaClear G a ∧ G2 = xsClear G a)) := by
  subst hr0
  refine zC_of zpn_X4 (zcat rfl) (Nat.le_of_ble_eq_true rfl) ?_
  intro Z hC hE
  replace hC : zCtx l X cX4_clear RX4 4 3 0 Z := hC
  change Z 0 G 0 [some (.ref (za G 0 0)), some (.int a), none, none] []
  obtain ⟨hvc, v1, v5, hrc, r12, hn0, hn1, htd, t39, htx, hgo, hru⟩ := hI
  refine z_al0 hC dX4_clear_0 ?_
  refine z_il1 hC dX4_clear_1 ?_
  refine z_cVa1 hC (c_X4_houseAt l X _ (by rfl)) zm_X4_houseAt zi_X4_houseAt zo_0 zk_X4_73 (by omega) (by decide) (by omega) (Nat.le_of_ble_eq_true rfl) dX4_clear_2 ?_
  rintro _ _ (⟨aN, ha, rfl, rfl, rfl⟩ | ⟨na, rfl, rfl⟩)
  · have ta : zin (nI aN) 6 = true := zin_t ha (by omega)
    have qa : (nI aN).toNatClampNeg = aN := nI_clamp (by omega)
    obtain ⟨sz, h12, hsz, hT⟩ := htx aN ha
    obtain ⟨vv, hvv, hv⟩ := hgo aN ha
    have qsz : xSz G aN = sz := by unfold xSz; rw [hsz]; exact nI_clamp (by omega)
    have qv : (zg G 7 aN 4).toNatClampNeg = vv := by rw [hv]; exact nI_clamp (by omega)
    refine z_as2 hC dX4_clear_5 (by decide) ?_
    refine z_al2 hC dX4_clear_6 ?_
    refine z_ifnonnull hC 12 dX4_clear_7 rfl ?_
    refine z_al2 hC dX4_clear_12 ?_
    refine zgf_X4_83 hC ha dX4_clear_13 ?_
    refine zgf_X4_103 hC ha dX4_clear_16 ?_
    refine z_is3 hC dX4_clear_19 (by decide) ?_
    refine z_al2 hC dX4_clear_20 ?_
    refine zgf_X4_83 hC ha dX4_clear_21 ?_
    refine z_iconst hC dX4_clear_24 zi_0 ?_
    refine zpf_X4_103 hC ha dX4_clear_25 ?_
    refine z_il3 hC dX4_clear_28 ?_
    exact z_reti hE (by omega) dX4_clear_29 (⟨by simp [xaClear, xsClear, ta, qa, qsz, qv], by simp [xaClear, xsClear, ta, qa, qsz, qv]⟩)
  · replace na : zin a 6 = false := na
    refine z_ns2 hC dX4_clear_5 (by decide) ?_
    refine z_nl2 hC dX4_clear_6 ?_
    refine z_ifnonnullN hC dX4_clear_7 ?_
    refine z_iconst hC dX4_clear_10 zi_m1 ?_
    exact z_reti hE (by omega) dX4_clear_11 (⟨by simp [xaClear, xsClear, na], by simp [xaClear, xsClear, na]⟩)

set_option maxHeartbeats 2000000 in
theorem p_sees (l : Launch) (X : zX) (G : zG) {r0 : Nat} (hr0 : r0 = za G 0 0) {vc rc td : Nat} (hI : xI G vc rc td) {a b c : Int32} : zC l yX4_sees cX4_sees 5 (some FieldType.int) 16 0 X [.ref r0, .int a, .int b, .int c] G (zPi (fun r G2 => r = xaSees G a b c ∧ G2 = xsSees G a b c)) := by
  subst hr0
  refine zC_of zpn_X4 (zcat rfl) (Nat.le_of_ble_eq_true rfl) ?_
  intro Z hC hE
  replace hC : zCtx l X cX4_sees RX4 5 16 0 Z := hC
  change Z 0 G 0 [some (.ref (za G 0 0)), some (.int a), some (.int b), some (.int c), none] []
  obtain ⟨hvc, v1, v5, hrc, r12, hn0, hn1, htd, t39, htx, hgo, hru⟩ := hI
  refine z_al0 hC dX4_sees_0 ?_
  refine z_il1 hC dX4_sees_1 ?_
  refine z_cVa1 hC (c_X4_houseAt l X _ (by rfl)) zm_X4_houseAt zi_X4_houseAt zo_0 zk_X4_73 (by omega) (by decide) (by omega) (Nat.le_of_ble_eq_true rfl) dX4_sees_2 ?_
  rintro _ _ (⟨aN, ha, rfl, rfl, rfl⟩ | ⟨na, rfl, rfl⟩)
  · have ta : zin (nI aN) 6 = true := zin_t ha (by omega)
    have qa : (nI aN).toNatClampNeg = aN := nI_clamp (by omega)
    obtain ⟨sz, h12, hsz, hT⟩ := htx aN ha
    obtain ⟨vv, hvv, hv⟩ := hgo aN ha
    have qsz : xSz G aN = sz := by unfold xSz; rw [hsz]; exact nI_clamp (by omega)
    have qv : (zg G 7 aN 4).toNatClampNeg = vv := by rw [hv]; exact nI_clamp (by omega)
    refine z_as4 hC dX4_sees_5 (by decide) ?_
    refine z_al4 hC dX4_sees_7 ?_
    refine z_ifnull hC dX4_sees_9 ?_
    refine z_al4 hC dX4_sees_12 ?_
    refine zgf_X4_83 hC ha dX4_sees_14 ?_
    refine z_il2 hC dX4_sees_17 ?_
    refine z_cVNi1 hC (c_X3_has l X _ (by rfl) ha hsz h12) zm_X3_has zi_X3_has (zo_10 ha) zkn_X4_92 (by omega) (by decide) (by omega) (Nat.le_of_ble_eq_true rfl) dX4_sees_18 ?_
    rintro _ _ (⟨bN, hb, rfl, rfl, rfl⟩ | ⟨nb, rfl, rfl⟩)
    · have tb : zin (nI bN) sz = true := zin_t hb (by omega)
      have qb : (nI bN).toNatClampNeg = bN := nI_clamp (by omega)
      refine z_if_eq hC 31 dX4_sees_21 rfl (fun h => absurd h (by decide)) (fun _ => ?_)
      refine z_il3 hC dX4_sees_24 ?_
      refine z_cSi1 hC (c_X4_isFace l X _) zm_X4_isFace zi_X4_isFace zk_X4_80 (by omega) (by decide) (by omega) (Nat.le_of_ble_eq_true rfl) dX4_sees_25 ?_
      rintro _ _ (⟨cN, hc, rfl, rfl, rfl⟩ | ⟨nc, rfl, rfl⟩)
      · have tc : zin (nI cN) 8 = true := zin_t hc (by omega)
        have qc : (nI cN).toNatClampNeg = cN := nI_clamp (by omega)
        refine z_if_ne hC 33 dX4_sees_28 rfl (fun _ => ?_) (fun h => absurd h (by decide))
        refine z_al0 hC dX4_sees_33 ?_
        refine z_dup hC dX4_sees_34 rfl ?_
        refine zgf_X4_40 hC dX4_sees_35 ?_
        refine z_al4 hC dX4_sees_38 ?_
        refine zgf_X4_83 hC ha dX4_sees_40 ?_
        refine z_il2 hC dX4_sees_43 ?_
        refine z_cVNi1 hC (c_X3_stepsOf l X _ (by rfl) ha hb hsz h12 hT) zm_X3_stepsOf zi_X3_stepsOf (zo_10 ha) zkn_X4_106 (by omega) (by decide) (by omega) (Nat.le_of_ble_eq_true rfl) dX4_sees_44 ?_
        rintro _ _ ⟨rfl, rfl⟩
        refine z_i2l hC dX4_sees_47 rfl ?_
        refine z_ladd hC dX4_sees_48 ?_
        refine zpf_X4_40 hC dX4_sees_49 ?_
        refine z_al4 hC dX4_sees_52 ?_
        refine zgf_X4_83 hC ha dX4_sees_54 ?_
        refine z_il2 hC dX4_sees_57 ?_
        refine z_il3 hC dX4_sees_58 ?_
        refine z_cVNi2 hC (c_X3_seenBy l X _ (by rfl) ha (by omega)) zm_X3_seenBy zi_X3_seenBy (zo_10 ha) zkn_X4_110 (by omega) (by decide) (by omega) (Nat.le_of_ble_eq_true rfl) dX4_sees_59 ?_
        rintro _ _ ⟨rfl, rfl⟩
        exact z_reti hE (by omega) dX4_sees_62 (⟨by simp [xoSees, xaSees, xsSees, xSees_zuT, ta, qa, qsz, qv, tb, qb, tc, qc], by simp [xoSees, xaSees, xsSees, xSees_zuT, ta, qa, qsz, qv, tb, qb, tc, qc]⟩)
      · replace nc : zin c 8 = false := nc
        refine z_if_ne hC 33 dX4_sees_28 rfl (fun h => absurd h (by decide)) (fun _ => ?_)
        refine z_iconst hC dX4_sees_31 zi_m1 ?_
        exact z_reti hE (by omega) dX4_sees_32 (⟨by simp [xoSees, xaSees, xsSees, xSees_zuT, ta, qa, qsz, qv, tb, qb, nc], by simp [xoSees, xaSees, xsSees, xSees_zuT, ta, qa, qsz, qv, tb, qb, nc]⟩)
    · replace nb : zin b sz = false := nb
      refine z_if_eq hC 31 dX4_sees_21 rfl (fun _ => ?_) (fun h => absurd h (by decide))
      refine z_iconst hC dX4_sees_31 zi_m1 ?_
      exact z_reti hE (by omega) dX4_sees_32 (⟨by simp [xoSees, xaSees, xsSees, xSees_zuT, ta, qa, qsz, qv, nb], by simp [xoSees, xaSees, xsSees, xSees_zuT, ta, qa, qsz, qv, nb]⟩)
  · replace na : zin a 6 = false := na
    refine z_ns4 hC dX4_sees_5 (by decide) ?_
    refine z_nl4 hC dX4_sees_7 ?_
    refine z_ifnullN hC 31 dX4_sees_9 rfl ?_
    refine z_iconst hC dX4_sees_31 zi_m1 ?_
    exact z_reti hE (by omega) dX4_sees_32 (⟨by simp [xoSees, xaSees, xsSees, xSees_zuT, na], by simp [xoSees, xaSees, xsSees, xSees_zuT, na]⟩)

set_option maxHeartbeats 2000000 in
theorem p_uses (l : Launch) (X : zX) (G : zG) {r0 : Nat} (hr0 : r0 = za G 0 0) {vc rc td : Nat} (hI : xI G vc rc td) {a b : Int32} : zC l yX4_uses cX4_uses 4 (some FieldType.int) 3 0 X [.ref r0, .int a, .int b] G (zPi (fun r G2 => r = xaUses G a b ∧ G = G2)) := by
  subst hr0
  refine zC_of zpn_X4 (zcat rfl) (Nat.le_of_ble_eq_true rfl) ?_
  intro Z hC hE
  replace hC : zCtx l X cX4_uses RX4 4 3 0 Z := hC
  change Z 0 G 0 [some (.ref (za G 0 0)), some (.int a), some (.int b), none] []
  obtain ⟨hvc, v1, v5, hrc, r12, hn0, hn1, htd, t39, htx, hgo, hru⟩ := hI
  refine z_al0 hC dX4_uses_0 ?_
  refine z_il1 hC dX4_uses_1 ?_
  refine z_cVa1 hC (c_X4_houseAt l X _ (by rfl)) zm_X4_houseAt zi_X4_houseAt zo_0 zk_X4_73 (by omega) (by decide) (by omega) (Nat.le_of_ble_eq_true rfl) dX4_uses_2 ?_
  rintro _ _ (⟨aN, ha, rfl, rfl, rfl⟩ | ⟨na, rfl, rfl⟩)
  · have ta : zin (nI aN) 6 = true := zin_t ha (by omega)
    have qa : (nI aN).toNatClampNeg = aN := nI_clamp (by omega)
    obtain ⟨sz, h12, hsz, hT⟩ := htx aN ha
    obtain ⟨vv, hvv, hv⟩ := hgo aN ha
    have qsz : xSz G aN = sz := by unfold xSz; rw [hsz]; exact nI_clamp (by omega)
    have qv : (zg G 7 aN 4).toNatClampNeg = vv := by rw [hv]; exact nI_clamp (by omega)
    refine z_as3 hC dX4_uses_5 (by decide) ?_
    refine z_al3 hC dX4_uses_6 ?_
    refine z_ifnull hC dX4_uses_7 ?_
    refine z_il2 hC dX4_uses_10 ?_
    refine z_cSi1 hC (c_X4_isFace l X _) zm_X4_isFace zi_X4_isFace zk_X4_80 (by omega) (by decide) (by omega) (Nat.le_of_ble_eq_true rfl) dX4_uses_11 ?_
    rintro _ _ (⟨bN, hb, rfl, rfl, rfl⟩ | ⟨nb, rfl, rfl⟩)
    · have tb : zin (nI bN) 8 = true := zin_t hb (by omega)
      have qb : (nI bN).toNatClampNeg = bN := nI_clamp (by omega)
      refine z_if_ne hC 19 dX4_uses_14 rfl (fun _ => ?_) (fun h => absurd h (by decide))
      refine z_al3 hC dX4_uses_19 ?_
      refine zgf_X4_83 hC ha dX4_uses_20 ?_
      refine z_il2 hC dX4_uses_23 ?_
      refine z_cVNi1 hC (c_X3_used l X _ (by rfl) ha hsz h12) zm_X3_used zi_X3_used (zo_10 ha) zkn_X4_113 (by omega) (by decide) (by omega) (Nat.le_of_ble_eq_true rfl) dX4_uses_24 ?_
      rintro _ _ ⟨rfl, rfl⟩
      exact z_reti hE (by omega) dX4_uses_27 (⟨by simp [xoUses, xaUses, ta, qa, qsz, qv, tb, qb], rfl⟩)
    · replace nb : zin b 8 = false := nb
      refine z_if_ne hC 19 dX4_uses_14 rfl (fun h => absurd h (by decide)) (fun _ => ?_)
      refine z_iconst hC dX4_uses_17 zi_m1 ?_
      exact z_reti hE (by omega) dX4_uses_18 (⟨by simp [xoUses, xaUses, ta, qa, qsz, qv, nb], rfl⟩)
  · replace na : zin a 6 = false := na
    refine z_ns3 hC dX4_uses_5 (by decide) ?_
    refine z_nl3 hC dX4_uses_6 ?_
    refine z_ifnullN hC 17 dX4_uses_7 rfl ?_
    refine z_iconst hC dX4_uses_17 zi_m1 ?_
    exact z_reti hE (by omega) dX4_uses_18 (⟨by simp [xoUses, xaUses, na], rfl⟩)

set_option maxHeartbeats 2000000 in
theorem p_shape (l : Launch) (X : zX) (G : zG) {r0 : Nat} (hr0 : r0 = za G 0 0) {vc rc td : Nat} (hI : xI G vc rc td) {a b : Int32} : zC l yX4_shape cX4_shape 5 (some FieldType.int) 3 0 X [.ref r0, .int a, .int b] G (zPi (fun r G2 => r = xaShape G a b ∧ G = G2)) := by
  subst hr0
  refine zC_of zpn_X4 (zcat rfl) (Nat.le_of_ble_eq_true rfl) ?_
  intro Z hC hE
  replace hC : zCtx l X cX4_shape RX4 5 3 0 Z := hC
  change Z 0 G 0 [some (.ref (za G 0 0)), some (.int a), some (.int b), none, none] []
  obtain ⟨hvc, v1, v5, hrc, r12, hn0, hn1, htd, t39, htx, hgo, hru⟩ := hI
  refine z_al0 hC dX4_shape_0 ?_
  refine z_il1 hC dX4_shape_1 ?_
  refine z_cVa1 hC (c_X4_houseAt l X _ (by rfl)) zm_X4_houseAt zi_X4_houseAt zo_0 zk_X4_73 (by omega) (by decide) (by omega) (Nat.le_of_ble_eq_true rfl) dX4_shape_2 ?_
  rintro _ _ (⟨aN, ha, rfl, rfl, rfl⟩ | ⟨na, rfl, rfl⟩)
  · have ta : zin (nI aN) 6 = true := zin_t ha (by omega)
    have qa : (nI aN).toNatClampNeg = aN := nI_clamp (by omega)
    obtain ⟨sz, h12, hsz, hT⟩ := htx aN ha
    obtain ⟨vv, hvv, hv⟩ := hgo aN ha
    have qsz : xSz G aN = sz := by unfold xSz; rw [hsz]; exact nI_clamp (by omega)
    have qv : (zg G 7 aN 4).toNatClampNeg = vv := by rw [hv]; exact nI_clamp (by omega)
    refine z_as3 hC dX4_shape_5 (by decide) ?_
    refine z_al3 hC dX4_shape_6 ?_
    refine z_ifnull hC dX4_shape_7 ?_
    refine z_il2 hC dX4_shape_10 ?_
    refine z_cSi1 hC (c_X4_isFace l X _) zm_X4_isFace zi_X4_isFace zk_X4_80 (by omega) (by decide) (by omega) (Nat.le_of_ble_eq_true rfl) dX4_shape_11 ?_
    rintro _ _ (⟨bN, hb, rfl, rfl, rfl⟩ | ⟨nb, rfl, rfl⟩)
    · have tb : zin (nI bN) 8 = true := zin_t hb (by omega)
      have qb : (nI bN).toNatClampNeg = bN := nI_clamp (by omega)
      refine z_if_ne hC 19 dX4_shape_14 rfl (fun _ => ?_) (fun h => absurd h (by decide))
      refine z_al3 hC dX4_shape_19 ?_
      refine zgf_X4_83 hC ha dX4_shape_20 ?_
      refine z_il2 hC dX4_shape_23 ?_
      refine z_cVNi1 hC (c_X3_used l X _ (by rfl) ha hsz h12) zm_X3_used zi_X3_used (zo_10 ha) zkn_X4_113 (by omega) (by decide) (by omega) (Nat.le_of_ble_eq_true rfl) dX4_shape_24 ?_
      rintro _ _ ⟨rfl, rfl⟩
      refine z_cSi1 hC (c_J6_bitCount_0f7a4 l X _) zm_J6_bitCount_0f7a4 zi_J6_bitCount_0f7a4 zk_X4_116 (by omega) (by decide) (by omega) (Nat.le_of_ble_eq_true rfl) dX4_shape_27 ?_
      rintro _ _ ⟨rfl, rfl⟩
      refine z_is4 hC dX4_shape_30 (by decide) ?_
      refine z_il4 hC dX4_shape_32 ?_
      refine z_if_ne hC 39 dX4_shape_34 rfl (fun h34 => ?_) (fun h34 => ?_)
      · refine z_il4 hC dX4_shape_39 ?_
        refine z_iconst hC dX4_shape_41 zi_1 ?_
        refine z_icmp_ne hC 47 dX4_shape_42 rfl (fun h42 => ?_) (fun h42 => ?_)
        · refine z_il4 hC dX4_shape_47 ?_
          refine z_bipush hC dX4_shape_49 zb_8 ?_
          refine z_icmp_ge hC 58 dX4_shape_51 rfl (fun h51 => ?_) (fun h51 => ?_)
          · refine z_iconst hC dX4_shape_58 zi_3 ?_
            exact z_reti hE (by omega) dX4_shape_59 (⟨by simp [xoUses, xaShape, xShp, z01, ta, qa, qsz, qv, tb, qb, h34, h42, h51], rfl⟩)
          · refine z_iconst hC dX4_shape_54 zi_2 ?_
            refine z_goto hC 59 dX4_shape_55 rfl ?_
            exact z_reti hE (by omega) dX4_shape_59 (⟨by simp [xoUses, xaShape, xShp, z01, ta, qa, qsz, qv, tb, qb, h34, h42, h51], rfl⟩)
        · refine z_iconst hC dX4_shape_45 zi_1 ?_
          exact z_reti hE (by omega) dX4_shape_46 (⟨by simp [xoUses, xaShape, xShp, z01, ta, qa, qsz, qv, tb, qb, h34, h42], rfl⟩)
      · refine z_iconst hC dX4_shape_37 zi_0 ?_
        exact z_reti hE (by omega) dX4_shape_38 (⟨by simp [xoUses, xaShape, xShp, z01, ta, qa, qsz, qv, tb, qb, h34], rfl⟩)
    · replace nb : zin b 8 = false := nb
      refine z_if_ne hC 19 dX4_shape_14 rfl (fun h => absurd h (by decide)) (fun _ => ?_)
      refine z_iconst hC dX4_shape_17 zi_m1 ?_
      exact z_reti hE (by omega) dX4_shape_18 (⟨by simp [xoUses, xaShape, xShp, z01, ta, qa, qsz, qv, nb], rfl⟩)
  · replace na : zin a 6 = false := na
    refine z_ns3 hC dX4_shape_5 (by decide) ?_
    refine z_nl3 hC dX4_shape_6 ?_
    refine z_ifnullN hC 17 dX4_shape_7 rfl ?_
    refine z_iconst hC dX4_shape_17 zi_m1 ?_
    exact z_reti hE (by omega) dX4_shape_18 (⟨by simp [xoUses, xaShape, xShp, z01, na], rfl⟩)

set_option maxHeartbeats 2000000 in
theorem p_count (l : Launch) (X : zX) (G : zG) {r0 : Nat} (hr0 : r0 = za G 0 0) {vc rc td : Nat} (hI : xI G vc rc td) {a b c d e : Int32} : zC l yX4_count cX4_count 8 (some FieldType.int) 4 0 X [.ref r0, .int a, .int b, .int c, .int d, .int e] G (zPi (fun r G2 => r = xaCount G td a b c d e ∧ G2 = xsCount G td a b c d e)) := by
  subst hr0
  refine zC_of zpn_X4 (zcat rfl) (Nat.le_of_ble_eq_true rfl) ?_
  intro Z hC hE
  replace hC : zCtx l X cX4_count RX4 8 4 0 Z := hC
  change Z 0 G 0 [some (.ref (za G 0 0)), some (.int a), some (.int b), some (.int c), some (.int d), some (.int e), none, none] []
  obtain ⟨hvc, v1, v5, hrc, r12, hn0, hn1, htd, t39, htx, hgo, hru⟩ := hI
  refine z_al0 hC dX4_count_0 ?_
  refine z_il1 hC dX4_count_1 ?_
  refine z_cVa1 hC (c_X4_houseAt l X _ (by rfl)) zm_X4_houseAt zi_X4_houseAt zo_0 zk_X4_73 (by omega) (by decide) (by omega) (Nat.le_of_ble_eq_true rfl) dX4_count_2 ?_
  rintro _ _ (⟨aN, ha, rfl, rfl, rfl⟩ | ⟨na, rfl, rfl⟩)
  · have ta : zin (nI aN) 6 = true := zin_t ha (by omega)
    have qa : (nI aN).toNatClampNeg = aN := nI_clamp (by omega)
    obtain ⟨sz, h12, hsz, hT⟩ := htx aN ha
    obtain ⟨vv, hvv, hv⟩ := hgo aN ha
    have qsz : xSz G aN = sz := by unfold xSz; rw [hsz]; exact nI_clamp (by omega)
    have qv : (zg G 7 aN 4).toNatClampNeg = vv := by rw [hv]; exact nI_clamp (by omega)
    refine z_as6 hC dX4_count_5 (by decide) ?_
    refine z_al0 hC dX4_count_7 ?_
    refine z_il2 hC dX4_count_8 ?_
    refine z_cVa1 hC (c_X4_doorAt l X _ (by rfl)) zm_X4_doorAt zi_X4_doorAt zo_0 zk_X4_50 (by omega) (by decide) (by omega) (Nat.le_of_ble_eq_true rfl) dX4_count_9 ?_
    rintro _ _ (⟨bN, hb, rfl, rfl, rfl⟩ | ⟨nb, rfl, rfl⟩)
    · have tb : zin (nI bN) 8 = true := zin_t hb (by omega)
      have qb : (nI bN).toNatClampNeg = bN := nI_clamp (by omega)
      refine z_as7 hC dX4_count_12 (by decide) ?_
      refine z_al6 hC dX4_count_14 ?_
      refine z_ifnull hC dX4_count_16 ?_
      refine z_al7 hC dX4_count_19 ?_
      refine z_ifnull hC dX4_count_21 ?_
      refine z_il3 hC dX4_count_24 ?_
      refine z_cSi1 hC (c_X4_isDay l X _) zm_X4_isDay zi_X4_isDay zk_X4_121 (by omega) (by decide) (by omega) (Nat.le_of_ble_eq_true rfl) dX4_count_25 ?_
      rintro _ _ (⟨cN, hc, rfl, rfl, rfl⟩ | ⟨nc, rfl, rfl⟩)
      · have tc : zin (nI cN) 40 = true := zin_t hc (by omega)
        have qc : (nI cN).toNatClampNeg = cN := nI_clamp (by omega)
        refine z_if_eq hC 39 dX4_count_28 rfl (fun h => absurd h (by decide)) (fun _ => ?_)
        refine z_il3 hC dX4_count_31 ?_
        refine z_al0 hC dX4_count_32 ?_
        refine zgf_X4_34 hC dX4_count_33 ?_
        refine z_top htd ?_
        refine z_icmp_le hC 41 dX4_count_36 rfl (fun h36 => ?_) (fun h36 => ?_)
        · refine z_il4 hC dX4_count_41 ?_
          refine z_sipush hC dX4_count_43 zs_1000 ?_
          refine z_cSi2 hC (c_X4_isWithin l X _ (by decide)) zm_X4_isWithin zi_X4_isWithin zk_X4_58 (by omega) (by decide) (by omega) (Nat.le_of_ble_eq_true rfl) dX4_count_46 ?_
          rintro _ _ (⟨dN, hd, rfl, rfl, rfl⟩ | ⟨nd, rfl, rfl⟩)
          · have td : zin (nI dN) 1001 = true := zin_t hd (by omega)
            have qd : (nI dN).toNatClampNeg = dN := nI_clamp (by omega)
            refine z_if_eq hC 62 dX4_count_49 rfl (fun h => absurd h (by decide)) (fun _ => ?_)
            refine z_il5 hC dX4_count_52 ?_
            refine z_bipush hC dX4_count_54 zb_99 ?_
            refine z_cSi2 hC (c_X4_isWithin l X _ (by decide)) zm_X4_isWithin zi_X4_isWithin zk_X4_58 (by omega) (by decide) (by omega) (Nat.le_of_ble_eq_true rfl) dX4_count_56 ?_
            rintro _ _ (⟨eN, he, rfl, rfl, rfl⟩ | ⟨ne, rfl, rfl⟩)
            · have te : zin (nI eN) 100 = true := zin_t he (by omega)
              have qe : (nI eN).toNatClampNeg = eN := nI_clamp (by omega)
              refine z_if_ne hC 64 dX4_count_59 rfl (fun _ => ?_) (fun h => absurd h (by decide))
              refine z_al6 hC dX4_count_64 ?_
              refine zgf_X4_124 hC ha dX4_count_66 ?_
              refine z_il5 hC dX4_count_69 ?_
              refine zal_9 hC ha (by omega) dX4_count_71 ?_
              refine z_if_eq hC 77 dX4_count_72 rfl (fun h72 => ?_) (fun h72 => ?_)
              · refine z_al6 hC dX4_count_77 ?_
                refine z_il2 hC dX4_count_79 ?_
                refine z_il3 hC dX4_count_80 ?_
                refine z_il4 hC dX4_count_81 ?_
                refine z_il5 hC dX4_count_83 ?_
                refine z_cVNv4 hC (c_X1_addCount l X _ (by rfl) ha (by omega) (by omega) (by omega)) zm_X1_addCount zi_X1_addCount (zo_7 ha) zkn_X4_128 (by omega) (by decide) (by omega) (Nat.le_of_ble_eq_true rfl) dX4_count_85 ?_
                rintro _ rfl
                refine z_il4 hC dX4_count_88 ?_
                refine z_if_le hC 120 dX4_count_90 rfl (fun h90 => ?_) (fun h90 => ?_)
                · refine z_iconst hC dX4_count_120 zi_1 ?_
                  exact z_reti hE (by omega) dX4_count_121 (⟨by simp [xoCount, xaCount, xsCount, xCt, xOpn, ta, qa, qsz, qv, tb, qb, tc, qc, h36, td, qd, te, qe, h72, h90], by simp [xoCount, xaCount, xsCount, xCt, xOpn, ta, qa, qsz, qv, tb, qb, tc, qc, h36, td, qd, te, qe, h72, h90]⟩)
                · refine z_al7 hC dX4_count_93 ?_
                  refine z_il3 hC dX4_count_95 ?_
                  refine z_cVNi1 hC (c_X0_isShutOn l X _ (by rfl) hb) zm_X0_isShutOn zi_X0_isShutOn (zo_4 hb) zkn_X4_132 (by omega) (by decide) (by omega) (Nat.le_of_ble_eq_true rfl) dX4_count_96 ?_
                  rintro _ _ (⟨hsh96, rfl, rfl⟩ | ⟨hsh96, rfl, rfl⟩)
                  · refine z_if_eq hC 120 dX4_count_99 rfl (fun h => absurd h (by decide)) (fun _ => ?_)
                    refine z_al7 hC dX4_count_102 ?_
                    refine z_bipush hC dX4_count_104 zb_m9 ?_
                    refine zpf_X4_135 hC hb dX4_count_106 ?_
                    refine z_al7 hC dX4_count_109 ?_
                    refine z_dup hC dX4_count_111 rfl ?_
                    refine zgf_X4_138 hC hb dX4_count_112 ?_
                    refine z_iconst hC dX4_count_115 zi_1 ?_
                    refine z_iadd hC dX4_count_116 ?_
                    refine zpf_X4_138 hC hb dX4_count_117 ?_
                    refine z_iconst hC dX4_count_120 zi_1 ?_
                    exact z_reti hE (by omega) dX4_count_121 (⟨by simp [xoCount, xaCount, xsCount, xCt, xOpn, ta, qa, qsz, qv, tb, qb, tc, qc, h36, td, qd, te, qe, h72, h90, hsh96], by simp [xoCount, xaCount, xsCount, xCt, xOpn, ta, qa, qsz, qv, tb, qb, tc, qc, h36, td, qd, te, qe, h72, h90, hsh96]⟩)
                  · refine z_if_eq hC 120 dX4_count_99 rfl (fun _ => ?_) (fun h => absurd h (by decide))
                    refine z_iconst hC dX4_count_120 zi_1 ?_
                    exact z_reti hE (by omega) dX4_count_121 (⟨by simp [xoCount, xaCount, xsCount, xCt, xOpn, ta, qa, qsz, qv, tb, qb, tc, qc, h36, td, qd, te, qe, h72, h90, hsh96], by simp [xoCount, xaCount, xsCount, xCt, xOpn, ta, qa, qsz, qv, tb, qb, tc, qc, h36, td, qd, te, qe, h72, h90, hsh96]⟩)
              · refine z_iconst hC dX4_count_75 zi_0 ?_
                exact z_reti hE (by omega) dX4_count_76 (⟨by simp [xoCount, xaCount, xsCount, xCt, xOpn, ta, qa, qsz, qv, tb, qb, tc, qc, h36, td, qd, te, qe, h72], by simp [xoCount, xaCount, xsCount, xCt, xOpn, ta, qa, qsz, qv, tb, qb, tc, qc, h36, td, qd, te, qe, h72]⟩)
            · replace ne : zin e 100 = false := ne
              refine z_if_ne hC 64 dX4_count_59 rfl (fun h => absurd h (by decide)) (fun _ => ?_)
              refine z_iconst hC dX4_count_62 zi_m1 ?_
              exact z_reti hE (by omega) dX4_count_63 (⟨by simp [xoCount, xaCount, xsCount, xCt, xOpn, ta, qa, qsz, qv, tb, qb, tc, qc, h36, td, qd, ne], by simp [xoCount, xaCount, xsCount, xCt, xOpn, ta, qa, qsz, qv, tb, qb, tc, qc, h36, td, qd, ne]⟩)
          · replace nd : zin d 1001 = false := nd
            refine z_if_eq hC 62 dX4_count_49 rfl (fun _ => ?_) (fun h => absurd h (by decide))
            refine z_iconst hC dX4_count_62 zi_m1 ?_
            exact z_reti hE (by omega) dX4_count_63 (⟨by simp [xoCount, xaCount, xsCount, xCt, xOpn, ta, qa, qsz, qv, tb, qb, tc, qc, h36, nd], by simp [xoCount, xaCount, xsCount, xCt, xOpn, ta, qa, qsz, qv, tb, qb, tc, qc, h36, nd]⟩)
        · refine z_iconst hC dX4_count_39 zi_m1 ?_
          exact z_reti hE (by omega) dX4_count_40 (⟨by simp [xoCount, xaCount, xsCount, xCt, xOpn, ta, qa, qsz, qv, tb, qb, tc, qc, h36], by simp [xoCount, xaCount, xsCount, xCt, xOpn, ta, qa, qsz, qv, tb, qb, tc, qc, h36]⟩)
      · replace nc : zin c 40 = false := nc
        refine z_if_eq hC 39 dX4_count_28 rfl (fun _ => ?_) (fun h => absurd h (by decide))
        refine z_iconst hC dX4_count_39 zi_m1 ?_
        exact z_reti hE (by omega) dX4_count_40 (⟨by simp [xoCount, xaCount, xsCount, xCt, xOpn, ta, qa, qsz, qv, tb, qb, nc], by simp [xoCount, xaCount, xsCount, xCt, xOpn, ta, qa, qsz, qv, tb, qb, nc]⟩)
    · replace nb : zin b 8 = false := nb
      refine z_ns7 hC dX4_count_12 (by decide) ?_
      refine z_al6 hC dX4_count_14 ?_
      refine z_ifnull hC dX4_count_16 ?_
      refine z_nl7 hC dX4_count_19 ?_
      refine z_ifnullN hC 39 dX4_count_21 rfl ?_
      refine z_iconst hC dX4_count_39 zi_m1 ?_
      exact z_reti hE (by omega) dX4_count_40 (⟨by simp [xoCount, xaCount, xsCount, xCt, xOpn, ta, qa, qsz, qv, nb], by simp [xoCount, xaCount, xsCount, xCt, xOpn, ta, qa, qsz, qv, nb]⟩)
  · replace na : zin a 6 = false := na
    refine z_ns6 hC dX4_count_5 (by decide) ?_
    refine z_al0 hC dX4_count_7 ?_
    refine z_il2 hC dX4_count_8 ?_
    refine z_cVa1 hC (c_X4_doorAt l X _ (by rfl)) zm_X4_doorAt zi_X4_doorAt zo_0 zk_X4_50 (by omega) (by decide) (by omega) (Nat.le_of_ble_eq_true rfl) dX4_count_9 ?_
    rintro _ _ (⟨bN, hb, rfl, rfl, rfl⟩ | ⟨nb, rfl, rfl⟩)
    · have tb : zin (nI bN) 8 = true := zin_t hb (by omega)
      have qb : (nI bN).toNatClampNeg = bN := nI_clamp (by omega)
      refine z_as7 hC dX4_count_12 (by decide) ?_
      refine z_nl6 hC dX4_count_14 ?_
      refine z_ifnullN hC 39 dX4_count_16 rfl ?_
      refine z_iconst hC dX4_count_39 zi_m1 ?_
      exact z_reti hE (by omega) dX4_count_40 (⟨by simp [xoCount, xaCount, xsCount, xCt, xOpn, na, tb, qb], by simp [xoCount, xaCount, xsCount, xCt, xOpn, na, tb, qb]⟩)
    · replace nb : zin b 8 = false := nb
      refine z_ns7 hC dX4_count_12 (by decide) ?_
      refine z_nl6 hC dX4_count_14 ?_
      refine z_ifnullN hC 39 dX4_count_16 rfl ?_
      refine z_iconst hC dX4_count_39 zi_m1 ?_
      exact z_reti hE (by omega) dX4_count_40 (⟨by simp [xoCount, xaCount, xsCount, xCt, xOpn, na, nb], by simp [xoCount, xaCount, xsCount, xCt, xOpn, na, nb]⟩)

set_option maxHeartbeats 2000000 in
theorem p_sum (l : Launch) (X : zX) (G : zG) {r0 : Nat} (hr0 : r0 = za G 0 0) {vc rc td : Nat} (hI : xI G vc rc td) {a b c d : Int32} : zC l yX4_sum cX4_sum 6 (some FieldType.int) 4 0 X [.ref r0, .int a, .int b, .int c, .int d] G (zPi (fun r G2 => r = xaSum G a b c d ∧ G = G2)) := by
  subst hr0
  refine zC_of zpn_X4 (zcat rfl) (Nat.le_of_ble_eq_true rfl) ?_
  intro Z hC hE
  replace hC : zCtx l X cX4_sum RX4 6 4 0 Z := hC
  change Z 0 G 0 [some (.ref (za G 0 0)), some (.int a), some (.int b), some (.int c), some (.int d), none] []
  obtain ⟨hvc, v1, v5, hrc, r12, hn0, hn1, htd, t39, htx, hgo, hru⟩ := hI
  refine z_al0 hC dX4_sum_0 ?_
  refine z_il1 hC dX4_sum_1 ?_
  refine z_cVa1 hC (c_X4_houseAt l X _ (by rfl)) zm_X4_houseAt zi_X4_houseAt zo_0 zk_X4_73 (by omega) (by decide) (by omega) (Nat.le_of_ble_eq_true rfl) dX4_sum_2 ?_
  rintro _ _ (⟨aN, ha, rfl, rfl, rfl⟩ | ⟨na, rfl, rfl⟩)
  · have ta : zin (nI aN) 6 = true := zin_t ha (by omega)
    have qa : (nI aN).toNatClampNeg = aN := nI_clamp (by omega)
    obtain ⟨sz, h12, hsz, hT⟩ := htx aN ha
    obtain ⟨vv, hvv, hv⟩ := hgo aN ha
    have qsz : xSz G aN = sz := by unfold xSz; rw [hsz]; exact nI_clamp (by omega)
    have qv : (zg G 7 aN 4).toNatClampNeg = vv := by rw [hv]; exact nI_clamp (by omega)
    refine z_as5 hC dX4_sum_5 (by decide) ?_
    refine z_al5 hC dX4_sum_7 ?_
    refine z_ifnull hC dX4_sum_9 ?_
    refine z_il2 hC dX4_sum_12 ?_
    refine z_cSi1 hC (c_X4_isFace l X _) zm_X4_isFace zi_X4_isFace zk_X4_80 (by omega) (by decide) (by omega) (Nat.le_of_ble_eq_true rfl) dX4_sum_13 ?_
    rintro _ _ (⟨bN, hb, rfl, rfl, rfl⟩ | ⟨nb, rfl, rfl⟩)
    · have tb : zin (nI bN) 8 = true := zin_t hb (by omega)
      have qb : (nI bN).toNatClampNeg = bN := nI_clamp (by omega)
      refine z_if_eq hC 28 dX4_sum_16 rfl (fun h => absurd h (by decide)) (fun _ => ?_)
      refine z_il3 hC dX4_sum_19 ?_
      refine z_il4 hC dX4_sum_20 ?_
      refine z_cSi2 hC (c_X4_isSpan l X _) zm_X4_isSpan zi_X4_isSpan zk_X4_141 (by omega) (by decide) (by omega) (Nat.le_of_ble_eq_true rfl) dX4_sum_22 ?_
      rintro _ _ (⟨cN, dN, hc, hd, rfl, rfl, rfl, rfl⟩ | ⟨nc, rfl, rfl⟩)
      · have tc : zspan (nI cN) (nI dN) = true := zspan_t hc hd
        have qc : (nI cN).toNatClampNeg = cN := nI_clamp (by omega)
        have qd : (nI dN).toNatClampNeg = dN := nI_clamp (by omega)
        refine z_if_ne hC 30 dX4_sum_25 rfl (fun _ => ?_) (fun h => absurd h (by decide))
        refine z_al5 hC dX4_sum_30 ?_
        refine z_il2 hC dX4_sum_32 ?_
        refine z_il3 hC dX4_sum_33 ?_
        refine z_il4 hC dX4_sum_34 ?_
        refine z_cVNi3 hC (c_X1_counted l X _ (by rfl) ha (by omega) (by omega) (by omega)) zm_X1_counted zi_X1_counted (zo_7 ha) zkn_X4_144 (by omega) (by decide) (by omega) (Nat.le_of_ble_eq_true rfl) dX4_sum_36 ?_
        rintro _ _ ⟨rfl, rfl⟩
        exact z_reti hE (by omega) dX4_sum_39 (⟨by simp [xoSum, xaSum, ta, qa, qsz, qv, tb, qb, tc, qc, qd], rfl⟩)
      · refine z_if_ne hC 30 dX4_sum_25 rfl (fun h => absurd h (by decide)) (fun _ => ?_)
        refine z_iconst hC dX4_sum_28 zi_m1 ?_
        exact z_reti hE (by omega) dX4_sum_29 (⟨by simp [xoSum, xaSum, ta, qa, qsz, qv, tb, qb, nc], rfl⟩)
    · replace nb : zin b 8 = false := nb
      refine z_if_eq hC 28 dX4_sum_16 rfl (fun _ => ?_) (fun h => absurd h (by decide))
      refine z_iconst hC dX4_sum_28 zi_m1 ?_
      exact z_reti hE (by omega) dX4_sum_29 (⟨by simp [xoSum, xaSum, ta, qa, qsz, qv, nb], rfl⟩)
  · replace na : zin a 6 = false := na
    refine z_ns5 hC dX4_sum_5 (by decide) ?_
    refine z_nl5 hC dX4_sum_7 ?_
    refine z_ifnullN hC 28 dX4_sum_9 rfl ?_
    refine z_iconst hC dX4_sum_28 zi_m1 ?_
    exact z_reti hE (by omega) dX4_sum_29 (⟨by simp [xoSum, xaSum, na], rfl⟩)

set_option maxHeartbeats 2000000 in
theorem p_silent (l : Launch) (X : zX) (G : zG) {r0 : Nat} (hr0 : r0 = za G 0 0) {vc rc td : Nat} (hI : xI G vc rc td) {a : Int32} : zC l yX4_silent cX4_silent 3 (some FieldType.int) 3 0 X [.ref r0, .int a] G (zPi (fun r G2 => r = xaSilent G a ∧ G = G2)) := by
  subst hr0
  refine zC_of zpn_X4 (zcat rfl) (Nat.le_of_ble_eq_true rfl) ?_
  intro Z hC hE
  replace hC : zCtx l X cX4_silent RX4 3 3 0 Z := hC
  change Z 0 G 0 [some (.ref (za G 0 0)), some (.int a), none] []
  obtain ⟨hvc, v1, v5, hrc, r12, hn0, hn1, htd, t39, htx, hgo, hru⟩ := hI
  refine z_al0 hC dX4_silent_0 ?_
  refine z_il1 hC dX4_silent_1 ?_
  refine z_cVa1 hC (c_X4_houseAt l X _ (by rfl)) zm_X4_houseAt zi_X4_houseAt zo_0 zk_X4_73 (by omega) (by decide) (by omega) (Nat.le_of_ble_eq_true rfl) dX4_silent_2 ?_
  rintro _ _ (⟨aN, ha, rfl, rfl, rfl⟩ | ⟨na, rfl, rfl⟩)
  · have ta : zin (nI aN) 6 = true := zin_t ha (by omega)
    have qa : (nI aN).toNatClampNeg = aN := nI_clamp (by omega)
    obtain ⟨sz, h12, hsz, hT⟩ := htx aN ha
    obtain ⟨vv, hvv, hv⟩ := hgo aN ha
    have qsz : xSz G aN = sz := by unfold xSz; rw [hsz]; exact nI_clamp (by omega)
    have qv : (zg G 7 aN 4).toNatClampNeg = vv := by rw [hv]; exact nI_clamp (by omega)
    refine z_as2 hC dX4_silent_5 (by decide) ?_
    refine z_al2 hC dX4_silent_6 ?_
    refine z_ifnonnull hC 12 dX4_silent_7 rfl ?_
    refine z_al2 hC dX4_silent_12 ?_
    refine z_cVNi0 hC (c_X1_isSilent l X _ (by rfl) ha) zm_X1_isSilent zi_X1_isSilent (zo_7 ha) zkn_X4_147 (by omega) (by decide) (by omega) (Nat.le_of_ble_eq_true rfl) dX4_silent_13 ?_
    rintro _ _ (⟨hsi13, rfl, rfl⟩ | ⟨hsi13, rfl, rfl⟩)
    · refine z_if_eq hC 23 dX4_silent_16 rfl (fun h => absurd h (by decide)) (fun _ => ?_)
      refine z_iconst hC dX4_silent_19 zi_1 ?_
      refine z_goto hC 24 dX4_silent_20 rfl ?_
      exact z_reti hE (by omega) dX4_silent_24 (⟨by simp [xaSilent, ta, qa, qsz, qv, hsi13], rfl⟩)
    · refine z_if_eq hC 23 dX4_silent_16 rfl (fun _ => ?_) (fun h => absurd h (by decide))
      refine z_iconst hC dX4_silent_23 zi_0 ?_
      exact z_reti hE (by omega) dX4_silent_24 (⟨by simp [xaSilent, ta, qa, qsz, qv, hsi13], rfl⟩)
  · replace na : zin a 6 = false := na
    refine z_ns2 hC dX4_silent_5 (by decide) ?_
    refine z_nl2 hC dX4_silent_6 ?_
    refine z_ifnonnullN hC dX4_silent_7 ?_
    refine z_iconst hC dX4_silent_10 zi_m1 ?_
    exact z_reti hE (by omega) dX4_silent_11 (⟨by simp [xaSilent, na], rfl⟩)

set_option maxHeartbeats 2000000 in
theorem p_most (l : Launch) (X : zX) (G : zG) {r0 : Nat} (hr0 : r0 = za G 0 0) {vc rc td : Nat} (hI : xI G vc rc td) {a b c : Int32} : zC l yX4_most cX4_most 9 (some FieldType.int) 4 0 X [.ref r0, .int a, .int b, .int c] G (zPi (fun r G2 => r = xaMost G a b c ∧ G = G2)) := by
  subst hr0
  refine zC_of zpn_X4 (zcat rfl) (Nat.le_of_ble_eq_true rfl) ?_
  intro Z hC hE
  replace hC : zCtx l X cX4_most RX4 9 4 0 Z := hC
  change Z 0 G 0 [some (.ref (za G 0 0)), some (.int a), some (.int b), some (.int c), none, none, none, none, none] []
  obtain ⟨hvc, v1, v5, hrc, r12, hn0, hn1, htd, t39, htx, hgo, hru⟩ := hI
  refine z_il1 hC dX4_most_0 ?_
  refine z_cSi1 hC (c_X4_isFace l X _) zm_X4_isFace zi_X4_isFace zk_X4_80 (by omega) (by decide) (by omega) (Nat.le_of_ble_eq_true rfl) dX4_most_1 ?_
  rintro _ _ (⟨aN, ha, rfl, rfl, rfl⟩ | ⟨na, rfl, rfl⟩)
  · have ta : zin (nI aN) 8 = true := zin_t ha (by omega)
    have qa : (nI aN).toNatClampNeg = aN := nI_clamp (by omega)
    refine z_if_eq hC 15 dX4_most_4 rfl (fun h => absurd h (by decide)) (fun _ => ?_)
    refine z_il2 hC dX4_most_7 ?_
    refine z_il3 hC dX4_most_8 ?_
    refine z_cSi2 hC (c_X4_isSpan l X _) zm_X4_isSpan zi_X4_isSpan zk_X4_141 (by omega) (by decide) (by omega) (Nat.le_of_ble_eq_true rfl) dX4_most_9 ?_
    rintro _ _ (⟨bN, cN, hb, hc, rfl, rfl, rfl, rfl⟩ | ⟨nb, rfl, rfl⟩)
    · have tb : zspan (nI bN) (nI cN) = true := zspan_t hb hc
      have qb : (nI bN).toNatClampNeg = bN := nI_clamp (by omega)
      have qc : (nI cN).toNatClampNeg = cN := nI_clamp (by omega)
      refine z_if_ne hC 17 dX4_most_12 rfl (fun _ => ?_) (fun h => absurd h (by decide))
      refine z_al0 hC dX4_most_17 ?_
      refine z_cVi0 hC (c_X4_silentHouses l X _ (by rfl)) zm_X4_silentHouses zi_X4_silentHouses zo_0 zk_X4_151 (by omega) (by decide) (by omega) (Nat.le_of_ble_eq_true rfl) dX4_most_18 ?_
      rintro _ _ ⟨rfl, rfl⟩
      refine z_al0 hC dX4_most_21 ?_
      refine zgf_X4_37 hC dX4_most_22 ?_
      refine z_imul hC dX4_most_25 ?_
      refine z_il3 hC dX4_most_26 ?_
      refine z_il2 hC dX4_most_27 ?_
      refine z_isub hC dX4_most_28 ?_
      refine z_iconst hC dX4_most_29 zi_1 ?_
      refine z_iadd hC dX4_most_30 ?_
      refine z_imul hC dX4_most_31 ?_
      refine z_is4 hC dX4_most_32 (by decide) ?_
      refine z_al0 hC dX4_most_34 ?_
      refine zgf_X4_17 hC dX4_most_35 ?_
      refine z_as5 hC dX4_most_38 (by decide) ?_
      refine z_al5 hC dX4_most_40 ?_
      refine zlen_2 hC dX4_most_42 ?_
      refine z_is6 hC dX4_most_43 (by decide) ?_
      refine z_iconst hC dX4_most_45 zi_0 ?_
      refine z_is7 hC dX4_most_46 (by decide) ?_
      refine z_loop (N := 6) (fun n => Z 0 G 48 [some (.ref (za G 0 0)), some (.int (nI aN)), some (.int (nI bN)), some (.int (nI cN)), some (.int (xMo G aN bN cN ((nI (ctF (fun h => xSilent G h) 6) * zg G 0 0 6) * ((nI cN - nI bN) + nI 1)) n)), some (.ref (za G 2 0)), some (.int (nI 6)), some (.int (nI n)), none] []) ?_ ?_ 0 (Nat.zero_le _)
      · change Z 0 G 48 [some (.ref (za G 0 0)), some (.int (nI aN)), some (.int (nI bN)), some (.int (nI cN)), some (.int (xMo G aN bN cN ((nI (ctF (fun h => xSilent G h) 6) * zg G 0 0 6) * ((nI cN - nI bN) + nI 1)) 6)), some (.ref (za G 2 0)), some (.int (nI 6)), some (.int (nI 6)), none] []
        refine z_il7 hC dX4_most_48 ?_
        refine z_il6 hC dX4_most_50 ?_
        refine z_icmp_ge hC 81 dX4_most_52 rfl (fun _ => ?_) (fun h => absurd (nI_le (Nat.le_refl _) (by omega)) h)
        refine z_il4 hC dX4_most_81 ?_
        exact z_reti hE (by omega) dX4_most_83 (⟨by simp [xoMost, xaMost, ta, qa, tb, qb, qc], rfl⟩)
      · intro n hn ih
        change Z 0 G 48 [some (.ref (za G 0 0)), some (.int (nI aN)), some (.int (nI bN)), some (.int (nI cN)), some (.int (xMo G aN bN cN ((nI (ctF (fun h => xSilent G h) 6) * zg G 0 0 6) * ((nI cN - nI bN) + nI 1)) n)), some (.ref (za G 2 0)), some (.int (nI 6)), some (.int (nI n)), none] []
        replace ih : Z 0 G 48 [some (.ref (za G 0 0)), some (.int (nI aN)), some (.int (nI bN)), some (.int (nI cN)), some (.int (xMo G aN bN cN ((nI (ctF (fun h => xSilent G h) 6) * zg G 0 0 6) * ((nI cN - nI bN) + nI 1)) (n + 1))), some (.ref (za G 2 0)), some (.int (nI 6)), some (.int (nI (n + 1))), none] [] := ih
        refine z_il7 hC dX4_most_48 ?_
        refine z_il6 hC dX4_most_50 ?_
        refine z_icmp_ge hC 81 dX4_most_52 rfl (fun h => absurd h (nI_ge hn (by omega))) (fun _ => ?_)
        refine z_al5 hC dX4_most_55 ?_
        refine z_il7 hC dX4_most_57 ?_
        refine zal_2 hC (hn) dX4_most_59 ?_
        refine z_as8 hC dX4_most_60 (by decide) ?_
        refine z_il4 hC dX4_most_62 ?_
        refine z_al8 hC dX4_most_64 ?_
        refine z_il1 hC dX4_most_66 ?_
        refine z_il2 hC dX4_most_67 ?_
        refine z_il3 hC dX4_most_68 ?_
        refine z_cVNi3 hC (c_X1_counted l X _ (by rfl) hn (by omega) (by omega) (by omega)) zm_X1_counted zi_X1_counted (zo_7 hn) zkn_X4_144 (by omega) (by decide) (by omega) (Nat.le_of_ble_eq_true rfl) dX4_most_69 ?_
        rintro _ _ ⟨rfl, rfl⟩
        refine z_iadd hC dX4_most_72 ?_
        refine z_is4 hC dX4_most_73 (by decide) ?_
        refine z_inc7 hC dX4_most_75 (by decide) ?_
        refine z_goto hC 48 dX4_most_78 rfl ?_
        refine z_dr8 hC ?_
        exact ih
    · refine z_if_ne hC 17 dX4_most_12 rfl (fun h => absurd h (by decide)) (fun _ => ?_)
      refine z_iconst hC dX4_most_15 zi_m1 ?_
      exact z_reti hE (by omega) dX4_most_16 (⟨by simp [xoMost, xaMost, ta, qa, nb], rfl⟩)
  · replace na : zin a 8 = false := na
    refine z_if_eq hC 15 dX4_most_4 rfl (fun _ => ?_) (fun h => absurd h (by decide))
    refine z_iconst hC dX4_most_15 zi_m1 ?_
    exact z_reti hE (by omega) dX4_most_16 (⟨by simp [xoMost, xaMost, na], rfl⟩)

set_option maxHeartbeats 2000000 in
theorem p_harm (l : Launch) (X : zX) (G : zG) {r0 : Nat} (hr0 : r0 = za G 0 0) {vc rc td : Nat} (hI : xI G vc rc td) {a b c : Int32} : zC l yX4_harm cX4_harm 7 (some FieldType.int) 4 0 X [.ref r0, .int a, .int b, .int c] G (zPi (fun r G2 => r = xaHarm G vc a b c ∧ G = G2)) := by
  subst hr0
  refine zC_of zpn_X4 (zcat rfl) (Nat.le_of_ble_eq_true rfl) ?_
  intro Z hC hE
  replace hC : zCtx l X cX4_harm RX4 7 4 0 Z := hC
  change Z 0 G 0 [some (.ref (za G 0 0)), some (.int a), some (.int b), some (.int c), none, none, none] []
  obtain ⟨hvc, v1, v5, hrc, r12, hn0, hn1, htd, t39, htx, hgo, hru⟩ := hI
  refine z_al0 hC dX4_harm_0 ?_
  refine z_il1 hC dX4_harm_1 ?_
  refine z_cVa1 hC (c_X4_houseAt l X _ (by rfl)) zm_X4_houseAt zi_X4_houseAt zo_0 zk_X4_73 (by omega) (by decide) (by omega) (Nat.le_of_ble_eq_true rfl) dX4_harm_2 ?_
  rintro _ _ (⟨aN, ha, rfl, rfl, rfl⟩ | ⟨na, rfl, rfl⟩)
  · have ta : zin (nI aN) 6 = true := zin_t ha (by omega)
    have qa : (nI aN).toNatClampNeg = aN := nI_clamp (by omega)
    obtain ⟨sz, h12, hsz, hT⟩ := htx aN ha
    obtain ⟨vv, hvv, hv⟩ := hgo aN ha
    have qsz : xSz G aN = sz := by unfold xSz; rw [hsz]; exact nI_clamp (by omega)
    have qv : (zg G 7 aN 4).toNatClampNeg = vv := by rw [hv]; exact nI_clamp (by omega)
    refine z_as4 hC dX4_harm_5 (by decide) ?_
    refine z_al0 hC dX4_harm_7 ?_
    refine z_il2 hC dX4_harm_8 ?_
    refine z_cVa1 hC (c_X4_doorAt l X _ (by rfl)) zm_X4_doorAt zi_X4_doorAt zo_0 zk_X4_50 (by omega) (by decide) (by omega) (Nat.le_of_ble_eq_true rfl) dX4_harm_9 ?_
    rintro _ _ (⟨bN, hb, rfl, rfl, rfl⟩ | ⟨nb, rfl, rfl⟩)
    · have tb : zin (nI bN) 8 = true := zin_t hb (by omega)
      have qb : (nI bN).toNatClampNeg = bN := nI_clamp (by omega)
      refine z_as5 hC dX4_harm_12 (by decide) ?_
      refine z_al4 hC dX4_harm_14 ?_
      refine z_ifnull hC dX4_harm_16 ?_
      refine z_al5 hC dX4_harm_19 ?_
      refine z_ifnull hC dX4_harm_21 ?_
      refine z_al0 hC dX4_harm_24 ?_
      refine z_il3 hC dX4_harm_25 ?_
      refine z_cVi1 hC (c_X4_isVersion l X _ (by rfl) hvc v5) zm_X4_isVersion zi_X4_isVersion zo_0 zk_X4_54 (by omega) (by decide) (by omega) (Nat.le_of_ble_eq_true rfl) dX4_harm_26 ?_
      rintro _ _ (⟨cN, hc, rfl, rfl, rfl⟩ | ⟨nc, rfl, rfl⟩)
      · have tc : zin (nI cN) vc = true := zin_t hc (by omega)
        have qc : (nI cN).toNatClampNeg = cN := nI_clamp (by omega)
        refine z_if_ne hC 34 dX4_harm_29 rfl (fun _ => ?_) (fun h => absurd h (by decide))
        refine z_al4 hC dX4_harm_34 ?_
        refine z_cVNi0 hC (c_X1_isSilent l X _ (by rfl) ha) zm_X1_isSilent zi_X1_isSilent (zo_7 ha) zkn_X4_147 (by omega) (by decide) (by omega) (Nat.le_of_ble_eq_true rfl) dX4_harm_36 ?_
        rintro _ _ (⟨hsi36, rfl, rfl⟩ | ⟨hsi36, rfl, rfl⟩)
        · refine z_if_eq hC 44 dX4_harm_39 rfl (fun h => absurd h (by decide)) (fun _ => ?_)
          refine z_iconst hC dX4_harm_42 zi_3 ?_
          exact z_reti hE (by omega) dX4_harm_43 (⟨by simp [xoHarm, xaHarm, ta, qa, qsz, qv, tb, qb, tc, qc, hsi36], rfl⟩)
        · refine z_if_eq hC 44 dX4_harm_39 rfl (fun _ => ?_) (fun h => absurd h (by decide))
          refine z_al5 hC dX4_harm_44 ?_
          refine z_al4 hC dX4_harm_46 ?_
          refine zgf_X4_77 hC ha dX4_harm_48 ?_
          refine z_top hv ?_
          refine z_il3 hC dX4_harm_51 ?_
          refine z_cVNi2 hC (c_X0_differing l X _ (by rfl) hb (by omega) (by omega)) zm_X0_differing zi_X0_differing (zo_4 hb) zkn_X4_70 (by omega) (by decide) (by omega) (Nat.le_of_ble_eq_true rfl) dX4_harm_52 ?_
          rintro _ _ ⟨rfl, rfl⟩
          refine z_is6 hC dX4_harm_55 (by decide) ?_
          refine z_al4 hC dX4_harm_57 ?_
          refine zgf_X4_83 hC ha dX4_harm_59 ?_
          refine z_il2 hC dX4_harm_62 ?_
          refine z_cVNi1 hC (c_X3_used l X _ (by rfl) ha hsz h12) zm_X3_used zi_X3_used (zo_10 ha) zkn_X4_113 (by omega) (by decide) (by omega) (Nat.le_of_ble_eq_true rfl) dX4_harm_63 ?_
          rintro _ _ ⟨rfl, rfl⟩
          refine z_il6 hC dX4_harm_66 ?_
          refine z_iand hC dX4_harm_68 ?_
          refine z_if_ne hC 74 dX4_harm_69 rfl (fun h69 => ?_) (fun h69 => ?_)
          · refine z_al4 hC dX4_harm_74 ?_
            refine zgf_X4_83 hC ha dX4_harm_76 ?_
            refine z_il2 hC dX4_harm_79 ?_
            refine z_il6 hC dX4_harm_80 ?_
            refine z_cVNi2 hC (c_X3_someSeesOnly l X _ (by rfl) ha hsz h12) zm_X3_someSeesOnly zi_X3_someSeesOnly (zo_10 ha) zkn_X4_155 (by omega) (by decide) (by omega) (Nat.le_of_ble_eq_true rfl) dX4_harm_82 ?_
            rintro _ _ (⟨hon, rfl, rfl⟩ | ⟨hon, rfl, rfl⟩)
            · refine z_if_eq hC 92 dX4_harm_85 rfl (fun h => absurd h (by decide)) (fun _ => ?_)
              refine z_iconst hC dX4_harm_88 zi_2 ?_
              refine z_goto hC 93 dX4_harm_89 rfl ?_
              exact z_reti hE (by omega) dX4_harm_93 (⟨by simp [xoHarm, xaHarm, ta, qa, qsz, qv, tb, qb, tc, qc, hsi36, h69, hon], rfl⟩)
            · refine z_if_eq hC 92 dX4_harm_85 rfl (fun _ => ?_) (fun h => absurd h (by decide))
              refine z_iconst hC dX4_harm_92 zi_1 ?_
              exact z_reti hE (by omega) dX4_harm_93 (⟨by simp [xoHarm, xaHarm, ta, qa, qsz, qv, tb, qb, tc, qc, hsi36, h69, hon], rfl⟩)
          · refine z_iconst hC dX4_harm_72 zi_0 ?_
            exact z_reti hE (by omega) dX4_harm_73 (⟨by simp [xoHarm, xaHarm, ta, qa, qsz, qv, tb, qb, tc, qc, hsi36, h69], rfl⟩)
      · replace nc : zin c vc = false := nc
        refine z_if_ne hC 34 dX4_harm_29 rfl (fun h => absurd h (by decide)) (fun _ => ?_)
        refine z_iconst hC dX4_harm_32 zi_m1 ?_
        exact z_reti hE (by omega) dX4_harm_33 (⟨by simp [xoHarm, xaHarm, ta, qa, qsz, qv, tb, qb, nc], rfl⟩)
    · replace nb : zin b 8 = false := nb
      refine z_ns5 hC dX4_harm_12 (by decide) ?_
      refine z_al4 hC dX4_harm_14 ?_
      refine z_ifnull hC dX4_harm_16 ?_
      refine z_nl5 hC dX4_harm_19 ?_
      refine z_ifnullN hC 32 dX4_harm_21 rfl ?_
      refine z_iconst hC dX4_harm_32 zi_m1 ?_
      exact z_reti hE (by omega) dX4_harm_33 (⟨by simp [xoHarm, xaHarm, ta, qa, qsz, qv, nb], rfl⟩)
  · replace na : zin a 6 = false := na
    refine z_ns4 hC dX4_harm_5 (by decide) ?_
    refine z_al0 hC dX4_harm_7 ?_
    refine z_il2 hC dX4_harm_8 ?_
    refine z_cVa1 hC (c_X4_doorAt l X _ (by rfl)) zm_X4_doorAt zi_X4_doorAt zo_0 zk_X4_50 (by omega) (by decide) (by omega) (Nat.le_of_ble_eq_true rfl) dX4_harm_9 ?_
    rintro _ _ (⟨bN, hb, rfl, rfl, rfl⟩ | ⟨nb, rfl, rfl⟩)
    · have tb : zin (nI bN) 8 = true := zin_t hb (by omega)
      have qb : (nI bN).toNatClampNeg = bN := nI_clamp (by omega)
      refine z_as5 hC dX4_harm_12 (by decide) ?_
      refine z_nl4 hC dX4_harm_14 ?_
      refine z_ifnullN hC 32 dX4_harm_16 rfl ?_
      refine z_iconst hC dX4_harm_32 zi_m1 ?_
      exact z_reti hE (by omega) dX4_harm_33 (⟨by simp [xoHarm, xaHarm, na, tb, qb], rfl⟩)
    · replace nb : zin b 8 = false := nb
      refine z_ns5 hC dX4_harm_12 (by decide) ?_
      refine z_nl4 hC dX4_harm_14 ?_
      refine z_ifnullN hC 32 dX4_harm_16 rfl ?_
      refine z_iconst hC dX4_harm_32 zi_m1 ?_
      exact z_reti hE (by omega) dX4_harm_33 (⟨by simp [xoHarm, xaHarm, na, nb], rfl⟩)

set_option maxHeartbeats 2000000 in
theorem p_holds (l : Launch) (X : zX) (G : zG) {r0 : Nat} (hr0 : r0 = za G 0 0) {vc rc td : Nat} (hI : xI G vc rc td) {a b c : Int32} : zC l yX4_holds cX4_holds 5 (some FieldType.int) 5 0 X [.ref r0, .int a, .int b, .int c] G (zPi (fun r G2 => r = xaHolds G vc rc a b c ∧ G = G2)) := by
  subst hr0
  refine zC_of zpn_X4 (zcat rfl) (Nat.le_of_ble_eq_true rfl) ?_
  intro Z hC hE
  replace hC : zCtx l X cX4_holds RX4 5 5 0 Z := hC
  change Z 0 G 0 [some (.ref (za G 0 0)), some (.int a), some (.int b), some (.int c), none] []
  obtain ⟨hvc, v1, v5, hrc, r12, hn0, hn1, htd, t39, htx, hgo, hru⟩ := hI
  refine z_al0 hC dX4_holds_0 ?_
  refine z_il1 hC dX4_holds_1 ?_
  refine z_cVa1 hC (c_X4_ruleAt l X _ (by rfl) hrc r12 hn0 hn1) zm_X4_ruleAt zi_X4_ruleAt zo_0 zk_X4_160 (by omega) (by decide) (by omega) (Nat.le_of_ble_eq_true rfl) dX4_holds_2 ?_
  rintro _ _ (⟨aN, ha, rfl, rfl, rfl⟩ | ⟨na, rfl, rfl⟩)
  · have ta : zin (nI aN) rc = true := zin_t ha (by omega)
    have qa : (nI aN).toNatClampNeg = aN := nI_clamp (by omega)
    refine z_as4 hC dX4_holds_5 (by decide) ?_
    refine z_al4 hC dX4_holds_7 ?_
    refine z_ifnull hC dX4_holds_9 ?_
    refine z_al0 hC dX4_holds_12 ?_
    refine z_il2 hC dX4_holds_13 ?_
    refine z_cVi1 hC (c_X4_isVersion l X _ (by rfl) hvc v5) zm_X4_isVersion zi_X4_isVersion zo_0 zk_X4_54 (by omega) (by decide) (by omega) (Nat.le_of_ble_eq_true rfl) dX4_holds_14 ?_
    rintro _ _ (⟨bN, hb, rfl, rfl, rfl⟩ | ⟨nb, rfl, rfl⟩)
    · have tb : zin (nI bN) vc = true := zin_t hb (by omega)
      have qb : (nI bN).toNatClampNeg = bN := nI_clamp (by omega)
      refine z_if_eq hC 28 dX4_holds_17 rfl (fun h => absurd h (by decide)) (fun _ => ?_)
      refine z_al0 hC dX4_holds_20 ?_
      refine z_il3 hC dX4_holds_21 ?_
      refine z_cVi1 hC (c_X4_isVersion l X _ (by rfl) hvc v5) zm_X4_isVersion zi_X4_isVersion zo_0 zk_X4_54 (by omega) (by decide) (by omega) (Nat.le_of_ble_eq_true rfl) dX4_holds_22 ?_
      rintro _ _ (⟨cN, hc, rfl, rfl, rfl⟩ | ⟨nc, rfl, rfl⟩)
      · have tc : zin (nI cN) vc = true := zin_t hc (by omega)
        have qc : (nI cN).toNatClampNeg = cN := nI_clamp (by omega)
        refine z_if_ne hC 30 dX4_holds_25 rfl (fun _ => ?_) (fun h => absurd h (by decide))
        obtain ⟨fa, ta9, da9, hfa, hta9, hda9, efa, eta, eda⟩ := hru aN ha
        have q1a : (zg G 17 aN 0).toNatClampNeg = fa := by rw [efa]; exact nI_clamp (by omega)
        have q2a : (zg G 17 aN 2).toNatClampNeg = ta9 := by rw [eta]; exact nI_clamp (by omega)
        have q3a : (zg G 17 aN 3).toNatClampNeg = da9 := by rw [eda]; exact nI_clamp (by omega)
        refine z_al0 hC dX4_holds_30 ?_
        refine z_al4 hC dX4_holds_31 ?_
        refine z_il2 hC dX4_holds_33 ?_
        refine z_il3 hC dX4_holds_34 ?_
        refine z_cVi3 hC (c_X4_isHeld l X _ (by rfl) (hn0.symm ▸ ha) (by omega) (by omega) hfa hta9 hda9 efa eta eda) zm_X4_isHeld zi_X4_isHeld zo_0 zk_X4_164 (by omega) (by decide) (by omega) (Nat.le_of_ble_eq_true rfl) dX4_holds_35 ?_
        rintro _ _ (⟨hhe35, rfl, rfl⟩ | ⟨hhe35, rfl, rfl⟩)
        · refine z_if_eq hC 45 dX4_holds_38 rfl (fun h => absurd h (by decide)) (fun _ => ?_)
          refine z_iconst hC dX4_holds_41 zi_1 ?_
          refine z_goto hC 46 dX4_holds_42 rfl ?_
          exact z_reti hE (by omega) dX4_holds_46 (⟨by simp [xoHolds, xaHolds, xRh, ta, qa, tb, qb, tc, qc, q1a, q2a, q3a, hhe35], rfl⟩)
        · refine z_if_eq hC 45 dX4_holds_38 rfl (fun _ => ?_) (fun h => absurd h (by decide))
          refine z_iconst hC dX4_holds_45 zi_0 ?_
          exact z_reti hE (by omega) dX4_holds_46 (⟨by simp [xoHolds, xaHolds, xRh, ta, qa, tb, qb, tc, qc, q1a, q2a, q3a, hhe35], rfl⟩)
      · replace nc : zin c vc = false := nc
        refine z_if_ne hC 30 dX4_holds_25 rfl (fun h => absurd h (by decide)) (fun _ => ?_)
        refine z_iconst hC dX4_holds_28 zi_m1 ?_
        exact z_reti hE (by omega) dX4_holds_29 (⟨by simp [xoHolds, xaHolds, xRh, ta, qa, tb, qb, nc], rfl⟩)
    · replace nb : zin b vc = false := nb
      refine z_if_eq hC 28 dX4_holds_17 rfl (fun _ => ?_) (fun h => absurd h (by decide))
      refine z_iconst hC dX4_holds_28 zi_m1 ?_
      exact z_reti hE (by omega) dX4_holds_29 (⟨by simp [xoHolds, xaHolds, xRh, ta, qa, nb], rfl⟩)
  · replace na : zin a rc = false := na
    refine z_ns4 hC dX4_holds_5 (by decide) ?_
    refine z_nl4 hC dX4_holds_7 ?_
    refine z_ifnullN hC 28 dX4_holds_9 rfl ?_
    refine z_iconst hC dX4_holds_28 zi_m1 ?_
    exact z_reti hE (by omega) dX4_holds_29 (⟨by simp [xoHolds, xaHolds, xRh, na], rfl⟩)

set_option maxHeartbeats 2000000 in
theorem p_clash (l : Launch) (X : zX) (G : zG) {r0 : Nat} (hr0 : r0 = za G 0 0) {vc rc td : Nat} (hI : xI G vc rc td) {a b : Int32} : zC l yX4_clash cX4_clash 6 (some FieldType.int) 3 0 X [.ref r0, .int a, .int b] G (zPi (fun r G2 => r = xaClash G rc a b ∧ G = G2)) := by
  subst hr0
  refine zC_of zpn_X4 (zcat rfl) (Nat.le_of_ble_eq_true rfl) ?_
  intro Z hC hE
  replace hC : zCtx l X cX4_clash RX4 6 3 0 Z := hC
  change Z 0 G 0 [some (.ref (za G 0 0)), some (.int a), some (.int b), none, none, none] []
  obtain ⟨hvc, v1, v5, hrc, r12, hn0, hn1, htd, t39, htx, hgo, hru⟩ := hI
  refine z_al0 hC dX4_clash_0 ?_
  refine z_il1 hC dX4_clash_1 ?_
  refine z_cVa1 hC (c_X4_ruleAt l X _ (by rfl) hrc r12 hn0 hn1) zm_X4_ruleAt zi_X4_ruleAt zo_0 zk_X4_160 (by omega) (by decide) (by omega) (Nat.le_of_ble_eq_true rfl) dX4_clash_2 ?_
  rintro _ _ (⟨aN, ha, rfl, rfl, rfl⟩ | ⟨na, rfl, rfl⟩)
  · have ta : zin (nI aN) rc = true := zin_t ha (by omega)
    have qa : (nI aN).toNatClampNeg = aN := nI_clamp (by omega)
    refine z_as3 hC dX4_clash_5 (by decide) ?_
    refine z_al0 hC dX4_clash_6 ?_
    refine z_il2 hC dX4_clash_7 ?_
    refine z_cVa1 hC (c_X4_ruleAt l X _ (by rfl) hrc r12 hn0 hn1) zm_X4_ruleAt zi_X4_ruleAt zo_0 zk_X4_160 (by omega) (by decide) (by omega) (Nat.le_of_ble_eq_true rfl) dX4_clash_8 ?_
    rintro _ _ (⟨bN, hb, rfl, rfl, rfl⟩ | ⟨nb, rfl, rfl⟩)
    · have tb : zin (nI bN) rc = true := zin_t hb (by omega)
      have qb : (nI bN).toNatClampNeg = bN := nI_clamp (by omega)
      refine z_as4 hC dX4_clash_11 (by decide) ?_
      refine z_al3 hC dX4_clash_13 ?_
      refine z_ifnull hC dX4_clash_14 ?_
      refine z_al4 hC dX4_clash_17 ?_
      refine z_ifnonnull hC 24 dX4_clash_19 rfl ?_
      refine z_al3 hC dX4_clash_24 ?_
      refine zgf_X4_168 hC (hn0.symm ▸ ha) dX4_clash_25 ?_
      refine z_al4 hC dX4_clash_28 ?_
      refine zgf_X4_168 hC (hn0.symm ▸ hb) dX4_clash_30 ?_
      refine z_icmp_ne hC 53 dX4_clash_33 rfl (fun h33 => ?_) (fun h33 => ?_)
      · refine z_iconst hC dX4_clash_53 zi_0 ?_
        refine z_is5 hC dX4_clash_54 (by decide) ?_
        refine z_il5 hC dX4_clash_56 ?_
        refine z_if_eq hC 89 dX4_clash_58 rfl (fun _ => ?_) (fun h => absurd h (by decide))
        refine z_iconst hC dX4_clash_89 zi_0 ?_
        exact z_reti hE (by omega) dX4_clash_90 (⟨by simp [xoClash, xaClash, xCl, ta, qa, tb, qb, h33], rfl⟩)
      · refine z_al3 hC dX4_clash_36 ?_
        refine zgf_X4_171 hC (hn0.symm ▸ ha) dX4_clash_37 ?_
        refine z_al4 hC dX4_clash_40 ?_
        refine zgf_X4_171 hC (hn0.symm ▸ hb) dX4_clash_42 ?_
        refine z_iand hC dX4_clash_45 ?_
        refine z_if_eq hC 53 dX4_clash_46 rfl (fun h46 => ?_) (fun h46 => ?_)
        · refine z_iconst hC dX4_clash_53 zi_0 ?_
          refine z_is5 hC dX4_clash_54 (by decide) ?_
          refine z_il5 hC dX4_clash_56 ?_
          refine z_if_eq hC 89 dX4_clash_58 rfl (fun _ => ?_) (fun h => absurd h (by decide))
          refine z_iconst hC dX4_clash_89 zi_0 ?_
          exact z_reti hE (by omega) dX4_clash_90 (⟨by simp [xoClash, xaClash, xCl, ta, qa, tb, qb, h33, h46], rfl⟩)
        · refine z_iconst hC dX4_clash_49 zi_1 ?_
          refine z_goto hC 54 dX4_clash_50 rfl ?_
          refine z_is5 hC dX4_clash_54 (by decide) ?_
          refine z_il5 hC dX4_clash_56 ?_
          refine z_if_eq hC 89 dX4_clash_58 rfl (fun h => absurd h (by decide)) (fun _ => ?_)
          refine z_al3 hC dX4_clash_61 ?_
          refine zgf_X4_174 hC (hn0.symm ▸ ha) dX4_clash_62 ?_
          refine z_al4 hC dX4_clash_65 ?_
          refine zgf_X4_174 hC (hn0.symm ▸ hb) dX4_clash_67 ?_
          refine z_icmp_ne hC 85 dX4_clash_70 rfl (fun h70 => ?_) (fun h70 => ?_)
          · refine z_iconst hC dX4_clash_85 zi_1 ?_
            refine z_goto hC 90 dX4_clash_86 rfl ?_
            exact z_reti hE (by omega) dX4_clash_90 (⟨by simp [xoClash, xaClash, xCl, ta, qa, tb, qb, h33, h46, h70], rfl⟩)
          · refine z_al3 hC dX4_clash_73 ?_
            refine zgf_X4_177 hC (hn0.symm ▸ ha) dX4_clash_74 ?_
            refine z_al4 hC dX4_clash_77 ?_
            refine zgf_X4_177 hC (hn0.symm ▸ hb) dX4_clash_79 ?_
            refine z_icmp_eq hC 89 dX4_clash_82 rfl (fun h82 => ?_) (fun h82 => ?_)
            · refine z_iconst hC dX4_clash_89 zi_0 ?_
              exact z_reti hE (by omega) dX4_clash_90 (⟨by simp [xoClash, xaClash, xCl, ta, qa, tb, qb, h33, h46, h70, h82], rfl⟩)
            · refine z_iconst hC dX4_clash_85 zi_1 ?_
              refine z_goto hC 90 dX4_clash_86 rfl ?_
              exact z_reti hE (by omega) dX4_clash_90 (⟨by simp [xoClash, xaClash, xCl, ta, qa, tb, qb, h33, h46, h70, h82], rfl⟩)
    · replace nb : zin b rc = false := nb
      refine z_ns4 hC dX4_clash_11 (by decide) ?_
      refine z_al3 hC dX4_clash_13 ?_
      refine z_ifnull hC dX4_clash_14 ?_
      refine z_nl4 hC dX4_clash_17 ?_
      refine z_ifnonnullN hC dX4_clash_19 ?_
      refine z_iconst hC dX4_clash_22 zi_m1 ?_
      exact z_reti hE (by omega) dX4_clash_23 (⟨by simp [xoClash, xaClash, xCl, ta, qa, nb], rfl⟩)
  · replace na : zin a rc = false := na
    refine z_ns3 hC dX4_clash_5 (by decide) ?_
    refine z_al0 hC dX4_clash_6 ?_
    refine z_il2 hC dX4_clash_7 ?_
    refine z_cVa1 hC (c_X4_ruleAt l X _ (by rfl) hrc r12 hn0 hn1) zm_X4_ruleAt zi_X4_ruleAt zo_0 zk_X4_160 (by omega) (by decide) (by omega) (Nat.le_of_ble_eq_true rfl) dX4_clash_8 ?_
    rintro _ _ (⟨bN, hb, rfl, rfl, rfl⟩ | ⟨nb, rfl, rfl⟩)
    · have tb : zin (nI bN) rc = true := zin_t hb (by omega)
      have qb : (nI bN).toNatClampNeg = bN := nI_clamp (by omega)
      refine z_as4 hC dX4_clash_11 (by decide) ?_
      refine z_nl3 hC dX4_clash_13 ?_
      refine z_ifnullN hC 22 dX4_clash_14 rfl ?_
      refine z_iconst hC dX4_clash_22 zi_m1 ?_
      exact z_reti hE (by omega) dX4_clash_23 (⟨by simp [xoClash, xaClash, xCl, na, tb, qb], rfl⟩)
    · replace nb : zin b rc = false := nb
      refine z_ns4 hC dX4_clash_11 (by decide) ?_
      refine z_nl3 hC dX4_clash_13 ?_
      refine z_ifnullN hC 22 dX4_clash_14 rfl ?_
      refine z_iconst hC dX4_clash_22 zi_m1 ?_
      exact z_reti hE (by omega) dX4_clash_23 (⟨by simp [xoClash, xaClash, xCl, na, nb], rfl⟩)

set_option maxHeartbeats 2000000 in
theorem p_left (l : Launch) (X : zX) (G : zG) {r0 : Nat} (hr0 : r0 = za G 0 0) {vc rc td : Nat} (hI : xI G vc rc td) {a b c : Int32} : zC l yX4_left cX4_left 9 (some FieldType.int) 5 0 X [.ref r0, .int a, .int b, .int c] G (zPi (fun r G2 => r = xaLeft G vc rc a b c ∧ G = G2)) := by
  subst hr0
  refine zC_of zpn_X4 (zcat rfl) (Nat.le_of_ble_eq_true rfl) ?_
  intro Z hC hE
  replace hC : zCtx l X cX4_left RX4 9 5 0 Z := hC
  change Z 0 G 0 [some (.ref (za G 0 0)), some (.int a), some (.int b), some (.int c), none, none, none, none, none] []
  obtain ⟨hvc, v1, v5, hrc, r12, hn0, hn1, htd, t39, htx, hgo, hru⟩ := hI
  refine z_al0 hC dX4_left_0 ?_
  refine z_il1 hC dX4_left_1 ?_
  refine z_cVa1 hC (c_X4_houseAt l X _ (by rfl)) zm_X4_houseAt zi_X4_houseAt zo_0 zk_X4_73 (by omega) (by decide) (by omega) (Nat.le_of_ble_eq_true rfl) dX4_left_2 ?_
  rintro _ _ (⟨aN, ha, rfl, rfl, rfl⟩ | ⟨na, rfl, rfl⟩)
  · have ta : zin (nI aN) 6 = true := zin_t ha (by omega)
    have qa : (nI aN).toNatClampNeg = aN := nI_clamp (by omega)
    obtain ⟨sz, h12, hsz, hT⟩ := htx aN ha
    obtain ⟨vv, hvv, hv⟩ := hgo aN ha
    have qsz : xSz G aN = sz := by unfold xSz; rw [hsz]; exact nI_clamp (by omega)
    have qv : (zg G 7 aN 4).toNatClampNeg = vv := by rw [hv]; exact nI_clamp (by omega)
    refine z_as4 hC dX4_left_5 (by decide) ?_
    refine z_al0 hC dX4_left_7 ?_
    refine z_il2 hC dX4_left_8 ?_
    refine z_cVa1 hC (c_X4_doorAt l X _ (by rfl)) zm_X4_doorAt zi_X4_doorAt zo_0 zk_X4_50 (by omega) (by decide) (by omega) (Nat.le_of_ble_eq_true rfl) dX4_left_9 ?_
    rintro _ _ (⟨bN, hb, rfl, rfl, rfl⟩ | ⟨nb, rfl, rfl⟩)
    · have tb : zin (nI bN) 8 = true := zin_t hb (by omega)
      have qb : (nI bN).toNatClampNeg = bN := nI_clamp (by omega)
      refine z_as5 hC dX4_left_12 (by decide) ?_
      refine z_al4 hC dX4_left_14 ?_
      refine z_ifnull hC dX4_left_16 ?_
      refine z_al5 hC dX4_left_19 ?_
      refine z_ifnull hC dX4_left_21 ?_
      refine z_al0 hC dX4_left_24 ?_
      refine z_il3 hC dX4_left_25 ?_
      refine z_cVi1 hC (c_X4_isVersion l X _ (by rfl) hvc v5) zm_X4_isVersion zi_X4_isVersion zo_0 zk_X4_54 (by omega) (by decide) (by omega) (Nat.le_of_ble_eq_true rfl) dX4_left_26 ?_
      rintro _ _ (⟨cN, hc, rfl, rfl, rfl⟩ | ⟨nc, rfl, rfl⟩)
      · have tc : zin (nI cN) vc = true := zin_t hc (by omega)
        have qc : (nI cN).toNatClampNeg = cN := nI_clamp (by omega)
        refine z_if_ne hC 34 dX4_left_29 rfl (fun _ => ?_) (fun h => absurd h (by decide))
        refine z_al4 hC dX4_left_34 ?_
        refine zgf_X4_83 hC ha dX4_left_36 ?_
        refine z_il2 hC dX4_left_39 ?_
        refine z_cVNi1 hC (c_X3_used l X _ (by rfl) ha hsz h12) zm_X3_used zi_X3_used (zo_10 ha) zkn_X4_113 (by omega) (by decide) (by omega) (Nat.le_of_ble_eq_true rfl) dX4_left_40 ?_
        rintro _ _ ⟨rfl, rfl⟩
        refine z_al5 hC dX4_left_43 ?_
        refine z_al4 hC dX4_left_45 ?_
        refine zgf_X4_77 hC ha dX4_left_47 ?_
        refine z_top hv ?_
        refine z_il3 hC dX4_left_50 ?_
        refine z_cVNi2 hC (c_X0_differing l X _ (by rfl) hb (by omega) (by omega)) zm_X0_differing zi_X0_differing (zo_4 hb) zkn_X4_70 (by omega) (by decide) (by omega) (Nat.le_of_ble_eq_true rfl) dX4_left_51 ?_
        rintro _ _ ⟨rfl, rfl⟩
        refine z_iand hC dX4_left_54 ?_
        refine z_is6 hC dX4_left_55 (by decide) ?_
        refine z_iconst hC dX4_left_57 zi_0 ?_
        refine z_is7 hC dX4_left_58 (by decide) ?_
        refine z_loop (N := rc) (fun n => Z 0 G 60 [some (.ref (za G 0 0)), some (.int (nI aN)), some (.int (nI bN)), some (.int (nI cN)), some (.ref (za G 7 aN)), some (.ref (za G 4 bN)), some (.int (xLf G (nI bN) vv cN (xUsed G aN (nI bN) &&& xDif G bN vv cN) n)), some (.int (nI n)), none] []) ?_ ?_ 0 (Nat.zero_le _)
        · change Z 0 G 60 [some (.ref (za G 0 0)), some (.int (nI aN)), some (.int (nI bN)), some (.int (nI cN)), some (.ref (za G 7 aN)), some (.ref (za G 4 bN)), some (.int (xLf G (nI bN) vv cN (xUsed G aN (nI bN) &&& xDif G bN vv cN) rc)), some (.int (nI rc)), none] []
          refine z_il7 hC dX4_left_60 ?_
          refine z_al0 hC dX4_left_62 ?_
          refine zgf_X4_27 hC dX4_left_63 ?_
          refine z_top hrc ?_
          refine z_icmp_ge hC 124 dX4_left_66 rfl (fun _ => ?_) (fun h => absurd (nI_le (Nat.le_refl _) (by omega)) h)
          refine z_il6 hC dX4_left_124 ?_
          exact z_reti hE (by omega) dX4_left_126 (⟨by simp [xoHarm, xaLeft, ta, qa, qsz, qv, tb, qb, tc, qc], rfl⟩)
        · intro n hn ih
          change Z 0 G 60 [some (.ref (za G 0 0)), some (.int (nI aN)), some (.int (nI bN)), some (.int (nI cN)), some (.ref (za G 7 aN)), some (.ref (za G 4 bN)), some (.int (xLf G (nI bN) vv cN (xUsed G aN (nI bN) &&& xDif G bN vv cN) n)), some (.int (nI n)), none] []
          replace ih : Z 0 G 60 [some (.ref (za G 0 0)), some (.int (nI aN)), some (.int (nI bN)), some (.int (nI cN)), some (.ref (za G 7 aN)), some (.ref (za G 4 bN)), some (.int (xLf G (nI bN) vv cN (xUsed G aN (nI bN) &&& xDif G bN vv cN) (n + 1))), some (.int (nI (n + 1))), none] [] := ih
          refine z_il7 hC dX4_left_60 ?_
          refine z_al0 hC dX4_left_62 ?_
          refine zgf_X4_27 hC dX4_left_63 ?_
          refine z_top hrc ?_
          refine z_icmp_ge hC 124 dX4_left_66 rfl (fun h => absurd h (nI_ge hn (by omega))) (fun _ => ?_)
          refine z_al0 hC dX4_left_69 ?_
          refine z_il7 hC dX4_left_70 ?_
          refine z_cVa1 hC (c_X4_ruleAtT l X _ (by rfl) hn hrc r12 hn0 hn1) zm_X4_ruleAt zi_X4_ruleAt zo_0 zk_X4_160 (by omega) (by decide) (by omega) (Nat.le_of_ble_eq_true rfl) dX4_left_72 ?_
          rintro _ _ ⟨rfl, rfl⟩
          refine z_as8 hC dX4_left_75 (by decide) ?_
          refine z_al8 hC dX4_left_77 ?_
          refine z_ifnull hC dX4_left_79 ?_
          obtain ⟨fn, tn9, dn9, hfn, htn9, hdn9, efn, etn, edn⟩ := hru n hn
          have q1n : (zg G 17 n 0).toNatClampNeg = fn := by rw [efn]; exact nI_clamp (by omega)
          have q2n : (zg G 17 n 2).toNatClampNeg = tn9 := by rw [etn]; exact nI_clamp (by omega)
          have q3n : (zg G 17 n 3).toNatClampNeg = dn9 := by rw [edn]; exact nI_clamp (by omega)
          refine z_al8 hC dX4_left_82 ?_
          refine zgf_X4_168 hC (hn0.symm ▸ hn) dX4_left_84 ?_
          refine z_il2 hC dX4_left_87 ?_
          refine z_icmp_ne hC 118 dX4_left_88 rfl (fun h88 => ?_) (fun h88 => ?_)
          · refine z_inc7 hC dX4_left_118 (by decide) ?_
            refine z_goto hC 60 dX4_left_121 rfl ?_
            refine z_dr8 hC ?_
            rw [xLf_0 h88] at ih
            exact ih
          · refine z_al0 hC dX4_left_91 ?_
            refine z_al8 hC dX4_left_92 ?_
            refine z_al4 hC dX4_left_94 ?_
            refine zgf_X4_77 hC ha dX4_left_96 ?_
            refine z_top hv ?_
            refine z_il3 hC dX4_left_99 ?_
            refine z_cVi3 hC (c_X4_isHeld l X _ (by rfl) (hn0.symm ▸ hn) (by omega) (by omega) hfn htn9 hdn9 efn etn edn) zm_X4_isHeld zi_X4_isHeld zo_0 zk_X4_164 (by omega) (by decide) (by omega) (Nat.le_of_ble_eq_true rfl) dX4_left_100 ?_
            rintro _ _ (⟨hhe100, rfl, rfl⟩ | ⟨hhe100, rfl, rfl⟩)
            · refine z_if_eq hC 118 dX4_left_103 rfl (fun h => absurd h (by decide)) (fun _ => ?_)
              refine z_il6 hC dX4_left_106 ?_
              refine z_al8 hC dX4_left_108 ?_
              refine zgf_X4_171 hC (hn0.symm ▸ hn) dX4_left_110 ?_
              refine z_iconst hC dX4_left_113 zi_m1 ?_
              refine z_ixor hC dX4_left_114 ?_
              refine z_iand hC dX4_left_115 ?_
              refine z_is6 hC dX4_left_116 (by decide) ?_
              refine z_inc7 hC dX4_left_118 (by decide) ?_
              refine z_goto hC 60 dX4_left_121 rfl ?_
              refine z_dr8 hC ?_
              rw [xLf_1 h88 (by simp only [xRh, q1n, q2n, q3n]; exact hhe100)] at ih
              exact ih
            · refine z_if_eq hC 118 dX4_left_103 rfl (fun _ => ?_) (fun h => absurd h (by decide))
              refine z_inc7 hC dX4_left_118 (by decide) ?_
              refine z_goto hC 60 dX4_left_121 rfl ?_
              refine z_dr8 hC ?_
              rw [xLf_2 h88 (by simp only [xRh, q1n, q2n, q3n]; exact hhe100)] at ih
              exact ih
      · replace nc : zin c vc = false := nc
        refine z_if_ne hC 34 dX4_left_29 rfl (fun h => absurd h (by decide)) (fun _ => ?_)
        refine z_iconst hC dX4_left_32 zi_m1 ?_
        exact z_reti hE (by omega) dX4_left_33 (⟨by simp [xoHarm, xaLeft, ta, qa, qsz, qv, tb, qb, nc], rfl⟩)
    · replace nb : zin b 8 = false := nb
      refine z_ns5 hC dX4_left_12 (by decide) ?_
      refine z_al4 hC dX4_left_14 ?_
      refine z_ifnull hC dX4_left_16 ?_
      refine z_nl5 hC dX4_left_19 ?_
      refine z_ifnullN hC 32 dX4_left_21 rfl ?_
      refine z_iconst hC dX4_left_32 zi_m1 ?_
      exact z_reti hE (by omega) dX4_left_33 (⟨by simp [xoHarm, xaLeft, ta, qa, qsz, qv, nb], rfl⟩)
  · replace na : zin a 6 = false := na
    refine z_ns4 hC dX4_left_5 (by decide) ?_
    refine z_al0 hC dX4_left_7 ?_
    refine z_il2 hC dX4_left_8 ?_
    refine z_cVa1 hC (c_X4_doorAt l X _ (by rfl)) zm_X4_doorAt zi_X4_doorAt zo_0 zk_X4_50 (by omega) (by decide) (by omega) (Nat.le_of_ble_eq_true rfl) dX4_left_9 ?_
    rintro _ _ (⟨bN, hb, rfl, rfl, rfl⟩ | ⟨nb, rfl, rfl⟩)
    · have tb : zin (nI bN) 8 = true := zin_t hb (by omega)
      have qb : (nI bN).toNatClampNeg = bN := nI_clamp (by omega)
      refine z_as5 hC dX4_left_12 (by decide) ?_
      refine z_nl4 hC dX4_left_14 ?_
      refine z_ifnullN hC 32 dX4_left_16 rfl ?_
      refine z_iconst hC dX4_left_32 zi_m1 ?_
      exact z_reti hE (by omega) dX4_left_33 (⟨by simp [xoHarm, xaLeft, na, tb, qb], rfl⟩)
    · replace nb : zin b 8 = false := nb
      refine z_ns5 hC dX4_left_12 (by decide) ?_
      refine z_nl4 hC dX4_left_14 ?_
      refine z_ifnullN hC 32 dX4_left_16 rfl ?_
      refine z_iconst hC dX4_left_32 zi_m1 ?_
      exact z_reti hE (by omega) dX4_left_33 (⟨by simp [xoHarm, xaLeft, na, nb], rfl⟩)

set_option maxHeartbeats 2000000 in
theorem p_days (l : Launch) (X : zX) (G : zG) {r0 : Nat} (hr0 : r0 = za G 0 0) {vc rc td : Nat} (hI : xI G vc rc td) {a : Int32} : zC l yX4_days cX4_days 2 (some FieldType.int) 1 0 X [.ref r0, .int a] G (zPi (fun r G2 => r = xaDays G a ∧ G2 = xsDays G a)) := by
  subst hr0
  refine zC_of zpn_X4 (zcat rfl) (Nat.le_of_ble_eq_true rfl) ?_
  intro Z hC hE
  replace hC : zCtx l X cX4_days RX4 2 1 0 Z := hC
  change Z 0 G 0 [some (.ref (za G 0 0)), some (.int a)] []
  obtain ⟨hvc, v1, v5, hrc, r12, hn0, hn1, htd, t39, htx, hgo, hru⟩ := hI
  refine z_il1 hC dX4_days_0 ?_
  refine z_iconst hC dX4_days_1 zi_1 ?_
  refine z_icmp_lt hC 11 dX4_days_2 rfl (fun h2 => ?_) (fun h2 => ?_)
  · refine z_iconst hC dX4_days_11 zi_m1 ?_
    exact z_reti hE (by omega) dX4_days_12 (⟨by simp [xaDays, xsDays, zg_zu, h2], by simp [xaDays, xsDays, zg_zu, h2]⟩)
  · refine z_il1 hC dX4_days_5 ?_
    refine z_bipush hC dX4_days_6 zb_20 ?_
    refine z_icmp_le hC 13 dX4_days_8 rfl (fun h8 => ?_) (fun h8 => ?_)
    · refine z_al0 hC dX4_days_13 ?_
      refine zgf_X4_34 hC dX4_days_14 ?_
      refine z_il1 hC dX4_days_17 ?_
      refine z_iadd hC dX4_days_18 ?_
      refine z_bipush hC dX4_days_19 zb_39 ?_
      refine z_icmp_le hC 27 dX4_days_21 rfl (fun h21 => ?_) (fun h21 => ?_)
      · refine z_al0 hC dX4_days_27 ?_
        refine z_dup hC dX4_days_28 rfl ?_
        refine zgf_X4_34 hC dX4_days_29 ?_
        refine z_il1 hC dX4_days_32 ?_
        refine z_iadd hC dX4_days_33 ?_
        refine zpf_X4_34 hC dX4_days_34 ?_
        refine z_al0 hC dX4_days_37 ?_
        refine zgf_X4_34 hC dX4_days_38 ?_
        exact z_reti hE (by omega) dX4_days_41 (⟨by simp [xaDays, xsDays, zg_zu, h2, h8, h21], by simp [xaDays, xsDays, zg_zu, h2, h8, h21]⟩)
      · refine z_bipush hC dX4_days_24 zb_m2 ?_
        exact z_reti hE (by omega) dX4_days_26 (⟨by simp [xaDays, xsDays, zg_zu, h2, h8, h21], by simp [xaDays, xsDays, zg_zu, h2, h8, h21]⟩)
    · refine z_iconst hC dX4_days_11 zi_m1 ?_
      exact z_reti hE (by omega) dX4_days_12 (⟨by simp [xaDays, xsDays, zg_zu, h2, h8], by simp [xaDays, xsDays, zg_zu, h2, h8]⟩)

set_option maxHeartbeats 2000000 in
theorem p_promise (l : Launch) (X : zX) (G : zG) {r0 : Nat} (hr0 : r0 = za G 0 0) {vc rc td : Nat} (hI : xI G vc rc td) {a b c : Int32} : zC l yX4_promise cX4_promise 6 (some FieldType.int) 4 0 X [.ref r0, .int a, .int b, .int c] G (zPi (fun r G2 => r = xaPromise G a b c ∧ G2 = xsPromise G a b c)) := by
  subst hr0
  refine zC_of zpn_X4 (zcat rfl) (Nat.le_of_ble_eq_true rfl) ?_
  intro Z hC hE
  replace hC : zCtx l X cX4_promise RX4 6 4 0 Z := hC
  change Z 0 G 0 [some (.ref (za G 0 0)), some (.int a), some (.int b), some (.int c), none, none] []
  obtain ⟨hvc, v1, v5, hrc, r12, hn0, hn1, htd, t39, htx, hgo, hru⟩ := hI
  refine z_al0 hC dX4_promise_0 ?_
  refine z_il1 hC dX4_promise_1 ?_
  refine z_cVa1 hC (c_X4_doorAt l X _ (by rfl)) zm_X4_doorAt zi_X4_doorAt zo_0 zk_X4_50 (by omega) (by decide) (by omega) (Nat.le_of_ble_eq_true rfl) dX4_promise_2 ?_
  rintro _ _ (⟨aN, ha, rfl, rfl, rfl⟩ | ⟨na, rfl, rfl⟩)
  · have ta : zin (nI aN) 8 = true := zin_t ha (by omega)
    have qa : (nI aN).toNatClampNeg = aN := nI_clamp (by omega)
    refine z_as4 hC dX4_promise_5 (by decide) ?_
    refine z_al4 hC dX4_promise_7 ?_
    refine z_ifnull hC dX4_promise_9 ?_
    refine z_il2 hC dX4_promise_12 ?_
    refine z_iconst hC dX4_promise_13 zi_5 ?_
    refine z_cSi2 hC (c_X4_isWithin l X _ (by decide)) zm_X4_isWithin zi_X4_isWithin zk_X4_58 (by omega) (by decide) (by omega) (Nat.le_of_ble_eq_true rfl) dX4_promise_14 ?_
    rintro _ _ (⟨bN, hb, rfl, rfl, rfl⟩ | ⟨nb, rfl, rfl⟩)
    · have tb : zin (nI bN) 6 = true := zin_t hb (by omega)
      have qb : (nI bN).toNatClampNeg = bN := nI_clamp (by omega)
      refine z_if_eq hC 33 dX4_promise_17 rfl (fun h => absurd h (by decide)) (fun _ => ?_)
      refine z_il3 hC dX4_promise_20 ?_
      refine z_bipush hC dX4_promise_21 zb_m9 ?_
      refine z_icmp_eq hC 36 dX4_promise_23 rfl (fun h23 => ?_) (fun h23 => ?_)
      · refine z_al4 hC dX4_promise_36 ?_
        refine z_al0 hC dX4_promise_38 ?_
        refine zgf_X4_34 hC dX4_promise_39 ?_
        refine z_cVNi1 hC (c_X0_isShutOn l X _ (by rfl) ha) zm_X0_isShutOn zi_X0_isShutOn (zo_4 ha) zkn_X4_132 (by omega) (by decide) (by omega) (Nat.le_of_ble_eq_true rfl) dX4_promise_42 ?_
        rintro _ _ (⟨hsh42, rfl, rfl⟩ | ⟨hsh42, rfl, rfl⟩)
        · refine z_if_eq hC 51 dX4_promise_45 rfl (fun h => absurd h (by decide)) (fun _ => ?_)
          refine z_bipush hC dX4_promise_48 zb_m3 ?_
          exact z_reti hE (by omega) dX4_promise_50 (⟨by simp [xoPromise, xaPromise, xsPromise, nI_add, ta, qa, tb, qb, h23, hsh42], by simp [xoPromise, xaPromise, xsPromise, nI_add, ta, qa, tb, qb, h23, hsh42]⟩)
        · refine z_if_eq hC 51 dX4_promise_45 rfl (fun _ => ?_) (fun h => absurd h (by decide))
          refine z_al4 hC dX4_promise_51 ?_
          refine zgf_X4_180 hC ha dX4_promise_53 ?_
          refine z_il2 hC dX4_promise_56 ?_
          refine zal_6 hC ha (by omega) dX4_promise_57 ?_
          refine z_is5 hC dX4_promise_58 (by decide) ?_
          refine z_al4 hC dX4_promise_60 ?_
          refine zgf_X4_180 hC ha dX4_promise_62 ?_
          refine z_il2 hC dX4_promise_65 ?_
          refine z_il3 hC dX4_promise_66 ?_
          refine zas_6 hC ha (by omega) dX4_promise_67 ?_
          refine z_il3 hC dX4_promise_68 ?_
          refine z_bipush hC dX4_promise_69 zb_m9 ?_
          refine z_icmp_eq hC 91 dX4_promise_71 rfl (fun _ => ?_) (fun h => absurd h23 h)
          refine z_il5 hC dX4_promise_91 ?_
          exact z_reti hE (by omega) dX4_promise_93 (⟨by simp [xoPromise, xaPromise, xsPromise, nI_add, ta, qa, tb, qb, h23, hsh42], by simp [xoPromise, xaPromise, xsPromise, nI_add, ta, qa, tb, qb, h23, hsh42]⟩)
      · refine z_il3 hC dX4_promise_26 ?_
        refine z_cSi1 hC (c_X4_isDay l X _) zm_X4_isDay zi_X4_isDay zk_X4_121 (by omega) (by decide) (by omega) (Nat.le_of_ble_eq_true rfl) dX4_promise_27 ?_
        rintro _ _ (⟨cN, hc, rfl, rfl, rfl⟩ | ⟨nc, rfl, rfl⟩)
        · have tc : zin (nI cN) 40 = true := zin_t hc (by omega)
          have qc : (nI cN).toNatClampNeg = cN := nI_clamp (by omega)
          refine z_if_ne hC 36 dX4_promise_30 rfl (fun _ => ?_) (fun h => absurd h (by decide))
          refine z_al4 hC dX4_promise_36 ?_
          refine z_al0 hC dX4_promise_38 ?_
          refine zgf_X4_34 hC dX4_promise_39 ?_
          refine z_cVNi1 hC (c_X0_isShutOn l X _ (by rfl) ha) zm_X0_isShutOn zi_X0_isShutOn (zo_4 ha) zkn_X4_132 (by omega) (by decide) (by omega) (Nat.le_of_ble_eq_true rfl) dX4_promise_42 ?_
          rintro _ _ (⟨hsh42, rfl, rfl⟩ | ⟨hsh42, rfl, rfl⟩)
          · refine z_if_eq hC 51 dX4_promise_45 rfl (fun h => absurd h (by decide)) (fun _ => ?_)
            refine z_bipush hC dX4_promise_48 zb_m3 ?_
            exact z_reti hE (by omega) dX4_promise_50 (⟨by simp [xoPromise, xaPromise, xsPromise, nI_add, ta, qa, tb, qb, h23, tc, qc, hsh42], by simp [xoPromise, xaPromise, xsPromise, nI_add, ta, qa, tb, qb, h23, tc, qc, hsh42]⟩)
          · refine z_if_eq hC 51 dX4_promise_45 rfl (fun _ => ?_) (fun h => absurd h (by decide))
            refine z_al4 hC dX4_promise_51 ?_
            refine zgf_X4_180 hC ha dX4_promise_53 ?_
            refine z_il2 hC dX4_promise_56 ?_
            refine zal_6 hC ha (by omega) dX4_promise_57 ?_
            refine z_is5 hC dX4_promise_58 (by decide) ?_
            refine z_al4 hC dX4_promise_60 ?_
            refine zgf_X4_180 hC ha dX4_promise_62 ?_
            refine z_il2 hC dX4_promise_65 ?_
            refine z_il3 hC dX4_promise_66 ?_
            refine zas_6 hC ha (by omega) dX4_promise_67 ?_
            refine z_il3 hC dX4_promise_68 ?_
            refine z_bipush hC dX4_promise_69 zb_m9 ?_
            refine z_icmp_eq hC 91 dX4_promise_71 rfl (fun h => absurd h h23) (fun _ => ?_)
            refine z_al4 hC dX4_promise_74 ?_
            refine z_il3 hC dX4_promise_76 ?_
            refine z_cVNi1 hC (c_X0_isShutOn l X _ (by rfl) ha) zm_X0_isShutOn zi_X0_isShutOn (zo_4 ha) zkn_X4_132 (by omega) (by decide) (by omega) (Nat.le_of_ble_eq_true rfl) dX4_promise_77 ?_
            rintro _ _ (⟨hsh77, rfl, rfl⟩ | ⟨hsh77, rfl, rfl⟩)
            · refine z_if_eq hC 91 dX4_promise_80 rfl (fun h => absurd h (by decide)) (fun _ => ?_)
              refine z_al4 hC dX4_promise_83 ?_
              refine z_il3 hC dX4_promise_85 ?_
              refine z_iconst hC dX4_promise_86 zi_1 ?_
              refine z_iaddN hC dX4_promise_87 ?_
              refine zpf_X4_135 hC ha dX4_promise_88 ?_
              refine z_il5 hC dX4_promise_91 ?_
              exact z_reti hE (by omega) dX4_promise_93 (⟨by simp [xoPromise, xaPromise, xsPromise, nI_add, ta, qa, tb, qb, h23, tc, qc, hsh42, hsh77], by simp [xoPromise, xaPromise, xsPromise, nI_add, ta, qa, tb, qb, h23, tc, qc, hsh42, hsh77]⟩)
            · refine z_if_eq hC 91 dX4_promise_80 rfl (fun _ => ?_) (fun h => absurd h (by decide))
              refine z_il5 hC dX4_promise_91 ?_
              exact z_reti hE (by omega) dX4_promise_93 (⟨by simp [xoPromise, xaPromise, xsPromise, nI_add, ta, qa, tb, qb, h23, tc, qc, hsh42, hsh77], by simp [xoPromise, xaPromise, xsPromise, nI_add, ta, qa, tb, qb, h23, tc, qc, hsh42, hsh77]⟩)
        · replace nc : zin c 40 = false := nc
          refine z_if_ne hC 36 dX4_promise_30 rfl (fun h => absurd h (by decide)) (fun _ => ?_)
          refine z_bipush hC dX4_promise_33 zb_m2 ?_
          exact z_reti hE (by omega) dX4_promise_35 (⟨by simp [xoPromise, xaPromise, xsPromise, nI_add, ta, qa, tb, qb, h23, nc], by simp [xoPromise, xaPromise, xsPromise, nI_add, ta, qa, tb, qb, h23, nc]⟩)
    · replace nb : zin b 6 = false := nb
      refine z_if_eq hC 33 dX4_promise_17 rfl (fun _ => ?_) (fun h => absurd h (by decide))
      refine z_bipush hC dX4_promise_33 zb_m2 ?_
      exact z_reti hE (by omega) dX4_promise_35 (⟨by simp [xoPromise, xaPromise, xsPromise, nI_add, ta, qa, nb], by simp [xoPromise, xaPromise, xsPromise, nI_add, ta, qa, nb]⟩)
  · replace na : zin a 8 = false := na
    refine z_ns4 hC dX4_promise_5 (by decide) ?_
    refine z_nl4 hC dX4_promise_7 ?_
    refine z_ifnullN hC 33 dX4_promise_9 rfl ?_
    refine z_bipush hC dX4_promise_33 zb_m2 ?_
    exact z_reti hE (by omega) dX4_promise_35 (⟨by simp [xoPromise, xaPromise, xsPromise, nI_add, na], by simp [xoPromise, xaPromise, xsPromise, nI_add, na]⟩)

set_option maxHeartbeats 2000000 in
theorem p_shut (l : Launch) (X : zX) (G : zG) {r0 : Nat} (hr0 : r0 = za G 0 0) {vc rc td : Nat} (hI : xI G vc rc td) {a b : Int32} : zC l yX4_shut cX4_shut 4 (some FieldType.int) 4 0 X [.ref r0, .int a, .int b] G (zPi (fun r G2 => r = xaShut G a b ∧ G2 = xsShut G a b)) := by
  subst hr0
  refine zC_of zpn_X4 (zcat rfl) (Nat.le_of_ble_eq_true rfl) ?_
  intro Z hC hE
  replace hC : zCtx l X cX4_shut RX4 4 4 0 Z := hC
  change Z 0 G 0 [some (.ref (za G 0 0)), some (.int a), some (.int b), none] []
  obtain ⟨hvc, v1, v5, hrc, r12, hn0, hn1, htd, t39, htx, hgo, hru⟩ := hI
  refine z_al0 hC dX4_shut_0 ?_
  refine z_il1 hC dX4_shut_1 ?_
  refine z_cVa1 hC (c_X4_doorAt l X _ (by rfl)) zm_X4_doorAt zi_X4_doorAt zo_0 zk_X4_50 (by omega) (by decide) (by omega) (Nat.le_of_ble_eq_true rfl) dX4_shut_2 ?_
  rintro _ _ (⟨aN, ha, rfl, rfl, rfl⟩ | ⟨na, rfl, rfl⟩)
  · have ta : zin (nI aN) 8 = true := zin_t ha (by omega)
    have qa : (nI aN).toNatClampNeg = aN := nI_clamp (by omega)
    refine z_as3 hC dX4_shut_5 (by decide) ?_
    refine z_al3 hC dX4_shut_6 ?_
    refine z_ifnull hC dX4_shut_7 ?_
    refine z_il2 hC dX4_shut_10 ?_
    refine z_al0 hC dX4_shut_11 ?_
    refine zgf_X4_34 hC dX4_shut_12 ?_
    refine z_icmp_lt hC 24 dX4_shut_15 rfl (fun h15 => ?_) (fun h15 => ?_)
    · refine z_iconst hC dX4_shut_24 zi_m1 ?_
      exact z_reti hE (by omega) dX4_shut_25 (⟨by simp [xoShut, xaShut, xsShut, ta, qa, h15], by simp [xoShut, xaShut, xsShut, ta, qa, h15]⟩)
    · refine z_il2 hC dX4_shut_18 ?_
      refine z_bipush hC dX4_shut_19 zb_40 ?_
      refine z_icmp_le hC 26 dX4_shut_21 rfl (fun h21 => ?_) (fun h21 => ?_)
      · refine z_al3 hC dX4_shut_26 ?_
        refine z_al0 hC dX4_shut_27 ?_
        refine zgf_X4_34 hC dX4_shut_28 ?_
        refine z_cVNi1 hC (c_X0_isShutOn l X _ (by rfl) ha) zm_X0_isShutOn zi_X0_isShutOn (zo_4 ha) zkn_X4_132 (by omega) (by decide) (by omega) (Nat.le_of_ble_eq_true rfl) dX4_shut_31 ?_
        rintro _ _ (⟨hsh31, rfl, rfl⟩ | ⟨hsh31, rfl, rfl⟩)
        · refine z_if_ne hC 45 dX4_shut_34 rfl (fun _ => ?_) (fun h => absurd h (by decide))
          refine z_bipush hC dX4_shut_45 zb_m2 ?_
          exact z_reti hE (by omega) dX4_shut_47 (⟨by simp [xoShut, xaShut, xsShut, ta, qa, h15, h21, hsh31], by simp [xoShut, xaShut, xsShut, ta, qa, h15, h21, hsh31]⟩)
        · refine z_if_ne hC 45 dX4_shut_34 rfl (fun h => absurd h (by decide)) (fun _ => ?_)
          refine z_al3 hC dX4_shut_37 ?_
          refine z_il2 hC dX4_shut_38 ?_
          refine z_cVNi1 hC (c_X0_isPromised l X _ (by rfl) ha) zm_X0_isPromised zi_X0_isPromised (zo_4 ha) zkn_X4_183 (by omega) (by decide) (by omega) (Nat.le_of_ble_eq_true rfl) dX4_shut_39 ?_
          rintro _ _ (⟨hpr39, rfl, rfl⟩ | ⟨hpr39, rfl, rfl⟩)
          · refine z_if_eq hC 48 dX4_shut_42 rfl (fun h => absurd h (by decide)) (fun _ => ?_)
            refine z_bipush hC dX4_shut_45 zb_m2 ?_
            exact z_reti hE (by omega) dX4_shut_47 (⟨by simp [xoShut, xaShut, xsShut, ta, qa, h15, h21, hsh31, hpr39], by simp [xoShut, xaShut, xsShut, ta, qa, h15, h21, hsh31, hpr39]⟩)
          · have hpr39n := Int32.not_le.mpr hpr39
            refine z_if_eq hC 48 dX4_shut_42 rfl (fun _ => ?_) (fun h => absurd h (by decide))
            refine z_al3 hC dX4_shut_48 ?_
            refine z_il2 hC dX4_shut_49 ?_
            refine zpf_X4_135 hC ha dX4_shut_50 ?_
            refine z_il2 hC dX4_shut_53 ?_
            exact z_reti hE (by omega) dX4_shut_54 (⟨by simp [xoShut, xaShut, xsShut, ta, qa, h15, h21, hsh31, hpr39n], by simp [xoShut, xaShut, xsShut, ta, qa, h15, h21, hsh31, hpr39n]⟩)
      · refine z_iconst hC dX4_shut_24 zi_m1 ?_
        exact z_reti hE (by omega) dX4_shut_25 (⟨by simp [xoShut, xaShut, xsShut, ta, qa, h15, h21], by simp [xoShut, xaShut, xsShut, ta, qa, h15, h21]⟩)
  · replace na : zin a 8 = false := na
    refine z_ns3 hC dX4_shut_5 (by decide) ?_
    refine z_nl3 hC dX4_shut_6 ?_
    refine z_ifnullN hC 24 dX4_shut_7 rfl ?_
    refine z_iconst hC dX4_shut_24 zi_m1 ?_
    exact z_reti hE (by omega) dX4_shut_25 (⟨by simp [xoShut, xaShut, xsShut, na], by simp [xoShut, xaShut, xsShut, na]⟩)

set_option maxHeartbeats 2000000 in
theorem p_open (l : Launch) (X : zX) (G : zG) {r0 : Nat} (hr0 : r0 = za G 0 0) {vc rc td : Nat} (hI : xI G vc rc td) {a : Int32} : zC l yX4_open cX4_open 4 (some FieldType.int) 4 0 X [.ref r0, .int a] G (zPi (fun r G2 => r = xaOpen G a ∧ G2 = xsOpen G a)) := by
  subst hr0
  refine zC_of zpn_X4 (zcat rfl) (Nat.le_of_ble_eq_true rfl) ?_
  intro Z hC hE
  replace hC : zCtx l X cX4_open RX4 4 4 0 Z := hC
  change Z 0 G 0 [some (.ref (za G 0 0)), some (.int a), none, none] []
  obtain ⟨hvc, v1, v5, hrc, r12, hn0, hn1, htd, t39, htx, hgo, hru⟩ := hI
  refine z_al0 hC dX4_open_0 ?_
  refine z_il1 hC dX4_open_1 ?_
  refine z_cVa1 hC (c_X4_doorAt l X _ (by rfl)) zm_X4_doorAt zi_X4_doorAt zo_0 zk_X4_50 (by omega) (by decide) (by omega) (Nat.le_of_ble_eq_true rfl) dX4_open_2 ?_
  rintro _ _ (⟨aN, ha, rfl, rfl, rfl⟩ | ⟨na, rfl, rfl⟩)
  · have ta : zin (nI aN) 8 = true := zin_t ha (by omega)
    have qa : (nI aN).toNatClampNeg = aN := nI_clamp (by omega)
    refine z_as2 hC dX4_open_5 (by decide) ?_
    refine z_al2 hC dX4_open_6 ?_
    refine z_ifnonnull hC 12 dX4_open_7 rfl ?_
    refine z_al2 hC dX4_open_12 ?_
    refine zgf_X4_135 hC ha dX4_open_13 ?_
    refine z_bipush hC dX4_open_16 zb_m9 ?_
    refine z_icmp_ne hC 24 dX4_open_18 rfl (fun h18 => ?_) (fun h18 => ?_)
    · refine z_al2 hC dX4_open_24 ?_
      refine zgf_X4_135 hC ha dX4_open_25 ?_
      refine z_is3 hC dX4_open_28 (by decide) ?_
      refine z_al2 hC dX4_open_29 ?_
      refine z_bipush hC dX4_open_30 zb_m9 ?_
      refine zpf_X4_135 hC ha dX4_open_32 ?_
      refine z_il3 hC dX4_open_35 ?_
      exact z_reti hE (by omega) dX4_open_36 (⟨by simp [xaOpen, xsOpen, ta, qa, h18], by simp [xaOpen, xsOpen, ta, qa, h18]⟩)
    · refine z_bipush hC dX4_open_21 zb_m2 ?_
      exact z_reti hE (by omega) dX4_open_23 (⟨by simp [xaOpen, xsOpen, ta, qa, h18], by simp [xaOpen, xsOpen, ta, qa, h18]⟩)
  · replace na : zin a 8 = false := na
    refine z_ns2 hC dX4_open_5 (by decide) ?_
    refine z_nl2 hC dX4_open_6 ?_
    refine z_ifnonnullN hC dX4_open_7 ?_
    refine z_iconst hC dX4_open_10 zi_m1 ?_
    exact z_reti hE (by omega) dX4_open_11 (⟨by simp [xaOpen, xsOpen, na], by simp [xaOpen, xsOpen, na]⟩)

set_option maxHeartbeats 2000000 in
theorem p_about (l : Launch) (X : zX) (G : zG) {r0 : Nat} (hr0 : r0 = za G 0 0) {vc rc td : Nat} (hI : xI G vc rc td) {a b : Int32} : zC l yX4_about cX4_about 4 (some FieldType.int) 4 0 X [.ref r0, .int a, .int b] G (zPi (fun r G2 => r = xaAbout G a b ∧ G = G2)) := by
  subst hr0
  refine zC_of zpn_X4 (zcat rfl) (Nat.le_of_ble_eq_true rfl) ?_
  intro Z hC hE
  replace hC : zCtx l X cX4_about RX4 4 4 0 Z := hC
  change Z 0 G 0 [some (.ref (za G 0 0)), some (.int a), some (.int b), none] []
  obtain ⟨hvc, v1, v5, hrc, r12, hn0, hn1, htd, t39, htx, hgo, hru⟩ := hI
  refine z_al0 hC dX4_about_0 ?_
  refine z_il1 hC dX4_about_1 ?_
  refine z_cVa1 hC (c_X4_doorAt l X _ (by rfl)) zm_X4_doorAt zi_X4_doorAt zo_0 zk_X4_50 (by omega) (by decide) (by omega) (Nat.le_of_ble_eq_true rfl) dX4_about_2 ?_
  rintro _ _ (⟨aN, ha, rfl, rfl, rfl⟩ | ⟨na, rfl, rfl⟩)
  · have ta : zin (nI aN) 8 = true := zin_t ha (by omega)
    have qa : (nI aN).toNatClampNeg = aN := nI_clamp (by omega)
    refine z_as3 hC dX4_about_5 (by decide) ?_
    refine z_al3 hC dX4_about_6 ?_
    refine z_ifnonnull hC 12 dX4_about_7 rfl ?_
    refine z_il2 hC dX4_about_12 ?_
    rcases zsw4 b with rfl | rfl | rfl | rfl | hsw
    · refine z_tabIn (off := 31) hC 44 dX4_about_13 (by decide +kernel) (by decide +kernel) (by decide +kernel) rfl ?_
      refine z_al3 hC dX4_about_44 ?_
      refine zgf_X4_135 hC ha dX4_about_45 ?_
      exact z_reti hE (by omega) dX4_about_48 (⟨by simp [xaAbout, ta, qa, zt0, zt1, zt2, zt3, zt4, zne01, zne02, zne03, zne04, zne10, zne12, zne13, zne14, zne20, zne21, zne23, zne24, zne30, zne31, zne32, zne34, zne40, zne41, zne42, zne43], rfl⟩)
    · refine z_tabIn (off := 36) hC 49 dX4_about_13 (by decide +kernel) (by decide +kernel) (by decide +kernel) rfl ?_
      refine z_al3 hC dX4_about_49 ?_
      refine z_al0 hC dX4_about_50 ?_
      refine zgf_X4_34 hC dX4_about_51 ?_
      refine z_cVNi1 hC (c_X0_isShutOn l X _ (by rfl) ha) zm_X0_isShutOn zi_X0_isShutOn (zo_4 ha) zkn_X4_132 (by omega) (by decide) (by omega) (Nat.le_of_ble_eq_true rfl) dX4_about_54 ?_
      rintro _ _ (⟨hsh54, rfl, rfl⟩ | ⟨hsh54, rfl, rfl⟩)
      · refine z_if_eq hC 64 dX4_about_57 rfl (fun h => absurd h (by decide)) (fun _ => ?_)
        refine z_iconst hC dX4_about_60 zi_1 ?_
        refine z_goto hC 65 dX4_about_61 rfl ?_
        exact z_reti hE (by omega) dX4_about_65 (⟨by simp [xaAbout, ta, qa, hsh54, zt0, zt1, zt2, zt3, zt4, zne01, zne02, zne03, zne04, zne10, zne12, zne13, zne14, zne20, zne21, zne23, zne24, zne30, zne31, zne32, zne34, zne40, zne41, zne42, zne43], rfl⟩)
      · refine z_if_eq hC 64 dX4_about_57 rfl (fun _ => ?_) (fun h => absurd h (by decide))
        refine z_iconst hC dX4_about_64 zi_0 ?_
        exact z_reti hE (by omega) dX4_about_65 (⟨by simp [xaAbout, ta, qa, hsh54, zt0, zt1, zt2, zt3, zt4, zne01, zne02, zne03, zne04, zne10, zne12, zne13, zne14, zne20, zne21, zne23, zne24, zne30, zne31, zne32, zne34, zne40, zne41, zne42, zne43], rfl⟩)
    · refine z_tabIn (off := 53) hC 66 dX4_about_13 (by decide +kernel) (by decide +kernel) (by decide +kernel) rfl ?_
      refine z_al3 hC dX4_about_66 ?_
      refine z_cVNi0 hC (c_X0_latestPromise l X _ (by rfl) ha) zm_X0_latestPromise zi_X0_latestPromise (zo_4 ha) zkn_X4_186 (by omega) (by decide) (by omega) (Nat.le_of_ble_eq_true rfl) dX4_about_67 ?_
      rintro _ _ ⟨rfl, rfl⟩
      exact z_reti hE (by omega) dX4_about_70 (⟨by simp [xaAbout, ta, qa, zt0, zt1, zt2, zt3, zt4, zne01, zne02, zne03, zne04, zne10, zne12, zne13, zne14, zne20, zne21, zne23, zne24, zne30, zne31, zne32, zne34, zne40, zne41, zne42, zne43], rfl⟩)
    · refine z_tabIn (off := 58) hC 71 dX4_about_13 (by decide +kernel) (by decide +kernel) (by decide +kernel) rfl ?_
      refine z_al3 hC dX4_about_71 ?_
      refine zgf_X4_138 hC ha dX4_about_72 ?_
      exact z_reti hE (by omega) dX4_about_75 (⟨by simp [xaAbout, ta, qa, zt0, zt1, zt2, zt3, zt4, zne01, zne02, zne03, zne04, zne10, zne12, zne13, zne14, zne20, zne21, zne23, zne24, zne30, zne31, zne32, zne34, zne40, zne41, zne42, zne43], rfl⟩)
    · refine z_tabOut hC 76 dX4_about_13 hsw rfl ?_
      refine z_iconst hC dX4_about_76 zi_m1 ?_
      exact z_reti hE (by omega) dX4_about_77 (⟨by unfold xaAbout; rw [if_pos ta, if_pos hsw], rfl⟩)
  · replace na : zin a 8 = false := na
    refine z_ns3 hC dX4_about_5 (by decide) ?_
    refine z_nl3 hC dX4_about_6 ?_
    refine z_ifnonnullN hC dX4_about_7 ?_
    refine z_iconst hC dX4_about_10 zi_m1 ?_
    exact z_reti hE (by omega) dX4_about_11 (⟨by simp [xaAbout, na, zt0, zt1, zt2, zt3, zt4, zne01, zne02, zne03, zne04, zne10, zne12, zne13, zne14, zne20, zne21, zne23, zne24, zne30, zne31, zne32, zne34, zne40, zne41, zne42, zne43], rfl⟩)

set_option maxHeartbeats 2000000 in
theorem p_harmed (l : Launch) (X : zX) (G : zG) {r0 : Nat} (hr0 : r0 = za G 0 0) {vc rc td : Nat} (hI : xI G vc rc td) {a b : Int32} : zC l yX4_harmed cX4_harmed 8 (some FieldType.int) 3 0 X [.ref r0, .int a, .int b] G (zPi (fun r G2 => r = xaHarmed G a b ∧ G = G2)) := by
  subst hr0
  refine zC_of zpn_X4 (zcat rfl) (Nat.le_of_ble_eq_true rfl) ?_
  intro Z hC hE
  replace hC : zCtx l X cX4_harmed RX4 8 3 0 Z := hC
  change Z 0 G 0 [some (.ref (za G 0 0)), some (.int a), some (.int b), none, none, none, none, none] []
  obtain ⟨hvc, v1, v5, hrc, r12, hn0, hn1, htd, t39, htx, hgo, hru⟩ := hI
  refine z_il1 hC dX4_harmed_0 ?_
  refine z_cSi1 hC (c_X4_isFace l X _) zm_X4_isFace zi_X4_isFace zk_X4_80 (by omega) (by decide) (by omega) (Nat.le_of_ble_eq_true rfl) dX4_harmed_1 ?_
  rintro _ _ (⟨aN, ha, rfl, rfl, rfl⟩ | ⟨na, rfl, rfl⟩)
  · have ta : zin (nI aN) 8 = true := zin_t ha (by omega)
    have qa : (nI aN).toNatClampNeg = aN := nI_clamp (by omega)
    refine z_if_eq hC 16 dX4_harmed_4 rfl (fun h => absurd h (by decide)) (fun _ => ?_)
    refine z_il2 hC dX4_harmed_7 ?_
    refine z_bipush hC dX4_harmed_8 zb_40 ?_
    refine z_cSi2 hC (c_X4_isWithin l X _ (by decide)) zm_X4_isWithin zi_X4_isWithin zk_X4_58 (by omega) (by decide) (by omega) (Nat.le_of_ble_eq_true rfl) dX4_harmed_10 ?_
    rintro _ _ (⟨bN, hb, rfl, rfl, rfl⟩ | ⟨nb, rfl, rfl⟩)
    · have tb : zin (nI bN) 41 = true := zin_t hb (by omega)
      have qb : (nI bN).toNatClampNeg = bN := nI_clamp (by omega)
      refine z_if_ne hC 18 dX4_harmed_13 rfl (fun _ => ?_) (fun h => absurd h (by decide))
      refine z_iconst hC dX4_harmed_18 zi_0 ?_
      refine z_is3 hC dX4_harmed_19 (by decide) ?_
      refine z_al0 hC dX4_harmed_20 ?_
      refine zgf_X4_17 hC dX4_harmed_21 ?_
      refine z_as4 hC dX4_harmed_24 (by decide) ?_
      refine z_al4 hC dX4_harmed_26 ?_
      refine zlen_2 hC dX4_harmed_28 ?_
      refine z_is5 hC dX4_harmed_29 (by decide) ?_
      refine z_iconst hC dX4_harmed_31 zi_0 ?_
      refine z_is6 hC dX4_harmed_32 (by decide) ?_
      refine z_loop (N := 6) (fun n => Z 0 G 34 [some (.ref (za G 0 0)), some (.int (nI aN)), some (.int (nI bN)), some (.int (nI (ctF (fun h => xHm G (nI aN) bN h) n))), some (.ref (za G 2 0)), some (.int (nI 6)), some (.int (nI n)), none] []) ?_ ?_ 0 (Nat.zero_le _)
      · change Z 0 G 34 [some (.ref (za G 0 0)), some (.int (nI aN)), some (.int (nI bN)), some (.int (nI (ctF (fun h => xHm G (nI aN) bN h) 6))), some (.ref (za G 2 0)), some (.int (nI 6)), some (.int (nI 6)), none] []
        refine z_il6 hC dX4_harmed_34 ?_
        refine z_il5 hC dX4_harmed_36 ?_
        refine z_icmp_ge hC 79 dX4_harmed_38 rfl (fun _ => ?_) (fun h => absurd (nI_le (Nat.le_refl _) (by omega)) h)
        refine z_il3 hC dX4_harmed_79 ?_
        exact z_reti hE (by omega) dX4_harmed_80 (⟨by simp [xaHarmed, xHmd, ta, qa, tb, qb], rfl⟩)
      · intro n hn ih
        change Z 0 G 34 [some (.ref (za G 0 0)), some (.int (nI aN)), some (.int (nI bN)), some (.int (nI (ctF (fun h => xHm G (nI aN) bN h) n))), some (.ref (za G 2 0)), some (.int (nI 6)), some (.int (nI n)), none] []
        replace ih : Z 0 G 34 [some (.ref (za G 0 0)), some (.int (nI aN)), some (.int (nI bN)), some (.int (nI (ctF (fun h => xHm G (nI aN) bN h) (n + 1)))), some (.ref (za G 2 0)), some (.int (nI 6)), some (.int (nI (n + 1))), none] [] := ih
        refine z_il6 hC dX4_harmed_34 ?_
        refine z_il5 hC dX4_harmed_36 ?_
        refine z_icmp_ge hC 79 dX4_harmed_38 rfl (fun h => absurd h (nI_ge hn (by omega))) (fun _ => ?_)
        obtain ⟨sz, h12, hsz, hT⟩ := htx n hn
        refine z_al4 hC dX4_harmed_41 ?_
        refine z_il6 hC dX4_harmed_43 ?_
        refine zal_2 hC (hn) dX4_harmed_45 ?_
        refine z_as7 hC dX4_harmed_46 (by decide) ?_
        refine z_al7 hC dX4_harmed_48 ?_
        refine zgf_X4_83 hC hn dX4_harmed_50 ?_
        refine z_il1 hC dX4_harmed_53 ?_
        refine z_cVNi1 hC (c_X3_used l X _ (by rfl) hn hsz h12) zm_X3_used zi_X3_used (zo_10 hn) zkn_X4_113 (by omega) (by decide) (by omega) (Nat.le_of_ble_eq_true rfl) dX4_harmed_54 ?_
        rintro _ _ ⟨rfl, rfl⟩
        refine z_if_ne hC 70 dX4_harmed_57 rfl (fun h57 => ?_) (fun h57 => ?_)
        · refine z_inc3 hC dX4_harmed_70 (by decide) ?_
          refine z_inc6 hC dX4_harmed_73 (by decide) ?_
          refine z_goto hC 34 dX4_harmed_76 rfl ?_
          refine z_dr7 hC ?_
          rw [ctF_t (by simp [xHm, h57])] at ih
          exact ih
        · refine z_al7 hC dX4_harmed_60 ?_
          refine z_il1 hC dX4_harmed_62 ?_
          refine z_il2 hC dX4_harmed_63 ?_
          refine z_cVNi2 hC (c_X1_calledAround l X _ (by rfl) hn (by omega) (by omega)) zm_X1_calledAround zi_X1_calledAround (zo_7 hn) zkn_X4_189 (by omega) (by decide) (by omega) (Nat.le_of_ble_eq_true rfl) dX4_harmed_64 ?_
          rintro _ _ (⟨hca64, rfl, rfl⟩ | ⟨hca64, rfl, rfl⟩)
          · refine z_if_eq hC 73 dX4_harmed_67 rfl (fun h => absurd h (by decide)) (fun _ => ?_)
            refine z_inc3 hC dX4_harmed_70 (by decide) ?_
            refine z_inc6 hC dX4_harmed_73 (by decide) ?_
            refine z_goto hC 34 dX4_harmed_76 rfl ?_
            refine z_dr7 hC ?_
            rw [ctF_t (by simp [xHm, qa, hca64])] at ih
            exact ih
          · refine z_if_eq hC 73 dX4_harmed_67 rfl (fun _ => ?_) (fun h => absurd h (by decide))
            refine z_inc6 hC dX4_harmed_73 (by decide) ?_
            refine z_goto hC 34 dX4_harmed_76 rfl ?_
            refine z_dr7 hC ?_
            rw [ctF_f (by simp [xHm, h57, qa]; exact Int32.not_lt.mp hca64)] at ih
            exact ih
    · replace nb : zin b 41 = false := nb
      refine z_if_ne hC 18 dX4_harmed_13 rfl (fun h => absurd h (by decide)) (fun _ => ?_)
      refine z_iconst hC dX4_harmed_16 zi_m1 ?_
      exact z_reti hE (by omega) dX4_harmed_17 (⟨by simp [xaHarmed, xHmd, ta, qa, nb], rfl⟩)
  · replace na : zin a 8 = false := na
    refine z_if_eq hC 16 dX4_harmed_4 rfl (fun _ => ?_) (fun h => absurd h (by decide))
    refine z_iconst hC dX4_harmed_16 zi_m1 ?_
    exact z_reti hE (by omega) dX4_harmed_17 (⟨by simp [xaHarmed, xHmd, na], rfl⟩)

set_option maxHeartbeats 2000000 in
theorem c_X4_harmedT (l : Launch) (X : zX) (G : zG) {r0 : Nat} (hr0 : r0 = za G 0 0) {aN bN : Nat} (ha : aN < 8) (hb : bN ≤ 40) (htx : ∀ h, h < 6 → ∃ n, n ≤ 12 ∧ zg G 10 h 6 = nI n ∧ zTx G h n) : zC l yX4_harmed cX4_harmed 8 (some FieldType.int) 3 0 X [.ref r0, .int (nI aN), .int (nI bN)] G (zPi (fun r G2 => r = xHmd G (nI aN) bN ∧ G = G2)) := by
  subst hr0
  refine zC_of zpn_X4 (zcat rfl) (Nat.le_of_ble_eq_true rfl) ?_
  intro Z hC hE
  replace hC : zCtx l X cX4_harmed RX4 8 3 0 Z := hC
  change Z 0 G 0 [some (.ref (za G 0 0)), some (.int (nI aN)), some (.int (nI bN)), none, none, none, none, none] []
  have qa : (nI aN).toNatClampNeg = aN := nI_clamp (by omega)
  refine z_il1 hC dX4_harmed_0 ?_
  refine z_cSi1 hC (c_X4_isFaceT l X _ (by omega)) zm_X4_isFace zi_X4_isFace zk_X4_80 (by omega) (by decide) (by omega) (Nat.le_of_ble_eq_true rfl) dX4_harmed_1 ?_
  rintro _ _ ⟨rfl, rfl⟩
  refine z_if_eq hC 16 dX4_harmed_4 rfl (fun h => absurd h (by decide)) (fun _ => ?_)
  refine z_il2 hC dX4_harmed_7 ?_
  refine z_bipush hC dX4_harmed_8 zb_40 ?_
  refine z_cSi2 hC (c_X4_isWithinT l X _ (by omega) (by omega)) zm_X4_isWithin zi_X4_isWithin zk_X4_58 (by omega) (by decide) (by omega) (Nat.le_of_ble_eq_true rfl) dX4_harmed_10 ?_
  rintro _ _ ⟨rfl, rfl⟩
  refine z_if_ne hC 18 dX4_harmed_13 rfl (fun _ => ?_) (fun h => absurd h (by decide))
  refine z_iconst hC dX4_harmed_18 zi_0 ?_
  refine z_is3 hC dX4_harmed_19 (by decide) ?_
  refine z_al0 hC dX4_harmed_20 ?_
  refine zgf_X4_17 hC dX4_harmed_21 ?_
  refine z_as4 hC dX4_harmed_24 (by decide) ?_
  refine z_al4 hC dX4_harmed_26 ?_
  refine zlen_2 hC dX4_harmed_28 ?_
  refine z_is5 hC dX4_harmed_29 (by decide) ?_
  refine z_iconst hC dX4_harmed_31 zi_0 ?_
  refine z_is6 hC dX4_harmed_32 (by decide) ?_
  refine z_loop (N := 6) (fun n => Z 0 G 34 [some (.ref (za G 0 0)), some (.int (nI aN)), some (.int (nI bN)), some (.int (nI (ctF (fun h => xHm G (nI aN) bN h) n))), some (.ref (za G 2 0)), some (.int (nI 6)), some (.int (nI n)), none] []) ?_ ?_ 0 (Nat.zero_le _)
  · change Z 0 G 34 [some (.ref (za G 0 0)), some (.int (nI aN)), some (.int (nI bN)), some (.int (nI (ctF (fun h => xHm G (nI aN) bN h) 6))), some (.ref (za G 2 0)), some (.int (nI 6)), some (.int (nI 6)), none] []
    refine z_il6 hC dX4_harmed_34 ?_
    refine z_il5 hC dX4_harmed_36 ?_
    refine z_icmp_ge hC 79 dX4_harmed_38 rfl (fun _ => ?_) (fun h => absurd (nI_le (Nat.le_refl _) (by omega)) h)
    refine z_il3 hC dX4_harmed_79 ?_
    exact z_reti hE (by omega) dX4_harmed_80 (⟨rfl, rfl⟩)
  · intro n hn ih
    change Z 0 G 34 [some (.ref (za G 0 0)), some (.int (nI aN)), some (.int (nI bN)), some (.int (nI (ctF (fun h => xHm G (nI aN) bN h) n))), some (.ref (za G 2 0)), some (.int (nI 6)), some (.int (nI n)), none] []
    replace ih : Z 0 G 34 [some (.ref (za G 0 0)), some (.int (nI aN)), some (.int (nI bN)), some (.int (nI (ctF (fun h => xHm G (nI aN) bN h) (n + 1)))), some (.ref (za G 2 0)), some (.int (nI 6)), some (.int (nI (n + 1))), none] [] := ih
    refine z_il6 hC dX4_harmed_34 ?_
    refine z_il5 hC dX4_harmed_36 ?_
    refine z_icmp_ge hC 79 dX4_harmed_38 rfl (fun h => absurd h (nI_ge hn (by omega))) (fun _ => ?_)
    obtain ⟨sz, h12, hsz, hT⟩ := htx n hn
    refine z_al4 hC dX4_harmed_41 ?_
    refine z_il6 hC dX4_harmed_43 ?_
    refine zal_2 hC (hn) dX4_harmed_45 ?_
    refine z_as7 hC dX4_harmed_46 (by decide) ?_
    refine z_al7 hC dX4_harmed_48 ?_
    refine zgf_X4_83 hC hn dX4_harmed_50 ?_
    refine z_il1 hC dX4_harmed_53 ?_
    refine z_cVNi1 hC (c_X3_used l X _ (by rfl) hn hsz h12) zm_X3_used zi_X3_used (zo_10 hn) zkn_X4_113 (by omega) (by decide) (by omega) (Nat.le_of_ble_eq_true rfl) dX4_harmed_54 ?_
    rintro _ _ ⟨rfl, rfl⟩
    refine z_if_ne hC 70 dX4_harmed_57 rfl (fun h57 => ?_) (fun h57 => ?_)
    · refine z_inc3 hC dX4_harmed_70 (by decide) ?_
      refine z_inc6 hC dX4_harmed_73 (by decide) ?_
      refine z_goto hC 34 dX4_harmed_76 rfl ?_
      refine z_dr7 hC ?_
      rw [ctF_t (by simp [xHm, h57])] at ih
      exact ih
    · refine z_al7 hC dX4_harmed_60 ?_
      refine z_il1 hC dX4_harmed_62 ?_
      refine z_il2 hC dX4_harmed_63 ?_
      refine z_cVNi2 hC (c_X1_calledAround l X _ (by rfl) hn (by omega) (by omega)) zm_X1_calledAround zi_X1_calledAround (zo_7 hn) zkn_X4_189 (by omega) (by decide) (by omega) (Nat.le_of_ble_eq_true rfl) dX4_harmed_64 ?_
      rintro _ _ (⟨hca64, rfl, rfl⟩ | ⟨hca64, rfl, rfl⟩)
      · refine z_if_eq hC 73 dX4_harmed_67 rfl (fun h => absurd h (by decide)) (fun _ => ?_)
        refine z_inc3 hC dX4_harmed_70 (by decide) ?_
        refine z_inc6 hC dX4_harmed_73 (by decide) ?_
        refine z_goto hC 34 dX4_harmed_76 rfl ?_
        refine z_dr7 hC ?_
        rw [ctF_t (by simp [xHm, qa, hca64])] at ih
        exact ih
      · refine z_if_eq hC 73 dX4_harmed_67 rfl (fun _ => ?_) (fun h => absurd h (by decide))
        refine z_inc6 hC dX4_harmed_73 (by decide) ?_
        refine z_goto hC 34 dX4_harmed_76 rfl ?_
        refine z_dr7 hC ?_
        rw [ctF_f (by simp [xHm, h57, qa]; exact Int32.not_lt.mp hca64)] at ih
        exact ih

set_option maxHeartbeats 2000000 in
theorem p_ready (l : Launch) (X : zX) (G : zG) {r0 : Nat} (hr0 : r0 = za G 0 0) {vc rc td : Nat} (hI : xI G vc rc td) {a : Int32} : zC l yX4_ready cX4_ready 4 (some FieldType.int) 4 0 X [.ref r0, .int a] G (zPi (fun r G2 => r = xaReady G td a ∧ G = G2)) := by
  subst hr0
  refine zC_of zpn_X4 (zcat rfl) (Nat.le_of_ble_eq_true rfl) ?_
  intro Z hC hE
  replace hC : zCtx l X cX4_ready RX4 4 4 0 Z := hC
  change Z 0 G 0 [some (.ref (za G 0 0)), some (.int a), none, none] []
  obtain ⟨hvc, v1, v5, hrc, r12, hn0, hn1, htd, t39, htx, hgo, hru⟩ := hI
  refine z_al0 hC dX4_ready_0 ?_
  refine z_il1 hC dX4_ready_1 ?_
  refine z_cVa1 hC (c_X4_doorAt l X _ (by rfl)) zm_X4_doorAt zi_X4_doorAt zo_0 zk_X4_50 (by omega) (by decide) (by omega) (Nat.le_of_ble_eq_true rfl) dX4_ready_2 ?_
  rintro _ _ (⟨aN, ha, rfl, rfl, rfl⟩ | ⟨na, rfl, rfl⟩)
  · have ta : zin (nI aN) 8 = true := zin_t ha (by omega)
    have qa : (nI aN).toNatClampNeg = aN := nI_clamp (by omega)
    refine z_as2 hC dX4_ready_5 (by decide) ?_
    refine z_al2 hC dX4_ready_6 ?_
    refine z_ifnonnull hC 12 dX4_ready_7 rfl ?_
    refine z_al0 hC dX4_ready_12 ?_
    refine zgf_X4_34 hC dX4_ready_13 ?_
    refine z_top htd ?_
    refine z_is3 hC dX4_ready_16 (by decide) ?_
    refine z_loop (N := 41) (fun n => fsT (fun d => xRd G (nI aN) d) td (41 - td) = fsT (fun d => xRd G (nI aN) d) n (41 - n) → Z 0 G 17 [some (.ref (za G 0 0)), some (.int (nI aN)), some (.ref (za G 4 aN)), some (.int (nI n))] []) ?_ ?_ td (by omega) rfl
    · intro hv
      change Z 0 G 17 [some (.ref (za G 0 0)), some (.int (nI aN)), some (.ref (za G 4 aN)), some (.int (nI 41))] []
      refine z_il3 hC dX4_ready_17 ?_
      refine z_bipush hC dX4_ready_18 zb_40 ?_
      refine z_icmp_gt hC 48 dX4_ready_20 rfl (fun _ => ?_) (fun h => absurd (nI_lt (Nat.lt_succ_self _) (by omega)) h)
      refine z_bipush hC dX4_ready_48 zb_m9 ?_
      exact z_reti hE (by omega) dX4_ready_50 (⟨by unfold xaReady; rw [if_pos ta, hv]; rfl, rfl⟩)
    · intro n hn ih hv
      change Z 0 G 17 [some (.ref (za G 0 0)), some (.int (nI aN)), some (.ref (za G 4 aN)), some (.int (nI n))] []
      replace ih : fsT (fun d => xRd G (nI aN) d) td (41 - td) = fsT (fun d => xRd G (nI aN) d) (n + 1) (41 - (n + 1)) → Z 0 G 17 [some (.ref (za G 0 0)), some (.int (nI aN)), some (.ref (za G 4 aN)), some (.int (nI (n + 1)))] [] := ih
      refine z_il3 hC dX4_ready_17 ?_
      refine z_bipush hC dX4_ready_18 zb_40 ?_
      refine z_icmp_gt hC 48 dX4_ready_20 rfl (fun h => absurd h (Int32.not_lt.mpr (nI_le (Nat.le_of_lt_succ hn) (by omega)))) (fun _ => ?_)
      refine z_al0 hC dX4_ready_23 ?_
      refine z_il1 hC dX4_ready_24 ?_
      refine z_il3 hC dX4_ready_25 ?_
      refine z_cVi2 hC (c_X4_harmedT l X _ (by rfl) ha (by omega) htx) zm_X4_harmed zi_X4_harmed zo_0 zk_X4_192 (by omega) (by decide) (by omega) (Nat.le_of_ble_eq_true rfl) dX4_ready_26 ?_
      rintro _ _ ⟨rfl, rfl⟩
      refine z_if_ne hC 42 dX4_ready_29 rfl (fun h29 => ?_) (fun h29 => ?_)
      · refine z_inc3 hC dX4_ready_42 (by decide) ?_
        refine z_goto hC 17 dX4_ready_45 rfl ?_
        exact ih (hv.trans ((fsT_s hn).trans (if_neg (by simp [xRd, h29]))))
      · refine z_al2 hC dX4_ready_32 ?_
        refine z_il3 hC dX4_ready_33 ?_
        refine z_cVNi1 hC (c_X0_isPromised l X _ (by rfl) ha) zm_X0_isPromised zi_X0_isPromised (zo_4 ha) zkn_X4_183 (by omega) (by decide) (by omega) (Nat.le_of_ble_eq_true rfl) dX4_ready_34 ?_
        rintro _ _ (⟨hpr34, rfl, rfl⟩ | ⟨hpr34, rfl, rfl⟩)
        · refine z_if_ne hC 42 dX4_ready_37 rfl (fun _ => ?_) (fun h => absurd h (by decide))
          refine z_inc3 hC dX4_ready_42 (by decide) ?_
          refine z_goto hC 17 dX4_ready_45 rfl ?_
          exact ih (hv.trans ((fsT_s hn).trans (if_neg (by simp [xRd, qa, Int32.not_lt.mpr hpr34]))))
        · have hpr34n := Int32.not_le.mpr hpr34
          refine z_if_ne hC 42 dX4_ready_37 rfl (fun h => absurd h (by decide)) (fun _ => ?_)
          refine z_il3 hC dX4_ready_40 ?_
          exact z_reti hE (by omega) dX4_ready_41 (⟨by unfold xaReady; rw [if_pos ta, hv, fsT_s hn, if_pos (show xRd G (nI aN) n = true from decide_eq_true ⟨h29, by rw [qa]; exact hpr34⟩)], rfl⟩)
  · replace na : zin a 8 = false := na
    refine z_ns2 hC dX4_ready_5 (by decide) ?_
    refine z_nl2 hC dX4_ready_6 ?_
    refine z_ifnonnullN hC dX4_ready_7 ?_
    refine z_iconst hC dX4_ready_10 zi_m1 ?_
    exact z_reti hE (by omega) dX4_ready_11 (⟨by simp [xaReady, na], rfl⟩)

set_option maxHeartbeats 2000000 in
theorem p_set (l : Launch) (X : zX) (G : zG) {r0 : Nat} (hr0 : r0 = za G 0 0) {vc rc td : Nat} (hI : xI G vc rc td) {a b c : Int32} : zC l yX4_set cX4_set 5 (some FieldType.int) 4 0 X [.ref r0, .int a, .int b, .int c] G (zPi (fun r G2 => r = xaSet G a b c ∧ G2 = xsSet G a b c)) := by
  subst hr0
  refine zC_of zpn_X4 (zcat rfl) (Nat.le_of_ble_eq_true rfl) ?_
  intro Z hC hE
  replace hC : zCtx l X cX4_set RX4 5 4 0 Z := hC
  change Z 0 G 0 [some (.ref (za G 0 0)), some (.int a), some (.int b), some (.int c), none] []
  obtain ⟨hvc, v1, v5, hrc, r12, hn0, hn1, htd, t39, htx, hgo, hru⟩ := hI
  refine z_il3 hC dX4_set_0 ?_
  refine z_sipush hC dX4_set_1 zs_1000 ?_
  refine z_cSi2 hC (c_X4_isWithin l X _ (by decide)) zm_X4_isWithin zi_X4_isWithin zk_X4_58 (by omega) (by decide) (by omega) (Nat.le_of_ble_eq_true rfl) dX4_set_4 ?_
  rintro _ _ (⟨cN, hc, rfl, rfl, rfl⟩ | ⟨nc, rfl, rfl⟩)
  · have tc : zin (nI cN) 1001 = true := zin_t hc (by omega)
    have qc : (nI cN).toNatClampNeg = cN := nI_clamp (by omega)
    refine z_if_ne hC 12 dX4_set_7 rfl (fun _ => ?_) (fun h => absurd h (by decide))
    refine z_il1 hC dX4_set_12 ?_
    rcases zsw3 a with rfl | rfl | rfl | hsw
    · refine z_tabIn (off := 27) hC 40 dX4_set_13 (by decide +kernel) (by decide +kernel) (by decide +kernel) rfl ?_
      refine z_al0 hC dX4_set_40 ?_
      refine z_il2 hC dX4_set_41 ?_
      refine z_cVa1 hC (c_X4_doorAt l X _ (by rfl)) zm_X4_doorAt zi_X4_doorAt zo_0 zk_X4_50 (by omega) (by decide) (by omega) (Nat.le_of_ble_eq_true rfl) dX4_set_42 ?_
      rintro _ _ (⟨bN, hb, rfl, rfl, rfl⟩ | ⟨nb, rfl, rfl⟩)
      · have tb : zin (nI bN) 8 = true := zin_t hb (by omega)
        have qb : (nI bN).toNatClampNeg = bN := nI_clamp (by omega)
        refine z_il3 hC dX4_set_45 ?_
        refine z_cSi2 hC (c_X4_becomeCost l X _ hb) zm_X4_becomeCost zi_X4_becomeCost zk_X4_195 (by omega) (by decide) (by omega) (Nat.le_of_ble_eq_true rfl) dX4_set_46 ?_
        rintro _ _ ⟨rfl, rfl⟩
        exact z_reti hE (by omega) dX4_set_49 (⟨by simp [xaSet, xsSet, tc, qc, tb, qb, zt0, zt1, zt2, zt3, zt4, zne01, zne02, zne03, zne04, zne10, zne12, zne13, zne14, zne20, zne21, zne23, zne24, zne30, zne31, zne32, zne34, zne40, zne41, zne42, zne43], by simp [xaSet, xsSet, tc, qc, tb, qb, zt0, zt1, zt2, zt3, zt4, zne01, zne02, zne03, zne04, zne10, zne12, zne13, zne14, zne20, zne21, zne23, zne24, zne30, zne31, zne32, zne34, zne40, zne41, zne42, zne43]⟩)
      · replace nb : zin b 8 = false := nb
        refine z_il3 hC dX4_set_45 ?_
        refine z_cSi2 hC (c_X4_becomeCostN l X _) zm_X4_becomeCost zi_X4_becomeCost zk_X4_195 (by omega) (by decide) (by omega) (Nat.le_of_ble_eq_true rfl) dX4_set_46 ?_
        rintro _ _ ⟨rfl, rfl⟩
        exact z_reti hE (by omega) dX4_set_49 (⟨by simp [xaSet, xsSet, tc, qc, nb, zt0, zt1, zt2, zt3, zt4, zne01, zne02, zne03, zne04, zne10, zne12, zne13, zne14, zne20, zne21, zne23, zne24, zne30, zne31, zne32, zne34, zne40, zne41, zne42, zne43], by simp [xaSet, xsSet, tc, qc, nb, zt0, zt1, zt2, zt3, zt4, zne01, zne02, zne03, zne04, zne10, zne12, zne13, zne14, zne20, zne21, zne23, zne24, zne30, zne31, zne32, zne34, zne40, zne41, zne42, zne43]⟩)
    · refine z_tabIn (off := 37) hC 50 dX4_set_13 (by decide +kernel) (by decide +kernel) (by decide +kernel) rfl ?_
      refine z_al0 hC dX4_set_50 ?_
      refine z_il2 hC dX4_set_51 ?_
      refine z_cVa1 hC (c_X4_houseAt l X _ (by rfl)) zm_X4_houseAt zi_X4_houseAt zo_0 zk_X4_73 (by omega) (by decide) (by omega) (Nat.le_of_ble_eq_true rfl) dX4_set_52 ?_
      rintro _ _ (⟨bN, hb, rfl, rfl, rfl⟩ | ⟨nb, rfl, rfl⟩)
      · have tb : zin (nI bN) 6 = true := zin_t hb (by omega)
        have qb : (nI bN).toNatClampNeg = bN := nI_clamp (by omega)
        obtain ⟨sz, h12, hsz, hT⟩ := htx bN hb
        obtain ⟨vv, hvv, hv⟩ := hgo bN hb
        have qsz : xSz G bN = sz := by unfold xSz; rw [hsz]; exact nI_clamp (by omega)
        have qv : (zg G 7 bN 4).toNatClampNeg = vv := by rw [hv]; exact nI_clamp (by omega)
        refine z_il3 hC dX4_set_55 ?_
        refine z_cSi2 hC (c_X4_becomeHours l X _ hb) zm_X4_becomeHours zi_X4_becomeHours zk_X4_199 (by omega) (by decide) (by omega) (Nat.le_of_ble_eq_true rfl) dX4_set_56 ?_
        rintro _ _ ⟨rfl, rfl⟩
        exact z_reti hE (by omega) dX4_set_59 (⟨by simp [xaSet, xsSet, tc, qc, tb, qb, qsz, qv, zt0, zt1, zt2, zt3, zt4, zne01, zne02, zne03, zne04, zne10, zne12, zne13, zne14, zne20, zne21, zne23, zne24, zne30, zne31, zne32, zne34, zne40, zne41, zne42, zne43], by simp [xaSet, xsSet, tc, qc, tb, qb, qsz, qv, zt0, zt1, zt2, zt3, zt4, zne01, zne02, zne03, zne04, zne10, zne12, zne13, zne14, zne20, zne21, zne23, zne24, zne30, zne31, zne32, zne34, zne40, zne41, zne42, zne43]⟩)
      · replace nb : zin b 6 = false := nb
        refine z_il3 hC dX4_set_55 ?_
        refine z_cSi2 hC (c_X4_becomeHoursN l X _) zm_X4_becomeHours zi_X4_becomeHours zk_X4_199 (by omega) (by decide) (by omega) (Nat.le_of_ble_eq_true rfl) dX4_set_56 ?_
        rintro _ _ ⟨rfl, rfl⟩
        exact z_reti hE (by omega) dX4_set_59 (⟨by simp [xaSet, xsSet, tc, qc, nb, zt0, zt1, zt2, zt3, zt4, zne01, zne02, zne03, zne04, zne10, zne12, zne13, zne14, zne20, zne21, zne23, zne24, zne30, zne31, zne32, zne34, zne40, zne41, zne42, zne43], by simp [xaSet, xsSet, tc, qc, nb, zt0, zt1, zt2, zt3, zt4, zne01, zne02, zne03, zne04, zne10, zne12, zne13, zne14, zne20, zne21, zne23, zne24, zne30, zne31, zne32, zne34, zne40, zne41, zne42, zne43]⟩)
    · refine z_tabIn (off := 47) hC 60 dX4_set_13 (by decide +kernel) (by decide +kernel) (by decide +kernel) rfl ?_
      refine z_al0 hC dX4_set_60 ?_
      refine zgf_X4_37 hC dX4_set_61 ?_
      refine z_is4 hC dX4_set_64 (by decide) ?_
      refine z_al0 hC dX4_set_66 ?_
      refine z_il3 hC dX4_set_67 ?_
      refine zpf_X4_37 hC dX4_set_68 ?_
      refine z_il4 hC dX4_set_71 ?_
      exact z_reti hE (by omega) dX4_set_73 (⟨by simp [xaSet, xsSet, tc, qc, zt0, zt1, zt2, zt3, zt4, zne01, zne02, zne03, zne04, zne10, zne12, zne13, zne14, zne20, zne21, zne23, zne24, zne30, zne31, zne32, zne34, zne40, zne41, zne42, zne43], by simp [xaSet, xsSet, tc, qc, zt0, zt1, zt2, zt3, zt4, zne01, zne02, zne03, zne04, zne10, zne12, zne13, zne14, zne20, zne21, zne23, zne24, zne30, zne31, zne32, zne34, zne40, zne41, zne42, zne43]⟩)
    · refine z_tabOut hC 74 dX4_set_13 hsw rfl ?_
      refine z_iconst hC dX4_set_74 zi_m1 ?_
      exact z_reti hE (by omega) dX4_set_75 (⟨by unfold xaSet; rw [if_pos tc, if_pos hsw], by unfold xsSet; rw [if_pos tc, if_pos hsw]⟩)
  · replace nc : zin c 1001 = false := nc
    refine z_if_ne hC 12 dX4_set_7 rfl (fun h => absurd h (by decide)) (fun _ => ?_)
    refine z_iconst hC dX4_set_10 zi_m1 ?_
    exact z_reti hE (by omega) dX4_set_11 (⟨by simp [xaSet, xsSet, nc, zt0, zt1, zt2, zt3, zt4, zne01, zne02, zne03, zne04, zne10, zne12, zne13, zne14, zne20, zne21, zne23, zne24, zne30, zne31, zne32, zne34, zne40, zne41, zne42, zne43], by simp [xaSet, xsSet, nc, zt0, zt1, zt2, zt3, zt4, zne01, zne02, zne03, zne04, zne10, zne12, zne13, zne14, zne20, zne21, zne23, zne24, zne30, zne31, zne32, zne34, zne40, zne41, zne42, zne43]⟩)

set_option maxHeartbeats 2000000 in
theorem p_plan (l : Launch) (X : zX) (G : zG) {r0 : Nat} (hr0 : r0 = za G 0 0) {vc rc td : Nat} (hI : xI G vc rc td) {a : Int32} : zC l yX4_plan cX4_plan 6 (some FieldType.int) 5 0 X [.ref r0, .int a] G (zPi (fun r G2 => r = xaPlan G a ∧ G = G2)) := by
  subst hr0
  refine zC_of zpn_X4 (zcat rfl) (Nat.le_of_ble_eq_true rfl) ?_
  intro Z hC hE
  replace hC : zCtx l X cX4_plan RX4 6 5 0 Z := hC
  change Z 0 G 0 [some (.ref (za G 0 0)), some (.int a), none, none, none, none] []
  obtain ⟨hvc, v1, v5, hrc, r12, hn0, hn1, htd, t39, htx, hgo, hru⟩ := hI
  have hall : ∀ h, h < 6 → ∃ n, n ≤ 12 ∧ zg G 10 h 6 = nI n := fun h hh => by obtain ⟨n, h1, h2, _⟩ := htx h hh; exact ⟨n, h1, h2⟩
  refine z_il1 hC dX4_plan_0 ?_
  refine z_if_eq hC 11 dX4_plan_1 rfl (fun h1 => ?_) (fun h1 => ?_)
  · refine z_iconst hC dX4_plan_11 zi_0 ?_
    refine z_is2 hC dX4_plan_12 (by decide) ?_
    refine z_iconst hC dX4_plan_13 zi_0 ?_
    refine z_is3 hC dX4_plan_14 (by decide) ?_
    refine z_iconst hC dX4_plan_15 zi_0 ?_
    refine z_is4 hC dX4_plan_16 (by decide) ?_
    refine z_loop (N := 8) (fun n => Z 0 G 18 [some (.ref (za G 0 0)), some (.int a), some (.int (bo (fun n => xPk G n) n)), some (.int (xPc G n)), some (.int (nI n)), none] []) ?_ ?_ 0 (Nat.zero_le _)
    · change Z 0 G 18 [some (.ref (za G 0 0)), some (.int a), some (.int (bo (fun n => xPk G n) 8)), some (.int (xPc G 8)), some (.int (nI 8)), none] []
      refine z_il4 hC dX4_plan_18 ?_
      refine z_bipush hC dX4_plan_20 zb_8 ?_
      refine z_icmp_ge hC 83 dX4_plan_22 rfl (fun _ => ?_) (fun h => absurd (nI_le (Nat.le_refl _) (by omega)) h)
      refine z_il1 hC dX4_plan_83 ?_
      refine z_if_ne hC 91 dX4_plan_84 rfl (fun h => absurd h1 h) (fun _ => ?_)
      refine z_il2 hC dX4_plan_87 ?_
      refine z_goto hC 92 dX4_plan_88 rfl ?_
      exact z_reti hE (by omega) dX4_plan_92 (⟨by simp [xaPlan, h1], rfl⟩)
    · intro n hn ih
      change Z 0 G 18 [some (.ref (za G 0 0)), some (.int a), some (.int (bo (fun n => xPk G n) n)), some (.int (xPc G n)), some (.int (nI n)), none] []
      replace ih : Z 0 G 18 [some (.ref (za G 0 0)), some (.int a), some (.int (bo (fun n => xPk G n) (n + 1))), some (.int (xPc G (n + 1))), some (.int (nI (n + 1))), none] [] := ih
      refine z_il4 hC dX4_plan_18 ?_
      refine z_bipush hC dX4_plan_20 zb_8 ?_
      refine z_icmp_ge hC 83 dX4_plan_22 rfl (fun h => absurd h (nI_ge hn (by omega))) (fun _ => ?_)
      refine z_al0 hC dX4_plan_25 ?_
      refine z_il4 hC dX4_plan_26 ?_
      refine z_cVi1 hC (c_X4_hoursWithout l X _ (by rfl) hall) zm_X4_hoursWithout zi_X4_hoursWithout zo_0 zk_X4_203 (by omega) (by decide) (by omega) (Nat.le_of_ble_eq_true rfl) dX4_plan_28 ?_
      rintro _ _ ⟨rfl, rfl⟩
      refine z_is5 hC dX4_plan_31 (by decide) ?_
      refine z_al0 hC dX4_plan_33 ?_
      refine z_al0 hC dX4_plan_34 ?_
      refine zgf_X4_11 hC dX4_plan_35 ?_
      refine z_il4 hC dX4_plan_38 ?_
      refine zal_1 hC (hn) dX4_plan_40 ?_
      refine z_il5 hC dX4_plan_41 ?_
      refine z_cVi2 hC (c_X4_isKept l X _ (by rfl) hn) zm_X4_isKept zi_X4_isKept zo_0 zk_X4_206 (by omega) (by decide) (by omega) (Nat.le_of_ble_eq_true rfl) dX4_plan_43 ?_
      rintro _ _ (⟨hke43, rfl, rfl⟩ | ⟨hke43, rfl, rfl⟩)
      · refine z_if_eq hC 72 dX4_plan_46 rfl (fun h => absurd h (by decide)) (fun _ => ?_)
        refine z_il2 hC dX4_plan_49 ?_
        refine z_iconst hC dX4_plan_50 zi_1 ?_
        refine z_il4 hC dX4_plan_51 ?_
        refine z_ishl hC dX4_plan_53 ?_
        refine z_ior hC dX4_plan_54 ?_
        refine z_is2 hC dX4_plan_55 (by decide) ?_
        refine z_il3 hC dX4_plan_56 ?_
        refine z_al0 hC dX4_plan_57 ?_
        refine zgf_X4_11 hC dX4_plan_58 ?_
        refine z_il4 hC dX4_plan_61 ?_
        refine zal_1 hC (hn) dX4_plan_63 ?_
        refine zgf_X4_210 hC hn dX4_plan_64 ?_
        refine z_iadd hC dX4_plan_67 ?_
        refine z_is3 hC dX4_plan_68 (by decide) ?_
        refine z_goto hC 77 dX4_plan_69 rfl ?_
        refine z_inc4 hC dX4_plan_77 (by decide) ?_
        refine z_goto hC 18 dX4_plan_80 rfl ?_
        refine z_dr5 hC ?_
        have hk2 : xPk G n = true := hke43
        rw [bo_t (c := fun n => xPk G n) hk2, xPc_t hk2] at ih
        exact ih
      · refine z_if_eq hC 72 dX4_plan_46 rfl (fun _ => ?_) (fun h => absurd h (by decide))
        refine z_il3 hC dX4_plan_72 ?_
        refine z_il5 hC dX4_plan_73 ?_
        refine z_iadd hC dX4_plan_75 ?_
        refine z_is3 hC dX4_plan_76 (by decide) ?_
        refine z_inc4 hC dX4_plan_77 (by decide) ?_
        refine z_goto hC 18 dX4_plan_80 rfl ?_
        refine z_dr5 hC ?_
        have hk2 : xPk G n = false := hke43
        rw [bo_f (c := fun n => xPk G n) hk2, xPc_f hk2] at ih
        exact ih
  · refine z_il1 hC dX4_plan_4 ?_
    refine z_iconst hC dX4_plan_5 zi_1 ?_
    refine z_icmp_eq hC 11 dX4_plan_6 rfl (fun h6 => ?_) (fun h6 => ?_)
    · refine z_iconst hC dX4_plan_11 zi_0 ?_
      refine z_is2 hC dX4_plan_12 (by decide) ?_
      refine z_iconst hC dX4_plan_13 zi_0 ?_
      refine z_is3 hC dX4_plan_14 (by decide) ?_
      refine z_iconst hC dX4_plan_15 zi_0 ?_
      refine z_is4 hC dX4_plan_16 (by decide) ?_
      refine z_loop (N := 8) (fun n => Z 0 G 18 [some (.ref (za G 0 0)), some (.int a), some (.int (bo (fun n => xPk G n) n)), some (.int (xPc G n)), some (.int (nI n)), none] []) ?_ ?_ 0 (Nat.zero_le _)
      · change Z 0 G 18 [some (.ref (za G 0 0)), some (.int a), some (.int (bo (fun n => xPk G n) 8)), some (.int (xPc G 8)), some (.int (nI 8)), none] []
        refine z_il4 hC dX4_plan_18 ?_
        refine z_bipush hC dX4_plan_20 zb_8 ?_
        refine z_icmp_ge hC 83 dX4_plan_22 rfl (fun _ => ?_) (fun h => absurd (nI_le (Nat.le_refl _) (by omega)) h)
        refine z_il1 hC dX4_plan_83 ?_
        refine z_if_ne hC 91 dX4_plan_84 rfl (fun _ => ?_) (fun h => absurd h h1)
        refine z_il3 hC dX4_plan_91 ?_
        exact z_reti hE (by omega) dX4_plan_92 (⟨by simp [xaPlan, h6, z01], rfl⟩)
      · intro n hn ih
        change Z 0 G 18 [some (.ref (za G 0 0)), some (.int a), some (.int (bo (fun n => xPk G n) n)), some (.int (xPc G n)), some (.int (nI n)), none] []
        replace ih : Z 0 G 18 [some (.ref (za G 0 0)), some (.int a), some (.int (bo (fun n => xPk G n) (n + 1))), some (.int (xPc G (n + 1))), some (.int (nI (n + 1))), none] [] := ih
        refine z_il4 hC dX4_plan_18 ?_
        refine z_bipush hC dX4_plan_20 zb_8 ?_
        refine z_icmp_ge hC 83 dX4_plan_22 rfl (fun h => absurd h (nI_ge hn (by omega))) (fun _ => ?_)
        refine z_al0 hC dX4_plan_25 ?_
        refine z_il4 hC dX4_plan_26 ?_
        refine z_cVi1 hC (c_X4_hoursWithout l X _ (by rfl) hall) zm_X4_hoursWithout zi_X4_hoursWithout zo_0 zk_X4_203 (by omega) (by decide) (by omega) (Nat.le_of_ble_eq_true rfl) dX4_plan_28 ?_
        rintro _ _ ⟨rfl, rfl⟩
        refine z_is5 hC dX4_plan_31 (by decide) ?_
        refine z_al0 hC dX4_plan_33 ?_
        refine z_al0 hC dX4_plan_34 ?_
        refine zgf_X4_11 hC dX4_plan_35 ?_
        refine z_il4 hC dX4_plan_38 ?_
        refine zal_1 hC (hn) dX4_plan_40 ?_
        refine z_il5 hC dX4_plan_41 ?_
        refine z_cVi2 hC (c_X4_isKept l X _ (by rfl) hn) zm_X4_isKept zi_X4_isKept zo_0 zk_X4_206 (by omega) (by decide) (by omega) (Nat.le_of_ble_eq_true rfl) dX4_plan_43 ?_
        rintro _ _ (⟨hke43, rfl, rfl⟩ | ⟨hke43, rfl, rfl⟩)
        · refine z_if_eq hC 72 dX4_plan_46 rfl (fun h => absurd h (by decide)) (fun _ => ?_)
          refine z_il2 hC dX4_plan_49 ?_
          refine z_iconst hC dX4_plan_50 zi_1 ?_
          refine z_il4 hC dX4_plan_51 ?_
          refine z_ishl hC dX4_plan_53 ?_
          refine z_ior hC dX4_plan_54 ?_
          refine z_is2 hC dX4_plan_55 (by decide) ?_
          refine z_il3 hC dX4_plan_56 ?_
          refine z_al0 hC dX4_plan_57 ?_
          refine zgf_X4_11 hC dX4_plan_58 ?_
          refine z_il4 hC dX4_plan_61 ?_
          refine zal_1 hC (hn) dX4_plan_63 ?_
          refine zgf_X4_210 hC hn dX4_plan_64 ?_
          refine z_iadd hC dX4_plan_67 ?_
          refine z_is3 hC dX4_plan_68 (by decide) ?_
          refine z_goto hC 77 dX4_plan_69 rfl ?_
          refine z_inc4 hC dX4_plan_77 (by decide) ?_
          refine z_goto hC 18 dX4_plan_80 rfl ?_
          refine z_dr5 hC ?_
          have hk2 : xPk G n = true := hke43
          rw [bo_t (c := fun n => xPk G n) hk2, xPc_t hk2] at ih
          exact ih
        · refine z_if_eq hC 72 dX4_plan_46 rfl (fun _ => ?_) (fun h => absurd h (by decide))
          refine z_il3 hC dX4_plan_72 ?_
          refine z_il5 hC dX4_plan_73 ?_
          refine z_iadd hC dX4_plan_75 ?_
          refine z_is3 hC dX4_plan_76 (by decide) ?_
          refine z_inc4 hC dX4_plan_77 (by decide) ?_
          refine z_goto hC 18 dX4_plan_80 rfl ?_
          refine z_dr5 hC ?_
          have hk2 : xPk G n = false := hke43
          rw [bo_f (c := fun n => xPk G n) hk2, xPc_f hk2] at ih
          exact ih
    · refine z_iconst hC dX4_plan_9 zi_m1 ?_
      exact z_reti hE (by omega) dX4_plan_10 (⟨by simp [xaPlan, h1, h6], rfl⟩)

set_option maxHeartbeats 2000000 in
theorem p_told (l : Launch) (X : zX) (G : zG) {r0 : Nat} (hr0 : r0 = za G 0 0) {vc rc td : Nat} (hI : xI G vc rc td) {a : Int32} : zC l yX4_told cX4_told 2 (some FieldType.int) 3 0 X [.ref r0, .int a] G (zPi (fun r G2 => r = xaTold G a ∧ G = G2)) := by
  subst hr0
  refine zC_of zpn_X4 (zcat rfl) (Nat.le_of_ble_eq_true rfl) ?_
  intro Z hC hE
  replace hC : zCtx l X cX4_told RX4 2 3 0 Z := hC
  change Z 0 G 0 [some (.ref (za G 0 0)), some (.int a)] []
  obtain ⟨hvc, v1, v5, hrc, r12, hn0, hn1, htd, t39, htx, hgo, hru⟩ := hI
  refine z_il1 hC dX4_told_0 ?_
  rcases zsw5 a with rfl | rfl | rfl | rfl | rfl | hsw
  · refine z_tabIn (off := 35) hC 36 dX4_told_1 (by decide +kernel) (by decide +kernel) (by decide +kernel) rfl ?_
    refine z_al0 hC dX4_told_36 ?_
    refine zgf_X4_31 hC dX4_told_37 ?_
    exact z_reti hE (by omega) dX4_told_40 (⟨by simp [xaTold, zt0, zt1, zt2, zt3, zt4, zne01, zne02, zne03, zne04, zne10, zne12, zne13, zne14, zne20, zne21, zne23, zne24, zne30, zne31, zne32, zne34, zne40, zne41, zne42, zne43], rfl⟩)
  · refine z_tabIn (off := 40) hC 41 dX4_told_1 (by decide +kernel) (by decide +kernel) (by decide +kernel) rfl ?_
    refine z_al0 hC dX4_told_41 ?_
    refine zgf_X4_34 hC dX4_told_42 ?_
    exact z_reti hE (by omega) dX4_told_45 (⟨by simp [xaTold, zt0, zt1, zt2, zt3, zt4, zne01, zne02, zne03, zne04, zne10, zne12, zne13, zne14, zne20, zne21, zne23, zne24, zne30, zne31, zne32, zne34, zne40, zne41, zne42, zne43], rfl⟩)
  · refine z_tabIn (off := 45) hC 46 dX4_told_1 (by decide +kernel) (by decide +kernel) (by decide +kernel) rfl ?_
    refine z_al0 hC dX4_told_46 ?_
    refine zgf_X4_27 hC dX4_told_47 ?_
    exact z_reti hE (by omega) dX4_told_50 (⟨by simp [xaTold, zt0, zt1, zt2, zt3, zt4, zne01, zne02, zne03, zne04, zne10, zne12, zne13, zne14, zne20, zne21, zne23, zne24, zne30, zne31, zne32, zne34, zne40, zne41, zne42, zne43], rfl⟩)
  · refine z_tabIn (off := 50) hC 51 dX4_told_1 (by decide +kernel) (by decide +kernel) (by decide +kernel) rfl ?_
    refine z_al0 hC dX4_told_51 ?_
    refine z_cVi0 hC (c_X4_silentHouses l X _ (by rfl)) zm_X4_silentHouses zi_X4_silentHouses zo_0 zk_X4_151 (by omega) (by decide) (by omega) (Nat.le_of_ble_eq_true rfl) dX4_told_52 ?_
    rintro _ _ ⟨rfl, rfl⟩
    exact z_reti hE (by omega) dX4_told_55 (⟨by simp [xaTold, zt0, zt1, zt2, zt3, zt4, zne01, zne02, zne03, zne04, zne10, zne12, zne13, zne14, zne20, zne21, zne23, zne24, zne30, zne31, zne32, zne34, zne40, zne41, zne42, zne43], rfl⟩)
  · refine z_tabIn (off := 55) hC 56 dX4_told_1 (by decide +kernel) (by decide +kernel) (by decide +kernel) rfl ?_
    refine z_al0 hC dX4_told_56 ?_
    refine z_cVi0 hC (c_X4_shutDoors l X _ (by rfl)) zm_X4_shutDoors zi_X4_shutDoors zo_0 zk_X4_213 (by omega) (by decide) (by omega) (Nat.le_of_ble_eq_true rfl) dX4_told_57 ?_
    rintro _ _ ⟨rfl, rfl⟩
    exact z_reti hE (by omega) dX4_told_60 (⟨by simp [xaTold, zt0, zt1, zt2, zt3, zt4, zne01, zne02, zne03, zne04, zne10, zne12, zne13, zne14, zne20, zne21, zne23, zne24, zne30, zne31, zne32, zne34, zne40, zne41, zne42, zne43], rfl⟩)
  · refine z_tabOut hC 61 dX4_told_1 hsw rfl ?_
    refine z_iconst hC dX4_told_61 zi_m1 ?_
    exact z_reti hE (by omega) dX4_told_62 (⟨by unfold xaTold; rw [if_pos hsw], rfl⟩)

set_option maxHeartbeats 2000000 in
theorem p_trace (l : Launch) (X : zX) (G : zG) {r0 : Nat} (hr0 : r0 = za G 0 0)  : zC l yX4_trace cX4_trace 1 (some FieldType.long) 1 0 X [.ref r0] G (zPl (fun r G2 => r = zt G 0 ∧ G = G2)) := by
  subst hr0
  refine zC_of zpn_X4 (zcat rfl) (Nat.le_of_ble_eq_true rfl) ?_
  intro Z hC hE
  replace hC : zCtx l X cX4_trace RX4 1 1 0 Z := hC
  change Z 0 G 0 [some (.ref (za G 0 0))] []
  refine z_al0 hC dX4_trace_0 ?_
  refine zgf_X4_40 hC dX4_trace_1 ?_
  exact z_retl hE (by omega) dX4_trace_4 (⟨rfl, rfl⟩)

set_option maxHeartbeats 2000000 in
theorem p_version (l : Launch) (X : zX) (G : zG) {r0 : Nat} (hr0 : r0 = za G 0 0) {vc rc td : Nat} (hI : xI G vc rc td) : zC l yX4_version cX4_version 5 (some FieldType.int) 2 0 X [.ref r0] G (zPi (fun r G2 => r = xaVersion vc ∧ G2 = xsVersion G vc)) := by
  subst hr0
  refine zC_of zpn_X4 (zcat rfl) (Nat.le_of_ble_eq_true rfl) ?_
  intro Z hC hE
  replace hC : zCtx l X cX4_version RX4 5 2 0 Z := hC
  change Z 0 G 0 [some (.ref (za G 0 0)), none, none, none, none] []
  obtain ⟨hvc, v1, v5, hrc, r12, hn0, hn1, htd, t39, htx, hgo, hru⟩ := hI
  refine z_al0 hC dX4_version_0 ?_
  refine zgf_X4_31 hC dX4_version_1 ?_
  refine z_top hvc ?_
  refine z_iconst hC dX4_version_4 zi_5 ?_
  refine z_icmp_lt hC 11 dX4_version_5 rfl (fun h5 => ?_) (fun h5 => ?_)
  · have hv5 : vc < 5 := (nI_ltI (by omega) (by decide)).mp h5
    refine z_al0 hC dX4_version_11 ?_
    refine zgf_X4_11 hC dX4_version_12 ?_
    refine z_as1 hC dX4_version_15 (by decide) ?_
    refine z_al1 hC dX4_version_16 ?_
    refine zlen_1 hC dX4_version_17 ?_
    refine z_is2 hC dX4_version_18 (by decide) ?_
    refine z_iconst hC dX4_version_19 zi_0 ?_
    refine z_is3 hC dX4_version_20 (by decide) ?_
    refine z_loop (N := 8) (fun n => Z 0 (xCp G vc n) 21 [some (.ref (za (xCp G vc n) 0 0)), some (.ref (za (xCp G vc n) 1 0)), some (.int (nI 8)), some (.int (nI n)), none] []) ?_ ?_ 0 (Nat.zero_le _)
    · change Z 0 (xCp G vc 8) 21 [some (.ref (za (xCp G vc 8) 0 0)), some (.ref (za (xCp G vc 8) 1 0)), some (.int (nI 8)), some (.int (nI 8)), none] []
      refine z_il3 hC dX4_version_21 ?_
      refine z_il2 hC dX4_version_22 ?_
      refine z_icmp_ge hC 52 dX4_version_23 rfl (fun _ => ?_) (fun h => absurd (nI_le (Nat.le_refl _) (by omega)) h)
      refine z_al0 hC dX4_version_52 ?_
      refine z_dup hC dX4_version_53 rfl ?_
      refine zgf_X4_31 hC dX4_version_54 ?_
      refine z_top ((xCp_0 G vc 8 4).trans hvc) ?_
      refine z_iconst hC dX4_version_57 zi_1 ?_
      refine z_iaddN hC dX4_version_58 ?_
      refine zpf_X4_31 hC dX4_version_59 ?_
      refine z_al0 hC dX4_version_62 ?_
      refine zgf_X4_31 hC dX4_version_63 ?_
      refine z_top ((by simp [zg_zu]) : _ = nI (vc + 1)) ?_
      refine z_iconst hC dX4_version_66 zi_1 ?_
      refine z_isubN hC dX4_version_67 (by omega) ?_
      exact z_reti hE (by omega) dX4_version_68 (⟨by simp [xaVersion, xsVersion, hv5, h5], by simp [xaVersion, xsVersion, hv5, h5]⟩)
    · intro n hn ih
      change Z 0 (xCp G vc n) 21 [some (.ref (za (xCp G vc n) 0 0)), some (.ref (za (xCp G vc n) 1 0)), some (.int (nI 8)), some (.int (nI n)), none] []
      replace ih : Z 0 (xCp G vc (n + 1)) 21 [some (.ref (za (xCp G vc (n + 1)) 0 0)), some (.ref (za (xCp G vc (n + 1)) 1 0)), some (.int (nI 8)), some (.int (nI (n + 1))), none] [] := ih
      refine z_il3 hC dX4_version_21 ?_
      refine z_il2 hC dX4_version_22 ?_
      refine z_icmp_ge hC 52 dX4_version_23 rfl (fun h => absurd h (nI_ge hn (by omega))) (fun _ => ?_)
      refine z_al1 hC dX4_version_26 ?_
      refine z_il3 hC dX4_version_27 ?_
      refine zal_1 hC (hn) dX4_version_28 ?_
      refine z_as4 hC dX4_version_29 (by decide) ?_
      refine z_al4 hC dX4_version_31 ?_
      refine z_al0 hC dX4_version_33 ?_
      refine zgf_X4_31 hC dX4_version_34 ?_
      refine z_top ((xCp_0 G vc n 4).trans hvc) ?_
      refine z_iconst hC dX4_version_37 zi_1 ?_
      refine z_isubN hC dX4_version_38 (v1) ?_
      refine z_al0 hC dX4_version_39 ?_
      refine zgf_X4_31 hC dX4_version_40 ?_
      refine z_top ((xCp_0 G vc n 4).trans hvc) ?_
      refine z_cVNv2 hC (c_X0_copyAnswers l X _ (by rfl) hn (by omega) (by omega)) zm_X0_copyAnswers zi_X0_copyAnswers (zo_4 hn) zkn_X4_46 (by omega) (by decide) (by omega) (Nat.le_of_ble_eq_true rfl) dX4_version_43 ?_
      rintro _ rfl
      refine z_inc3 hC dX4_version_46 (by decide) ?_
      refine z_goto hC 21 dX4_version_49 rfl ?_
      refine z_dr4 hC ?_
      rw [xCp_s] at ih
      exact ih
  · have hv5 : ¬ vc < 5 := fun h => h5 ((nI_ltI (by omega) (by decide)).mpr h)
    refine z_bipush hC dX4_version_8 zb_m3 ?_
    exact z_reti hE (by omega) dX4_version_10 (⟨by simp [xaVersion, xsVersion, hv5, h5], by simp [xaVersion, xsVersion, hv5, h5]⟩)

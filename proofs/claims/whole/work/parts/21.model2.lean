set_option maxHeartbeats 2000000 in
theorem c_X5_usesOf (l : Launch) (X : zX) (G : zG) {r0 : Nat} (hr0 : r0 = za G 20 0) {h f sz : Nat} (hh : h < 6) (hf : f < 8) (h12 : sz ≤ 12) (hsz : zg G 23 0 h = nI sz) (hT : mTx G h sz) : zC l yX5_usesOf cX5_usesOf 5 (some FieldType.int) 3 0 X [.ref r0, .int (nI h), .int (nI f)] G (zPi (fun r G2 => r = mUsed G h f ∧ mS0 G G2)) := by
  subst hr0
  refine zC_of zpn_X5 (zcat rfl) (Nat.le_of_ble_eq_true rfl) ?_
  intro Z hC hE
  replace hC : zCtx l X cX5_usesOf RX5 5 3 0 Z := hC
  change Z 0 G 0 [some (.ref (za G 20 0)), some (.int (nI h)), some (.int (nI f)), none, none] []
  refine z_iconst hC dX5_usesOf_0 zi_0 ?_
  refine z_is3 hC dX5_usesOf_1 (by decide) ?_
  refine z_iconst hC dX5_usesOf_2 zi_0 ?_
  refine z_is4 hC dX5_usesOf_3 (by decide) ?_
  refine zG0 (mSc_self G) ?_
  refine z_loop (N := sz) (fun n => ∀ (p q sn : Nat → Int32) (x : Int32) (ak : Int64), Z 0 (mSc G p q sn (zg G 50 0) x ak) 5 [some (.ref (za G 20 0)), some (.int (nI h)), some (.int (nI f)), some (.int (orF (fun s => mSs G h s f) n)), some (.int (nI n))] []) ?_ ?_ 0 (Nat.zero_le _) _ _ _ _ _
  · intro p q sn x ak
    change Z 0 (mSc G p q sn (zg G 50 0) x ak) 5 [some (.ref (za G 20 0)), some (.int (nI h)), some (.int (nI f)), some (.int (orF (fun s => mSs G h s f) sz)), some (.int (nI sz))] []
    refine z_il4 hC dX5_usesOf_5 ?_
    refine z_al0 hC dX5_usesOf_7 ?_
    refine zgf_X5_20 hC dX5_usesOf_8 ?_
    refine z_il1 hC dX5_usesOf_11 ?_
    refine zal_23 hC (by omega) dX5_usesOf_12 ?_
    refine z_top (show _ = nI sz from hsz) ?_
    refine z_icmp_ge hC 38 dX5_usesOf_13 rfl (fun _ => ?_) (fun h => absurd (nI_le (Nat.le_refl _) (by omega)) h)
    refine z_il3 hC dX5_usesOf_38 ?_
    exact z_reti hE (by omega) dX5_usesOf_39 (⟨by unfold mUsed mSz; rw [hsz, nI_clamp (show sz < 2 ^ 31 by omega)], _, _, _, _, _, rfl⟩)
  · intro n hn ih p q sn x ak
    change Z 0 (mSc G p q sn (zg G 50 0) x ak) 5 [some (.ref (za G 20 0)), some (.int (nI h)), some (.int (nI f)), some (.int (orF (fun s => mSs G h s f) n)), some (.int (nI n))] []
    replace ih : ∀ (p q sn : Nat → Int32) (x : Int32) (ak : Int64), Z 0 (mSc G p q sn (zg G 50 0) x ak) 5 [some (.ref (za G 20 0)), some (.int (nI h)), some (.int (nI f)), some (.int (orF (fun s => mSs G h s f) (n + 1))), some (.int (nI (n + 1)))] [] := ih
    refine z_il4 hC dX5_usesOf_5 ?_
    refine z_al0 hC dX5_usesOf_7 ?_
    refine zgf_X5_20 hC dX5_usesOf_8 ?_
    refine z_il1 hC dX5_usesOf_11 ?_
    refine zal_23 hC (by omega) dX5_usesOf_12 ?_
    refine z_top (show _ = nI sz from hsz) ?_
    refine z_icmp_ge hC 38 dX5_usesOf_13 rfl (fun h => absurd h (nI_ge hn (by omega))) (fun _ => ?_)
    refine z_al0 hC dX5_usesOf_16 ?_
    refine z_il1 hC dX5_usesOf_17 ?_
    refine z_il4 hC dX5_usesOf_18 ?_
    refine z_cVv2 hC (c_X5_follow l X _ (by rfl) hh hn h12 (by exact hT)) zm_X5_follow zi_X5_follow zo_20 zk_X5_141 (by omega) (by decide) (by omega) (Nat.le_of_ble_eq_true rfl) dX5_usesOf_20 ?_
    rintro _ ⟨p2, q2, sn2, hs2, rfl⟩
    rw [mSc_mSc]
    have e2 : sn2 f = mSs G h n f := (hs2 f hf).trans mSv_mSc
    refine z_il3 hC dX5_usesOf_23 ?_
    refine z_al0 hC dX5_usesOf_24 ?_
    refine zgf_X5_84 hC dX5_usesOf_25 ?_
    refine z_il2 hC dX5_usesOf_28 ?_
    refine zal_47 hC (by omega) dX5_usesOf_29 ?_
    refine z_top (show _ = mSs G h n f from e2) ?_
    refine z_ior hC dX5_usesOf_30 ?_
    refine z_is3 hC dX5_usesOf_31 (by decide) ?_
    refine z_inc4 hC dX5_usesOf_32 (by decide) ?_
    refine z_goto hC 5 dX5_usesOf_35 rfl ?_
    exact ih _ _ _ _ _

set_option maxHeartbeats 2000000 in
theorem q_uses (l : Launch) (X : zX) (G : zG) {r0 : Nat} (hr0 : r0 = za G 20 0) {vc rc td : Nat} (hI : mI G vc rc td) {a b : Int32} : zC l yX5_uses cX5_uses 3 (some FieldType.int) 4 0 X [.ref r0, .int a, .int b] G (zPi (fun r G2 => r = maUses G a b ∧ mS0 G G2)) := by
  subst hr0
  refine zC_of zpn_X5 (zcat rfl) (Nat.le_of_ble_eq_true rfl) ?_
  intro Z hC hE
  replace hC : zCtx l X cX5_uses RX5 3 4 0 Z := hC
  change Z 0 G 0 [some (.ref (za G 20 0)), some (.int a), some (.int b)] []
  obtain ⟨hvc, v1, v5, hrc, r12, htd, t39, htx, hgo, hru⟩ := hI
  refine z_il1 hC dX5_uses_0 ?_
  refine z_cSi1 hC (c_X5_isHouse l X _) zm_X5_isHouse zi_X5_isHouse zk_X5_108 (by omega) (by decide) (by omega) (Nat.le_of_ble_eq_true rfl) dX5_uses_1 ?_
  rintro _ _ (⟨aN, ha, rfl, rfl, rfl⟩ | ⟨na, rfl, rfl⟩)
  · have ta : zin (nI aN) 6 = true := zin_t ha (by omega)
    have qa : (nI aN).toNatClampNeg = aN := nI_clamp (by omega)
    obtain ⟨sz, h12, hsz, hT⟩ := htx aN ha
    obtain ⟨vv, hvv, hv⟩ := hgo aN ha
    have qsz : mSz G aN = sz := by unfold mSz; rw [hsz]; exact nI_clamp (by omega)
    have qv : (zg G 22 0 aN).toNatClampNeg = vv := by rw [hv]; exact nI_clamp (by omega)
    refine z_if_eq hC 23 dX5_uses_4 rfl (fun h => absurd h (by decide)) (fun _ => ?_)
    refine z_il2 hC dX5_uses_7 ?_
    refine z_cSi1 hC (c_X5_isFace l X _) zm_X5_isFace zi_X5_isFace zk_X5_97 (by omega) (by decide) (by omega) (Nat.le_of_ble_eq_true rfl) dX5_uses_8 ?_
    rintro _ _ (⟨bN, hb, rfl, rfl, rfl⟩ | ⟨nb, rfl, rfl⟩)
    · have tb : zin (nI bN) 8 = true := zin_t hb (by omega)
      have qb : (nI bN).toNatClampNeg = bN := nI_clamp (by omega)
      refine z_if_eq hC 23 dX5_uses_11 rfl (fun h => absurd h (by decide)) (fun _ => ?_)
      refine z_al0 hC dX5_uses_14 ?_
      refine z_il1 hC dX5_uses_15 ?_
      refine z_il2 hC dX5_uses_16 ?_
      refine z_cVi2 hC (c_X5_usesOf l X _ (by rfl) ha hb h12 (by exact hsz) (by exact hT)) zm_X5_usesOf zi_X5_usesOf zo_20 zk_X5_147 (by omega) (by decide) (by omega) (Nat.le_of_ble_eq_true rfl) dX5_uses_17 ?_
      rintro _ _ ⟨eu, p2, q2, sn2, x2, a2, rfl⟩
      rw [eu]
      refine z_goto hC 24 dX5_uses_20 rfl ?_
      exact z_reti hE (by omega) dX5_uses_24 (⟨by simp [xoUses, maUses, ta, qa, qsz, qv, tb, qb], _, _, _, _, _, rfl⟩)
    · replace nb : zin b 8 = false := nb
      refine z_if_eq hC 23 dX5_uses_11 rfl (fun _ => ?_) (fun h => absurd h (by decide))
      refine z_iconst hC dX5_uses_23 zi_m1 ?_
      exact z_reti hE (by omega) dX5_uses_24 (⟨by simp [xoUses, maUses, ta, qa, qsz, qv, nb], mS0_refl G⟩)
  · replace na : zin a 6 = false := na
    refine z_if_eq hC 23 dX5_uses_4 rfl (fun _ => ?_) (fun h => absurd h (by decide))
    refine z_iconst hC dX5_uses_23 zi_m1 ?_
    exact z_reti hE (by omega) dX5_uses_24 (⟨by simp [xoUses, maUses, na], mS0_refl G⟩)

set_option maxHeartbeats 2000000 in
theorem q_shape (l : Launch) (X : zX) (G : zG) {r0 : Nat} (hr0 : r0 = za G 20 0) {vc rc td : Nat} (hI : mI G vc rc td) {a b : Int32} : zC l yX5_shape cX5_shape 4 (some FieldType.int) 4 0 X [.ref r0, .int a, .int b] G (zPi (fun r G2 => r = maShape G a b ∧ mS0 G G2)) := by
  subst hr0
  refine zC_of zpn_X5 (zcat rfl) (Nat.le_of_ble_eq_true rfl) ?_
  intro Z hC hE
  replace hC : zCtx l X cX5_shape RX5 4 4 0 Z := hC
  change Z 0 G 0 [some (.ref (za G 20 0)), some (.int a), some (.int b), none] []
  obtain ⟨hvc, v1, v5, hrc, r12, htd, t39, htx, hgo, hru⟩ := hI
  refine z_il1 hC dX5_shape_0 ?_
  refine z_cSi1 hC (c_X5_isHouse l X _) zm_X5_isHouse zi_X5_isHouse zk_X5_108 (by omega) (by decide) (by omega) (Nat.le_of_ble_eq_true rfl) dX5_shape_1 ?_
  rintro _ _ (⟨aN, ha, rfl, rfl, rfl⟩ | ⟨na, rfl, rfl⟩)
  · have ta : zin (nI aN) 6 = true := zin_t ha (by omega)
    have qa : (nI aN).toNatClampNeg = aN := nI_clamp (by omega)
    obtain ⟨sz, h12, hsz, hT⟩ := htx aN ha
    obtain ⟨vv, hvv, hv⟩ := hgo aN ha
    have qsz : mSz G aN = sz := by unfold mSz; rw [hsz]; exact nI_clamp (by omega)
    have qv : (zg G 22 0 aN).toNatClampNeg = vv := by rw [hv]; exact nI_clamp (by omega)
    refine z_if_eq hC 14 dX5_shape_4 rfl (fun h => absurd h (by decide)) (fun _ => ?_)
    refine z_il2 hC dX5_shape_7 ?_
    refine z_cSi1 hC (c_X5_isFace l X _) zm_X5_isFace zi_X5_isFace zk_X5_97 (by omega) (by decide) (by omega) (Nat.le_of_ble_eq_true rfl) dX5_shape_8 ?_
    rintro _ _ (⟨bN, hb, rfl, rfl, rfl⟩ | ⟨nb, rfl, rfl⟩)
    · have tb : zin (nI bN) 8 = true := zin_t hb (by omega)
      have qb : (nI bN).toNatClampNeg = bN := nI_clamp (by omega)
      refine z_if_ne hC 16 dX5_shape_11 rfl (fun _ => ?_) (fun h => absurd h (by decide))
      refine z_al0 hC dX5_shape_16 ?_
      refine z_il1 hC dX5_shape_17 ?_
      refine z_il2 hC dX5_shape_18 ?_
      refine z_cVi2 hC (c_X5_usesOf l X _ (by rfl) ha hb h12 (by exact hsz) (by exact hT)) zm_X5_usesOf zi_X5_usesOf zo_20 zk_X5_147 (by omega) (by decide) (by omega) (Nat.le_of_ble_eq_true rfl) dX5_shape_19 ?_
      rintro _ _ ⟨eu, p2, q2, sn2, x2, a2, rfl⟩
      rw [eu]
      refine z_is3 hC dX5_shape_22 (by decide) ?_
      refine z_il3 hC dX5_shape_23 ?_
      refine z_if_ne hC 31 dX5_shape_24 rfl (fun h24 => ?_) (fun h24 => ?_)
      · refine z_il3 hC dX5_shape_31 ?_
        refine z_sipush hC dX5_shape_32 zs_255 ?_
        refine z_icmp_ne hC 42 dX5_shape_35 rfl (fun h35 => ?_) (fun h35 => ?_)
        · refine z_il3 hC dX5_shape_42 ?_
          refine z_il3 hC dX5_shape_43 ?_
          refine z_iconst hC dX5_shape_44 zi_1 ?_
          refine z_isub hC dX5_shape_45 ?_
          refine z_iand hC dX5_shape_46 ?_
          refine z_if_ne hC 54 dX5_shape_47 rfl (fun h47 => ?_) (fun h47 => ?_)
          · refine z_iconst hC dX5_shape_54 zi_2 ?_
            exact z_reti hE (by omega) dX5_shape_55 (⟨by simp [xoUses, maShape, mShp, z0255, ta, qa, qsz, qv, tb, qb, h24, h35, h47], _, _, _, _, _, rfl⟩)
          · refine z_iconst hC dX5_shape_50 zi_1 ?_
            refine z_goto hC 55 dX5_shape_51 rfl ?_
            exact z_reti hE (by omega) dX5_shape_55 (⟨by simp [xoUses, maShape, mShp, z0255, ta, qa, qsz, qv, tb, qb, h24, h35, h47], _, _, _, _, _, rfl⟩)
        · refine z_iconst hC dX5_shape_38 zi_3 ?_
          refine z_goto hC 55 dX5_shape_39 rfl ?_
          exact z_reti hE (by omega) dX5_shape_55 (⟨by simp [xoUses, maShape, mShp, z0255, ta, qa, qsz, qv, tb, qb, h24, h35], _, _, _, _, _, rfl⟩)
      · refine z_iconst hC dX5_shape_27 zi_0 ?_
        refine z_goto hC 55 dX5_shape_28 rfl ?_
        exact z_reti hE (by omega) dX5_shape_55 (⟨by simp [xoUses, maShape, mShp, z0255, ta, qa, qsz, qv, tb, qb, h24], _, _, _, _, _, rfl⟩)
    · replace nb : zin b 8 = false := nb
      refine z_if_ne hC 16 dX5_shape_11 rfl (fun h => absurd h (by decide)) (fun _ => ?_)
      refine z_iconst hC dX5_shape_14 zi_m1 ?_
      exact z_reti hE (by omega) dX5_shape_15 (⟨by simp [xoUses, maShape, mShp, z0255, ta, qa, qsz, qv, nb], mS0_refl G⟩)
  · replace na : zin a 6 = false := na
    refine z_if_eq hC 14 dX5_shape_4 rfl (fun _ => ?_) (fun h => absurd h (by decide))
    refine z_iconst hC dX5_shape_14 zi_m1 ?_
    exact z_reti hE (by omega) dX5_shape_15 (⟨by simp [xoUses, maShape, mShp, z0255, na], mS0_refl G⟩)

set_option maxHeartbeats 2000000 in
theorem q_sees (l : Launch) (X : zX) (G : zG) {r0 : Nat} (hr0 : r0 = za G 20 0) {vc rc td : Nat} (hI : mI G vc rc td) {a b c : Int32} : zC l yX5_sees cX5_sees 4 (some FieldType.int) 3 0 X [.ref r0, .int a, .int b, .int c] G (zPi (fun r G2 => r = maSees G a b c ∧ mS0 (msSees G a b c) G2)) := by
  subst hr0
  refine zC_of zpn_X5 (zcat rfl) (Nat.le_of_ble_eq_true rfl) ?_
  intro Z hC hE
  replace hC : zCtx l X cX5_sees RX5 4 3 0 Z := hC
  change Z 0 G 0 [some (.ref (za G 20 0)), some (.int a), some (.int b), some (.int c)] []
  obtain ⟨hvc, v1, v5, hrc, r12, htd, t39, htx, hgo, hru⟩ := hI
  refine z_il1 hC dX5_sees_0 ?_
  refine z_cSi1 hC (c_X5_isHouse l X _) zm_X5_isHouse zi_X5_isHouse zk_X5_108 (by omega) (by decide) (by omega) (Nat.le_of_ble_eq_true rfl) dX5_sees_1 ?_
  rintro _ _ (⟨aN, ha, rfl, rfl, rfl⟩ | ⟨na, rfl, rfl⟩)
  · have ta : zin (nI aN) 6 = true := zin_t ha (by omega)
    have qa : (nI aN).toNatClampNeg = aN := nI_clamp (by omega)
    obtain ⟨sz, h12, hsz, hT⟩ := htx aN ha
    obtain ⟨vv, hvv, hv⟩ := hgo aN ha
    have qsz : mSz G aN = sz := by unfold mSz; rw [hsz]; exact nI_clamp (by omega)
    have qv : (zg G 22 0 aN).toNatClampNeg = vv := by rw [hv]; exact nI_clamp (by omega)
    refine z_if_eq hC 23 dX5_sees_4 rfl (fun h => absurd h (by decide)) (fun _ => ?_)
    refine z_al0 hC dX5_sees_7 ?_
    refine z_il1 hC dX5_sees_8 ?_
    refine z_il2 hC dX5_sees_9 ?_
    refine z_cVi2 hC (c_X5_isLine l X _ (by rfl) ha hsz h12) zm_X5_isLine zi_X5_isLine zo_20 zk_X5_118 (by omega) (by decide) (by omega) (Nat.le_of_ble_eq_true rfl) dX5_sees_10 ?_
    rintro _ _ (⟨bN, hb, rfl, rfl, rfl⟩ | ⟨nb, rfl, rfl⟩)
    · have tb : zin (nI bN) sz = true := zin_t hb (by omega)
      have qb : (nI bN).toNatClampNeg = bN := nI_clamp (by omega)
      refine z_if_eq hC 23 dX5_sees_13 rfl (fun h => absurd h (by decide)) (fun _ => ?_)
      refine z_il3 hC dX5_sees_16 ?_
      refine z_cSi1 hC (c_X5_isFace l X _) zm_X5_isFace zi_X5_isFace zk_X5_97 (by omega) (by decide) (by omega) (Nat.le_of_ble_eq_true rfl) dX5_sees_17 ?_
      rintro _ _ (⟨cN, hc, rfl, rfl, rfl⟩ | ⟨nc, rfl, rfl⟩)
      · have tc : zin (nI cN) 8 = true := zin_t hc (by omega)
        have qc : (nI cN).toNatClampNeg = cN := nI_clamp (by omega)
        refine z_if_ne hC 25 dX5_sees_20 rfl (fun _ => ?_) (fun h => absurd h (by decide))
        refine z_al0 hC dX5_sees_25 ?_
        refine z_il1 hC dX5_sees_26 ?_
        refine z_il2 hC dX5_sees_27 ?_
        refine z_cVv2 hC (c_X5_follow l X _ (by rfl) ha hb h12 (by exact hT)) zm_X5_follow zi_X5_follow zo_20 zk_X5_141 (by omega) (by decide) (by omega) (Nat.le_of_ble_eq_true rfl) dX5_sees_28 ?_
        rintro _ ⟨p2, q2, sn2, hs2, rfl⟩
        refine z_al0 hC dX5_sees_31 ?_
        refine z_dup hC dX5_sees_32 rfl ?_
        refine zgf_X5_144 hC dX5_sees_33 ?_
        refine z_al0 hC dX5_sees_36 ?_
        refine zgf_X5_125 hC dX5_sees_37 ?_
        refine z_ladd hC dX5_sees_40 ?_
        refine zpf_X5_144 hC dX5_sees_41 ?_
        rw [mSc_zt1]
        refine z_al0 hC dX5_sees_44 ?_
        refine zgf_X5_84 hC dX5_sees_45 ?_
        refine z_il3 hC dX5_sees_48 ?_
        refine zal_47 hC (by omega) dX5_sees_49 ?_
        refine z_top (show _ = mSs G aN bN cN from hs2 cN hc) ?_
        exact z_reti hE (by omega) dX5_sees_50 (⟨by simp [moSees, maSees, msSees, ta, qa, qsz, qv, tb, qb, tc, qc], by rw [show msSees G (nI aN) (nI bN) (nI cN) = zuT G 1 (zt G 1 + mSt G aN 12 bN (zg G 28 0 (12 * aN + bN))) from by simp [moSees, maSees, msSees, ta, qa, qsz, qv, tb, qb, tc, qc]]; exact ⟨_, _, _, _, _, rfl⟩⟩)
      · replace nc : zin c 8 = false := nc
        refine z_if_ne hC 25 dX5_sees_20 rfl (fun h => absurd h (by decide)) (fun _ => ?_)
        refine z_iconst hC dX5_sees_23 zi_m1 ?_
        exact z_reti hE (by omega) dX5_sees_24 (⟨by simp [moSees, maSees, msSees, ta, qa, qsz, qv, tb, qb, nc], by rw [show msSees G (nI aN) (nI bN) c = G from by simp [moSees, maSees, msSees, ta, qa, qsz, qv, tb, qb, nc]]; exact mS0_refl G⟩)
    · replace nb : zin b sz = false := nb
      refine z_if_eq hC 23 dX5_sees_13 rfl (fun _ => ?_) (fun h => absurd h (by decide))
      refine z_iconst hC dX5_sees_23 zi_m1 ?_
      exact z_reti hE (by omega) dX5_sees_24 (⟨by simp [moSees, maSees, msSees, ta, qa, qsz, qv, nb], by rw [show msSees G (nI aN) b c = G from by simp [moSees, maSees, msSees, ta, qa, qsz, qv, nb]]; exact mS0_refl G⟩)
  · replace na : zin a 6 = false := na
    refine z_if_eq hC 23 dX5_sees_4 rfl (fun _ => ?_) (fun h => absurd h (by decide))
    refine z_iconst hC dX5_sees_23 zi_m1 ?_
    exact z_reti hE (by omega) dX5_sees_24 (⟨by simp [moSees, maSees, msSees, na], by rw [show msSees G a b c = G from by simp [moSees, maSees, msSees, na]]; exact mS0_refl G⟩)

set_option maxHeartbeats 2000000 in
theorem q_harm (l : Launch) (X : zX) (G : zG) {r0 : Nat} (hr0 : r0 = za G 20 0) {vc rc td : Nat} (hI : mI G vc rc td) {a b c : Int32} : zC l yX5_harm cX5_harm 8 (some FieldType.int) 3 0 X [.ref r0, .int a, .int b, .int c] G (zPi (fun r G2 => r = maHarm G vc a b c ∧ mS0 G G2)) := by
  subst hr0
  refine zC_of zpn_X5 (zcat rfl) (Nat.le_of_ble_eq_true rfl) ?_
  intro Z hC hE
  replace hC : zCtx l X cX5_harm RX5 8 3 0 Z := hC
  change Z 0 G 0 [some (.ref (za G 20 0)), some (.int a), some (.int b), some (.int c), none, none, none, none] []
  obtain ⟨hvc, v1, v5, hrc, r12, htd, t39, htx, hgo, hru⟩ := hI
  refine z_il1 hC dX5_harm_0 ?_
  refine z_cSi1 hC (c_X5_isHouse l X _) zm_X5_isHouse zi_X5_isHouse zk_X5_108 (by omega) (by decide) (by omega) (Nat.le_of_ble_eq_true rfl) dX5_harm_1 ?_
  rintro _ _ (⟨aN, ha, rfl, rfl, rfl⟩ | ⟨na, rfl, rfl⟩)
  · have ta : zin (nI aN) 6 = true := zin_t ha (by omega)
    have qa : (nI aN).toNatClampNeg = aN := nI_clamp (by omega)
    obtain ⟨sz, h12, hsz, hT⟩ := htx aN ha
    obtain ⟨vv, hvv, hv⟩ := hgo aN ha
    have qsz : mSz G aN = sz := by unfold mSz; rw [hsz]; exact nI_clamp (by omega)
    have qv : (zg G 22 0 aN).toNatClampNeg = vv := by rw [hv]; exact nI_clamp (by omega)
    refine z_if_eq hC 22 dX5_harm_4 rfl (fun h => absurd h (by decide)) (fun _ => ?_)
    refine z_il2 hC dX5_harm_7 ?_
    refine z_cSi1 hC (c_X5_isFace l X _) zm_X5_isFace zi_X5_isFace zk_X5_97 (by omega) (by decide) (by omega) (Nat.le_of_ble_eq_true rfl) dX5_harm_8 ?_
    rintro _ _ (⟨bN, hb, rfl, rfl, rfl⟩ | ⟨nb, rfl, rfl⟩)
    · have tb : zin (nI bN) 8 = true := zin_t hb (by omega)
      have qb : (nI bN).toNatClampNeg = bN := nI_clamp (by omega)
      refine z_if_eq hC 22 dX5_harm_11 rfl (fun h => absurd h (by decide)) (fun _ => ?_)
      refine z_al0 hC dX5_harm_14 ?_
      refine z_il3 hC dX5_harm_15 ?_
      refine z_cVi1 hC (c_X5_isVersion l X _ (by rfl) hvc v5) zm_X5_isVersion zi_X5_isVersion zo_20 zk_X5_101 (by omega) (by decide) (by omega) (Nat.le_of_ble_eq_true rfl) dX5_harm_16 ?_
      rintro _ _ (⟨cN, hc, rfl, rfl, rfl⟩ | ⟨nc, rfl, rfl⟩)
      · have tc : zin (nI cN) vc = true := zin_t hc (by omega)
        have qc : (nI cN).toNatClampNeg = cN := nI_clamp (by omega)
        refine z_if_ne hC 24 dX5_harm_19 rfl (fun _ => ?_) (fun h => absurd h (by decide))
        refine z_al0 hC dX5_harm_24 ?_
        refine z_il1 hC dX5_harm_25 ?_
        refine z_cVi1 hC (c_X5_isSilent l X _ (by rfl) (by omega)) zm_X5_isSilent zi_X5_isSilent zo_20 zk_X5_160 (by omega) (by decide) (by omega) (Nat.le_of_ble_eq_true rfl) dX5_harm_26 ?_
        rintro _ _ (⟨hsi26, rfl, rfl⟩ | ⟨hsi26, rfl, rfl⟩)
        · refine z_if_eq hC 34 dX5_harm_29 rfl (fun h => absurd h (by decide)) (fun _ => ?_)
          refine z_iconst hC dX5_harm_32 zi_3 ?_
          exact z_reti hE (by omega) dX5_harm_33 (⟨by simp [xoHarm, maHarm, ta, qa, qsz, qv, tb, qb, tc, qc, hsi26], mS0_refl G⟩)
        · refine z_if_eq hC 34 dX5_harm_29 rfl (fun _ => ?_) (fun h => absurd h (by decide))
          refine z_al0 hC dX5_harm_34 ?_
          refine z_il2 hC dX5_harm_35 ?_
          refine z_al0 hC dX5_harm_36 ?_
          refine zgf_X5_17 hC dX5_harm_37 ?_
          refine z_il1 hC dX5_harm_40 ?_
          refine zal_22 hC (by omega) dX5_harm_41 ?_
          refine z_top hv ?_
          refine z_il3 hC dX5_harm_42 ?_
          refine z_cVi3 hC (c_X5_differs l X _ (by rfl) (by omega) (by omega) (by omega)) zm_X5_differs zi_X5_differs zo_20 zk_X5_104 (by omega) (by decide) (by omega) (Nat.le_of_ble_eq_true rfl) dX5_harm_43 ?_
          rintro _ _ ⟨rfl, rfl⟩
          refine z_is4 hC dX5_harm_46 (by decide) ?_
          refine z_iconst hC dX5_harm_48 zi_0 ?_
          refine z_is5 hC dX5_harm_49 (by decide) ?_
          refine z_iconst hC dX5_harm_51 zi_0 ?_
          refine z_is6 hC dX5_harm_52 (by decide) ?_
          refine zG0 (mSc_self G) ?_
          refine z_loop (N := sz) (fun n => ∀ (p q sn : Nat → Int32) (x : Int32) (ak : Int64), Z 0 (mSc G p q sn (zg G 50 0) x ak) 54 [some (.ref (za G 20 0)), some (.int (nI aN)), some (.int (nI bN)), some (.int (nI cN)), some (.int (mDif G bN vv cN)), some (.int (mHw (fun s => mOne (mSs G aN s bN) (mDif G bN vv cN)) n)), some (.int (nI n)), none] []) ?_ ?_ 0 (Nat.zero_le _) _ _ _ _ _
          · intro p q sn x ak
            change Z 0 (mSc G p q sn (zg G 50 0) x ak) 54 [some (.ref (za G 20 0)), some (.int (nI aN)), some (.int (nI bN)), some (.int (nI cN)), some (.int (mDif G bN vv cN)), some (.int (mHw (fun s => mOne (mSs G aN s bN) (mDif G bN vv cN)) sz)), some (.int (nI sz)), none] []
            refine z_il6 hC dX5_harm_54 ?_
            refine z_al0 hC dX5_harm_56 ?_
            refine zgf_X5_20 hC dX5_harm_57 ?_
            refine z_il1 hC dX5_harm_60 ?_
            refine zal_23 hC (by omega) dX5_harm_61 ?_
            refine z_top (show _ = nI sz from hsz) ?_
            refine z_icmp_ge hC 140 dX5_harm_62 rfl (fun _ => ?_) (fun h => absurd (nI_le (Nat.le_refl _) (by omega)) h)
            refine z_il5 hC dX5_harm_140 ?_
            exact z_reti hE (by omega) dX5_harm_142 (⟨by simp [xoHarm, maHarm, ta, qa, qsz, qv, tb, qb, tc, qc, hsi26], _, _, _, _, _, rfl⟩)
          · intro n hn ih p q sn x ak
            change Z 0 (mSc G p q sn (zg G 50 0) x ak) 54 [some (.ref (za G 20 0)), some (.int (nI aN)), some (.int (nI bN)), some (.int (nI cN)), some (.int (mDif G bN vv cN)), some (.int (mHw (fun s => mOne (mSs G aN s bN) (mDif G bN vv cN)) n)), some (.int (nI n)), none] []
            replace ih : ∀ (p q sn : Nat → Int32) (x : Int32) (ak : Int64), Z 0 (mSc G p q sn (zg G 50 0) x ak) 54 [some (.ref (za G 20 0)), some (.int (nI aN)), some (.int (nI bN)), some (.int (nI cN)), some (.int (mDif G bN vv cN)), some (.int (mHw (fun s => mOne (mSs G aN s bN) (mDif G bN vv cN)) (n + 1))), some (.int (nI (n + 1))), none] [] := ih
            refine z_il6 hC dX5_harm_54 ?_
            refine z_al0 hC dX5_harm_56 ?_
            refine zgf_X5_20 hC dX5_harm_57 ?_
            refine z_il1 hC dX5_harm_60 ?_
            refine zal_23 hC (by omega) dX5_harm_61 ?_
            refine z_top (show _ = nI sz from hsz) ?_
            refine z_icmp_ge hC 140 dX5_harm_62 rfl (fun h => absurd h (nI_ge hn (by omega))) (fun _ => ?_)
            refine z_al0 hC dX5_harm_65 ?_
            refine z_il1 hC dX5_harm_66 ?_
            refine z_il6 hC dX5_harm_67 ?_
            refine z_cVv2 hC (c_X5_follow l X _ (by rfl) ha hn h12 (by exact hT)) zm_X5_follow zi_X5_follow zo_20 zk_X5_141 (by omega) (by decide) (by omega) (Nat.le_of_ble_eq_true rfl) dX5_harm_69 ?_
            rintro _ ⟨p2, q2, sn2, hs2, rfl⟩
            rw [mSc_mSc]
            have e2 : sn2 bN = mSs G aN n bN := (hs2 bN hb).trans mSv_mSc
            refine z_al0 hC dX5_harm_72 ?_
            refine zgf_X5_84 hC dX5_harm_73 ?_
            refine z_il2 hC dX5_harm_76 ?_
            refine zal_47 hC (by omega) dX5_harm_77 ?_
            refine z_top (show _ = mSs G aN n bN from e2) ?_
            refine z_if_eq hC 93 dX5_harm_78 rfl (fun h78 => ?_) (fun h78 => ?_)
            · refine z_iconst hC dX5_harm_93 zi_0 ?_
              refine z_goto hC 116 dX5_harm_94 rfl ?_
              refine z_is7 hC dX5_harm_116 (by decide) ?_
              refine z_il7 hC dX5_harm_118 ?_
              refine z_il5 hC dX5_harm_120 ?_
              refine z_icmp_le hC 130 dX5_harm_122 rfl (fun h122 => ?_) (fun h122 => ?_)
              · refine z_il5 hC dX5_harm_130 ?_
                refine z_is5 hC dX5_harm_132 (by decide) ?_
                refine z_inc6 hC dX5_harm_134 (by decide) ?_
                refine z_goto hC 54 dX5_harm_137 rfl ?_
                refine z_dr7 hC ?_
                rw [mHw_t (c := (fun s => mOne (mSs G aN s bN) (mDif G bN vv cN))) (mOne_0 h78) h122] at ih
                exact ih _ _ _ _ _
              · refine z_il7 hC dX5_harm_125 ?_
                refine z_goto hC 132 dX5_harm_127 rfl ?_
                refine z_is5 hC dX5_harm_132 (by decide) ?_
                refine z_inc6 hC dX5_harm_134 (by decide) ?_
                refine z_goto hC 54 dX5_harm_137 rfl ?_
                refine z_dr7 hC ?_
                rw [mHw_f (c := (fun s => mOne (mSs G aN s bN) (mDif G bN vv cN))) (mOne_0 h78) h122] at ih
                exact ih _ _ _ _ _
            · refine z_al0 hC dX5_harm_81 ?_
              refine zgf_X5_84 hC dX5_harm_82 ?_
              refine z_il2 hC dX5_harm_85 ?_
              refine zal_47 hC (by omega) dX5_harm_86 ?_
              refine z_top (show _ = mSs G aN n bN from e2) ?_
              refine z_il4 hC dX5_harm_87 ?_
              refine z_iand hC dX5_harm_89 ?_
              refine z_if_ne hC 97 dX5_harm_90 rfl (fun h90 => ?_) (fun h90 => ?_)
              · refine z_al0 hC dX5_harm_97 ?_
                refine zgf_X5_84 hC dX5_harm_98 ?_
                refine z_il2 hC dX5_harm_101 ?_
                refine zal_47 hC (by omega) dX5_harm_102 ?_
                refine z_top (show _ = mSs G aN n bN from e2) ?_
                refine z_il4 hC dX5_harm_103 ?_
                refine z_iconst hC dX5_harm_105 zi_m1 ?_
                refine z_ixor hC dX5_harm_106 ?_
                refine z_iand hC dX5_harm_107 ?_
                refine z_if_ne hC 115 dX5_harm_108 rfl (fun h108 => ?_) (fun h108 => ?_)
                · refine z_iconst hC dX5_harm_115 zi_1 ?_
                  refine z_is7 hC dX5_harm_116 (by decide) ?_
                  refine z_il7 hC dX5_harm_118 ?_
                  refine z_il5 hC dX5_harm_120 ?_
                  refine z_icmp_le hC 130 dX5_harm_122 rfl (fun h122 => ?_) (fun h122 => ?_)
                  · refine z_il5 hC dX5_harm_130 ?_
                    refine z_is5 hC dX5_harm_132 (by decide) ?_
                    refine z_inc6 hC dX5_harm_134 (by decide) ?_
                    refine z_goto hC 54 dX5_harm_137 rfl ?_
                    refine z_dr7 hC ?_
                    rw [mHw_t (c := (fun s => mOne (mSs G aN s bN) (mDif G bN vv cN))) (mOne_3 h78 h90 h108) h122] at ih
                    exact ih _ _ _ _ _
                  · refine z_il7 hC dX5_harm_125 ?_
                    refine z_goto hC 132 dX5_harm_127 rfl ?_
                    refine z_is5 hC dX5_harm_132 (by decide) ?_
                    refine z_inc6 hC dX5_harm_134 (by decide) ?_
                    refine z_goto hC 54 dX5_harm_137 rfl ?_
                    refine z_dr7 hC ?_
                    rw [mHw_f (c := (fun s => mOne (mSs G aN s bN) (mDif G bN vv cN))) (mOne_3 h78 h90 h108) h122] at ih
                    exact ih _ _ _ _ _
                · refine z_iconst hC dX5_harm_111 zi_2 ?_
                  refine z_goto hC 116 dX5_harm_112 rfl ?_
                  refine z_is7 hC dX5_harm_116 (by decide) ?_
                  refine z_il7 hC dX5_harm_118 ?_
                  refine z_il5 hC dX5_harm_120 ?_
                  refine z_icmp_le hC 130 dX5_harm_122 rfl (fun h122 => ?_) (fun h122 => ?_)
                  · refine z_il5 hC dX5_harm_130 ?_
                    refine z_is5 hC dX5_harm_132 (by decide) ?_
                    refine z_inc6 hC dX5_harm_134 (by decide) ?_
                    refine z_goto hC 54 dX5_harm_137 rfl ?_
                    refine z_dr7 hC ?_
                    rw [mHw_t (c := (fun s => mOne (mSs G aN s bN) (mDif G bN vv cN))) (mOne_2 h78 h90 h108) h122] at ih
                    exact ih _ _ _ _ _
                  · refine z_il7 hC dX5_harm_125 ?_
                    refine z_goto hC 132 dX5_harm_127 rfl ?_
                    refine z_is5 hC dX5_harm_132 (by decide) ?_
                    refine z_inc6 hC dX5_harm_134 (by decide) ?_
                    refine z_goto hC 54 dX5_harm_137 rfl ?_
                    refine z_dr7 hC ?_
                    rw [mHw_f (c := (fun s => mOne (mSs G aN s bN) (mDif G bN vv cN))) (mOne_2 h78 h90 h108) h122] at ih
                    exact ih _ _ _ _ _
              · refine z_iconst hC dX5_harm_93 zi_0 ?_
                refine z_goto hC 116 dX5_harm_94 rfl ?_
                refine z_is7 hC dX5_harm_116 (by decide) ?_
                refine z_il7 hC dX5_harm_118 ?_
                refine z_il5 hC dX5_harm_120 ?_
                refine z_icmp_le hC 130 dX5_harm_122 rfl (fun h122 => ?_) (fun h122 => ?_)
                · refine z_il5 hC dX5_harm_130 ?_
                  refine z_is5 hC dX5_harm_132 (by decide) ?_
                  refine z_inc6 hC dX5_harm_134 (by decide) ?_
                  refine z_goto hC 54 dX5_harm_137 rfl ?_
                  refine z_dr7 hC ?_
                  rw [mHw_t (c := (fun s => mOne (mSs G aN s bN) (mDif G bN vv cN))) (mOne_1 h78 h90) h122] at ih
                  exact ih _ _ _ _ _
                · refine z_il7 hC dX5_harm_125 ?_
                  refine z_goto hC 132 dX5_harm_127 rfl ?_
                  refine z_is5 hC dX5_harm_132 (by decide) ?_
                  refine z_inc6 hC dX5_harm_134 (by decide) ?_
                  refine z_goto hC 54 dX5_harm_137 rfl ?_
                  refine z_dr7 hC ?_
                  rw [mHw_f (c := (fun s => mOne (mSs G aN s bN) (mDif G bN vv cN))) (mOne_1 h78 h90) h122] at ih
                  exact ih _ _ _ _ _
      · replace nc : zin c vc = false := nc
        refine z_if_ne hC 24 dX5_harm_19 rfl (fun h => absurd h (by decide)) (fun _ => ?_)
        refine z_iconst hC dX5_harm_22 zi_m1 ?_
        exact z_reti hE (by omega) dX5_harm_23 (⟨by simp [xoHarm, maHarm, ta, qa, qsz, qv, tb, qb, nc], mS0_refl G⟩)
    · replace nb : zin b 8 = false := nb
      refine z_if_eq hC 22 dX5_harm_11 rfl (fun _ => ?_) (fun h => absurd h (by decide))
      refine z_iconst hC dX5_harm_22 zi_m1 ?_
      exact z_reti hE (by omega) dX5_harm_23 (⟨by simp [xoHarm, maHarm, ta, qa, qsz, qv, nb], mS0_refl G⟩)
  · replace na : zin a 6 = false := na
    refine z_if_eq hC 22 dX5_harm_4 rfl (fun _ => ?_) (fun h => absurd h (by decide))
    refine z_iconst hC dX5_harm_22 zi_m1 ?_
    exact z_reti hE (by omega) dX5_harm_23 (⟨by simp [xoHarm, maHarm, na], mS0_refl G⟩)

set_option maxHeartbeats 2000000 in
theorem q_holds (l : Launch) (X : zX) (G : zG) {r0 : Nat} (hr0 : r0 = za G 20 0) {vc rc td : Nat} (hI : mI G vc rc td) {a b c : Int32} : zC l yX5_holds cX5_holds 4 (some FieldType.int) 3 0 X [.ref r0, .int a, .int b, .int c] G (zPi (fun r G2 => r = maHolds G vc rc a b c ∧ G = G2)) := by
  subst hr0
  refine zC_of zpn_X5 (zcat rfl) (Nat.le_of_ble_eq_true rfl) ?_
  intro Z hC hE
  replace hC : zCtx l X cX5_holds RX5 4 3 0 Z := hC
  change Z 0 G 0 [some (.ref (za G 20 0)), some (.int a), some (.int b), some (.int c)] []
  obtain ⟨hvc, v1, v5, hrc, r12, htd, t39, htx, hgo, hru⟩ := hI
  refine z_al0 hC dX5_holds_0 ?_
  refine z_il1 hC dX5_holds_1 ?_
  refine z_cVi1 hC (c_X5_isRule l X _ (by rfl) hrc r12) zm_X5_isRule zi_X5_isRule zo_20 zk_X5_166 (by omega) (by decide) (by omega) (Nat.le_of_ble_eq_true rfl) dX5_holds_2 ?_
  rintro _ _ (⟨aN, ha, rfl, rfl, rfl⟩ | ⟨na, rfl, rfl⟩)
  · have ta : zin (nI aN) rc = true := zin_t ha (by omega)
    have qa : (nI aN).toNatClampNeg = aN := nI_clamp (by omega)
    refine z_if_eq hC 24 dX5_holds_5 rfl (fun h => absurd h (by decide)) (fun _ => ?_)
    refine z_al0 hC dX5_holds_8 ?_
    refine z_il2 hC dX5_holds_9 ?_
    refine z_cVi1 hC (c_X5_isVersion l X _ (by rfl) hvc v5) zm_X5_isVersion zi_X5_isVersion zo_20 zk_X5_101 (by omega) (by decide) (by omega) (Nat.le_of_ble_eq_true rfl) dX5_holds_10 ?_
    rintro _ _ (⟨bN, hb, rfl, rfl, rfl⟩ | ⟨nb, rfl, rfl⟩)
    · have tb : zin (nI bN) vc = true := zin_t hb (by omega)
      have qb : (nI bN).toNatClampNeg = bN := nI_clamp (by omega)
      refine z_if_eq hC 24 dX5_holds_13 rfl (fun h => absurd h (by decide)) (fun _ => ?_)
      refine z_al0 hC dX5_holds_16 ?_
      refine z_il3 hC dX5_holds_17 ?_
      refine z_cVi1 hC (c_X5_isVersion l X _ (by rfl) hvc v5) zm_X5_isVersion zi_X5_isVersion zo_20 zk_X5_101 (by omega) (by decide) (by omega) (Nat.le_of_ble_eq_true rfl) dX5_holds_18 ?_
      rintro _ _ (⟨cN, hc, rfl, rfl, rfl⟩ | ⟨nc, rfl, rfl⟩)
      · have tc : zin (nI cN) vc = true := zin_t hc (by omega)
        have qc : (nI cN).toNatClampNeg = cN := nI_clamp (by omega)
        refine z_if_ne hC 28 dX5_holds_21 rfl (fun _ => ?_) (fun h => absurd h (by decide))
        obtain ⟨fa, ta9, da9, hfa, hta9, hda9, efa, eta, eda⟩ := hru aN ha
        have q1a : (zg G 34 0 aN).toNatClampNeg = fa := by rw [efa]; exact nI_clamp (by omega)
        have q2a : (zg G 36 0 aN).toNatClampNeg = ta9 := by rw [eta]; exact nI_clamp (by omega)
        have q3a : (zg G 37 0 aN).toNatClampNeg = da9 := by rw [eda]; exact nI_clamp (by omega)
        refine z_al0 hC dX5_holds_28 ?_
        refine z_il1 hC dX5_holds_29 ?_
        refine z_il2 hC dX5_holds_30 ?_
        refine z_il3 hC dX5_holds_31 ?_
        refine z_cVi3 hC (c_X5_holdsFrom l X _ (by rfl) (by omega) (by omega) (by omega) hfa hta9 hda9 (by exact efa) (by exact eta) (by exact eda)) zm_X5_holdsFrom zi_X5_holdsFrom zo_20 zk_X5_169 (by omega) (by decide) (by omega) (Nat.le_of_ble_eq_true rfl) dX5_holds_32 ?_
        rintro _ _ (⟨hhe32, rfl, rfl⟩ | ⟨hhe32, rfl, rfl⟩)
        · refine z_if_eq hC 42 dX5_holds_35 rfl (fun h => absurd h (by decide)) (fun _ => ?_)
          refine z_iconst hC dX5_holds_38 zi_1 ?_
          refine z_goto hC 43 dX5_holds_39 rfl ?_
          exact z_reti hE (by omega) dX5_holds_43 (⟨by simp [xoHolds, maHolds, mRh, ta, qa, tb, qb, tc, qc, q1a, q2a, q3a, hhe32], rfl⟩)
        · refine z_if_eq hC 42 dX5_holds_35 rfl (fun _ => ?_) (fun h => absurd h (by decide))
          refine z_iconst hC dX5_holds_42 zi_0 ?_
          exact z_reti hE (by omega) dX5_holds_43 (⟨by simp [xoHolds, maHolds, mRh, ta, qa, tb, qb, tc, qc, q1a, q2a, q3a, hhe32], rfl⟩)
      · replace nc : zin c vc = false := nc
        refine z_if_ne hC 28 dX5_holds_21 rfl (fun h => absurd h (by decide)) (fun _ => ?_)
        refine z_iconst hC dX5_holds_24 zi_m1 ?_
        refine z_goto hC 43 dX5_holds_25 rfl ?_
        exact z_reti hE (by omega) dX5_holds_43 (⟨by simp [xoHolds, maHolds, mRh, ta, qa, tb, qb, nc], rfl⟩)
    · replace nb : zin b vc = false := nb
      refine z_if_eq hC 24 dX5_holds_13 rfl (fun _ => ?_) (fun h => absurd h (by decide))
      refine z_iconst hC dX5_holds_24 zi_m1 ?_
      refine z_goto hC 43 dX5_holds_25 rfl ?_
      exact z_reti hE (by omega) dX5_holds_43 (⟨by simp [xoHolds, maHolds, mRh, ta, qa, nb], rfl⟩)
  · replace na : zin a rc = false := na
    refine z_if_eq hC 24 dX5_holds_5 rfl (fun _ => ?_) (fun h => absurd h (by decide))
    refine z_iconst hC dX5_holds_24 zi_m1 ?_
    refine z_goto hC 43 dX5_holds_25 rfl ?_
    exact z_reti hE (by omega) dX5_holds_43 (⟨by simp [xoHolds, maHolds, mRh, na], rfl⟩)

set_option maxHeartbeats 2000000 in
theorem q_left (l : Launch) (X : zX) (G : zG) {r0 : Nat} (hr0 : r0 = za G 20 0) {vc rc td : Nat} (hI : mI G vc rc td) {a b c : Int32} : zC l yX5_left cX5_left 6 (some FieldType.int) 4 0 X [.ref r0, .int a, .int b, .int c] G (zPi (fun r G2 => r = maLeft G vc rc a b c ∧ mS0 G G2)) := by
  subst hr0
  refine zC_of zpn_X5 (zcat rfl) (Nat.le_of_ble_eq_true rfl) ?_
  intro Z hC hE
  replace hC : zCtx l X cX5_left RX5 6 4 0 Z := hC
  change Z 0 G 0 [some (.ref (za G 20 0)), some (.int a), some (.int b), some (.int c), none, none] []
  obtain ⟨hvc, v1, v5, hrc, r12, htd, t39, htx, hgo, hru⟩ := hI
  refine z_il1 hC dX5_left_0 ?_
  refine z_cSi1 hC (c_X5_isHouse l X _) zm_X5_isHouse zi_X5_isHouse zk_X5_108 (by omega) (by decide) (by omega) (Nat.le_of_ble_eq_true rfl) dX5_left_1 ?_
  rintro _ _ (⟨aN, ha, rfl, rfl, rfl⟩ | ⟨na, rfl, rfl⟩)
  · have ta : zin (nI aN) 6 = true := zin_t ha (by omega)
    have qa : (nI aN).toNatClampNeg = aN := nI_clamp (by omega)
    obtain ⟨sz, h12, hsz, hT⟩ := htx aN ha
    obtain ⟨vv, hvv, hv⟩ := hgo aN ha
    have qsz : mSz G aN = sz := by unfold mSz; rw [hsz]; exact nI_clamp (by omega)
    have qv : (zg G 22 0 aN).toNatClampNeg = vv := by rw [hv]; exact nI_clamp (by omega)
    refine z_if_eq hC 22 dX5_left_4 rfl (fun h => absurd h (by decide)) (fun _ => ?_)
    refine z_il2 hC dX5_left_7 ?_
    refine z_cSi1 hC (c_X5_isFace l X _) zm_X5_isFace zi_X5_isFace zk_X5_97 (by omega) (by decide) (by omega) (Nat.le_of_ble_eq_true rfl) dX5_left_8 ?_
    rintro _ _ (⟨bN, hb, rfl, rfl, rfl⟩ | ⟨nb, rfl, rfl⟩)
    · have tb : zin (nI bN) 8 = true := zin_t hb (by omega)
      have qb : (nI bN).toNatClampNeg = bN := nI_clamp (by omega)
      refine z_if_eq hC 22 dX5_left_11 rfl (fun h => absurd h (by decide)) (fun _ => ?_)
      refine z_al0 hC dX5_left_14 ?_
      refine z_il3 hC dX5_left_15 ?_
      refine z_cVi1 hC (c_X5_isVersion l X _ (by rfl) hvc v5) zm_X5_isVersion zi_X5_isVersion zo_20 zk_X5_101 (by omega) (by decide) (by omega) (Nat.le_of_ble_eq_true rfl) dX5_left_16 ?_
      rintro _ _ (⟨cN, hc, rfl, rfl, rfl⟩ | ⟨nc, rfl, rfl⟩)
      · have tc : zin (nI cN) vc = true := zin_t hc (by omega)
        have qc : (nI cN).toNatClampNeg = cN := nI_clamp (by omega)
        refine z_if_ne hC 24 dX5_left_19 rfl (fun _ => ?_) (fun h => absurd h (by decide))
        refine z_al0 hC dX5_left_24 ?_
        refine z_il1 hC dX5_left_25 ?_
        refine z_il2 hC dX5_left_26 ?_
        refine z_cVi2 hC (c_X5_usesOf l X _ (by rfl) ha hb h12 (by exact hsz) (by exact hT)) zm_X5_usesOf zi_X5_usesOf zo_20 zk_X5_147 (by omega) (by decide) (by omega) (Nat.le_of_ble_eq_true rfl) dX5_left_27 ?_
        rintro _ _ ⟨eu, p2, q2, sn2, x2, a2, rfl⟩
        rw [eu]
        refine z_al0 hC dX5_left_30 ?_
        refine z_il2 hC dX5_left_31 ?_
        refine z_al0 hC dX5_left_32 ?_
        refine zgf_X5_17 hC dX5_left_33 ?_
        refine z_il1 hC dX5_left_36 ?_
        refine zal_22 hC (by omega) dX5_left_37 ?_
        refine z_top (show _ = nI vv from hv) ?_
        refine z_il3 hC dX5_left_38 ?_
        refine z_cVi3 hC (c_X5_differs l X _ (by rfl) (by omega) (by omega) (by omega)) zm_X5_differs zi_X5_differs zo_20 zk_X5_104 (by omega) (by decide) (by omega) (Nat.le_of_ble_eq_true rfl) dX5_left_39 ?_
        rintro _ _ ⟨rfl, rfl⟩
        refine z_top (rfl : _ = mDif G bN vv cN) ?_
        refine z_iand hC dX5_left_42 ?_
        refine z_is4 hC dX5_left_43 (by decide) ?_
        refine z_iconst hC dX5_left_45 zi_0 ?_
        refine z_is5 hC dX5_left_46 (by decide) ?_
        refine z_loop (N := rc) (fun n => ∀ (p q sn : Nat → Int32) (x : Int32) (ak : Int64), Z 0 (mSc G p q sn (zg G 50 0) x ak) 48 [some (.ref (za G 20 0)), some (.int (nI aN)), some (.int (nI bN)), some (.int (nI cN)), some (.int (mLf G (nI bN) vv cN (mUsed G aN bN &&& mDif G bN vv cN) n)), some (.int (nI n))] []) ?_ ?_ 0 (Nat.zero_le _) _ _ _ _ _
        · intro p q sn x ak
          change Z 0 (mSc G p q sn (zg G 50 0) x ak) 48 [some (.ref (za G 20 0)), some (.int (nI aN)), some (.int (nI bN)), some (.int (nI cN)), some (.int (mLf G (nI bN) vv cN (mUsed G aN bN &&& mDif G bN vv cN) rc)), some (.int (nI rc))] []
          refine z_il5 hC dX5_left_48 ?_
          refine z_al0 hC dX5_left_50 ?_
          refine zgf_X5_163 hC dX5_left_51 ?_
          refine z_top (show _ = nI rc from hrc) ?_
          refine z_icmp_ge hC 110 dX5_left_54 rfl (fun _ => ?_) (fun h => absurd (nI_le (Nat.le_refl _) (by omega)) h)
          refine z_il4 hC dX5_left_110 ?_
          exact z_reti hE (by omega) dX5_left_112 (⟨by simp [xoHarm, maLeft, ta, qa, qsz, qv, tb, qb, tc, qc], _, _, _, _, _, rfl⟩)
        · intro n hn ih p q sn x ak
          change Z 0 (mSc G p q sn (zg G 50 0) x ak) 48 [some (.ref (za G 20 0)), some (.int (nI aN)), some (.int (nI bN)), some (.int (nI cN)), some (.int (mLf G (nI bN) vv cN (mUsed G aN bN &&& mDif G bN vv cN) n)), some (.int (nI n))] []
          replace ih : ∀ (p q sn : Nat → Int32) (x : Int32) (ak : Int64), Z 0 (mSc G p q sn (zg G 50 0) x ak) 48 [some (.ref (za G 20 0)), some (.int (nI aN)), some (.int (nI bN)), some (.int (nI cN)), some (.int (mLf G (nI bN) vv cN (mUsed G aN bN &&& mDif G bN vv cN) (n + 1))), some (.int (nI (n + 1)))] [] := ih
          refine z_il5 hC dX5_left_48 ?_
          refine z_al0 hC dX5_left_50 ?_
          refine zgf_X5_163 hC dX5_left_51 ?_
          refine z_top (show _ = nI rc from hrc) ?_
          refine z_icmp_ge hC 110 dX5_left_54 rfl (fun h => absurd h (nI_ge hn (by omega))) (fun _ => ?_)
          refine z_il4 hC dX5_left_57 ?_
          refine z_al0 hC dX5_left_59 ?_
          refine zgf_X5_51 hC dX5_left_60 ?_
          refine z_il5 hC dX5_left_63 ?_
          refine zal_34 hC (by omega) dX5_left_65 ?_
          refine z_top (rfl : _ = zg G 34 0 n) ?_
          refine z_il2 hC dX5_left_66 ?_
          refine z_icmp_ne hC 98 dX5_left_67 rfl (fun h67 => ?_) (fun h67 => ?_)
          · refine z_sipush hC dX5_left_98 zs_255 ?_
            refine z_iand hC dX5_left_101 ?_
            refine z_is4 hC dX5_left_102 (by decide) ?_
            refine z_inc5 hC dX5_left_104 (by decide) ?_
            refine z_goto hC 48 dX5_left_107 rfl ?_
            rw [mLf_0 h67] at ih
            exact ih _ _ _ _ _
          · obtain ⟨fn, tn9, dn9, hfn, htn9, hdn9, efn, etn, edn⟩ := hru n hn
            have q1n : (zg G 34 0 n).toNatClampNeg = fn := by rw [efn]; exact nI_clamp (by omega)
            have q2n : (zg G 36 0 n).toNatClampNeg = tn9 := by rw [etn]; exact nI_clamp (by omega)
            have q3n : (zg G 37 0 n).toNatClampNeg = dn9 := by rw [edn]; exact nI_clamp (by omega)
            refine z_al0 hC dX5_left_70 ?_
            refine z_il5 hC dX5_left_71 ?_
            refine z_al0 hC dX5_left_73 ?_
            refine zgf_X5_17 hC dX5_left_74 ?_
            refine z_il1 hC dX5_left_77 ?_
            refine zal_22 hC (by omega) dX5_left_78 ?_
            refine z_top (show _ = nI vv from hv) ?_
            refine z_il3 hC dX5_left_79 ?_
            refine z_cVi3 hC (c_X5_holdsFrom l X _ (by rfl) (by omega) (by omega) (by omega) hfn htn9 hdn9 (by exact efn) (by exact etn) (by exact edn)) zm_X5_holdsFrom zi_X5_holdsFrom zo_20 zk_X5_169 (by omega) (by decide) (by omega) (Nat.le_of_ble_eq_true rfl) dX5_left_80 ?_
            rintro _ _ (⟨hhe80, rfl, rfl⟩ | ⟨hhe80, rfl, rfl⟩)
            · refine z_if_eq hC 98 dX5_left_83 rfl (fun h => absurd h (by decide)) (fun _ => ?_)
              refine z_al0 hC dX5_left_86 ?_
              refine zgf_X5_54 hC dX5_left_87 ?_
              refine z_il5 hC dX5_left_90 ?_
              refine zal_35 hC (by omega) dX5_left_92 ?_
              refine z_top (rfl : _ = zg G 35 0 n) ?_
              refine z_iconst hC dX5_left_93 zi_m1 ?_
              refine z_ixor hC dX5_left_94 ?_
              refine z_goto hC 101 dX5_left_95 rfl ?_
              refine z_iand hC dX5_left_101 ?_
              refine z_is4 hC dX5_left_102 (by decide) ?_
              refine z_inc5 hC dX5_left_104 (by decide) ?_
              refine z_goto hC 48 dX5_left_107 rfl ?_
              rw [mLf_1 h67 (by unfold mRh; rw [q1n, q2n, q3n]; exact hhe80)] at ih
              exact ih _ _ _ _ _
            · refine z_if_eq hC 98 dX5_left_83 rfl (fun _ => ?_) (fun h => absurd h (by decide))
              refine z_sipush hC dX5_left_98 zs_255 ?_
              refine z_iand hC dX5_left_101 ?_
              refine z_is4 hC dX5_left_102 (by decide) ?_
              refine z_inc5 hC dX5_left_104 (by decide) ?_
              refine z_goto hC 48 dX5_left_107 rfl ?_
              rw [mLf_2 h67 (by unfold mRh; rw [q1n, q2n, q3n]; exact hhe80)] at ih
              exact ih _ _ _ _ _
      · replace nc : zin c vc = false := nc
        refine z_if_ne hC 24 dX5_left_19 rfl (fun h => absurd h (by decide)) (fun _ => ?_)
        refine z_iconst hC dX5_left_22 zi_m1 ?_
        exact z_reti hE (by omega) dX5_left_23 (⟨by simp [xoHarm, maLeft, ta, qa, qsz, qv, tb, qb, nc], mS0_refl G⟩)
    · replace nb : zin b 8 = false := nb
      refine z_if_eq hC 22 dX5_left_11 rfl (fun _ => ?_) (fun h => absurd h (by decide))
      refine z_iconst hC dX5_left_22 zi_m1 ?_
      exact z_reti hE (by omega) dX5_left_23 (⟨by simp [xoHarm, maLeft, ta, qa, qsz, qv, nb], mS0_refl G⟩)
  · replace na : zin a 6 = false := na
    refine z_if_eq hC 22 dX5_left_4 rfl (fun _ => ?_) (fun h => absurd h (by decide))
    refine z_iconst hC dX5_left_22 zi_m1 ?_
    exact z_reti hE (by omega) dX5_left_23 (⟨by simp [xoHarm, maLeft, na], mS0_refl G⟩)

set_option maxHeartbeats 2000000 in
theorem c_X5_harmOn (l : Launch) (X : zX) (G : zG) {r0 : Nat} (hr0 : r0 = za G 20 0) {f d : Nat} (hf : f < 8) (hd : d ≤ 40) (htx : ∀ h, h < 6 → ∃ n, n ≤ 12 ∧ zg G 23 0 h = nI n ∧ mTx G h n) : zC l yX5_harmOn cX5_harmOn 7 (some FieldType.int) 4 0 X [.ref r0, .int (nI f), .int (nI d)] G (zPi (fun r G2 => r = mHmd G f d ∧ mS0 G G2)) := by
  subst hr0
  refine zC_of zpn_X5 (zcat rfl) (Nat.le_of_ble_eq_true rfl) ?_
  intro Z hC hE
  replace hC : zCtx l X cX5_harmOn RX5 7 4 0 Z := hC
  change Z 0 G 0 [some (.ref (za G 20 0)), some (.int (nI f)), some (.int (nI d)), none, none, none, none] []
  refine z_iconst hC dX5_harmOn_0 zi_0 ?_
  refine z_is3 hC dX5_harmOn_1 (by decide) ?_
  refine z_iconst hC dX5_harmOn_2 zi_0 ?_
  refine z_is4 hC dX5_harmOn_3 (by decide) ?_
  refine zG0 (mSc_self G) ?_
  refine z_loop (N := 6) (fun n => ∀ (p q sn : Nat → Int32) (x : Int32) (ak : Int64), Z 0 (mSc G p q sn (zg G 50 0) x ak) 5 [some (.ref (za G 20 0)), some (.int (nI f)), some (.int (nI d)), some (.int (nI (ctF (fun h => mHm G f d h) n))), some (.int (nI n)), none, none] []) ?_ ?_ 0 (Nat.zero_le _) _ _ _ _ _
  · intro p q sn x ak
    change Z 0 (mSc G p q sn (zg G 50 0) x ak) 5 [some (.ref (za G 20 0)), some (.int (nI f)), some (.int (nI d)), some (.int (nI (ctF (fun h => mHm G f d h) 6))), some (.int (nI 6)), none, none] []
    refine z_il4 hC dX5_harmOn_5 ?_
    refine z_bipush hC dX5_harmOn_7 zb_6 ?_
    refine z_icmp_ge hC 80 dX5_harmOn_9 rfl (fun _ => ?_) (fun h => absurd (nI_le (Nat.le_refl _) (by omega)) h)
    refine z_il3 hC dX5_harmOn_80 ?_
    exact z_reti hE (by omega) dX5_harmOn_81 (⟨rfl, _, _, _, _, _, rfl⟩)
  · intro n hn ih p q sn x ak
    change Z 0 (mSc G p q sn (zg G 50 0) x ak) 5 [some (.ref (za G 20 0)), some (.int (nI f)), some (.int (nI d)), some (.int (nI (ctF (fun h => mHm G f d h) n))), some (.int (nI n)), none, none] []
    replace ih : ∀ (p q sn : Nat → Int32) (x : Int32) (ak : Int64), Z 0 (mSc G p q sn (zg G 50 0) x ak) 5 [some (.ref (za G 20 0)), some (.int (nI f)), some (.int (nI d)), some (.int (nI (ctF (fun h => mHm G f d h) (n + 1)))), some (.int (nI (n + 1))), none, none] [] := ih
    refine z_il4 hC dX5_harmOn_5 ?_
    refine z_bipush hC dX5_harmOn_7 zb_6 ?_
    refine z_icmp_ge hC 80 dX5_harmOn_9 rfl (fun h => absurd h (nI_ge hn (by omega))) (fun _ => ?_)
    obtain ⟨sz, h12, hsz, hT⟩ := htx n hn
    refine z_il2 hC dX5_harmOn_12 ?_
    refine z_bipush hC dX5_harmOn_13 zb_7 ?_
    refine z_icmp_le hC 25 dX5_harmOn_15 rfl (fun h15 => ?_) (fun h15 => ?_)
    · refine z_iconst hC dX5_harmOn_25 zi_0 ?_
      refine z_top (congrArg nI (mfr hd h15)) ?_
      refine z_is5 hC dX5_harmOn_26 (by decide) ?_
      refine z_il2 hC dX5_harmOn_28 ?_
      refine z_bipush hC dX5_harmOn_29 zb_40 ?_
      refine z_icmp_ge hC 38 dX5_harmOn_31 rfl (fun h31 => ?_) (fun h31 => ?_)
      · refine z_bipush hC dX5_harmOn_38 zb_39 ?_
        refine z_top (congrArg nI (mto2 hd h31)) ?_
        refine z_is6 hC dX5_harmOn_40 (by decide) ?_
        refine z_il3 hC dX5_harmOn_42 ?_
        refine z_al0 hC dX5_harmOn_43 ?_
        refine z_il4 hC dX5_harmOn_44 ?_
        refine z_il1 hC dX5_harmOn_46 ?_
        refine z_cVi2 hC (c_X5_usesOf l X _ (by rfl) hn hf h12 (by exact hsz) (by exact hT)) zm_X5_usesOf zi_X5_usesOf zo_20 zk_X5_147 (by omega) (by decide) (by omega) (Nat.le_of_ble_eq_true rfl) dX5_harmOn_47 ?_
        rintro _ _ ⟨eu, p2, q2, sn2, x2, a2, rfl⟩
        rw [eu, mUsed_mSc, mSc_mSc]
        refine z_if_ne hC 67 dX5_harmOn_50 rfl (fun h50 => ?_) (fun h50 => ?_)
        · refine z_iconst hC dX5_harmOn_67 zi_1 ?_
          refine z_goto hC 72 dX5_harmOn_68 rfl ?_
          refine z_iaddN hC dX5_harmOn_72 ?_
          refine z_is3 hC dX5_harmOn_73 (by decide) ?_
          refine z_inc4 hC dX5_harmOn_74 (by decide) ?_
          refine z_goto hC 5 dX5_harmOn_77 rfl ?_
          refine z_dr5 hC ?_
          refine z_dr6 hC ?_
          rw [ctF_t0 (by simp [mHm, h50])] at ih
          exact ih _ _ _ _ _
        · refine z_al0 hC dX5_harmOn_53 ?_
          refine z_il4 hC dX5_harmOn_54 ?_
          refine z_il1 hC dX5_harmOn_56 ?_
          refine z_il5 hC dX5_harmOn_57 ?_
          refine z_il6 hC dX5_harmOn_59 ?_
          refine z_cVi4 hC (c_X5_sumOf l X _ (by rfl) (by omega) (by omega) (by omega) (by omega)) zm_X5_sumOf zi_X5_sumOf zo_20 zk_X5_156 (by omega) (by decide) (by omega) (Nat.le_of_ble_eq_true rfl) dX5_harmOn_61 ?_
          rintro _ _ ⟨rfl, rfl⟩
          refine z_top (rfl : _ = mSum G n f (d - 7) (min d 39 + 1)) ?_
          refine z_if_le hC 71 dX5_harmOn_64 rfl (fun h64 => ?_) (fun h64 => ?_)
          · refine z_iconst hC dX5_harmOn_71 zi_0 ?_
            refine z_iaddN hC dX5_harmOn_72 ?_
            refine z_is3 hC dX5_harmOn_73 (by decide) ?_
            refine z_inc4 hC dX5_harmOn_74 (by decide) ?_
            refine z_goto hC 5 dX5_harmOn_77 rfl ?_
            refine z_dr5 hC ?_
            refine z_dr6 hC ?_
            rw [ctF_f0 (by simp [mHm, h50, h64])] at ih
            exact ih _ _ _ _ _
          · refine z_iconst hC dX5_harmOn_67 zi_1 ?_
            refine z_goto hC 72 dX5_harmOn_68 rfl ?_
            refine z_iaddN hC dX5_harmOn_72 ?_
            refine z_is3 hC dX5_harmOn_73 (by decide) ?_
            refine z_inc4 hC dX5_harmOn_74 (by decide) ?_
            refine z_goto hC 5 dX5_harmOn_77 rfl ?_
            refine z_dr5 hC ?_
            refine z_dr6 hC ?_
            rw [ctF_t0 (by simp [mHm, Int32.not_le.mp h64])] at ih
            exact ih _ _ _ _ _
      · refine z_il2 hC dX5_harmOn_34 ?_
        refine z_goto hC 40 dX5_harmOn_35 rfl ?_
        refine z_top (congrArg nI (mto hd h31)) ?_
        refine z_is6 hC dX5_harmOn_40 (by decide) ?_
        refine z_il3 hC dX5_harmOn_42 ?_
        refine z_al0 hC dX5_harmOn_43 ?_
        refine z_il4 hC dX5_harmOn_44 ?_
        refine z_il1 hC dX5_harmOn_46 ?_
        refine z_cVi2 hC (c_X5_usesOf l X _ (by rfl) hn hf h12 (by exact hsz) (by exact hT)) zm_X5_usesOf zi_X5_usesOf zo_20 zk_X5_147 (by omega) (by decide) (by omega) (Nat.le_of_ble_eq_true rfl) dX5_harmOn_47 ?_
        rintro _ _ ⟨eu, p2, q2, sn2, x2, a2, rfl⟩
        rw [eu, mUsed_mSc, mSc_mSc]
        refine z_if_ne hC 67 dX5_harmOn_50 rfl (fun h50 => ?_) (fun h50 => ?_)
        · refine z_iconst hC dX5_harmOn_67 zi_1 ?_
          refine z_goto hC 72 dX5_harmOn_68 rfl ?_
          refine z_iaddN hC dX5_harmOn_72 ?_
          refine z_is3 hC dX5_harmOn_73 (by decide) ?_
          refine z_inc4 hC dX5_harmOn_74 (by decide) ?_
          refine z_goto hC 5 dX5_harmOn_77 rfl ?_
          refine z_dr5 hC ?_
          refine z_dr6 hC ?_
          rw [ctF_t0 (by simp [mHm, h50])] at ih
          exact ih _ _ _ _ _
        · refine z_al0 hC dX5_harmOn_53 ?_
          refine z_il4 hC dX5_harmOn_54 ?_
          refine z_il1 hC dX5_harmOn_56 ?_
          refine z_il5 hC dX5_harmOn_57 ?_
          refine z_il6 hC dX5_harmOn_59 ?_
          refine z_cVi4 hC (c_X5_sumOf l X _ (by rfl) (by omega) (by omega) (by omega) (by omega)) zm_X5_sumOf zi_X5_sumOf zo_20 zk_X5_156 (by omega) (by decide) (by omega) (Nat.le_of_ble_eq_true rfl) dX5_harmOn_61 ?_
          rintro _ _ ⟨rfl, rfl⟩
          refine z_top (rfl : _ = mSum G n f (d - 7) (min d 39 + 1)) ?_
          refine z_if_le hC 71 dX5_harmOn_64 rfl (fun h64 => ?_) (fun h64 => ?_)
          · refine z_iconst hC dX5_harmOn_71 zi_0 ?_
            refine z_iaddN hC dX5_harmOn_72 ?_
            refine z_is3 hC dX5_harmOn_73 (by decide) ?_
            refine z_inc4 hC dX5_harmOn_74 (by decide) ?_
            refine z_goto hC 5 dX5_harmOn_77 rfl ?_
            refine z_dr5 hC ?_
            refine z_dr6 hC ?_
            rw [ctF_f0 (by simp [mHm, h50, h64])] at ih
            exact ih _ _ _ _ _
          · refine z_iconst hC dX5_harmOn_67 zi_1 ?_
            refine z_goto hC 72 dX5_harmOn_68 rfl ?_
            refine z_iaddN hC dX5_harmOn_72 ?_
            refine z_is3 hC dX5_harmOn_73 (by decide) ?_
            refine z_inc4 hC dX5_harmOn_74 (by decide) ?_
            refine z_goto hC 5 dX5_harmOn_77 rfl ?_
            refine z_dr5 hC ?_
            refine z_dr6 hC ?_
            rw [ctF_t0 (by simp [mHm, Int32.not_le.mp h64])] at ih
            exact ih _ _ _ _ _
    · refine z_il2 hC dX5_harmOn_18 ?_
      refine z_bipush hC dX5_harmOn_19 zb_7 ?_
      refine z_isubN hC dX5_harmOn_21 (mfr2 hd h15) ?_
      refine z_goto hC 26 dX5_harmOn_22 rfl ?_
      refine z_is5 hC dX5_harmOn_26 (by decide) ?_
      refine z_il2 hC dX5_harmOn_28 ?_
      refine z_bipush hC dX5_harmOn_29 zb_40 ?_
      refine z_icmp_ge hC 38 dX5_harmOn_31 rfl (fun h31 => ?_) (fun h31 => ?_)
      · refine z_bipush hC dX5_harmOn_38 zb_39 ?_
        refine z_top (congrArg nI (mto2 hd h31)) ?_
        refine z_is6 hC dX5_harmOn_40 (by decide) ?_
        refine z_il3 hC dX5_harmOn_42 ?_
        refine z_al0 hC dX5_harmOn_43 ?_
        refine z_il4 hC dX5_harmOn_44 ?_
        refine z_il1 hC dX5_harmOn_46 ?_
        refine z_cVi2 hC (c_X5_usesOf l X _ (by rfl) hn hf h12 (by exact hsz) (by exact hT)) zm_X5_usesOf zi_X5_usesOf zo_20 zk_X5_147 (by omega) (by decide) (by omega) (Nat.le_of_ble_eq_true rfl) dX5_harmOn_47 ?_
        rintro _ _ ⟨eu, p2, q2, sn2, x2, a2, rfl⟩
        rw [eu, mUsed_mSc, mSc_mSc]
        refine z_if_ne hC 67 dX5_harmOn_50 rfl (fun h50 => ?_) (fun h50 => ?_)
        · refine z_iconst hC dX5_harmOn_67 zi_1 ?_
          refine z_goto hC 72 dX5_harmOn_68 rfl ?_
          refine z_iaddN hC dX5_harmOn_72 ?_
          refine z_is3 hC dX5_harmOn_73 (by decide) ?_
          refine z_inc4 hC dX5_harmOn_74 (by decide) ?_
          refine z_goto hC 5 dX5_harmOn_77 rfl ?_
          refine z_dr5 hC ?_
          refine z_dr6 hC ?_
          rw [ctF_t0 (by simp [mHm, h50])] at ih
          exact ih _ _ _ _ _
        · refine z_al0 hC dX5_harmOn_53 ?_
          refine z_il4 hC dX5_harmOn_54 ?_
          refine z_il1 hC dX5_harmOn_56 ?_
          refine z_il5 hC dX5_harmOn_57 ?_
          refine z_il6 hC dX5_harmOn_59 ?_
          refine z_cVi4 hC (c_X5_sumOf l X _ (by rfl) (by omega) (by omega) (by omega) (by omega)) zm_X5_sumOf zi_X5_sumOf zo_20 zk_X5_156 (by omega) (by decide) (by omega) (Nat.le_of_ble_eq_true rfl) dX5_harmOn_61 ?_
          rintro _ _ ⟨rfl, rfl⟩
          refine z_top (rfl : _ = mSum G n f (d - 7) (min d 39 + 1)) ?_
          refine z_if_le hC 71 dX5_harmOn_64 rfl (fun h64 => ?_) (fun h64 => ?_)
          · refine z_iconst hC dX5_harmOn_71 zi_0 ?_
            refine z_iaddN hC dX5_harmOn_72 ?_
            refine z_is3 hC dX5_harmOn_73 (by decide) ?_
            refine z_inc4 hC dX5_harmOn_74 (by decide) ?_
            refine z_goto hC 5 dX5_harmOn_77 rfl ?_
            refine z_dr5 hC ?_
            refine z_dr6 hC ?_
            rw [ctF_f0 (by simp [mHm, h50, h64])] at ih
            exact ih _ _ _ _ _
          · refine z_iconst hC dX5_harmOn_67 zi_1 ?_
            refine z_goto hC 72 dX5_harmOn_68 rfl ?_
            refine z_iaddN hC dX5_harmOn_72 ?_
            refine z_is3 hC dX5_harmOn_73 (by decide) ?_
            refine z_inc4 hC dX5_harmOn_74 (by decide) ?_
            refine z_goto hC 5 dX5_harmOn_77 rfl ?_
            refine z_dr5 hC ?_
            refine z_dr6 hC ?_
            rw [ctF_t0 (by simp [mHm, Int32.not_le.mp h64])] at ih
            exact ih _ _ _ _ _
      · refine z_il2 hC dX5_harmOn_34 ?_
        refine z_goto hC 40 dX5_harmOn_35 rfl ?_
        refine z_top (congrArg nI (mto hd h31)) ?_
        refine z_is6 hC dX5_harmOn_40 (by decide) ?_
        refine z_il3 hC dX5_harmOn_42 ?_
        refine z_al0 hC dX5_harmOn_43 ?_
        refine z_il4 hC dX5_harmOn_44 ?_
        refine z_il1 hC dX5_harmOn_46 ?_
        refine z_cVi2 hC (c_X5_usesOf l X _ (by rfl) hn hf h12 (by exact hsz) (by exact hT)) zm_X5_usesOf zi_X5_usesOf zo_20 zk_X5_147 (by omega) (by decide) (by omega) (Nat.le_of_ble_eq_true rfl) dX5_harmOn_47 ?_
        rintro _ _ ⟨eu, p2, q2, sn2, x2, a2, rfl⟩
        rw [eu, mUsed_mSc, mSc_mSc]
        refine z_if_ne hC 67 dX5_harmOn_50 rfl (fun h50 => ?_) (fun h50 => ?_)
        · refine z_iconst hC dX5_harmOn_67 zi_1 ?_
          refine z_goto hC 72 dX5_harmOn_68 rfl ?_
          refine z_iaddN hC dX5_harmOn_72 ?_
          refine z_is3 hC dX5_harmOn_73 (by decide) ?_
          refine z_inc4 hC dX5_harmOn_74 (by decide) ?_
          refine z_goto hC 5 dX5_harmOn_77 rfl ?_
          refine z_dr5 hC ?_
          refine z_dr6 hC ?_
          rw [ctF_t0 (by simp [mHm, h50])] at ih
          exact ih _ _ _ _ _
        · refine z_al0 hC dX5_harmOn_53 ?_
          refine z_il4 hC dX5_harmOn_54 ?_
          refine z_il1 hC dX5_harmOn_56 ?_
          refine z_il5 hC dX5_harmOn_57 ?_
          refine z_il6 hC dX5_harmOn_59 ?_
          refine z_cVi4 hC (c_X5_sumOf l X _ (by rfl) (by omega) (by omega) (by omega) (by omega)) zm_X5_sumOf zi_X5_sumOf zo_20 zk_X5_156 (by omega) (by decide) (by omega) (Nat.le_of_ble_eq_true rfl) dX5_harmOn_61 ?_
          rintro _ _ ⟨rfl, rfl⟩
          refine z_top (rfl : _ = mSum G n f (d - 7) (min d 39 + 1)) ?_
          refine z_if_le hC 71 dX5_harmOn_64 rfl (fun h64 => ?_) (fun h64 => ?_)
          · refine z_iconst hC dX5_harmOn_71 zi_0 ?_
            refine z_iaddN hC dX5_harmOn_72 ?_
            refine z_is3 hC dX5_harmOn_73 (by decide) ?_
            refine z_inc4 hC dX5_harmOn_74 (by decide) ?_
            refine z_goto hC 5 dX5_harmOn_77 rfl ?_
            refine z_dr5 hC ?_
            refine z_dr6 hC ?_
            rw [ctF_f0 (by simp [mHm, h50, h64])] at ih
            exact ih _ _ _ _ _
          · refine z_iconst hC dX5_harmOn_67 zi_1 ?_
            refine z_goto hC 72 dX5_harmOn_68 rfl ?_
            refine z_iaddN hC dX5_harmOn_72 ?_
            refine z_is3 hC dX5_harmOn_73 (by decide) ?_
            refine z_inc4 hC dX5_harmOn_74 (by decide) ?_
            refine z_goto hC 5 dX5_harmOn_77 rfl ?_
            refine z_dr5 hC ?_
            refine z_dr6 hC ?_
            rw [ctF_t0 (by simp [mHm, Int32.not_le.mp h64])] at ih
            exact ih _ _ _ _ _

set_option maxHeartbeats 2000000 in
theorem q_harmed (l : Launch) (X : zX) (G : zG) {r0 : Nat} (hr0 : r0 = za G 20 0) {vc rc td : Nat} (hI : mI G vc rc td) {a b : Int32} : zC l yX5_harmed cX5_harmed 3 (some FieldType.int) 5 0 X [.ref r0, .int a, .int b] G (zPi (fun r G2 => r = maHarmed G a b ∧ mS0 G G2)) := by
  subst hr0
  refine zC_of zpn_X5 (zcat rfl) (Nat.le_of_ble_eq_true rfl) ?_
  intro Z hC hE
  replace hC : zCtx l X cX5_harmed RX5 3 5 0 Z := hC
  change Z 0 G 0 [some (.ref (za G 20 0)), some (.int a), some (.int b)] []
  obtain ⟨hvc, v1, v5, hrc, r12, htd, t39, htx, hgo, hru⟩ := hI
  refine z_il1 hC dX5_harmed_0 ?_
  refine z_cSi1 hC (c_X5_isFace l X _) zm_X5_isFace zi_X5_isFace zk_X5_97 (by omega) (by decide) (by omega) (Nat.le_of_ble_eq_true rfl) dX5_harmed_1 ?_
  rintro _ _ (⟨aN, ha, rfl, rfl, rfl⟩ | ⟨na, rfl, rfl⟩)
  · have ta : zin (nI aN) 8 = true := zin_t ha (by omega)
    have qa : (nI aN).toNatClampNeg = aN := nI_clamp (by omega)
    refine z_if_eq hC 26 dX5_harmed_4 rfl (fun h => absurd h (by decide)) (fun _ => ?_)
    refine z_il2 hC dX5_harmed_7 ?_
    refine z_iconst hC dX5_harmed_8 zi_0 ?_
    refine z_bipush hC dX5_harmed_9 zb_40 ?_
    refine z_cSi3 hC (c_X5_in0 l X _ (by decide)) zm_X5_in zi_X5_in zk_X5_93 (by omega) (by decide) (by omega) (Nat.le_of_ble_eq_true rfl) dX5_harmed_11 ?_
    rintro _ _ (⟨bN, hb, rfl, rfl, rfl⟩ | ⟨nb, rfl, rfl⟩)
    · have tb : zin (nI bN) 41 = true := zin_t hb (by omega)
      have qb : (nI bN).toNatClampNeg = bN := nI_clamp (by omega)
      refine z_if_eq hC 26 dX5_harmed_14 rfl (fun h => absurd h (by decide)) (fun _ => ?_)
      refine z_al0 hC dX5_harmed_17 ?_
      refine z_il1 hC dX5_harmed_18 ?_
      refine z_il2 hC dX5_harmed_19 ?_
      refine z_cVi2 hC (c_X5_harmOn l X _ (by rfl) ha (by omega) htx) zm_X5_harmOn zi_X5_harmOn zo_20 zk_X5_179 (by omega) (by decide) (by omega) (Nat.le_of_ble_eq_true rfl) dX5_harmed_20 ?_
      rintro _ _ ⟨eh, p2, q2, sn2, x2, a2, rfl⟩
      rw [eh]
      refine z_goto hC 27 dX5_harmed_23 rfl ?_
      exact z_reti hE (by omega) dX5_harmed_27 (⟨by simp [maHarmed, ta, qa, tb, qb], _, _, _, _, _, rfl⟩)
    · replace nb : zin b 41 = false := nb
      refine z_if_eq hC 26 dX5_harmed_14 rfl (fun _ => ?_) (fun h => absurd h (by decide))
      refine z_iconst hC dX5_harmed_26 zi_m1 ?_
      exact z_reti hE (by omega) dX5_harmed_27 (⟨by simp [maHarmed, ta, qa, nb], mS0_refl G⟩)
  · replace na : zin a 8 = false := na
    refine z_if_eq hC 26 dX5_harmed_4 rfl (fun _ => ?_) (fun h => absurd h (by decide))
    refine z_iconst hC dX5_harmed_26 zi_m1 ?_
    exact z_reti hE (by omega) dX5_harmed_27 (⟨by simp [maHarmed, na], mS0_refl G⟩)

set_option maxHeartbeats 2000000 in
theorem q_ready (l : Launch) (X : zX) (G : zG) {r0 : Nat} (hr0 : r0 = za G 20 0) {vc rc td : Nat} (hI : mI G vc rc td) {a : Int32} : zC l yX5_ready cX5_ready 3 (some FieldType.int) 5 0 X [.ref r0, .int a] G (zPi (fun r G2 => r = maReady G td a ∧ mS0 G G2)) := by
  subst hr0
  refine zC_of zpn_X5 (zcat rfl) (Nat.le_of_ble_eq_true rfl) ?_
  intro Z hC hE
  replace hC : zCtx l X cX5_ready RX5 3 5 0 Z := hC
  change Z 0 G 0 [some (.ref (za G 20 0)), some (.int a), none] []
  obtain ⟨hvc, v1, v5, hrc, r12, htd, t39, htx, hgo, hru⟩ := hI
  refine z_il1 hC dX5_ready_0 ?_
  refine z_cSi1 hC (c_X5_isFace l X _) zm_X5_isFace zi_X5_isFace zk_X5_97 (by omega) (by decide) (by omega) (Nat.le_of_ble_eq_true rfl) dX5_ready_1 ?_
  rintro _ _ (⟨aN, ha, rfl, rfl, rfl⟩ | ⟨na, rfl, rfl⟩)
  · have ta : zin (nI aN) 8 = true := zin_t ha (by omega)
    have qa : (nI aN).toNatClampNeg = aN := nI_clamp (by omega)
    refine z_if_ne hC 9 dX5_ready_4 rfl (fun _ => ?_) (fun h => absurd h (by decide))
    refine z_al0 hC dX5_ready_9 ?_
    refine zgf_X5_90 hC dX5_ready_10 ?_
    refine z_top htd ?_
    refine z_is2 hC dX5_ready_13 (by decide) ?_
    refine zG0 (mSc_self G) ?_
    refine z_loop (N := 41) (fun n => ∀ (p q sn : Nat → Int32) (x : Int32) (ak : Int64), fsT (fun d => mRd G aN d) td (41 - td) = fsT (fun d => mRd G aN d) n (41 - n) → Z 0 (mSc G p q sn (zg G 50 0) x ak) 14 [some (.ref (za G 20 0)), some (.int (nI aN)), some (.int (nI n))] []) ?_ ?_ td (by omega) _ _ _ _ _ rfl
    · intro p q sn x ak hv
      change Z 0 (mSc G p q sn (zg G 50 0) x ak) 14 [some (.ref (za G 20 0)), some (.int (nI aN)), some (.int (nI 41))] []
      refine z_il2 hC dX5_ready_14 ?_
      refine z_bipush hC dX5_ready_15 zb_40 ?_
      refine z_icmp_gt hC 46 dX5_ready_17 rfl (fun _ => ?_) (fun h => absurd (nI_lt (Nat.lt_succ_self _) (by omega)) h)
      refine z_bipush hC dX5_ready_46 zb_m9 ?_
      exact z_reti hE (by omega) dX5_ready_48 (⟨by unfold maReady; rw [if_pos ta, qa, hv]; rfl, _, _, _, _, _, rfl⟩)
    · intro n hn ih p q sn x ak hv
      change Z 0 (mSc G p q sn (zg G 50 0) x ak) 14 [some (.ref (za G 20 0)), some (.int (nI aN)), some (.int (nI n))] []
      replace ih : ∀ (p q sn : Nat → Int32) (x : Int32) (ak : Int64), fsT (fun d => mRd G aN d) td (41 - td) = fsT (fun d => mRd G aN d) (n + 1) (41 - (n + 1)) → Z 0 (mSc G p q sn (zg G 50 0) x ak) 14 [some (.ref (za G 20 0)), some (.int (nI aN)), some (.int (nI (n + 1)))] [] := ih
      refine z_il2 hC dX5_ready_14 ?_
      refine z_bipush hC dX5_ready_15 zb_40 ?_
      refine z_icmp_gt hC 46 dX5_ready_17 rfl (fun h => absurd h (Int32.not_lt.mpr (nI_le (Nat.le_of_lt_succ hn) (by omega)))) (fun _ => ?_)
      refine z_al0 hC dX5_ready_20 ?_
      refine z_il1 hC dX5_ready_21 ?_
      refine z_cVi1 hC (c_X5_latest l X _ (by rfl) (by omega)) zm_X5_latest zi_X5_latest zo_20 zk_X5_176 (by omega) (by decide) (by omega) (Nat.le_of_ble_eq_true rfl) dX5_ready_22 ?_
      rintro _ _ ⟨elat, rfl⟩
      rw [elat, mLat_mSc]
      refine z_il2 hC dX5_ready_25 ?_
      refine z_icmp_ge hC 40 dX5_ready_26 rfl (fun h26 => ?_) (fun h26 => ?_)
      · refine z_inc2 hC dX5_ready_40 (by decide) ?_
        refine z_goto hC 14 dX5_ready_43 rfl ?_
        exact ih _ _ _ _ _ (hv.trans ((fsT_s hn).trans (if_neg (by simp [mRd, Int32.not_lt.mpr h26]))))
      · refine z_al0 hC dX5_ready_29 ?_
        refine z_il1 hC dX5_ready_30 ?_
        refine z_il2 hC dX5_ready_31 ?_
        refine z_cVi2 hC (c_X5_harmOn l X _ (by rfl) ha (by omega) (by exact htx)) zm_X5_harmOn zi_X5_harmOn zo_20 zk_X5_179 (by omega) (by decide) (by omega) (Nat.le_of_ble_eq_true rfl) dX5_ready_32 ?_
        rintro _ _ ⟨eh, p2, q2, sn2, x2, a2, rfl⟩
        rw [eh, mHmd_mSc, mSc_mSc]
        refine z_if_ne hC 40 dX5_ready_35 rfl (fun h35 => ?_) (fun h35 => ?_)
        · refine z_inc2 hC dX5_ready_40 (by decide) ?_
          refine z_goto hC 14 dX5_ready_43 rfl ?_
          exact ih _ _ _ _ _ (hv.trans ((fsT_s hn).trans (if_neg (by simp [mRd, h35]))))
        · refine z_il2 hC dX5_ready_38 ?_
          exact z_reti hE (by omega) dX5_ready_39 (⟨by unfold maReady; rw [if_pos ta, qa, hv, fsT_s hn, if_pos (show mRd G aN n = true from decide_eq_true ⟨Int32.not_le.mp h26, h35⟩)], _, _, _, _, _, rfl⟩)
  · replace na : zin a 8 = false := na
    refine z_if_ne hC 9 dX5_ready_4 rfl (fun h => absurd h (by decide)) (fun _ => ?_)
    refine z_iconst hC dX5_ready_7 zi_m1 ?_
    exact z_reti hE (by omega) dX5_ready_8 (⟨by simp [maReady, na], mS0_refl G⟩)

set_option maxHeartbeats 2000000 in
theorem q_plan (l : Launch) (X : zX) (G : zG) {r0 : Nat} (hr0 : r0 = za G 20 0) {vc rc td : Nat} (hI : mI G vc rc td) {a : Int32} : zC l yX5_plan cX5_plan 5 (some FieldType.int) 4 0 X [.ref r0, .int a] G (zPi (fun r G2 => r = maPlan G td a ∧ mSX G G2)) := by
  subst hr0
  refine zC_of zpn_X5 (zcat rfl) (Nat.le_of_ble_eq_true rfl) ?_
  intro Z hC hE
  replace hC : zCtx l X cX5_plan RX5 5 4 0 Z := hC
  change Z 0 G 0 [some (.ref (za G 20 0)), some (.int a), none, none, none] []
  obtain ⟨hvc, v1, v5, hrc, r12, htd, t39, htx, hgo, hru⟩ := hI
  refine z_il1 hC dX5_plan_0 ?_
  refine z_iconst hC dX5_plan_1 zi_0 ?_
  refine z_iconst hC dX5_plan_2 zi_1 ?_
  refine z_cSi3 hC (c_X5_in0 l X _ (by decide)) zm_X5_in zi_X5_in zk_X5_93 (by omega) (by decide) (by omega) (Nat.le_of_ble_eq_true rfl) dX5_plan_3 ?_
  rintro _ _ (⟨aN, ha, rfl, rfl, rfl⟩ | ⟨na, rfl, rfl⟩)
  · have ta : zin (nI aN) 2 = true := zin_t ha (by omega)
    have qa : (nI aN).toNatClampNeg = aN := nI_clamp (by omega)
    refine z_if_ne hC 11 dX5_plan_6 rfl (fun _ => ?_) (fun h => absurd h (by decide))
    refine z_iconst hC dX5_plan_11 zi_0 ?_
    refine z_is2 hC dX5_plan_12 (by decide) ?_
    refine z_iconst hC dX5_plan_13 zi_0 ?_
    refine z_is3 hC dX5_plan_14 (by decide) ?_
    refine zG0 (mSc_self G) ?_
    refine z_loop (N := 8) (fun n => ∀ (p q sn : Nat → Int32) (x : Int32) (ak : Int64), Z 0 (mSc G p q sn (lsF (zg G 50 0) (fun j => mHr G j 6) n) x ak) 15 [some (.ref (za G 20 0)), some (.int (nI aN)), some (.int (mMust G td n)), some (.int (nI n)), none] []) ?_ ?_ 0 (Nat.zero_le _) _ _ _ _ _
    · intro p q sn x ak
      change Z 0 (mSc G p q sn (lsF (zg G 50 0) (fun j => mHr G j 6) 8) x ak) 15 [some (.ref (za G 20 0)), some (.int (nI aN)), some (.int (mMust G td 8)), some (.int (nI 8)), none] []
      refine z_il3 hC dX5_plan_15 ?_
      refine z_bipush hC dX5_plan_16 zb_8 ?_
      refine z_icmp_ge hC 102 dX5_plan_18 rfl (fun _ => ?_) (fun h => absurd (nI_le (Nat.le_refl _) (by omega)) h)
      refine z_iconst hC dX5_plan_102 zi_m1 ?_
      refine z_is3 hC dX5_plan_103 (by decide) ?_
      refine z_iconst hC dX5_plan_104 zi_0 ?_
      refine z_is4 hC dX5_plan_105 (by decide) ?_
      refine z_loop (N := 256) (fun n => Z 0 (mSc G p q sn (lsF (zg G 50 0) (fun j => mHr G j 6) 8) x ak) 107 [some (.ref (za G 20 0)), some (.int (nI aN)), some (.int (mMust G td 8)), some (.int (mBst G (mMust G td 8) n)), some (.int (nI n))] []) ?_ ?_ 0 (Nat.zero_le _)
      · change Z 0 (mSc G p q sn (lsF (zg G 50 0) (fun j => mHr G j 6) 8) x ak) 107 [some (.ref (za G 20 0)), some (.int (nI aN)), some (.int (mMust G td 8)), some (.int (mBst G (mMust G td 8) 256)), some (.int (nI 256))] []
        refine z_il4 hC dX5_plan_107 ?_
        refine z_sipush hC dX5_plan_109 zs_256 ?_
        refine z_icmp_ge hC 150 dX5_plan_112 rfl (fun _ => ?_) (fun h => absurd (nI_le (Nat.le_refl _) (by omega)) h)
        refine z_il1 hC dX5_plan_150 ?_
        refine z_if_ne hC 158 dX5_plan_151 rfl (fun h151 => ?_) (fun h151 => ?_)
        · refine z_al0 hC dX5_plan_158 ?_
          refine z_il3 hC dX5_plan_159 ?_
          refine z_cVi1 hC (c_X5_costOf l X _ (by rfl)) zm_X5_costOf zi_X5_costOf zo_20 zk_X5_182 (by omega) (by decide) (by omega) (Nat.le_of_ble_eq_true rfl) dX5_plan_160 ?_
          rintro _ _ ⟨ec, rfl⟩
          rw [ec, mCst_eq]
          exact z_reti hE (by omega) dX5_plan_163 (⟨by unfold maPlan; rw [if_pos ta, if_neg h151], _, _, _, _, _, _, rfl⟩)
        · refine z_il3 hC dX5_plan_154 ?_
          refine z_goto hC 163 dX5_plan_155 rfl ?_
          exact z_reti hE (by omega) dX5_plan_163 (⟨by unfold maPlan; rw [if_pos ta, if_pos h151], _, _, _, _, _, _, rfl⟩)
      · intro n hn ih
        change Z 0 (mSc G p q sn (lsF (zg G 50 0) (fun j => mHr G j 6) 8) x ak) 107 [some (.ref (za G 20 0)), some (.int (nI aN)), some (.int (mMust G td 8)), some (.int (mBst G (mMust G td 8) n)), some (.int (nI n))] []
        replace ih : Z 0 (mSc G p q sn (lsF (zg G 50 0) (fun j => mHr G j 6) 8) x ak) 107 [some (.ref (za G 20 0)), some (.int (nI aN)), some (.int (mMust G td 8)), some (.int (mBst G (mMust G td 8) (n + 1))), some (.int (nI (n + 1)))] [] := ih
        refine z_il4 hC dX5_plan_107 ?_
        refine z_sipush hC dX5_plan_109 zs_256 ?_
        refine z_icmp_ge hC 150 dX5_plan_112 rfl (fun h => absurd h (nI_ge hn (by omega))) (fun _ => ?_)
        refine z_il4 hC dX5_plan_115 ?_
        refine z_il2 hC dX5_plan_117 ?_
        refine z_iand hC dX5_plan_118 ?_
        refine z_il2 hC dX5_plan_119 ?_
        refine z_icmp_ne hC 144 dX5_plan_120 rfl (fun h120 => ?_) (fun h120 => ?_)
        · refine z_inc4 hC dX5_plan_144 (by decide) ?_
          refine z_goto hC 107 dX5_plan_147 rfl ?_
          rw [mBst_0 h120] at ih
          exact ih
        · refine z_il3 hC dX5_plan_123 ?_
          refine z_if_lt hC 141 dX5_plan_124 rfl (fun h124 => ?_) (fun h124 => ?_)
          · refine z_il4 hC dX5_plan_141 ?_
            refine z_is3 hC dX5_plan_143 (by decide) ?_
            refine z_inc4 hC dX5_plan_144 (by decide) ?_
            refine z_goto hC 107 dX5_plan_147 rfl ?_
            rw [mBst_1 h120 h124] at ih
            exact ih
          · refine z_al0 hC dX5_plan_127 ?_
            refine z_il4 hC dX5_plan_128 ?_
            refine z_cVi1 hC (c_X5_costOf l X _ (by rfl)) zm_X5_costOf zi_X5_costOf zo_20 zk_X5_182 (by omega) (by decide) (by omega) (Nat.le_of_ble_eq_true rfl) dX5_plan_130 ?_
            rintro _ _ ⟨ec, rfl⟩
            rw [ec, mCst_eq]
            refine z_al0 hC dX5_plan_133 ?_
            refine z_il3 hC dX5_plan_134 ?_
            refine z_cVi1 hC (c_X5_costOf l X _ (by rfl)) zm_X5_costOf zi_X5_costOf zo_20 zk_X5_182 (by omega) (by decide) (by omega) (Nat.le_of_ble_eq_true rfl) dX5_plan_135 ?_
            rintro _ _ ⟨ec, rfl⟩
            rw [ec, mCst_eq]
            refine z_icmp_ge hC 144 dX5_plan_138 rfl (fun h138 => ?_) (fun h138 => ?_)
            · refine z_inc4 hC dX5_plan_144 (by decide) ?_
              refine z_goto hC 107 dX5_plan_147 rfl ?_
              rw [mBst_2 h120 h124 h138] at ih
              exact ih
            · refine z_il4 hC dX5_plan_141 ?_
              refine z_is3 hC dX5_plan_143 (by decide) ?_
              refine z_inc4 hC dX5_plan_144 (by decide) ?_
              refine z_goto hC 107 dX5_plan_147 rfl ?_
              rw [mBst_3 h120 h124 h138] at ih
              exact ih
    · intro n hn ih p q sn x ak
      change Z 0 (mSc G p q sn (lsF (zg G 50 0) (fun j => mHr G j 6) n) x ak) 15 [some (.ref (za G 20 0)), some (.int (nI aN)), some (.int (mMust G td n)), some (.int (nI n)), none] []
      replace ih : ∀ (p q sn : Nat → Int32) (x : Int32) (ak : Int64), Z 0 (mSc G p q sn (lsF (zg G 50 0) (fun j => mHr G j 6) (n + 1)) x ak) 15 [some (.ref (za G 20 0)), some (.int (nI aN)), some (.int (mMust G td (n + 1))), some (.int (nI (n + 1))), none] [] := ih
      refine z_il3 hC dX5_plan_15 ?_
      refine z_bipush hC dX5_plan_16 zb_8 ?_
      refine z_icmp_ge hC 102 dX5_plan_18 rfl (fun h => absurd h (nI_ge hn (by omega))) (fun _ => ?_)
      refine z_il2 hC dX5_plan_21 ?_
      refine z_al0 hC dX5_plan_22 ?_
      refine z_il3 hC dX5_plan_23 ?_
      refine z_cVi1 hC (c_X5_latest l X _ (by rfl) (by omega)) zm_X5_latest zi_X5_latest zo_20 zk_X5_176 (by omega) (by decide) (by omega) (Nat.le_of_ble_eq_true rfl) dX5_plan_24 ?_
      rintro _ _ ⟨elat, rfl⟩
      rw [elat, mLat_mSc]
      refine z_al0 hC dX5_plan_27 ?_
      refine zgf_X5_90 hC dX5_plan_28 ?_
      refine z_top (show _ = nI td from htd) ?_
      refine z_icmp_le hC 40 dX5_plan_31 rfl (fun h31 => ?_) (fun h31 => ?_)
      · refine z_iconst hC dX5_plan_40 zi_0 ?_
        refine z_ior hC dX5_plan_41 ?_
        refine z_is2 hC dX5_plan_42 (by decide) ?_
        refine z_al0 hC dX5_plan_43 ?_
        refine zgf_X5_87 hC dX5_plan_44 ?_
        refine z_il3 hC dX5_plan_47 ?_
        refine z_iconst hC dX5_plan_48 zi_0 ?_
        refine zas_50 hC (by omega) dX5_plan_49 ?_
        rw [mSc_l]
        refine z_iconst hC dX5_plan_50 zi_0 ?_
        refine z_is4 hC dX5_plan_51 (by decide) ?_
        refine z_loop (N := 6) (fun k => ∀ (p3 q3 sn3 : Nat → Int32) (x3 : Int32) (a3 : Int64), Z 0 (mSc G p3 q3 sn3 (upd (lsF (zg G 50 0) (fun j => mHr G j 6) n) n (mHr G n k)) x3 a3) 53 [some (.ref (za G 20 0)), some (.int (nI aN)), some (.int (mMust G td n ||| nI 0)), some (.int (nI n)), some (.int (nI k))] []) ?_ ?_ 0 (Nat.zero_le _) _ _ _ _ _
        · intro p3 q3 sn3 x3 a3
          change Z 0 (mSc G p3 q3 sn3 (upd (lsF (zg G 50 0) (fun j => mHr G j 6) n) n (mHr G n 6)) x3 a3) 53 [some (.ref (za G 20 0)), some (.int (nI aN)), some (.int (mMust G td n ||| nI 0)), some (.int (nI n)), some (.int (nI 6))] []
          refine z_il4 hC dX5_plan_53 ?_
          refine z_bipush hC dX5_plan_55 zb_6 ?_
          refine z_icmp_ge hC 96 dX5_plan_57 rfl (fun _ => ?_) (fun h => absurd (nI_le (Nat.le_refl _) (by omega)) h)
          refine z_inc3 hC dX5_plan_96 (by decide) ?_
          refine z_goto hC 15 dX5_plan_99 rfl ?_
          refine z_dr4 hC ?_
          rw [show upd (lsF (zg G 50 0) (fun j => mHr G j 6) n) n (mHr G n 6) = lsF (zg G 50 0) (fun j => mHr G j 6) (n + 1) from lsF_s (zg G 50 0) (fun j => mHr G j 6) n]
          rw [mMust_t h31] at ih
          exact ih _ _ _ _ _
        · intro k hn53 ih53 p3 q3 sn3 x3 a3
          change Z 0 (mSc G p3 q3 sn3 (upd (lsF (zg G 50 0) (fun j => mHr G j 6) n) n (mHr G n k)) x3 a3) 53 [some (.ref (za G 20 0)), some (.int (nI aN)), some (.int (mMust G td n ||| nI 0)), some (.int (nI n)), some (.int (nI k))] []
          replace ih53 : ∀ (p3 q3 sn3 : Nat → Int32) (x3 : Int32) (a3 : Int64), Z 0 (mSc G p3 q3 sn3 (upd (lsF (zg G 50 0) (fun j => mHr G j 6) n) n (mHr G n (k + 1))) x3 a3) 53 [some (.ref (za G 20 0)), some (.int (nI aN)), some (.int (mMust G td n ||| nI 0)), some (.int (nI n)), some (.int (nI (k + 1)))] [] := ih53
          refine z_il4 hC dX5_plan_53 ?_
          refine z_bipush hC dX5_plan_55 zb_6 ?_
          refine z_icmp_ge hC 96 dX5_plan_57 rfl (fun h => absurd h (nI_ge hn53 (by omega))) (fun _ => ?_)
          refine z_al0 hC dX5_plan_60 ?_
          refine zgf_X5_87 hC dX5_plan_61 ?_
          refine z_il3 hC dX5_plan_64 ?_
          refine z_dup2 hC dX5_plan_65 rfl rfl ?_
          refine zal_50 hC (by omega) dX5_plan_66 ?_
          refine z_top (show _ = mHr G n k from upd_at _ _ _) ?_
          obtain ⟨sz, h12, hsz, hT⟩ := htx k hn53
          refine z_al0 hC dX5_plan_67 ?_
          refine z_il4 hC dX5_plan_68 ?_
          refine z_il3 hC dX5_plan_70 ?_
          refine z_cVi2 hC (c_X5_usesOf l X _ (by rfl) hn53 hn h12 (by exact hsz) (by exact hT)) zm_X5_usesOf zi_X5_usesOf zo_20 zk_X5_147 (by omega) (by decide) (by omega) (Nat.le_of_ble_eq_true rfl) dX5_plan_71 ?_
          rintro _ _ ⟨eu, p2, q2, sn2, x2, a2, rfl⟩
          rw [eu, mUsed_mSc, mSc_mSc, mSc_50]
          refine z_if_eq hC 87 dX5_plan_74 rfl (fun h74 => ?_) (fun h74 => ?_)
          · refine z_iconst hC dX5_plan_87 zi_0 ?_
            refine z_iadd hC dX5_plan_88 ?_
            refine zas_50 hC (by omega) dX5_plan_89 ?_
            rw [mSc_l, upd_upd]
            refine z_inc4 hC dX5_plan_90 (by decide) ?_
            refine z_goto hC 53 dX5_plan_93 rfl ?_
            rw [mHr_t h74] at ih53
            exact ih53 _ _ _ _ _
          · refine z_al0 hC dX5_plan_77 ?_
            refine zgf_X5_75 hC dX5_plan_78 ?_
            refine z_il4 hC dX5_plan_81 ?_
            refine zal_43 hC (by omega) dX5_plan_83 ?_
            refine z_top (rfl : _ = zg G 43 0 k) ?_
            refine z_goto hC 88 dX5_plan_84 rfl ?_
            refine z_iadd hC dX5_plan_88 ?_
            refine zas_50 hC (by omega) dX5_plan_89 ?_
            rw [mSc_l, upd_upd]
            refine z_inc4 hC dX5_plan_90 (by decide) ?_
            refine z_goto hC 53 dX5_plan_93 rfl ?_
            rw [mHr_f h74] at ih53
            exact ih53 _ _ _ _ _
      · refine z_iconst hC dX5_plan_34 zi_1 ?_
        refine z_il3 hC dX5_plan_35 ?_
        refine z_ishl hC dX5_plan_36 ?_
        refine z_goto hC 41 dX5_plan_37 rfl ?_
        refine z_ior hC dX5_plan_41 ?_
        refine z_is2 hC dX5_plan_42 (by decide) ?_
        refine z_al0 hC dX5_plan_43 ?_
        refine zgf_X5_87 hC dX5_plan_44 ?_
        refine z_il3 hC dX5_plan_47 ?_
        refine z_iconst hC dX5_plan_48 zi_0 ?_
        refine zas_50 hC (by omega) dX5_plan_49 ?_
        rw [mSc_l]
        refine z_iconst hC dX5_plan_50 zi_0 ?_
        refine z_is4 hC dX5_plan_51 (by decide) ?_
        refine z_loop (N := 6) (fun k => ∀ (p3 q3 sn3 : Nat → Int32) (x3 : Int32) (a3 : Int64), Z 0 (mSc G p3 q3 sn3 (upd (lsF (zg G 50 0) (fun j => mHr G j 6) n) n (mHr G n k)) x3 a3) 53 [some (.ref (za G 20 0)), some (.int (nI aN)), some (.int (mMust G td n ||| (nI 1 <<< (nI n &&& 31)))), some (.int (nI n)), some (.int (nI k))] []) ?_ ?_ 0 (Nat.zero_le _) _ _ _ _ _
        · intro p3 q3 sn3 x3 a3
          change Z 0 (mSc G p3 q3 sn3 (upd (lsF (zg G 50 0) (fun j => mHr G j 6) n) n (mHr G n 6)) x3 a3) 53 [some (.ref (za G 20 0)), some (.int (nI aN)), some (.int (mMust G td n ||| (nI 1 <<< (nI n &&& 31)))), some (.int (nI n)), some (.int (nI 6))] []
          refine z_il4 hC dX5_plan_53 ?_
          refine z_bipush hC dX5_plan_55 zb_6 ?_
          refine z_icmp_ge hC 96 dX5_plan_57 rfl (fun _ => ?_) (fun h => absurd (nI_le (Nat.le_refl _) (by omega)) h)
          refine z_inc3 hC dX5_plan_96 (by decide) ?_
          refine z_goto hC 15 dX5_plan_99 rfl ?_
          refine z_dr4 hC ?_
          rw [show upd (lsF (zg G 50 0) (fun j => mHr G j 6) n) n (mHr G n 6) = lsF (zg G 50 0) (fun j => mHr G j 6) (n + 1) from lsF_s (zg G 50 0) (fun j => mHr G j 6) n]
          rw [mMust_f h31] at ih
          exact ih _ _ _ _ _
        · intro k hn53 ih53 p3 q3 sn3 x3 a3
          change Z 0 (mSc G p3 q3 sn3 (upd (lsF (zg G 50 0) (fun j => mHr G j 6) n) n (mHr G n k)) x3 a3) 53 [some (.ref (za G 20 0)), some (.int (nI aN)), some (.int (mMust G td n ||| (nI 1 <<< (nI n &&& 31)))), some (.int (nI n)), some (.int (nI k))] []
          replace ih53 : ∀ (p3 q3 sn3 : Nat → Int32) (x3 : Int32) (a3 : Int64), Z 0 (mSc G p3 q3 sn3 (upd (lsF (zg G 50 0) (fun j => mHr G j 6) n) n (mHr G n (k + 1))) x3 a3) 53 [some (.ref (za G 20 0)), some (.int (nI aN)), some (.int (mMust G td n ||| (nI 1 <<< (nI n &&& 31)))), some (.int (nI n)), some (.int (nI (k + 1)))] [] := ih53
          refine z_il4 hC dX5_plan_53 ?_
          refine z_bipush hC dX5_plan_55 zb_6 ?_
          refine z_icmp_ge hC 96 dX5_plan_57 rfl (fun h => absurd h (nI_ge hn53 (by omega))) (fun _ => ?_)
          refine z_al0 hC dX5_plan_60 ?_
          refine zgf_X5_87 hC dX5_plan_61 ?_
          refine z_il3 hC dX5_plan_64 ?_
          refine z_dup2 hC dX5_plan_65 rfl rfl ?_
          refine zal_50 hC (by omega) dX5_plan_66 ?_
          refine z_top (show _ = mHr G n k from upd_at _ _ _) ?_
          obtain ⟨sz, h12, hsz, hT⟩ := htx k hn53
          refine z_al0 hC dX5_plan_67 ?_
          refine z_il4 hC dX5_plan_68 ?_
          refine z_il3 hC dX5_plan_70 ?_
          refine z_cVi2 hC (c_X5_usesOf l X _ (by rfl) hn53 hn h12 (by exact hsz) (by exact hT)) zm_X5_usesOf zi_X5_usesOf zo_20 zk_X5_147 (by omega) (by decide) (by omega) (Nat.le_of_ble_eq_true rfl) dX5_plan_71 ?_
          rintro _ _ ⟨eu, p2, q2, sn2, x2, a2, rfl⟩
          rw [eu, mUsed_mSc, mSc_mSc, mSc_50]
          refine z_if_eq hC 87 dX5_plan_74 rfl (fun h74 => ?_) (fun h74 => ?_)
          · refine z_iconst hC dX5_plan_87 zi_0 ?_
            refine z_iadd hC dX5_plan_88 ?_
            refine zas_50 hC (by omega) dX5_plan_89 ?_
            rw [mSc_l, upd_upd]
            refine z_inc4 hC dX5_plan_90 (by decide) ?_
            refine z_goto hC 53 dX5_plan_93 rfl ?_
            rw [mHr_t h74] at ih53
            exact ih53 _ _ _ _ _
          · refine z_al0 hC dX5_plan_77 ?_
            refine zgf_X5_75 hC dX5_plan_78 ?_
            refine z_il4 hC dX5_plan_81 ?_
            refine zal_43 hC (by omega) dX5_plan_83 ?_
            refine z_top (rfl : _ = zg G 43 0 k) ?_
            refine z_goto hC 88 dX5_plan_84 rfl ?_
            refine z_iadd hC dX5_plan_88 ?_
            refine zas_50 hC (by omega) dX5_plan_89 ?_
            rw [mSc_l, upd_upd]
            refine z_inc4 hC dX5_plan_90 (by decide) ?_
            refine z_goto hC 53 dX5_plan_93 rfl ?_
            rw [mHr_f h74] at ih53
            exact ih53 _ _ _ _ _
  · replace na : zin a 2 = false := na
    refine z_if_ne hC 11 dX5_plan_6 rfl (fun h => absurd h (by decide)) (fun _ => ?_)
    refine z_iconst hC dX5_plan_9 zi_m1 ?_
    exact z_reti hE (by omega) dX5_plan_10 (⟨by simp [maPlan, na], mSX_refl G⟩)

set_option maxHeartbeats 2000000 in
theorem c_X5_holdsFrom (l : Launch) (X : zX) (G : zG) {r0 : Nat} (hr0 : r0 = za G 20 0) {q v u f t d : Nat} (hq : q < 12) (hv5 : v < 5) (hu5 : u < 5) (hf8 : f < 8) (ht8 : t < 8) (hd8 : d < 8) (ef : zg G 34 0 q = nI f) (et : zg G 36 0 q = nI t) (ed : zg G 37 0 q = nI d) : zC l yX5_holdsFrom cX5_holdsFrom 6 (some FieldType.boolean) 1 0 X [.ref r0, .int (nI q), .int (nI v), .int (nI u)] G (zPi (fun r G2 => (mHeld G f (zg G 35 0 q) t d v u = true ∧ r = nI 1 ∧ G = G2) ∨ (mHeld G f (zg G 35 0 q) t d v u = false ∧ r = nI 0 ∧ G = G2))) := by
  subst hr0
  refine zC_of zpn_X5 (zcat rfl) (Nat.le_of_ble_eq_true rfl) ?_
  intro Z hC hE
  replace hC : zCtx l X cX5_holdsFrom RX5 6 1 0 Z := hC
  change Z 0 G 0 [some (.ref (za G 20 0)), some (.int (nI q)), some (.int (nI v)), some (.int (nI u)), none, none] []
  refine z_iconst hC dX5_holdsFrom_0 zi_1 ?_
  refine z_is4 hC dX5_holdsFrom_1 (by decide) ?_
  refine z_iconst hC dX5_holdsFrom_3 zi_0 ?_
  refine z_is5 hC dX5_holdsFrom_4 (by decide) ?_
  refine z_loop (N := 8) (fun n => ∀ z : Int32, alB (fun a => decide (¬ (zg G 35 0 q >>> (nI a &&& 31)) &&& nI 1 = nI 1 ∨ zg G 21 0 (40 * f + 8 * v + a) = zg G 21 0 (40 * t + 8 * u + (a + d) % 8))) n z → Z 0 G 6 [some (.ref (za G 20 0)), some (.int (nI q)), some (.int (nI v)), some (.int (nI u)), some (.int z), some (.int (nI n))] []) ?_ ?_ 0 (Nat.zero_le _) _ (Or.inl ⟨rfl, rfl⟩)
  · intro z hv
    change Z 0 G 6 [some (.ref (za G 20 0)), some (.int (nI q)), some (.int (nI v)), some (.int (nI u)), some (.int z), some (.int (nI 8))] []
    refine z_il5 hC dX5_holdsFrom_6 ?_
    refine z_bipush hC dX5_holdsFrom_8 zb_8 ?_
    refine z_icmp_ge hC 103 dX5_holdsFrom_10 rfl (fun _ => ?_) (fun h => absurd (nI_le (Nat.le_refl _) (by omega)) h)
    refine z_il4 hC dX5_holdsFrom_103 ?_
    rcases hv with ⟨hv, rfl⟩ | ⟨hv, rfl⟩
    · exact z_retz1 hE (by omega) dX5_holdsFrom_105 (Or.inl ⟨hv, rfl, rfl⟩)
    · exact z_retz0 hE (by omega) dX5_holdsFrom_105 (Or.inr ⟨hv, rfl, rfl⟩)
  · intro n hn ih z hv
    change Z 0 G 6 [some (.ref (za G 20 0)), some (.int (nI q)), some (.int (nI v)), some (.int (nI u)), some (.int z), some (.int (nI n))] []
    replace ih : ∀ z : Int32, alB (fun a => decide (¬ (zg G 35 0 q >>> (nI a &&& 31)) &&& nI 1 = nI 1 ∨ zg G 21 0 (40 * f + 8 * v + a) = zg G 21 0 (40 * t + 8 * u + (a + d) % 8))) (n + 1) z → Z 0 G 6 [some (.ref (za G 20 0)), some (.int (nI q)), some (.int (nI v)), some (.int (nI u)), some (.int z), some (.int (nI (n + 1)))] [] := ih
    refine z_il5 hC dX5_holdsFrom_6 ?_
    refine z_bipush hC dX5_holdsFrom_8 zb_8 ?_
    refine z_icmp_ge hC 103 dX5_holdsFrom_10 rfl (fun h => absurd h (nI_ge hn (by omega))) (fun _ => ?_)
    refine z_al0 hC dX5_holdsFrom_13 ?_
    refine zgf_X5_54 hC dX5_holdsFrom_14 ?_
    refine z_il1 hC dX5_holdsFrom_17 ?_
    refine zal_35 hC (by omega) dX5_holdsFrom_18 ?_
    refine z_il5 hC dX5_holdsFrom_19 ?_
    refine z_ishr hC dX5_holdsFrom_21 ?_
    refine z_iconst hC dX5_holdsFrom_22 zi_1 ?_
    refine z_iand hC dX5_holdsFrom_23 ?_
    refine z_iconst hC dX5_holdsFrom_24 zi_1 ?_
    refine z_icmp_ne hC 97 dX5_holdsFrom_25 rfl (fun h25 => ?_) (fun h25 => ?_)
    · refine z_inc5 hC dX5_holdsFrom_97 (by decide) ?_
      refine z_goto hC 6 dX5_holdsFrom_100 rfl ?_
      exact ih _ (alB_k (decide_eq_true (Or.inl h25)) hv)
    · refine z_il4 hC dX5_holdsFrom_28 ?_
      refine z_if_eq hC 94 dX5_holdsFrom_30 rfl (fun h30 => ?_) (fun h30 => ?_)
      · refine z_iconst hC dX5_holdsFrom_94 zi_0 ?_
        refine z_is4 hC dX5_holdsFrom_95 (by decide) ?_
        refine z_inc5 hC dX5_holdsFrom_97 (by decide) ?_
        refine z_goto hC 6 dX5_holdsFrom_100 rfl ?_
        exact ih _ (alB_z hv h30)
      · refine z_al0 hC dX5_holdsFrom_33 ?_
        refine zgf_X5_13 hC dX5_holdsFrom_34 ?_
        refine z_bipush hC dX5_holdsFrom_37 zb_40 ?_
        refine z_al0 hC dX5_holdsFrom_39 ?_
        refine zgf_X5_51 hC dX5_holdsFrom_40 ?_
        refine z_il1 hC dX5_holdsFrom_43 ?_
        refine zal_34 hC (by omega) dX5_holdsFrom_44 ?_
        refine z_top ef ?_
        refine z_imulN hC dX5_holdsFrom_45 ?_
        refine z_bipush hC dX5_holdsFrom_46 zb_8 ?_
        refine z_il2 hC dX5_holdsFrom_48 ?_
        refine z_imulN hC dX5_holdsFrom_49 ?_
        refine z_iaddN hC dX5_holdsFrom_50 ?_
        refine z_il5 hC dX5_holdsFrom_51 ?_
        refine z_iaddN hC dX5_holdsFrom_53 ?_
        refine zal_21 hC (by omega) dX5_holdsFrom_54 ?_
        refine z_al0 hC dX5_holdsFrom_55 ?_
        refine zgf_X5_13 hC dX5_holdsFrom_56 ?_
        refine z_bipush hC dX5_holdsFrom_59 zb_40 ?_
        refine z_al0 hC dX5_holdsFrom_61 ?_
        refine zgf_X5_57 hC dX5_holdsFrom_62 ?_
        refine z_il1 hC dX5_holdsFrom_65 ?_
        refine zal_36 hC (by omega) dX5_holdsFrom_66 ?_
        refine z_top et ?_
        refine z_imulN hC dX5_holdsFrom_67 ?_
        refine z_bipush hC dX5_holdsFrom_68 zb_8 ?_
        refine z_il3 hC dX5_holdsFrom_70 ?_
        refine z_imulN hC dX5_holdsFrom_71 ?_
        refine z_iaddN hC dX5_holdsFrom_72 ?_
        refine z_il5 hC dX5_holdsFrom_73 ?_
        refine z_al0 hC dX5_holdsFrom_75 ?_
        refine zgf_X5_60 hC dX5_holdsFrom_76 ?_
        refine z_il1 hC dX5_holdsFrom_79 ?_
        refine zal_37 hC (by omega) dX5_holdsFrom_80 ?_
        refine z_top ed ?_
        refine z_iaddN hC dX5_holdsFrom_81 ?_
        refine z_bipush hC dX5_holdsFrom_82 zb_8 ?_
        refine z_iremN hC dX5_holdsFrom_84 (by omega) (by omega) (by omega) ?_
        refine z_iaddN hC dX5_holdsFrom_85 ?_
        refine zal_21 hC (by omega) dX5_holdsFrom_86 ?_
        refine z_icmp_ne hC 94 dX5_holdsFrom_87 rfl (fun h87 => ?_) (fun h87 => ?_)
        · refine z_iconst hC dX5_holdsFrom_94 zi_0 ?_
          refine z_is4 hC dX5_holdsFrom_95 (by decide) ?_
          refine z_inc5 hC dX5_holdsFrom_97 (by decide) ?_
          refine z_goto hC 6 dX5_holdsFrom_100 rfl ?_
          exact ih _ (alB_f (decide_eq_false (fun h => h.elim (fun w => w h25) h87)))
        · refine z_iconst hC dX5_holdsFrom_90 zi_1 ?_
          refine z_goto hC 95 dX5_holdsFrom_91 rfl ?_
          refine z_is4 hC dX5_holdsFrom_95 (by decide) ?_
          refine z_inc5 hC dX5_holdsFrom_97 (by decide) ?_
          refine z_goto hC 6 dX5_holdsFrom_100 rfl ?_
          exact ih _ (alB_t hv h30 (decide_eq_true (Or.inr h87)))

set_option maxHeartbeats 4000000 in
theorem fo_item {l : Launch} {X : zX} {G : zG} {h s0 sz lev : Nat} {Z : zZ} {ls : Nat → Int32} (hC : zCtx l X cX5_follow RX5 6 lev 0 Z) (hlev : 2 ≤ lev) (hh : h < 6) (h12 : sz ≤ 12) (hT : mTx G h sz) : ∀ (n s : Nat) (b : Int32) (p q sn : Nat → Int32) (k : Nat) (ak : Int64), ¬ b = 0 → s < n → s < sz → k + s < 60 → p k = nI s → q k = b → (∀ p' q' : Nat → Int32, (∀ j, j < k → p' j = p j ∧ q' j = q j) → Z 0 (mSc G p' q' (fun j => sn j ||| mSv G h n s b j) ls (nI k) (ak + mSt G h n s b)) 47 [some (.ref (za G 20 0)), some (.int (nI h)), some (.int (nI s0)), none, none, none] []) → Z 0 (mSc G p q sn ls (nI (k + 1)) ak) 47 [some (.ref (za G 20 0)), some (.int (nI h)), some (.int (nI s0)), none, none, none] [] := by
  intro n
  induction n with
  | zero => intro s b p q sn k ak _ hs; omega
  | succ n ih =>
    intro s b p q sn k ak hb hsn hs hks hp hq K
    refine z_al0 hC dX5_follow_47 ?_
    refine zgf_X5_122 hC dX5_follow_48 ?_
    refine z_top (rfl : _ = nI (k + 1)) ?_
    refine z_if_le hC 233 dX5_follow_51 rfl (fun h => absurd h (nI_nle (by omega) (by omega))) (fun _ => ?_)
    refine z_al0 hC dX5_follow_54 ?_
    refine z_dup hC dX5_follow_55 rfl ?_
    refine zgf_X5_122 hC dX5_follow_56 ?_
    refine z_top (rfl : _ = nI (k + 1)) ?_
    refine z_iconst hC dX5_follow_59 zi_1 ?_
    refine z_isubN hC dX5_follow_60 (by omega) ?_
    refine zpf_X5_122 hC dX5_follow_61 ?_
    rw [mSc_x, show k + 1 - 1 = k by omega]
    refine z_bipush hC dX5_follow_64 zb_12 ?_
    refine z_il1 hC dX5_follow_66 ?_
    refine z_imulN hC dX5_follow_67 ?_
    refine z_al0 hC dX5_follow_68 ?_
    refine zgf_X5_78 hC dX5_follow_69 ?_
    refine z_al0 hC dX5_follow_72 ?_
    refine zgf_X5_122 hC dX5_follow_73 ?_
    refine z_top (rfl : _ = nI k) ?_
    refine zal_45 hC (by omega) dX5_follow_76 ?_
    refine z_top (show _ = nI s from hp) ?_
    refine z_iaddN hC dX5_follow_77 ?_
    refine z_is3 hC dX5_follow_78 (by decide) ?_
    refine z_al0 hC dX5_follow_79 ?_
    refine zgf_X5_81 hC dX5_follow_80 ?_
    refine z_al0 hC dX5_follow_83 ?_
    refine zgf_X5_122 hC dX5_follow_84 ?_
    refine z_top (rfl : _ = nI k) ?_
    refine zal_46 hC (by omega) dX5_follow_87 ?_
    refine z_top (show _ = b from hq) ?_
    refine z_is4 hC dX5_follow_88 (by decide) ?_
    refine z_al0 hC dX5_follow_90 ?_
    refine zgf_X5_23 hC dX5_follow_91 ?_
    refine z_il3 hC dX5_follow_94 ?_
    refine zal_24 hC (by omega) dX5_follow_95 ?_
    rcases hT s hs with ⟨hk, f, hf, ef⟩ | ⟨hk, f, hf, ef⟩ | ⟨hk, f, g, hf, hg, ef, eg⟩
    · refine z_top (show _ = nI 0 from hk) ?_
      refine z_if_ne hC 128 dX5_follow_96 rfl (fun h => absurd h (by decide)) (fun _ => ?_)
      refine z_al0 hC dX5_follow_99 ?_
      refine z_dup hC dX5_follow_100 rfl ?_
      refine zgf_X5_125 hC dX5_follow_101 ?_
      refine z_lconst hC dX5_follow_104 zl_1 ?_
      refine z_ladd hC dX5_follow_105 ?_
      refine zpf_X5_125 hC dX5_follow_106 ?_
      rw [mSc_a, mSc_t]
      refine z_al0 hC dX5_follow_109 ?_
      refine zgf_X5_84 hC dX5_follow_110 ?_
      refine z_al0 hC dX5_follow_113 ?_
      refine zgf_X5_26 hC dX5_follow_114 ?_
      refine z_il3 hC dX5_follow_117 ?_
      refine zal_25 hC (by omega) dX5_follow_118 ?_
      refine z_top (show _ = nI f from ef) ?_
      refine z_dup2 hC dX5_follow_119 rfl rfl ?_
      refine zal_47 hC (by omega) dX5_follow_120 ?_
      refine z_il4 hC dX5_follow_121 ?_
      refine z_ior hC dX5_follow_123 ?_
      refine zas_47 hC (by omega) dX5_follow_124 ?_
      rw [mSc_s]
      refine z_goto hC 230 dX5_follow_125 rfl ?_
      refine z_goto hC 47 dX5_follow_230 rfl ?_
      refine z_dr3 hC ?_
      refine z_dr4 hC ?_
      have K2 := K p q (fun j hj => ⟨rfl, rfl⟩)
      rw [fo_k0 sn hb hk ef (by omega), mSt_k0 hb hk] at K2
      exact K2
    · refine z_top (show _ = nI 1 from hk) ?_
      refine z_if_ne hC 128 dX5_follow_96 rfl (fun _ => ?_) (fun h => absurd h (by decide))
      refine z_al0 hC dX5_follow_128 ?_
      refine zgf_X5_23 hC dX5_follow_129 ?_
      refine z_il3 hC dX5_follow_132 ?_
      refine zal_24 hC (by omega) dX5_follow_133 ?_
      refine z_top (show _ = nI 1 from hk) ?_
      refine z_iconst hC dX5_follow_134 zi_1 ?_
      refine z_icmp_ne hC 174 dX5_follow_135 rfl (fun h => absurd h (by decide)) (fun _ => ?_)
      refine z_al0 hC dX5_follow_138 ?_
      refine z_dup hC dX5_follow_139 rfl ?_
      refine zgf_X5_125 hC dX5_follow_140 ?_
      refine z_ldc2 hC zcn_X5_133 dX5_follow_143 ?_
      refine z_ladd hC dX5_follow_146 ?_
      refine zpf_X5_125 hC dX5_follow_147 ?_
      rw [mSc_a, mSc_t]
      refine z_al0 hC dX5_follow_150 ?_
      refine z_al0 hC dX5_follow_151 ?_
      refine zgf_X5_26 hC dX5_follow_152 ?_
      refine z_il3 hC dX5_follow_155 ?_
      refine zal_25 hC (by omega) dX5_follow_156 ?_
      refine z_top (show _ = nI f from ef) ?_
      refine z_il4 hC dX5_follow_157 ?_
      refine z_al0 hC dX5_follow_159 ?_
      refine zgf_X5_32 hC dX5_follow_160 ?_
      refine z_il3 hC dX5_follow_163 ?_
      refine zal_27 hC (by omega) dX5_follow_164 ?_
      refine z_top (rfl : _ = zg G 27 0 (12 * h + s)) ?_
      refine z_cSi2 hC (c_X5_turned l X _) zm_X5_turned zi_X5_turned zk_X5_135 (by omega) (by decide) (by omega) (Nat.le_of_ble_eq_true rfl) dX5_follow_165 ?_
      rintro _ _ ⟨rfl, rfl⟩
      refine z_cVv2 hC (c_X5_piles l X _ (by rfl) (k := k) (by rfl) (by omega)) zm_X5_piles zi_X5_piles zo_20 zk_X5_129 (by omega) (by decide) (by omega) (Nat.le_of_ble_eq_true rfl) dX5_follow_168 ?_
      rintro _ (⟨hz1, rfl⟩ | ⟨hz1, rfl⟩)
      · refine z_goto hC 230 dX5_follow_171 rfl ?_
        refine z_goto hC 47 dX5_follow_230 rfl ?_
        refine z_dr3 hC ?_
        refine z_dr4 hC ?_
        have K2 := K p q (fun j hj => ⟨rfl, rfl⟩)
        rw [show (fun j => sn j ||| mSv G h (n + 1) s b j) = (fun j => sn j ||| mSv G h n f (xTurn b (zg G 27 0 (12 * h + s))) j) from funext (fun j => by rw [mSv_k1 hb hk ef (by omega)]), mSt_k1 hb hk ef (by omega), hz1, fo_z, mSt_z, Int64.add_zero] at K2
        exact K2
      · rw [mSc_p, mSc_q, mSc_x]
        refine z_goto hC 230 dX5_follow_171 rfl ?_
        refine z_goto hC 47 dX5_follow_230 rfl ?_
        refine z_dr3 hC ?_
        refine z_dr4 hC ?_
        refine ih f _ _ _ sn k _ hz1 (by omega) (by omega) (by omega) (upd_at _ _ _) (upd_at _ _ _) (fun p2 q2 hpq => ?_)
        have K2 := K p2 q2 (fun j hj => by have e := hpq j hj; rw [upd_ne _ _ _ (by omega), upd_ne _ _ _ (by omega)] at e; exact e)
        rw [show (fun j => sn j ||| mSv G h (n + 1) s b j) = (fun j => sn j ||| mSv G h n f (xTurn b (zg G 27 0 (12 * h + s))) j) from funext (fun j => by rw [mSv_k1 hb hk ef (by omega)]), mSt_k1 hb hk ef (by omega), ← Int64.add_assoc] at K2
        exact K2
    · refine z_top (show _ = nI 2 from hk) ?_
      refine z_if_ne hC 128 dX5_follow_96 rfl (fun _ => ?_) (fun h => absurd h (by decide))
      refine z_al0 hC dX5_follow_128 ?_
      refine zgf_X5_23 hC dX5_follow_129 ?_
      refine z_il3 hC dX5_follow_132 ?_
      refine zal_24 hC (by omega) dX5_follow_133 ?_
      refine z_top (show _ = nI 2 from hk) ?_
      refine z_iconst hC dX5_follow_134 zi_1 ?_
      refine z_icmp_ne hC 174 dX5_follow_135 rfl (fun _ => ?_) (fun h => absurd h (by decide))
      refine z_al0 hC dX5_follow_174 ?_
      refine z_dup hC dX5_follow_175 rfl ?_
      refine zgf_X5_125 hC dX5_follow_176 ?_
      refine z_ldc2 hC zcn_X5_139 dX5_follow_179 ?_
      refine z_ladd hC dX5_follow_182 ?_
      refine zpf_X5_125 hC dX5_follow_183 ?_
      rw [mSc_a, mSc_t]
      refine z_iconst hC dX5_follow_186 zi_1 ?_
      refine z_al0 hC dX5_follow_187 ?_
      refine zgf_X5_32 hC dX5_follow_188 ?_
      refine z_il3 hC dX5_follow_191 ?_
      refine zal_27 hC (by omega) dX5_follow_192 ?_
      refine z_top (rfl : _ = zg G 27 0 (12 * h + s)) ?_
      refine z_ishl hC dX5_follow_193 ?_
      refine z_iconst hC dX5_follow_194 zi_1 ?_
      refine z_isub hC dX5_follow_195 ?_
      refine z_is5 hC dX5_follow_196 (by decide) ?_
      refine z_al0 hC dX5_follow_198 ?_
      refine z_al0 hC dX5_follow_199 ?_
      refine zgf_X5_29 hC dX5_follow_200 ?_
      refine z_il3 hC dX5_follow_203 ?_
      refine zal_26 hC (by omega) dX5_follow_204 ?_
      refine z_top (show _ = nI g from eg) ?_
      refine z_il4 hC dX5_follow_205 ?_
      refine z_il5 hC dX5_follow_207 ?_
      refine z_iconst hC dX5_follow_209 zi_m1 ?_
      refine z_ixor hC dX5_follow_210 ?_
      refine z_iand hC dX5_follow_211 ?_
      refine z_cVv2 hC (c_X5_piles l X _ (by rfl) (k := k) (by rfl) (by omega)) zm_X5_piles zi_X5_piles zo_20 zk_X5_129 (by omega) (by decide) (by omega) (Nat.le_of_ble_eq_true rfl) dX5_follow_212 ?_
      rintro _ (⟨hz1, rfl⟩ | ⟨hz1, rfl⟩)
      · refine z_al0 hC dX5_follow_215 ?_
        refine z_al0 hC dX5_follow_216 ?_
        refine zgf_X5_26 hC dX5_follow_217 ?_
        refine z_il3 hC dX5_follow_220 ?_
        refine zal_25 hC (by omega) dX5_follow_221 ?_
        refine z_top (show _ = nI f from ef) ?_
        refine z_il4 hC dX5_follow_222 ?_
        refine z_il5 hC dX5_follow_224 ?_
        refine z_iand hC dX5_follow_226 ?_
        refine z_cVv2 hC (c_X5_piles l X _ (by rfl) (k := k) (by rfl) (by omega)) zm_X5_piles zi_X5_piles zo_20 zk_X5_129 (by omega) (by decide) (by omega) (Nat.le_of_ble_eq_true rfl) dX5_follow_227 ?_
        rintro _ (⟨hz2, rfl⟩ | ⟨hz2, rfl⟩)
        · refine z_goto hC 47 dX5_follow_230 rfl ?_
          refine z_dr3 hC ?_
          refine z_dr4 hC ?_
          refine z_dr5 hC ?_
          have K2 := K p q (fun j hj => ⟨rfl, rfl⟩)
          rw [show (fun j => sn j ||| mSv G h (n + 1) s b j) = (fun j => (sn j ||| mSv G h n f (b &&& ((nI 1 <<< (zg G 27 0 (12 * h + s) &&& 31)) - nI 1)) j) ||| mSv G h n g (b &&& (((nI 1 <<< (zg G 27 0 (12 * h + s) &&& 31)) - nI 1) ^^^ (-1))) j) from funext (fun j => by rw [mSv_k2 hb hk ef (by omega) eg (by omega), Int32.or_assoc]), show ak + mSt G h (n + 1) s b = ak + 100 + mSt G h n f (b &&& ((nI 1 <<< (zg G 27 0 (12 * h + s) &&& 31)) - nI 1)) + mSt G h n g (b &&& (((nI 1 <<< (zg G 27 0 (12 * h + s) &&& 31)) - nI 1) ^^^ (-1))) from by rw [mSt_k2 hb hk ef (by omega) eg (by omega)]; simp only [Int64.add_assoc], hz1, hz2] at K2
          simp only [mSv_z, mSt_z, or0, Int64.add_zero] at K2
          exact K2
        · rw [mSc_p, mSc_q, mSc_x]
          refine z_goto hC 47 dX5_follow_230 rfl ?_
          refine z_dr3 hC ?_
          refine z_dr4 hC ?_
          refine z_dr5 hC ?_
          refine ih f _ _ _ sn k _ hz2 (by omega) (by omega) (by omega) (upd_at _ _ _) (upd_at _ _ _) (fun p2 q2 hpq => ?_)
          have K2 := K p2 q2 (fun j hj => by have e := hpq j hj; rw [upd_ne _ _ _ (by omega), upd_ne _ _ _ (by omega)] at e; exact e)
          rw [show (fun j => sn j ||| mSv G h (n + 1) s b j) = (fun j => (sn j ||| mSv G h n f (b &&& ((nI 1 <<< (zg G 27 0 (12 * h + s) &&& 31)) - nI 1)) j) ||| mSv G h n g (b &&& (((nI 1 <<< (zg G 27 0 (12 * h + s) &&& 31)) - nI 1) ^^^ (-1))) j) from funext (fun j => by rw [mSv_k2 hb hk ef (by omega) eg (by omega), Int32.or_assoc]), show ak + mSt G h (n + 1) s b = ak + 100 + mSt G h n f (b &&& ((nI 1 <<< (zg G 27 0 (12 * h + s) &&& 31)) - nI 1)) + mSt G h n g (b &&& (((nI 1 <<< (zg G 27 0 (12 * h + s) &&& 31)) - nI 1) ^^^ (-1))) from by rw [mSt_k2 hb hk ef (by omega) eg (by omega)]; simp only [Int64.add_assoc], hz1] at K2
          simp only [mSv_z, mSt_z, or0, Int64.add_zero] at K2
          exact K2
      · rw [mSc_p, mSc_q, mSc_x]
        refine z_al0 hC dX5_follow_215 ?_
        refine z_al0 hC dX5_follow_216 ?_
        refine zgf_X5_26 hC dX5_follow_217 ?_
        refine z_il3 hC dX5_follow_220 ?_
        refine zal_25 hC (by omega) dX5_follow_221 ?_
        refine z_top (show _ = nI f from ef) ?_
        refine z_il4 hC dX5_follow_222 ?_
        refine z_il5 hC dX5_follow_224 ?_
        refine z_iand hC dX5_follow_226 ?_
        refine z_cVv2 hC (c_X5_piles l X _ (by rfl) (k := k + 1) (by rfl) (by omega)) zm_X5_piles zi_X5_piles zo_20 zk_X5_129 (by omega) (by decide) (by omega) (Nat.le_of_ble_eq_true rfl) dX5_follow_227 ?_
        rintro _ (⟨hz2, rfl⟩ | ⟨hz2, rfl⟩)
        · refine z_goto hC 47 dX5_follow_230 rfl ?_
          refine z_dr3 hC ?_
          refine z_dr4 hC ?_
          refine z_dr5 hC ?_
          refine ih g _ _ _ sn k _ hz1 (by omega) (by omega) (by omega) (upd_at _ _ _) (upd_at _ _ _) (fun p2 q2 hpq => ?_)
          have K2 := K p2 q2 (fun j hj => by have e := hpq j hj; rw [upd_ne _ _ _ (by omega), upd_ne _ _ _ (by omega)] at e; exact e)
          rw [show (fun j => sn j ||| mSv G h (n + 1) s b j) = (fun j => (sn j ||| mSv G h n f (b &&& ((nI 1 <<< (zg G 27 0 (12 * h + s) &&& 31)) - nI 1)) j) ||| mSv G h n g (b &&& (((nI 1 <<< (zg G 27 0 (12 * h + s) &&& 31)) - nI 1) ^^^ (-1))) j) from funext (fun j => by rw [mSv_k2 hb hk ef (by omega) eg (by omega), Int32.or_assoc]), show ak + mSt G h (n + 1) s b = ak + 100 + mSt G h n f (b &&& ((nI 1 <<< (zg G 27 0 (12 * h + s) &&& 31)) - nI 1)) + mSt G h n g (b &&& (((nI 1 <<< (zg G 27 0 (12 * h + s) &&& 31)) - nI 1) ^^^ (-1))) from by rw [mSt_k2 hb hk ef (by omega) eg (by omega)]; simp only [Int64.add_assoc], hz2] at K2
          simp only [mSv_z, mSt_z, or0, Int64.add_zero] at K2
          exact K2
        · rw [mSc_p, mSc_q, mSc_x]
          refine z_goto hC 47 dX5_follow_230 rfl ?_
          refine z_dr3 hC ?_
          refine z_dr4 hC ?_
          refine z_dr5 hC ?_
          refine ih f _ _ _ sn (k + 1) _ hz2 (by omega) (by omega) (by omega) (upd_at _ _ _) (upd_at _ _ _) (fun p2 q2 hpq => ?_)
          have e0 : p2 k = nI g ∧ q2 k = (b &&& (((nI 1 <<< (zg G 27 0 (12 * h + s) &&& 31)) - nI 1) ^^^ (-1))) := ⟨(hpq k (by omega)).1.trans ((upd_ne _ _ _ (by omega)).trans (upd_at _ _ _)), (hpq k (by omega)).2.trans ((upd_ne _ _ _ (by omega)).trans (upd_at _ _ _))⟩
          refine ih g _ p2 q2 (fun j => sn j ||| mSv G h n f (b &&& ((nI 1 <<< (zg G 27 0 (12 * h + s) &&& 31)) - nI 1)) j) k _ hz1 (by omega) (by omega) (by omega) e0.1 e0.2 (fun p3 q3 hp3 => ?_)
          have K2 := K p3 q3 (fun j hj => by have e := hpq j (by omega); rw [upd_ne _ _ _ (by omega), upd_ne _ _ _ (by omega), upd_ne _ _ _ (by omega), upd_ne _ _ _ (by omega)] at e; have e2 := hp3 j hj; exact ⟨e2.1.trans e.1, e2.2.trans e.2⟩)
          rw [show (fun j => sn j ||| mSv G h (n + 1) s b j) = (fun j => (sn j ||| mSv G h n f (b &&& ((nI 1 <<< (zg G 27 0 (12 * h + s) &&& 31)) - nI 1)) j) ||| mSv G h n g (b &&& (((nI 1 <<< (zg G 27 0 (12 * h + s) &&& 31)) - nI 1) ^^^ (-1))) j) from funext (fun j => by rw [mSv_k2 hb hk ef (by omega) eg (by omega), Int32.or_assoc]), show ak + mSt G h (n + 1) s b = ak + 100 + mSt G h n f (b &&& ((nI 1 <<< (zg G 27 0 (12 * h + s) &&& 31)) - nI 1)) + mSt G h n g (b &&& (((nI 1 <<< (zg G 27 0 (12 * h + s) &&& 31)) - nI 1) ^^^ (-1))) from by rw [mSt_k2 hb hk ef (by omega) eg (by omega)]; simp only [Int64.add_assoc]] at K2
          exact K2

set_option maxHeartbeats 2000000 in
theorem c_X5_follow (l : Launch) (X : zX) (G : zG) {r0 : Nat} (hr0 : r0 = za G 20 0) {h s sz : Nat} (hh : h < 6) (hs : s < sz) (h12 : sz ≤ 12) (hT : mTx G h sz) : zC l yX5_follow cX5_follow 6 none 2 0 X [.ref r0, .int (nI h), .int (nI s)] G (zPv (fun G2 => ∃ p q sn : Nat → Int32, (∀ j, j < 8 → sn j = mSv G h 12 s (zg G 28 0 (12 * h + s)) j) ∧ G2 = mSc G p q sn (zg G 50 0) (nI 0) (mSt G h 12 s (zg G 28 0 (12 * h + s))))) := by
  subst hr0
  refine zC_of zpn_X5 (zcat rfl) (Nat.le_of_ble_eq_true rfl) ?_
  intro Z hC hE
  replace hC : zCtx l X cX5_follow RX5 6 2 0 Z := hC
  change Z 0 G 0 [some (.ref (za G 20 0)), some (.int (nI h)), some (.int (nI s)), none, none, none] []
  refine zG0 (mSc_self G) ?_
  refine z_iconst hC dX5_follow_0 zi_0 ?_
  refine z_is3 hC dX5_follow_1 (by decide) ?_
  refine z_loop (N := 8) (fun n => Z 0 (mSc G (zg G 45 0) (zg G 46 0) (zzF (zg G 47 0) n) (zg G 50 0) (zg G 20 0 29) (zt G 2)) 2 [some (.ref (za G 20 0)), some (.int (nI h)), some (.int (nI s)), some (.int (nI n)), none, none] []) ?_ ?_ 0 (Nat.zero_le _)
  · change Z 0 (mSc G (zg G 45 0) (zg G 46 0) (zzF (zg G 47 0) 8) (zg G 50 0) (zg G 20 0 29) (zt G 2)) 2 [some (.ref (za G 20 0)), some (.int (nI h)), some (.int (nI s)), some (.int (nI 8)), none, none] []
    refine z_il3 hC dX5_follow_2 ?_
    refine z_bipush hC dX5_follow_3 zb_8 ?_
    refine z_icmp_ge hC 21 dX5_follow_5 rfl (fun _ => ?_) (fun h => absurd (nI_le (Nat.le_refl _) (by omega)) h)
    refine z_al0 hC dX5_follow_21 ?_
    refine z_lconst hC dX5_follow_22 zl_0 ?_
    refine zpf_X5_125 hC dX5_follow_23 ?_
    rw [mSc_a]
    refine z_al0 hC dX5_follow_26 ?_
    refine z_iconst hC dX5_follow_27 zi_0 ?_
    refine zpf_X5_122 hC dX5_follow_28 ?_
    rw [mSc_x]
    refine z_al0 hC dX5_follow_31 ?_
    refine z_il2 hC dX5_follow_32 ?_
    refine z_al0 hC dX5_follow_33 ?_
    refine zgf_X5_35 hC dX5_follow_34 ?_
    refine z_bipush hC dX5_follow_37 zb_12 ?_
    refine z_il1 hC dX5_follow_39 ?_
    refine z_imulN hC dX5_follow_40 ?_
    refine z_il2 hC dX5_follow_41 ?_
    refine z_iaddN hC dX5_follow_42 ?_
    refine zal_28 hC (by omega) dX5_follow_43 ?_
    refine z_top (rfl : _ = (zg G 28 0 (12 * h + s))) ?_
    refine z_cVv2 hC (c_X5_piles l X _ (by rfl) (k := 0) (by rfl) (by omega)) zm_X5_piles zi_X5_piles zo_20 zk_X5_129 (by omega) (by decide) (by omega) (Nat.le_of_ble_eq_true rfl) dX5_follow_44 ?_
    rintro _ (⟨hz1, rfl⟩ | ⟨hz1, rfl⟩)
    · refine z_dr3 hC ?_
      refine z_al0 hC dX5_follow_47 ?_
      refine zgf_X5_122 hC dX5_follow_48 ?_
      refine z_top (rfl : _ = nI 0) ?_
      refine z_if_le hC 233 dX5_follow_51 rfl (fun _ => ?_) (fun h => absurd (show nI 0 ≤ 0 by decide +kernel) h)
      exact z_retv hE (by omega) dX5_follow_233 ⟨zg G 45 0, zg G 46 0, zzF (zg G 47 0) 8, fun j hj => by rw [hz1, mSv_z]; exact (if_pos hj).trans nI_0, by rw [hz1, mSt_z]⟩
    · rw [mSc_p, mSc_q, mSc_x]
      refine z_dr3 hC ?_
      refine fo_item hC (by omega) hh h12 hT 12 s _ _ _ _ 0 _ hz1 (by omega) hs (by omega) (upd_at _ _ _) (upd_at _ _ _) (fun p2 q2 _ => ?_)
      refine z_al0 hC dX5_follow_47 ?_
      refine zgf_X5_122 hC dX5_follow_48 ?_
      refine z_top (rfl : _ = nI 0) ?_
      refine z_if_le hC 233 dX5_follow_51 rfl (fun _ => ?_) (fun h => absurd (show nI 0 ≤ 0 by decide +kernel) h)
      exact z_retv hE (by omega) dX5_follow_233 ⟨p2, q2, fun j => zzF (zg G 47 0) 8 j ||| mSv G h 12 s (zg G 28 0 (12 * h + s)) j, fun j hj => by show zzF (zg G 47 0) 8 j ||| _ = _; rw [show zzF (zg G 47 0) 8 j = nI 0 from if_pos hj, nI_0]; exact or0l _, by rw [Int64.zero_add]⟩
  · intro n hn ih
    change Z 0 (mSc G (zg G 45 0) (zg G 46 0) (zzF (zg G 47 0) n) (zg G 50 0) (zg G 20 0 29) (zt G 2)) 2 [some (.ref (za G 20 0)), some (.int (nI h)), some (.int (nI s)), some (.int (nI n)), none, none] []
    replace ih : Z 0 (mSc G (zg G 45 0) (zg G 46 0) (zzF (zg G 47 0) (n + 1)) (zg G 50 0) (zg G 20 0 29) (zt G 2)) 2 [some (.ref (za G 20 0)), some (.int (nI h)), some (.int (nI s)), some (.int (nI (n + 1))), none, none] [] := ih
    refine z_il3 hC dX5_follow_2 ?_
    refine z_bipush hC dX5_follow_3 zb_8 ?_
    refine z_icmp_ge hC 21 dX5_follow_5 rfl (fun h => absurd h (nI_ge hn (by omega))) (fun _ => ?_)
    refine z_al0 hC dX5_follow_8 ?_
    refine zgf_X5_84 hC dX5_follow_9 ?_
    refine z_il3 hC dX5_follow_12 ?_
    refine z_iconst hC dX5_follow_13 zi_0 ?_
    refine zas_47 hC (by omega) dX5_follow_14 ?_
    refine z_inc3 hC dX5_follow_15 (by decide) ?_
    refine z_goto hC 2 dX5_follow_18 rfl ?_
    rw [mSc_s, zzF_s]
    exact ih

/-! rules: a new one is made -/
def xRow (a b c d : Int32) : Nat → Int32 := fun j => if j = 0 then a else if j = 1 then b else if j = 2 then c else d
def xNew (G : zG) (r q : Nat) (a b c d : Int32) : zG := (fun k i => if k = 17 ∧ i = r then xRow a b c d else G.1 k i, G.2.1, fun j => if j = 0 then r + 1 else if j = 1 then r + 1 else G.2.2.1 j, fun k i => if k = 17 ∧ i = r then q else G.2.2.2 k i)
def xsRule (G : zG) (rc q : Nat) (a b c d : Int32) : zG := if moRule a b c d = true then (if rc = 12 then G else zu (xNew G rc q a b c d) 0 0 3 (nI (rc + 1))) else G
theorem zg_new17 (G : zG) (r q : Nat) (a b c d : Int32) (i : Nat) : zg (xNew G r q a b c d) 17 i = if i = r then xRow a b c d else zg G 17 i := by
  show (if 17 = 17 ∧ i = r then xRow a b c d else G.1 17 i) = _
  by_cases h : i = r
  · rw [if_pos ⟨rfl, h⟩, if_pos h]
  · rw [if_neg (fun w => h w.2), if_neg h]
    rfl
theorem za_new17 (G : zG) (r q : Nat) (a b c d : Int32) (i : Nat) : za (xNew G r q a b c d) 17 i = if i = r then q else za G 17 i := by
  show (if 17 = 17 ∧ i = r then q else G.2.2.2 17 i) = _
  by_cases h : i = r
  · rw [if_pos ⟨rfl, h⟩, if_pos h]
  · rw [if_neg (fun w => h w.2), if_neg h]
    rfl
theorem zg_new34 (G : zG) (r q : Nat) (a b c d : Int32) : zg (xNew G r q a b c d) 34 = zg G 34 := rfl
theorem zg_new35 (G : zG) (r q : Nat) (a b c d : Int32) : zg (xNew G r q a b c d) 35 = zg G 35 := rfl
theorem zg_new36 (G : zG) (r q : Nat) (a b c d : Int32) : zg (xNew G r q a b c d) 36 = zg G 36 := rfl
theorem zg_new37 (G : zG) (r q : Nat) (a b c d : Int32) : zg (xNew G r q a b c d) 37 = zg G 37 := rfl
theorem z_ctNew (X : zX) (G : zG) (r q : Nat) (a b c d : Int32) {k i : Nat} (h3 : k ≠ 3) (h17 : k ≠ 17) : (za (xNew G r q a b c d) k i, z_ct X (xNew G r q a b c d) k i) = (za G k i, z_ct X G k i) := by
  have e1 : za (xNew G r q a b c d) k i = za G k i := if_neg (fun w => h17 w.1)
  have e2 : zg (xNew G r q a b c d) k i = zg G k i := if_neg (fun w => h17 w.1)
  have e3 : z_ct X (xNew G r q a b c d) k i = z_ct X G k i := by
    show z_cu X.2 (za (xNew G r q a b c d)) (zn (xNew G r q a b c d)) (zt (xNew G r q a b c d)) k i (zg (xNew G r q a b c d) k i) = z_cu X.2 (za G) (zn G) (zt G) k i (zg G k i)
    rw [e2]
    unfold z_cu
    split <;> first | rfl | (exact absurd rfl h3)
  rw [e1, e3]
def zixR : List (Nat × Nat) := zix0.drop 4
theorem zixR_0 : zix0 = (0, 0) :: (1, 0) :: (2, 0) :: (3, 0) :: zixR := rfl
theorem zixR_k : ∀ x ∈ zixR, x.1 ≠ 3 ∧ x.1 ≠ 17 := by decide +kernel
theorem z_lsNew {X : zX} {G : zG} {r q : Nat} {a b c d : Int32} (h0 : zn G 0 = r) (h1 : zn G 1 = r) : (z_ls X G ++ ([(q, .inr (2, [.int a, .int b, .int c, .int d]))] : va_W)).set 3 (za G 3 0, .inl (X.2 4, 12, .inr (.inr (.inr (.inr (va_up (fun j => if j < zn G 1 then some (za G 17 j) else none) r (some q))))))) = z_ls X (xNew G r q a b c d) := by
  have e1 : z_ls X G = (za G 0 0, z_ct X G 0 0) :: (za G 1 0, z_ct X G 1 0) :: (za G 2 0, z_ct X G 2 0) :: (za G 3 0, z_ct X G 3 0) :: (zixR.map (fun q => (za G q.1 q.2, z_ct X G q.1 q.2)) ++ (List.range r).map (fun j => (za G 17 j, z_ct X G 17 j))) := by
    unfold z_ls zix
    rw [h0, zixR_0, List.map_append, List.map_map]
    rfl
  have e2 : z_ls X (xNew G r q a b c d) = (za G 0 0, z_ct X G 0 0) :: (za G 1 0, z_ct X G 1 0) :: (za G 2 0, z_ct X G 2 0) :: (za G 3 0, z_ct X (xNew G r q a b c d) 3 0) :: (zixR.map (fun q => (za G q.1 q.2, z_ct X G q.1 q.2)) ++ (List.range (r + 1)).map (fun j => (za (xNew G r q a b c d) 17 j, z_ct X (xNew G r q a b c d) 17 j))) := by
    have e3 : zixR.map (fun q => (za G q.1 q.2, z_ct X G q.1 q.2)) = zixR.map (fun x => (za (xNew G r q a b c d) x.1 x.2, z_ct X (xNew G r q a b c d) x.1 x.2)) := List.map_congr_left (fun x hx => (z_ctNew X G r q a b c d (zixR_k x hx).1 (zixR_k x hx).2).symm)
    rw [e3]
    unfold z_ls zix
    rw [zixR_0, List.map_append, List.map_map]
    rfl
  have e4 : (List.range (r + 1)).map (fun j => (za (xNew G r q a b c d) 17 j, z_ct X (xNew G r q a b c d) 17 j)) = (List.range r).map (fun j => (za G 17 j, z_ct X G 17 j)) ++ ([(q, .inr (2, [.int a, .int b, .int c, .int d]))] : va_W) := by
    rw [List.range_succ, List.map_append]
    have e5 : (List.range r).map (fun j => (za (xNew G r q a b c d) 17 j, z_ct X (xNew G r q a b c d) 17 j)) = (List.range r).map (fun j => (za G 17 j, z_ct X G 17 j)) := List.map_congr_left (fun j hj => by
      have hj2 : ¬ j = r := by
        have := List.mem_range.mp hj
        omega
      have c1 : z_ct X (xNew G r q a b c d) 17 j = .inr (2, [.int (zg (xNew G r q a b c d) 17 j 0), .int (zg (xNew G r q a b c d) 17 j 1), .int (zg (xNew G r q a b c d) 17 j 2), .int (zg (xNew G r q a b c d) 17 j 3)]) := rfl
      rw [c1, za_new17, zg_new17, if_neg hj2, if_neg hj2]
      rfl)
    have e6 : z_ct X (xNew G r q a b c d) 17 r = .inr (2, [.int a, .int b, .int c, .int d]) := by
      have c1 : z_ct X (xNew G r q a b c d) 17 r = .inr (2, [.int (zg (xNew G r q a b c d) 17 r 0), .int (zg (xNew G r q a b c d) 17 r 1), .int (zg (xNew G r q a b c d) 17 r 2), .int (zg (xNew G r q a b c d) 17 r 3)]) := rfl
      rw [c1, zg_new17, if_pos rfl]
      rfl
    have e7 : za (xNew G r q a b c d) 17 r = q := by rw [za_new17, if_pos rfl]
    rw [e5]
    show _ ++ [(za (xNew G r q a b c d) 17 r, z_ct X (xNew G r q a b c d) 17 r)] = _
    rw [e6, e7]
  have e8 : z_ct X (xNew G r q a b c d) 3 0 = .inl (X.2 4, 12, .inr (.inr (.inr (.inr (va_up (fun j => if j < zn G 1 then some (za G 17 j) else none) r (some q)))))) := by
    have c1 : z_ct X (xNew G r q a b c d) 3 0 = .inl (X.2 4, 12, .inr (.inr (.inr (.inr (fun j => if j < r + 1 then some (za (xNew G r q a b c d) 17 j) else none))))) := rfl
    have c2 : (fun j => if j < r + 1 then some (za (xNew G r q a b c d) 17 j) else none) = fun j => if j < r + 1 then some (va_up (za G 17) r q j) else none := by
      funext j
      rw [za_new17]
      rfl
    rw [c1, c2, h1, yr_s (za G 17) r q]
  rw [e1, e2, e4, e8, ← List.append_assoc]
  rfl
theorem zinL_255 (b : Int32) : zinL b 255 = (zin b 256 && !decide (b = 0)) := by
  cases h : zin b 256 with
  | true =>
    obtain ⟨t, ht, rfl, -⟩ := zin_zv h
    by_cases h0 : nI t = 0
    · rw [h0]
      decide +kernel
    · have t0 : t ≠ 0 := fun w => h0 (by rw [w]; exact nI_0)
      rw [zinL_t (by omega) (by omega) (by decide), decide_eq_false h0]
      rfl
  | false =>
    unfold zinL
    unfold zin at h
    have h2 := of_decide_eq_false h
    rw [Bool.false_and]
    refine decide_eq_false (fun w => h2 ?_)
    omega
set_option maxHeartbeats 4000000 in
set_option maxRecDepth 20000 in
theorem p_rule (l : Launch) (X : zX) (G : zG) {r0 : Nat} (hr0 : r0 = za G 0 0) {vc rc td : Nat} (hI : xI G vc rc td) {a b c d : Int32} : zC l yX4_rule cX4_rule 5 (some FieldType.int) 3 1 X [.ref r0, .int a, .int b, .int c, .int d] G (zPi (fun r G2 => r = maRule rc a b c d ∧ ∃ q, G2 = xsRule G rc q a b c d)) := by
  subst hr0
  refine zC_of zpn_X4 (zcat rfl) (Nat.le_of_ble_eq_true rfl) ?_
  intro Z hC hE
  replace hC : zCtx l X cX4_rule RX4 5 3 1 Z := hC
  change Z 0 G 0 [some (.ref (za G 0 0)), some (.int a), some (.int b), some (.int c), some (.int d)] []
  obtain ⟨hvc, v1, v5, hrc, r12, hn0, hn1, htd, t39, htx, hgo, hru⟩ := hI
  have hno : moRule a b c d = false → (-1 : Int32) = maRule rc a b c d ∧ ∃ q, G = xsRule G rc q a b c d := fun h => by
    have h2 : ¬ moRule a b c d = true := by rw [h]; decide
    exact ⟨(if_neg h2).symm, 0, (if_neg h2).symm⟩
  refine z_il1 hC dX4_rule_0 ?_
  refine z_cSi1 hC (c_X4_isFace l X _) zm_X4_isFace zi_X4_isFace zk_X4_80 (by omega) (by decide) (by omega) (Nat.le_of_ble_eq_true rfl) dX4_rule_1 ?_
  rintro _ _ (⟨aN, ha, ea, rfl, rfl⟩ | ⟨na, rfl, rfl⟩)
  · have ta : zin a 8 = true := by rw [ea]; exact zin_t ha (by omega)
    refine z_if_eq hC 24 dX4_rule_4 rfl (fun h => absurd h (by decide)) (fun _ => ?_)
    refine z_il3 hC dX4_rule_7 ?_
    refine z_cSi1 hC (c_X4_isFace l X _) zm_X4_isFace zi_X4_isFace zk_X4_80 (by omega) (by decide) (by omega) (Nat.le_of_ble_eq_true rfl) dX4_rule_8 ?_
    rintro _ _ (⟨cN, hc, ec, rfl, rfl⟩ | ⟨nc, rfl, rfl⟩)
    · have tc : zin c 8 = true := by rw [ec]; exact zin_t hc (by omega)
      refine z_if_eq hC 24 dX4_rule_11 rfl (fun h => absurd h (by decide)) (fun _ => ?_)
      refine z_il4 hC dX4_rule_14 ?_
      refine z_bipush hC dX4_rule_16 zb_7 ?_
      refine z_cSi2 hC (c_X4_isWithin l X _ (by decide)) zm_X4_isWithin zi_X4_isWithin zk_X4_58 (by omega) (by decide) (by omega) (Nat.le_of_ble_eq_true rfl) dX4_rule_18 ?_
      rintro _ _ (⟨dN, hd, ed, rfl, rfl⟩ | ⟨nd, rfl, rfl⟩)
      · have td2 : zin d 8 = true := by rw [ed]; exact zin_t hd (by omega)
        refine z_if_ne hC 26 dX4_rule_21 rfl (fun _ => ?_) (fun h => absurd h (by decide))
        refine z_il2 hC dX4_rule_26 ?_
        refine z_if_eq hC 40 dX4_rule_27 rfl (fun h0 => ?_) (fun h0 => ?_)
        · refine z_iconst hC dX4_rule_40 zi_m1 ?_
          exact z_reti hE (by omega) dX4_rule_41 (hno (by unfold moRule; rw [zinL_255, decide_eq_true h0]; simp))
        · refine z_il2 hC dX4_rule_30 ?_
          refine z_sipush hC dX4_rule_31 zs_255 ?_
          refine z_cSi2 hC (c_X4_isWithin l X _ (by decide)) zm_X4_isWithin zi_X4_isWithin zk_X4_58 (by omega) (by decide) (by omega) (Nat.le_of_ble_eq_true rfl) dX4_rule_34 ?_
          rintro _ _ (⟨bN, hb, eb, rfl, rfl⟩ | ⟨nb, rfl, rfl⟩)
          · have tb : zin b 256 = true := by rw [eb]; exact zin_t hb (by omega)
            have hok : moRule a b c d = true := by unfold moRule; rw [zinL_255, ta, tb, tc, td2, decide_eq_false h0]; rfl
            refine z_if_ne hC 42 dX4_rule_37 rfl (fun _ => ?_) (fun h => absurd h (by decide))
            refine z_al0 hC dX4_rule_42 ?_
            refine zgf_X4_27 hC dX4_rule_43 ?_
            refine z_top hrc ?_
            refine z_bipush hC dX4_rule_46 zb_12 ?_
            refine z_icmp_lt hC 54 dX4_rule_48 rfl (fun h48 => ?_) (fun h48 => ?_)
            · rw [nI_ltI (by omega) (by decide)] at h48
              have hne : ¬ rc = 12 := by omega
              refine z_al0 hC dX4_rule_54 ?_
              refine zgf_X4_23 hC dX4_rule_55 ?_
              refine z_al0 hC dX4_rule_58 ?_
              refine zgf_X4_27 hC dX4_rule_59 ?_
              refine z_top hrc ?_
              obtain ⟨Y, hY, hYZ⟩ := hC.y
              refine (hYZ _ _ _ _ _).mp ?_
              refine y_new (ci := 2) hY 1 (fs := yfX2) rfl zu_X2 tyX2_ok zcc_X4_21 zins_X2 zini_X2 yfX2_ok (by decide) (by decide) (by omega) dX4_rule_62 (fun q => ?_)
              refine y_dup hY dX4_rule_65 rfl ?_
              refine y_ilN hY dX4_rule_66 rfl rfl ?_
              refine y_ilN hY dX4_rule_67 rfl rfl ?_
              refine y_ilN hY dX4_rule_68 rfl rfl ?_
              refine y_ilW hY dX4_rule_69 rfl ?_
              refine y_callIN (w := 0 + 0 + 0 + 0 + 0 + 1) hY (As := [.int a, .int b, .int c, .int d]) (r := q) (st := [.ref q, .int (nI rc), .ref (za G 3 0)]) (wr := z_ls X G) (wc := [(q, .inr (2, yfX2))]) (c_X2_init l X q a b c d) zm_X2_init (by omega) (by decide) (by omega) (Nat.le_of_ble_eq_true rfl) rfl (fun h => h) zi_X2_init zkn_X4_158 dX4_rule_71 (fun wl2 h => ?_)
              subst h
              obtain ⟨qk, hqk⟩ := List.getElem?_of_mem (List.mem_append_right (z_ls X G) (List.mem_cons_self (a := (q, (.inr (2, [.int a, .int b, .int c, .int d]) : va_E))) (l := [])))
              refine y_aast hY 3 4 qk rfl rfl hqk rfl h48 (by decide) dX4_rule_74 ?_
              refine y_eq (z_lsNew hn0 hn1) ((hYZ _ _ _ _ _).mpr ?_)
              obtain ⟨K, hK⟩ : ∃ K, K = xNew G rc q a b c d := ⟨_, rfl⟩
              have k0 : za G 0 0 = za K 0 0 := by rw [hK]; rfl
              have k3 : zg K 0 0 3 = nI rc := by rw [hK]; exact hrc
              rw [← hK, k0]
              refine z_al0 hC dX4_rule_75 ?_
              refine z_dup hC dX4_rule_76 rfl ?_
              refine zgf_X4_27 hC dX4_rule_77 ?_
              refine z_top k3 ?_
              refine z_iconst hC dX4_rule_80 zi_1 ?_
              refine z_iaddN hC dX4_rule_81 ?_
              refine zpf_X4_27 hC dX4_rule_82 ?_
              refine z_al0 hC dX4_rule_85 ?_
              refine zgf_X4_27 hC dX4_rule_86 ?_
              refine z_top (show zg (zu K 0 0 3 (nI (rc + 1))) 0 0 3 = nI (rc + 1) from rfl) ?_
              refine z_iconst hC dX4_rule_89 zi_1 ?_
              refine z_isubN hC dX4_rule_90 (by omega) ?_
              refine z_reti hE (by omega) dX4_rule_91 ⟨?_, q, ?_⟩
              · exact ((if_pos hok).trans (if_neg hne)).symm
              · rw [hK]
                exact ((if_pos hok).trans (if_neg hne)).symm
            · rw [nI_ltI (by omega) (by decide)] at h48
              have heq : rc = 12 := by omega
              refine z_bipush hC dX4_rule_51 zb_m3 ?_
              exact z_reti hE (by omega) dX4_rule_53 ⟨((if_pos hok).trans (if_pos heq)).symm, 0, ((if_pos hok).trans (if_pos heq)).symm⟩
          · replace nb : zin b 256 = false := nb
            refine z_if_ne hC 42 dX4_rule_37 rfl (fun h => absurd rfl h) (fun _ => ?_)
            refine z_iconst hC dX4_rule_40 zi_m1 ?_
            exact z_reti hE (by omega) dX4_rule_41 (hno (by unfold moRule; rw [zinL_255, nb]; simp))
      · replace nd : zin d 8 = false := nd
        refine z_if_ne hC 26 dX4_rule_21 rfl (fun h => absurd rfl h) (fun _ => ?_)
        refine z_iconst hC dX4_rule_24 zi_m1 ?_
        exact z_reti hE (by omega) dX4_rule_25 (hno (by unfold moRule; rw [nd]; simp))
    · refine z_if_eq hC 24 dX4_rule_11 rfl (fun _ => ?_) (fun h => absurd rfl h)
      refine z_iconst hC dX4_rule_24 zi_m1 ?_
      exact z_reti hE (by omega) dX4_rule_25 (hno (by unfold moRule; rw [nc]; simp))
  · refine z_if_eq hC 24 dX4_rule_4 rfl (fun _ => ?_) (fun h => absurd rfl h)
    refine z_iconst hC dX4_rule_24 zi_m1 ?_
    exact z_reti hE (by omega) dX4_rule_25 (hno (by unfold moRule; rw [na]; rfl))
theorem e_rule {G : zG} {vc rc td : Nat} (h : zR G vc rc td) (q : Nat) (a b c d : Int32) : ∃ rc2, zR (msRule (xsRule G rc q a b c d) rc a b c d) vc rc2 td := by
  by_cases ho : moRule a b c d = true
  · by_cases h12 : rc = 12
    · have e1 : xsRule G rc q a b c d = G := (if_pos ho).trans (if_pos h12)
      have e2 : msRule G rc a b c d = G := (if_pos ho).trans (if_pos h12)
      rw [e1, e2]
      exact ⟨rc, h⟩
    · have e1 : xsRule G rc q a b c d = zu (xNew G rc q a b c d) 0 0 3 (nI (rc + 1)) := (if_pos ho).trans (if_neg h12)
      have e2 : ∀ K, msRule K rc a b c d = zu (zu (zu (zu (zu K 34 0 rc a) 35 0 rc b) 36 0 rc c) 37 0 rc d) 20 0 13 (nI (rc + 1)) := fun K => (if_pos ho).trans (if_neg h12)
      rw [e1, e2]
      unfold moRule at ho
      rw [zinL_255] at ho
      simp only [Bool.and_eq_true] at ho
      obtain ⟨a', ha, ea, -⟩ := zin_zv ho.1
      obtain ⟨b', hb, eb, -⟩ := zin_zv ho.2.1.1
      obtain ⟨c', hc, ec, -⟩ := zin_zv ho.2.2.1
      obtain ⟨d', hd, ed, -⟩ := zin_zv ho.2.2.2
      obtain ⟨hX, hM, hA, hG, hT, hC, hU, hP, hS, hz, ht⟩ := h
      obtain ⟨x1, x2, x3, x4, x5, x6, x7, x8, x9, x10, x11, x12⟩ := hX
      obtain ⟨m1, m2, m3, m4, m5, m6, m7, m8, m9, m10⟩ := hM
      refine ⟨rc + 1, ⟨x1, x2, x3, rfl, by omega, rfl, rfl, x8, x9, x10, x11, ?_⟩, ⟨m1, m2, m3, rfl, by omega, m6, m7, m8, m9, ?_⟩, hA, hG, hT, hC, ?_, hP, hS, hz, ht⟩
      · intro i hi
        show ∃ f t d0, f < 8 ∧ t < 8 ∧ d0 < 8 ∧ zg (xNew G rc q a b c d) 17 i 0 = nI f ∧ zg (xNew G rc q a b c d) 17 i 2 = nI t ∧ zg (xNew G rc q a b c d) 17 i 3 = nI d0
        rw [zg_new17]
        by_cases e : i = rc
        · rw [if_pos e]
          exact ⟨a', c', d', ha, hc, hd, ea, ec, ed⟩
        · rw [if_neg e]
          exact x12 i (by omega)
      · intro i hi
        rw [zg_zu, zg_zu, zg_zu, zg_zu, zg_zu, zg_zu, zg_zu, zg_zu, zg_zu, zg_zu, zg_zu, zg_zu, zg_zu, zg_zu, zg_zu]
        by_cases e : i = rc
        · refine ⟨a', c', d', ha, hc, hd, ?_, ?_, ?_⟩
          · simp [e, ea]
          · simp [e, ec]
          · simp [e, ed]
        · obtain ⟨f, t, d0, h1, h2, h3, h4, h5, h6⟩ := m10 i (by omega)
          refine ⟨f, t, d0, h1, h2, h3, ?_, ?_, ?_⟩
          · simpa [e, zg_zu, zg_new34, zg_new36, zg_new37] using h4
          · simpa [e, zg_zu, zg_new34, zg_new36, zg_new37] using h5
          · simpa [e, zg_zu, zg_new34, zg_new36, zg_new37] using h6
      · intro i hi
        show zg _ 34 0 i = zg (xNew G rc q a b c d) 17 i 0 ∧ zg _ 35 0 i = zg (xNew G rc q a b c d) 17 i 1 ∧ zg _ 36 0 i = zg (xNew G rc q a b c d) 17 i 2 ∧ zg _ 37 0 i = zg (xNew G rc q a b c d) 17 i 3 ∧ ∃ t, t < 256 ∧ zg (xNew G rc q a b c d) 17 i 1 = nI t
        rw [zg_new17]
        by_cases e : i = rc
        · rw [if_pos e]
          refine ⟨?_, ?_, ?_, ?_, b', hb, eb⟩
          · simp [zg_zu, e, xRow]
          · simp [zg_zu, e, xRow]
          · simp [zg_zu, e, xRow]
          · simp [zg_zu, e, xRow]
        · rw [if_neg e]
          obtain ⟨u1, u2, u3, u4, u5⟩ := hU i (by omega)
          refine ⟨?_, ?_, ?_, ?_, u5⟩
          · simpa [zg_zu, e, zg_new34, zg_new35, zg_new36, zg_new37] using u1
          · simpa [zg_zu, e, zg_new34, zg_new35, zg_new36, zg_new37] using u2
          · simpa [zg_zu, e, zg_new34, zg_new35, zg_new36, zg_new37] using u3
          · simpa [zg_zu, e, zg_new34, zg_new35, zg_new36, zg_new37] using u4
  · have e1 : xsRule G rc q a b c d = G := if_neg ho
    have e2 : msRule G rc a b c d = G := if_neg ho
    rw [e1, e2]
    exact ⟨rc, h⟩

/-! the law, call by call -/
def zX0 (G K : zG) : Prop := (∀ k, 20 ≤ k → ∀ i, zg K k i = zg G k i) ∧ za K 0 0 = za G 0 0 ∧ za K 20 0 = za G 20 0
theorem zX0_r (G : zG) : zX0 G G := ⟨fun _ _ _ => rfl, rfl, rfl⟩
theorem zX0_A {G K : zG} {k0 i0 : Nat} {f : Nat → Int32} (h : zX0 G K) (hk : k0 < 20) : zX0 G (zuA K k0 i0 f) := ⟨fun k hk2 i => (if_neg (fun w => by omega)).trans (h.1 k hk2 i), h.2⟩
theorem zX0_u {G K : zG} {k0 i0 j : Nat} {v : Int32} (h : zX0 G K) (hk : k0 < 20) : zX0 G (zu K k0 i0 j v) := zX0_A h hk
theorem zX0_T {G K : zG} {v : Int64} (h : zX0 G K) : zX0 G (zuT K 0 v) := h
theorem zX0_n (G : zG) (r q : Nat) (a b c d : Int32) : zX0 G (xNew G r q a b c d) := ⟨fun k hk i => if_neg (fun w => by omega), rfl, rfl⟩
theorem zX0_C (G : zG) (vc : Nat) : ∀ n, zX0 G (xCp G vc n)
  | 0 => zX0_r G
  | n + 1 => zX0_A (zX0_C G vc n) (by decide)
theorem za_mCp (G : zG) (vc : Nat) : ∀ n, za (mCp G vc n) = za G
  | 0 => rfl
  | n + 1 => (za_mCp G vc n)
theorem mI_X {G K : zG} {vc rc td : Nat} (h : zX0 G K) (hM : mI G vc rc td) : mI K vc rc td := by
  have e := fun k hk => h.1 k hk 0
  unfold mI mTx at hM ⊢
  rw [e 20 (by decide), e 22 (by decide), e 23 (by decide), e 24 (by decide), e 25 (by decide), e 26 (by decide), e 34 (by decide), e 36 (by decide), e 37 (by decide)]
  exact hM
def zA0 (G K : zG) : Prop := za K 0 0 = za G 0 0 ∧ za K 20 0 = za G 20 0
theorem zA0_S {G K : zG} (h : mSX G K) : zA0 G K := by
  obtain ⟨p, q, sn, ls, x, ak, rfl⟩ := h
  exact ⟨rfl, rfl⟩
theorem zR_S {G K : zG} {vc rc td : Nat} (h : mSX G K) (hR : zR G vc rc td) : zR K vc rc td := by
  obtain ⟨p, q, sn, ls, x, ak, rfl⟩ := h
  exact zR_mSc hR
theorem lg_cmp0 {x y : Int64} (h : x = y) : lg_cmp x y = 0 := by
  subst h
  unfold lg_cmp
  rw [if_neg Int64.lt_irrefl, if_pos rfl]
theorem and31 (x : Int32) : ∃ z, z < 32 ∧ x &&& nI 31 = nI z := by
  have h0 : (x.toBitVec.toNat &&& 31) ≤ 31 := Nat.and_le_right
  refine ⟨x.toBitVec.toNat &&& 31, by omega, ?_⟩
  apply Int32.toBitVec.inj
  rw [Int32.toBitVec_and]
  apply BitVec.eq_of_toNat_eq
  rw [BitVec.toNat_and, nI_bv, nI_bv, Nat.mod_eq_of_lt (by omega), Nat.mod_eq_of_lt (by omega)]
theorem zx_answer (G : zG) (vc : Nat) (a b c d : Int32) : zX0 G (xsAnswer G vc a b c d) := by
  unfold xsAnswer
  repeat' split
  all_goals repeat (first | exact zX0_r _ | exact zX0_C _ _ _ | refine zX0_u ?_ (by decide) | refine zX0_A ?_ (by decide) | refine zX0_T ?_)
theorem zx_goes (G : zG) (vc : Nat) (a b : Int32) : zX0 G (xsGoes G vc a b) := by
  unfold xsGoes
  repeat' split
  all_goals repeat (first | exact zX0_r _ | exact zX0_C _ _ _ | refine zX0_u ?_ (by decide) | refine zX0_A ?_ (by decide) | refine zX0_T ?_)
theorem zx_call (G : zG) (a b c : Int32) : zX0 G (xsCall G a b c) := by
  unfold xsCall xAdd
  repeat' split
  all_goals repeat (first | exact zX0_r _ | exact zX0_C _ _ _ | refine zX0_u ?_ (by decide) | refine zX0_A ?_ (by decide) | refine zX0_T ?_)
theorem zx_wrap (G : zG) (a b c d : Int32) : zX0 G (xsWrap G a b c d) := by
  unfold xsWrap xAdd
  repeat' split
  all_goals repeat (first | exact zX0_r _ | exact zX0_C _ _ _ | refine zX0_u ?_ (by decide) | refine zX0_A ?_ (by decide) | refine zX0_T ?_)
theorem zx_split (G : zG) (a b c d e : Int32) : zX0 G (xsSplit G a b c d e) := by
  unfold xsSplit xAdd
  repeat' split
  all_goals repeat (first | exact zX0_r _ | exact zX0_C _ _ _ | refine zX0_u ?_ (by decide) | refine zX0_A ?_ (by decide) | refine zX0_T ?_)
theorem zx_clear (G : zG) (a : Int32) : zX0 G (xsClear G a) := by
  unfold xsClear
  repeat' split
  all_goals repeat (first | exact zX0_r _ | exact zX0_C _ _ _ | refine zX0_u ?_ (by decide) | refine zX0_A ?_ (by decide) | refine zX0_T ?_)
theorem zx_sees (G : zG) (a b c : Int32) : zX0 G (xsSees G a b c) := by
  unfold xsSees
  repeat' split
  all_goals repeat (first | exact zX0_r _ | exact zX0_C _ _ _ | refine zX0_u ?_ (by decide) | refine zX0_A ?_ (by decide) | refine zX0_T ?_)
theorem zx_count (G : zG) (td : Nat) (a b c d e : Int32) : zX0 G (xsCount G td a b c d e) := by
  unfold xsCount xCt xOpn
  repeat' split
  all_goals repeat (first | exact zX0_r _ | exact zX0_C _ _ _ | refine zX0_u ?_ (by decide) | refine zX0_A ?_ (by decide) | refine zX0_T ?_)
theorem zx_days (G : zG) (a : Int32) : zX0 G (xsDays G a) := by
  unfold xsDays
  repeat' split
  all_goals repeat (first | exact zX0_r _ | exact zX0_C _ _ _ | refine zX0_u ?_ (by decide) | refine zX0_A ?_ (by decide) | refine zX0_T ?_)
theorem zx_promise (G : zG) (a b c : Int32) : zX0 G (xsPromise G a b c) := by
  unfold xsPromise
  repeat' split
  all_goals repeat (first | exact zX0_r _ | exact zX0_C _ _ _ | refine zX0_u ?_ (by decide) | refine zX0_A ?_ (by decide) | refine zX0_T ?_)
theorem zx_shut (G : zG) (a b : Int32) : zX0 G (xsShut G a b) := by
  unfold xsShut
  repeat' split
  all_goals repeat (first | exact zX0_r _ | exact zX0_C _ _ _ | refine zX0_u ?_ (by decide) | refine zX0_A ?_ (by decide) | refine zX0_T ?_)
theorem zx_open (G : zG) (a : Int32) : zX0 G (xsOpen G a) := by
  unfold xsOpen
  repeat' split
  all_goals repeat (first | exact zX0_r _ | exact zX0_C _ _ _ | refine zX0_u ?_ (by decide) | refine zX0_A ?_ (by decide) | refine zX0_T ?_)
theorem zx_set (G : zG) (a b c : Int32) : zX0 G (xsSet G a b c) := by
  unfold xsSet
  repeat' split
  all_goals repeat (first | exact zX0_r _ | exact zX0_C _ _ _ | refine zX0_u ?_ (by decide) | refine zX0_A ?_ (by decide) | refine zX0_T ?_)
theorem zx_version (G : zG) (vc : Nat) : zX0 G (xsVersion G vc) := by
  unfold xsVersion
  repeat' split
  all_goals repeat (first | exact zX0_r _ | exact zX0_C _ _ _ | refine zX0_u ?_ (by decide) | refine zX0_A ?_ (by decide) | refine zX0_T ?_)
theorem zx_rule (G : zG) (rc q : Nat) (a b c d : Int32) : zX0 G (xsRule G rc q a b c d) := by
  unfold xsRule
  repeat' split
  all_goals first | exact zX0_r _ | exact zX0_u (zX0_n _ _ _ _ _ _ _) (by decide)
theorem zs_answer (G : zG) (vc : Nat) (a b c d : Int32) : zA0 G (msAnswer G vc a b c d) := by
  unfold msAnswer
  repeat' split
  all_goals exact ⟨rfl, rfl⟩
theorem zs_goes (G : zG) (vc : Nat) (a b : Int32) : zA0 G (msGoes G vc a b) := by
  unfold msGoes
  repeat' split
  all_goals exact ⟨rfl, rfl⟩
theorem zs_call (G : zG) (a b c : Int32) : zA0 G (msCall G a b c) := by
  unfold msCall
  repeat' split
  all_goals exact ⟨rfl, rfl⟩
theorem zs_wrap (G : zG) (a b c d : Int32) : zA0 G (msWrap G a b c d) := by
  unfold msWrap
  repeat' split
  all_goals exact ⟨rfl, rfl⟩
theorem zs_split (G : zG) (a b c d e : Int32) : zA0 G (msSplit G a b c d e) := by
  unfold msSplit
  repeat' split
  all_goals exact ⟨rfl, rfl⟩
theorem zs_clear (G : zG) (a : Int32) : zA0 G (msClear G a) := by
  unfold msClear
  repeat' split
  all_goals exact ⟨rfl, rfl⟩
theorem zs_sees (G : zG) (a b c : Int32) : zA0 G (msSees G a b c) := by
  unfold msSees
  repeat' split
  all_goals exact ⟨rfl, rfl⟩
theorem zs_count (G : zG) (td : Nat) (a b c d e : Int32) : zA0 G (msCount G td a b c d e) := by
  unfold msCount
  repeat' split
  all_goals exact ⟨rfl, rfl⟩
theorem zs_days (G : zG) (a : Int32) : zA0 G (msDays G a) := by
  unfold msDays
  repeat' split
  all_goals exact ⟨rfl, rfl⟩
theorem zs_promise (G : zG) (a b c : Int32) : zA0 G (msPromise G a b c) := by
  unfold msPromise
  repeat' split
  all_goals exact ⟨rfl, rfl⟩
theorem zs_shut (G : zG) (td : Nat) (a b : Int32) : zA0 G (msShut G td a b) := by
  unfold msShut
  repeat' split
  all_goals exact ⟨rfl, rfl⟩
theorem zs_open (G : zG) (a : Int32) : zA0 G (msOpen G a) := by
  unfold msOpen
  repeat' split
  all_goals exact ⟨rfl, rfl⟩
theorem zs_set (G : zG) (a b c : Int32) : zA0 G (msSet G a b c) := by
  unfold msSet
  repeat' split
  all_goals exact ⟨rfl, rfl⟩
theorem zs_version (G : zG) (vc : Nat) : zA0 G (msVersion G vc) := by
  unfold msVersion
  split
  · exact ⟨rfl, rfl⟩
  · have e := za_mCp G vc 8
    exact ⟨congrFun (congrFun e 0) 0, congrFun (congrFun e 20) 0⟩
theorem zs_rule (G : zG) (rc : Nat) (a b c d : Int32) : zA0 G (msRule G rc a b c d) := by
  unfold msRule
  repeat' split
  all_goals exact ⟨rfl, rfl⟩
section LW
variable {l : Launch} {X : zX} {bud : Nat} {Z : zZ} {w : Nat} {G : zG} {b i L : Nat} {xs : Nat → Int32} {vc rc td : Nat}
def lSld (b L : Nat) (xs : Nat → Int32) (Z : zZ) : Prop := ∀ (w : Nat) (G : zG) (pc : Nat) (lv : List (Option Value)) (st : List Value) (j : Nat), j < L → decode cL_law pc = .ok (.iaload, 1) → Z w G (pc + 1) lv (.int (xs j) :: st) → Z w G pc lv (.int (nI j) :: .ref b :: st)
def lKK (b i bud w : Nat) (G : zG) (Z : zZ) : Prop := ∀ (w2 : Nat) (K : zG), w ≤ w2 → w2 ≤ w + 1 → zRR K → zA0 G K → Z w2 K 1316 [some (.ref b), some (.ref (za G 0 0)), some (.ref (za G 20 0)), some (.int (nI i))] []
set_option maxHeartbeats 1000000 in
theorem w_version (hC : zCtx l X cL_law RL 4 20 bud Z) (hS : lSld b L xs Z) (hi : i + 6 ≤ L) (hw : w + 1 ≤ bud) (h : zR G vc rc td) (kk : lKK b i bud w G Z) : Z w G 172 [some (.ref b), some (.ref (za G 0 0)), some (.ref (za G 20 0)), some (.int (nI i))] [] := by
  refine z_al1 hC dL_law_172 ?_
  refine z_cVi0 hC (p_version l X G rfl h.1) zm_X4_version zi_X4_version zo_0 zk_L_13 (by omega) (by decide) (by omega) (Nat.le_of_ble_eq_true rfl) dL_law_173 ?_
  rintro r1 K1 ⟨e1, eK⟩
  have x0 : zX0 G K1 := by rw [eK]; exact zx_version G vc
  have hM := mI_X x0 h.2.1
  refine z_al2 hC dL_law_176 ?_
  refine z_cVi0 hC (q_version l X K1 x0.2.2.symm hM) zm_X5_version zi_X5_version (x0.2.2 ▸ zo_20) zk_L_17 (by omega) (by decide) (by omega) (Nat.le_of_ble_eq_true rfl) dL_law_177 ?_
  rintro r2 K2 ⟨e2, eK2⟩
  have ee := e_version h 
  rw [← eK] at ee
  rw [← eK2] at ee
  have ez : r1 = r2 := e1.trans (ee.1.trans e2.symm)
  have hzz : zRR K2 := ee.2
  have z0 : zA0 K1 K2 := by rw [eK2]; exact zs_version K1 vc
  refine z_icmp_eq hC 1316 dL_law_180 rfl (fun _ => ?_) (fun hne => absurd ez hne)
  exact kk _ K2 (by omega) (by omega) hzz ⟨z0.1.trans x0.2.1, z0.2.trans x0.2.2⟩
set_option maxHeartbeats 1000000 in
theorem w_answer (hC : zCtx l X cL_law RL 4 20 bud Z) (hS : lSld b L xs Z) (hi : i + 6 ≤ L) (hw : w + 1 ≤ bud) (h : zR G vc rc td) (kk : lKK b i bud w G Z) : Z w G 185 [some (.ref b), some (.ref (za G 0 0)), some (.ref (za G 20 0)), some (.int (nI i))] [] := by
  refine z_al1 hC dL_law_185 ?_
  refine z_al0 hC dL_law_186 ?_
  refine z_il3 hC dL_law_187 ?_
  refine z_iconst hC dL_law_188 zi_1 ?_
  refine z_iaddN hC dL_law_189 ?_
  refine hS _ _ _ _ _ (i + 1) (by omega) dL_law_190 ?_
  refine z_al0 hC dL_law_191 ?_
  refine z_il3 hC dL_law_192 ?_
  refine z_iconst hC dL_law_193 zi_2 ?_
  refine z_iaddN hC dL_law_194 ?_
  refine hS _ _ _ _ _ (i + 2) (by omega) dL_law_195 ?_
  refine z_al0 hC dL_law_196 ?_
  refine z_il3 hC dL_law_197 ?_
  refine z_iconst hC dL_law_198 zi_3 ?_
  refine z_iaddN hC dL_law_199 ?_
  refine hS _ _ _ _ _ (i + 3) (by omega) dL_law_200 ?_
  refine z_al0 hC dL_law_201 ?_
  refine z_il3 hC dL_law_202 ?_
  refine z_iconst hC dL_law_203 zi_4 ?_
  refine z_iaddN hC dL_law_204 ?_
  refine hS _ _ _ _ _ (i + 4) (by omega) dL_law_205 ?_
  refine z_cVi4 hC (p_answer l X G rfl h.1) zm_X4_answer zi_X4_answer zo_0 zk_L_18 (by omega) (by decide) (by omega) (Nat.le_of_ble_eq_true rfl) dL_law_206 ?_
  rintro r1 K1 ⟨e1, eK⟩
  have x0 : zX0 G K1 := by rw [eK]; exact zx_answer G vc (xs (i + 1)) (xs (i + 2)) (xs (i + 3)) (xs (i + 4))
  have hM := mI_X x0 h.2.1
  refine z_al2 hC dL_law_209 ?_
  refine z_al0 hC dL_law_210 ?_
  refine z_il3 hC dL_law_211 ?_
  refine z_iconst hC dL_law_212 zi_1 ?_
  refine z_iaddN hC dL_law_213 ?_
  refine hS _ _ _ _ _ (i + 1) (by omega) dL_law_214 ?_
  refine z_al0 hC dL_law_215 ?_
  refine z_il3 hC dL_law_216 ?_
  refine z_iconst hC dL_law_217 zi_2 ?_
  refine z_iaddN hC dL_law_218 ?_
  refine hS _ _ _ _ _ (i + 2) (by omega) dL_law_219 ?_
  refine z_al0 hC dL_law_220 ?_
  refine z_il3 hC dL_law_221 ?_
  refine z_iconst hC dL_law_222 zi_3 ?_
  refine z_iaddN hC dL_law_223 ?_
  refine hS _ _ _ _ _ (i + 3) (by omega) dL_law_224 ?_
  refine z_al0 hC dL_law_225 ?_
  refine z_il3 hC dL_law_226 ?_
  refine z_iconst hC dL_law_227 zi_4 ?_
  refine z_iaddN hC dL_law_228 ?_
  refine hS _ _ _ _ _ (i + 4) (by omega) dL_law_229 ?_
  refine z_cVi4 hC (q_answer l X K1 x0.2.2.symm hM) zm_X5_answer zi_X5_answer (x0.2.2 ▸ zo_20) zk_L_22 (by omega) (by decide) (by omega) (Nat.le_of_ble_eq_true rfl) dL_law_230 ?_
  rintro r2 K2 ⟨e2, eK2⟩
  have ee := e_answer h (xs (i + 1)) (xs (i + 2)) (xs (i + 3)) (xs (i + 4))
  rw [← eK] at ee
  rw [← eK2] at ee
  have ez : r1 = r2 := e1.trans (ee.1.trans e2.symm)
  have hzz : zRR K2 := ⟨vc, rc, td, ee.2⟩
  have z0 : zA0 K1 K2 := by rw [eK2]; exact zs_answer K1 vc (xs (i + 1)) (xs (i + 2)) (xs (i + 3)) (xs (i + 4))
  refine z_icmp_eq hC 1316 dL_law_233 rfl (fun _ => ?_) (fun hne => absurd ez hne)
  exact kk _ K2 (by omega) (by omega) hzz ⟨z0.1.trans x0.2.1, z0.2.trans x0.2.2⟩
set_option maxHeartbeats 1000000 in
theorem w_differ (hC : zCtx l X cL_law RL 4 20 bud Z) (hS : lSld b L xs Z) (hi : i + 6 ≤ L) (hw : w + 1 ≤ bud) (h : zR G vc rc td) (kk : lKK b i bud w G Z) : Z w G 238 [some (.ref b), some (.ref (za G 0 0)), some (.ref (za G 20 0)), some (.int (nI i))] [] := by
  refine z_al1 hC dL_law_238 ?_
  refine z_al0 hC dL_law_239 ?_
  refine z_il3 hC dL_law_240 ?_
  refine z_iconst hC dL_law_241 zi_1 ?_
  refine z_iaddN hC dL_law_242 ?_
  refine hS _ _ _ _ _ (i + 1) (by omega) dL_law_243 ?_
  refine z_al0 hC dL_law_244 ?_
  refine z_il3 hC dL_law_245 ?_
  refine z_iconst hC dL_law_246 zi_2 ?_
  refine z_iaddN hC dL_law_247 ?_
  refine hS _ _ _ _ _ (i + 2) (by omega) dL_law_248 ?_
  refine z_al0 hC dL_law_249 ?_
  refine z_il3 hC dL_law_250 ?_
  refine z_iconst hC dL_law_251 zi_3 ?_
  refine z_iaddN hC dL_law_252 ?_
  refine hS _ _ _ _ _ (i + 3) (by omega) dL_law_253 ?_
  refine z_cVi3 hC (p_differ l X G rfl h.1) zm_X4_differ zi_X4_differ zo_0 zk_L_23 (by omega) (by decide) (by omega) (Nat.le_of_ble_eq_true rfl) dL_law_254 ?_
  rintro r1 K1 ⟨e1, eK⟩
  have x0 : zX0 G K1 := by rw [← eK]; exact zX0_r G
  have hM := mI_X x0 h.2.1
  refine z_al2 hC dL_law_257 ?_
  refine z_al0 hC dL_law_258 ?_
  refine z_il3 hC dL_law_259 ?_
  refine z_iconst hC dL_law_260 zi_1 ?_
  refine z_iaddN hC dL_law_261 ?_
  refine hS _ _ _ _ _ (i + 1) (by omega) dL_law_262 ?_
  refine z_al0 hC dL_law_263 ?_
  refine z_il3 hC dL_law_264 ?_
  refine z_iconst hC dL_law_265 zi_2 ?_
  refine z_iaddN hC dL_law_266 ?_
  refine hS _ _ _ _ _ (i + 2) (by omega) dL_law_267 ?_
  refine z_al0 hC dL_law_268 ?_
  refine z_il3 hC dL_law_269 ?_
  refine z_iconst hC dL_law_270 zi_3 ?_
  refine z_iaddN hC dL_law_271 ?_
  refine hS _ _ _ _ _ (i + 3) (by omega) dL_law_272 ?_
  refine z_cVi3 hC (q_differ l X K1 x0.2.2.symm hM) zm_X5_differ zi_X5_differ (x0.2.2 ▸ zo_20) zk_L_27 (by omega) (by decide) (by omega) (Nat.le_of_ble_eq_true rfl) dL_law_273 ?_
  rintro r2 K2 ⟨e2, eK2⟩
  have ee := e_differ h (xs (i + 1)) (xs (i + 2)) (xs (i + 3))
  rw [← eK] at e2 eK2
  have hzz : zRR K2 := by rw [← eK2]; exact ⟨vc, rc, td, h⟩
  have z0 : zA0 K1 K2 := by rw [← eK, ← eK2]; exact ⟨rfl, rfl⟩
  have ez : r1 = r2 := e1.trans (ee.trans e2.symm)
  refine z_icmp_eq hC 1316 dL_law_276 rfl (fun _ => ?_) (fun hne => absurd ez hne)
  exact kk _ K2 (by omega) (by omega) hzz ⟨z0.1.trans x0.2.1, z0.2.trans x0.2.2⟩
set_option maxHeartbeats 1000000 in
theorem w_goes (hC : zCtx l X cL_law RL 4 20 bud Z) (hS : lSld b L xs Z) (hi : i + 6 ≤ L) (hw : w + 1 ≤ bud) (h : zR G vc rc td) (kk : lKK b i bud w G Z) : Z w G 281 [some (.ref b), some (.ref (za G 0 0)), some (.ref (za G 20 0)), some (.int (nI i))] [] := by
  refine z_al1 hC dL_law_281 ?_
  refine z_al0 hC dL_law_282 ?_
  refine z_il3 hC dL_law_283 ?_
  refine z_iconst hC dL_law_284 zi_1 ?_
  refine z_iaddN hC dL_law_285 ?_
  refine hS _ _ _ _ _ (i + 1) (by omega) dL_law_286 ?_
  refine z_al0 hC dL_law_287 ?_
  refine z_il3 hC dL_law_288 ?_
  refine z_iconst hC dL_law_289 zi_2 ?_
  refine z_iaddN hC dL_law_290 ?_
  refine hS _ _ _ _ _ (i + 2) (by omega) dL_law_291 ?_
  refine z_cVi2 hC (p_goes l X G rfl h.1) zm_X4_goes zi_X4_goes zo_0 zk_L_28 (by omega) (by decide) (by omega) (Nat.le_of_ble_eq_true rfl) dL_law_292 ?_
  rintro r1 K1 ⟨e1, eK⟩
  have x0 : zX0 G K1 := by rw [eK]; exact zx_goes G vc (xs (i + 1)) (xs (i + 2))
  have hM := mI_X x0 h.2.1
  refine z_al2 hC dL_law_295 ?_
  refine z_al0 hC dL_law_296 ?_
  refine z_il3 hC dL_law_297 ?_
  refine z_iconst hC dL_law_298 zi_1 ?_
  refine z_iaddN hC dL_law_299 ?_
  refine hS _ _ _ _ _ (i + 1) (by omega) dL_law_300 ?_
  refine z_al0 hC dL_law_301 ?_
  refine z_il3 hC dL_law_302 ?_
  refine z_iconst hC dL_law_303 zi_2 ?_
  refine z_iaddN hC dL_law_304 ?_
  refine hS _ _ _ _ _ (i + 2) (by omega) dL_law_305 ?_
  refine z_cVi2 hC (q_goes l X K1 x0.2.2.symm hM) zm_X5_goes zi_X5_goes (x0.2.2 ▸ zo_20) zk_L_32 (by omega) (by decide) (by omega) (Nat.le_of_ble_eq_true rfl) dL_law_306 ?_
  rintro r2 K2 ⟨e2, eK2⟩
  have ee := e_goes h (xs (i + 1)) (xs (i + 2))
  rw [← eK] at ee
  rw [← eK2] at ee
  have ez : r1 = r2 := e1.trans (ee.1.trans e2.symm)
  have hzz : zRR K2 := ⟨vc, rc, td, ee.2⟩
  have z0 : zA0 K1 K2 := by rw [eK2]; exact zs_goes K1 vc (xs (i + 1)) (xs (i + 2))
  refine z_icmp_eq hC 1316 dL_law_309 rfl (fun _ => ?_) (fun hne => absurd ez hne)
  exact kk _ K2 (by omega) (by omega) hzz ⟨z0.1.trans x0.2.1, z0.2.trans x0.2.2⟩
set_option maxHeartbeats 1000000 in
theorem w_call (hC : zCtx l X cL_law RL 4 20 bud Z) (hS : lSld b L xs Z) (hi : i + 6 ≤ L) (hw : w + 1 ≤ bud) (h : zR G vc rc td) (kk : lKK b i bud w G Z) : Z w G 314 [some (.ref b), some (.ref (za G 0 0)), some (.ref (za G 20 0)), some (.int (nI i))] [] := by
  refine z_al1 hC dL_law_314 ?_
  refine z_al0 hC dL_law_315 ?_
  refine z_il3 hC dL_law_316 ?_
  refine z_iconst hC dL_law_317 zi_1 ?_
  refine z_iaddN hC dL_law_318 ?_
  refine hS _ _ _ _ _ (i + 1) (by omega) dL_law_319 ?_
  refine z_al0 hC dL_law_320 ?_
  refine z_il3 hC dL_law_321 ?_
  refine z_iconst hC dL_law_322 zi_2 ?_
  refine z_iaddN hC dL_law_323 ?_
  refine hS _ _ _ _ _ (i + 2) (by omega) dL_law_324 ?_
  refine z_al0 hC dL_law_325 ?_
  refine z_il3 hC dL_law_326 ?_
  refine z_iconst hC dL_law_327 zi_3 ?_
  refine z_iaddN hC dL_law_328 ?_
  refine hS _ _ _ _ _ (i + 3) (by omega) dL_law_329 ?_
  refine z_cVi3 hC (p_call l X G rfl h.1) zm_X4_call zi_X4_call zo_0 zk_L_33 (by omega) (by decide) (by omega) (Nat.le_of_ble_eq_true rfl) dL_law_330 ?_
  rintro r1 K1 ⟨e1, eK⟩
  have x0 : zX0 G K1 := by rw [eK]; exact zx_call G (xs (i + 1)) (xs (i + 2)) (xs (i + 3))
  have hM := mI_X x0 h.2.1
  refine z_al2 hC dL_law_333 ?_
  refine z_al0 hC dL_law_334 ?_
  refine z_il3 hC dL_law_335 ?_
  refine z_iconst hC dL_law_336 zi_1 ?_
  refine z_iaddN hC dL_law_337 ?_
  refine hS _ _ _ _ _ (i + 1) (by omega) dL_law_338 ?_
  refine z_al0 hC dL_law_339 ?_
  refine z_il3 hC dL_law_340 ?_
  refine z_iconst hC dL_law_341 zi_2 ?_
  refine z_iaddN hC dL_law_342 ?_
  refine hS _ _ _ _ _ (i + 2) (by omega) dL_law_343 ?_
  refine z_al0 hC dL_law_344 ?_
  refine z_il3 hC dL_law_345 ?_
  refine z_iconst hC dL_law_346 zi_3 ?_
  refine z_iaddN hC dL_law_347 ?_
  refine hS _ _ _ _ _ (i + 3) (by omega) dL_law_348 ?_
  refine z_cVi3 hC (q_call l X K1 x0.2.2.symm hM) zm_X5_call zi_X5_call (x0.2.2 ▸ zo_20) zk_L_36 (by omega) (by decide) (by omega) (Nat.le_of_ble_eq_true rfl) dL_law_349 ?_
  rintro r2 K2 ⟨e2, eK2⟩
  have ee := e_call h (xs (i + 1)) (xs (i + 2)) (xs (i + 3))
  rw [← eK] at ee
  rw [← eK2] at ee
  have ez : r1 = r2 := e1.trans (ee.1.trans e2.symm)
  have hzz : zRR K2 := ⟨vc, rc, td, ee.2⟩
  have z0 : zA0 K1 K2 := by rw [eK2]; exact zs_call K1 (xs (i + 1)) (xs (i + 2)) (xs (i + 3))
  refine z_icmp_eq hC 1316 dL_law_352 rfl (fun _ => ?_) (fun hne => absurd ez hne)
  exact kk _ K2 (by omega) (by omega) hzz ⟨z0.1.trans x0.2.1, z0.2.trans x0.2.2⟩
set_option maxHeartbeats 1000000 in
theorem w_wrap (hC : zCtx l X cL_law RL 4 20 bud Z) (hS : lSld b L xs Z) (hi : i + 6 ≤ L) (hw : w + 1 ≤ bud) (h : zR G vc rc td) (kk : lKK b i bud w G Z) : Z w G 357 [some (.ref b), some (.ref (za G 0 0)), some (.ref (za G 20 0)), some (.int (nI i))] [] := by
  refine z_al1 hC dL_law_357 ?_
  refine z_al0 hC dL_law_358 ?_
  refine z_il3 hC dL_law_359 ?_
  refine z_iconst hC dL_law_360 zi_1 ?_
  refine z_iaddN hC dL_law_361 ?_
  refine hS _ _ _ _ _ (i + 1) (by omega) dL_law_362 ?_
  refine z_al0 hC dL_law_363 ?_
  refine z_il3 hC dL_law_364 ?_
  refine z_iconst hC dL_law_365 zi_2 ?_
  refine z_iaddN hC dL_law_366 ?_
  refine hS _ _ _ _ _ (i + 2) (by omega) dL_law_367 ?_
  refine z_al0 hC dL_law_368 ?_
  refine z_il3 hC dL_law_369 ?_
  refine z_iconst hC dL_law_370 zi_3 ?_
  refine z_iaddN hC dL_law_371 ?_
  refine hS _ _ _ _ _ (i + 3) (by omega) dL_law_372 ?_
  refine z_al0 hC dL_law_373 ?_
  refine z_il3 hC dL_law_374 ?_
  refine z_iconst hC dL_law_375 zi_4 ?_
  refine z_iaddN hC dL_law_376 ?_
  refine hS _ _ _ _ _ (i + 4) (by omega) dL_law_377 ?_
  refine z_cVi4 hC (p_wrap l X G rfl h.1) zm_X4_wrap zi_X4_wrap zo_0 zk_L_37 (by omega) (by decide) (by omega) (Nat.le_of_ble_eq_true rfl) dL_law_378 ?_
  rintro r1 K1 ⟨e1, eK⟩
  have x0 : zX0 G K1 := by rw [eK]; exact zx_wrap G (xs (i + 1)) (xs (i + 2)) (xs (i + 3)) (xs (i + 4))
  have hM := mI_X x0 h.2.1
  refine z_al2 hC dL_law_381 ?_
  refine z_al0 hC dL_law_382 ?_
  refine z_il3 hC dL_law_383 ?_
  refine z_iconst hC dL_law_384 zi_1 ?_
  refine z_iaddN hC dL_law_385 ?_
  refine hS _ _ _ _ _ (i + 1) (by omega) dL_law_386 ?_
  refine z_al0 hC dL_law_387 ?_
  refine z_il3 hC dL_law_388 ?_
  refine z_iconst hC dL_law_389 zi_2 ?_
  refine z_iaddN hC dL_law_390 ?_
  refine hS _ _ _ _ _ (i + 2) (by omega) dL_law_391 ?_
  refine z_al0 hC dL_law_392 ?_
  refine z_il3 hC dL_law_393 ?_
  refine z_iconst hC dL_law_394 zi_3 ?_
  refine z_iaddN hC dL_law_395 ?_
  refine hS _ _ _ _ _ (i + 3) (by omega) dL_law_396 ?_
  refine z_al0 hC dL_law_397 ?_
  refine z_il3 hC dL_law_398 ?_
  refine z_iconst hC dL_law_399 zi_4 ?_
  refine z_iaddN hC dL_law_400 ?_
  refine hS _ _ _ _ _ (i + 4) (by omega) dL_law_401 ?_
  refine z_cVi4 hC (q_wrap l X K1 x0.2.2.symm hM) zm_X5_wrap zi_X5_wrap (x0.2.2 ▸ zo_20) zk_L_40 (by omega) (by decide) (by omega) (Nat.le_of_ble_eq_true rfl) dL_law_402 ?_
  rintro r2 K2 ⟨e2, eK2⟩
  have ee := e_wrap h (xs (i + 1)) (xs (i + 2)) (xs (i + 3)) (xs (i + 4))
  rw [← eK] at ee
  rw [← eK2] at ee
  have ez : r1 = r2 := e1.trans (ee.1.trans e2.symm)
  have hzz : zRR K2 := ⟨vc, rc, td, ee.2⟩
  have z0 : zA0 K1 K2 := by rw [eK2]; exact zs_wrap K1 (xs (i + 1)) (xs (i + 2)) (xs (i + 3)) (xs (i + 4))
  refine z_icmp_eq hC 1316 dL_law_405 rfl (fun _ => ?_) (fun hne => absurd ez hne)
  exact kk _ K2 (by omega) (by omega) hzz ⟨z0.1.trans x0.2.1, z0.2.trans x0.2.2⟩
set_option maxHeartbeats 1000000 in
theorem w_split (hC : zCtx l X cL_law RL 4 20 bud Z) (hS : lSld b L xs Z) (hi : i + 6 ≤ L) (hw : w + 1 ≤ bud) (h : zR G vc rc td) (kk : lKK b i bud w G Z) : Z w G 410 [some (.ref b), some (.ref (za G 0 0)), some (.ref (za G 20 0)), some (.int (nI i))] [] := by
  refine z_al1 hC dL_law_410 ?_
  refine z_al0 hC dL_law_411 ?_
  refine z_il3 hC dL_law_412 ?_
  refine z_iconst hC dL_law_413 zi_1 ?_
  refine z_iaddN hC dL_law_414 ?_
  refine hS _ _ _ _ _ (i + 1) (by omega) dL_law_415 ?_
  refine z_al0 hC dL_law_416 ?_
  refine z_il3 hC dL_law_417 ?_
  refine z_iconst hC dL_law_418 zi_2 ?_
  refine z_iaddN hC dL_law_419 ?_
  refine hS _ _ _ _ _ (i + 2) (by omega) dL_law_420 ?_
  refine z_al0 hC dL_law_421 ?_
  refine z_il3 hC dL_law_422 ?_
  refine z_iconst hC dL_law_423 zi_3 ?_
  refine z_iaddN hC dL_law_424 ?_
  refine hS _ _ _ _ _ (i + 3) (by omega) dL_law_425 ?_
  refine z_al0 hC dL_law_426 ?_
  refine z_il3 hC dL_law_427 ?_
  refine z_iconst hC dL_law_428 zi_4 ?_
  refine z_iaddN hC dL_law_429 ?_
  refine hS _ _ _ _ _ (i + 4) (by omega) dL_law_430 ?_
  refine z_al0 hC dL_law_431 ?_
  refine z_il3 hC dL_law_432 ?_
  refine z_iconst hC dL_law_433 zi_5 ?_
  refine z_iaddN hC dL_law_434 ?_
  refine hS _ _ _ _ _ (i + 5) (by omega) dL_law_435 ?_
  refine z_cVi5 hC (p_split l X G rfl h.1) zm_X4_split zi_X4_split zo_0 zk_L_41 (by omega) (by decide) (by omega) (Nat.le_of_ble_eq_true rfl) dL_law_436 ?_
  rintro r1 K1 ⟨e1, eK⟩
  have x0 : zX0 G K1 := by rw [eK]; exact zx_split G (xs (i + 1)) (xs (i + 2)) (xs (i + 3)) (xs (i + 4)) (xs (i + 5))
  have hM := mI_X x0 h.2.1
  refine z_al2 hC dL_law_439 ?_
  refine z_al0 hC dL_law_440 ?_
  refine z_il3 hC dL_law_441 ?_
  refine z_iconst hC dL_law_442 zi_1 ?_
  refine z_iaddN hC dL_law_443 ?_
  refine hS _ _ _ _ _ (i + 1) (by omega) dL_law_444 ?_
  refine z_al0 hC dL_law_445 ?_
  refine z_il3 hC dL_law_446 ?_
  refine z_iconst hC dL_law_447 zi_2 ?_
  refine z_iaddN hC dL_law_448 ?_
  refine hS _ _ _ _ _ (i + 2) (by omega) dL_law_449 ?_
  refine z_al0 hC dL_law_450 ?_
  refine z_il3 hC dL_law_451 ?_
  refine z_iconst hC dL_law_452 zi_3 ?_
  refine z_iaddN hC dL_law_453 ?_
  refine hS _ _ _ _ _ (i + 3) (by omega) dL_law_454 ?_
  refine z_al0 hC dL_law_455 ?_
  refine z_il3 hC dL_law_456 ?_
  refine z_iconst hC dL_law_457 zi_4 ?_
  refine z_iaddN hC dL_law_458 ?_
  refine hS _ _ _ _ _ (i + 4) (by omega) dL_law_459 ?_
  refine z_al0 hC dL_law_460 ?_
  refine z_il3 hC dL_law_461 ?_
  refine z_iconst hC dL_law_462 zi_5 ?_
  refine z_iaddN hC dL_law_463 ?_
  refine hS _ _ _ _ _ (i + 5) (by omega) dL_law_464 ?_
  refine z_cVi5 hC (q_split l X K1 x0.2.2.symm hM) zm_X5_split zi_X5_split (x0.2.2 ▸ zo_20) zk_L_45 (by omega) (by decide) (by omega) (Nat.le_of_ble_eq_true rfl) dL_law_465 ?_
  rintro r2 K2 ⟨e2, eK2⟩
  have ee := e_split h (xs (i + 1)) (xs (i + 2)) (xs (i + 3)) (xs (i + 4)) (xs (i + 5))
  rw [← eK] at ee
  rw [← eK2] at ee
  have ez : r1 = r2 := e1.trans (ee.1.trans e2.symm)
  have hzz : zRR K2 := ⟨vc, rc, td, ee.2⟩
  have z0 : zA0 K1 K2 := by rw [eK2]; exact zs_split K1 (xs (i + 1)) (xs (i + 2)) (xs (i + 3)) (xs (i + 4)) (xs (i + 5))
  refine z_icmp_eq hC 1316 dL_law_468 rfl (fun _ => ?_) (fun hne => absurd ez hne)
  exact kk _ K2 (by omega) (by omega) hzz ⟨z0.1.trans x0.2.1, z0.2.trans x0.2.2⟩
set_option maxHeartbeats 1000000 in
theorem w_clear (hC : zCtx l X cL_law RL 4 20 bud Z) (hS : lSld b L xs Z) (hi : i + 6 ≤ L) (hw : w + 1 ≤ bud) (h : zR G vc rc td) (kk : lKK b i bud w G Z) : Z w G 473 [some (.ref b), some (.ref (za G 0 0)), some (.ref (za G 20 0)), some (.int (nI i))] [] := by
  refine z_al1 hC dL_law_473 ?_
  refine z_al0 hC dL_law_474 ?_
  refine z_il3 hC dL_law_475 ?_
  refine z_iconst hC dL_law_476 zi_1 ?_
  refine z_iaddN hC dL_law_477 ?_
  refine hS _ _ _ _ _ (i + 1) (by omega) dL_law_478 ?_
  refine z_cVi1 hC (p_clear l X G rfl h.1) zm_X4_clear zi_X4_clear zo_0 zk_L_46 (by omega) (by decide) (by omega) (Nat.le_of_ble_eq_true rfl) dL_law_479 ?_
  rintro r1 K1 ⟨e1, eK⟩
  have x0 : zX0 G K1 := by rw [eK]; exact zx_clear G (xs (i + 1))
  have hM := mI_X x0 h.2.1
  refine z_al2 hC dL_law_482 ?_
  refine z_al0 hC dL_law_483 ?_
  refine z_il3 hC dL_law_484 ?_
  refine z_iconst hC dL_law_485 zi_1 ?_
  refine z_iaddN hC dL_law_486 ?_
  refine hS _ _ _ _ _ (i + 1) (by omega) dL_law_487 ?_
  refine z_cVi1 hC (q_clear l X K1 x0.2.2.symm hM) zm_X5_clear zi_X5_clear (x0.2.2 ▸ zo_20) zk_L_50 (by omega) (by decide) (by omega) (Nat.le_of_ble_eq_true rfl) dL_law_488 ?_
  rintro r2 K2 ⟨e2, eK2⟩
  have ee := e_clear h (xs (i + 1))
  rw [← eK] at ee
  rw [← eK2] at ee
  have ez : r1 = r2 := e1.trans (ee.1.trans e2.symm)
  have hzz : zRR K2 := ⟨vc, rc, td, ee.2⟩
  have z0 : zA0 K1 K2 := by rw [eK2]; exact zs_clear K1 (xs (i + 1))
  refine z_icmp_eq hC 1316 dL_law_491 rfl (fun _ => ?_) (fun hne => absurd ez hne)
  exact kk _ K2 (by omega) (by omega) hzz ⟨z0.1.trans x0.2.1, z0.2.trans x0.2.2⟩
set_option maxHeartbeats 1000000 in
theorem w_sees (hC : zCtx l X cL_law RL 4 20 bud Z) (hS : lSld b L xs Z) (hi : i + 6 ≤ L) (hw : w + 1 ≤ bud) (h : zR G vc rc td) (kk : lKK b i bud w G Z) : Z w G 496 [some (.ref b), some (.ref (za G 0 0)), some (.ref (za G 20 0)), some (.int (nI i))] [] := by
  refine z_al1 hC dL_law_496 ?_
  refine z_al0 hC dL_law_497 ?_
  refine z_il3 hC dL_law_498 ?_
  refine z_iconst hC dL_law_499 zi_1 ?_
  refine z_iaddN hC dL_law_500 ?_
  refine hS _ _ _ _ _ (i + 1) (by omega) dL_law_501 ?_
  refine z_al0 hC dL_law_502 ?_
  refine z_il3 hC dL_law_503 ?_
  refine z_iconst hC dL_law_504 zi_2 ?_
  refine z_iaddN hC dL_law_505 ?_
  refine hS _ _ _ _ _ (i + 2) (by omega) dL_law_506 ?_
  refine z_al0 hC dL_law_507 ?_
  refine z_il3 hC dL_law_508 ?_
  refine z_iconst hC dL_law_509 zi_3 ?_
  refine z_iaddN hC dL_law_510 ?_
  refine hS _ _ _ _ _ (i + 3) (by omega) dL_law_511 ?_
  refine z_cVi3 hC (p_sees l X G rfl h.1) zm_X4_sees zi_X4_sees zo_0 zk_L_51 (by omega) (by decide) (by omega) (Nat.le_of_ble_eq_true rfl) dL_law_512 ?_
  rintro r1 K1 ⟨e1, eK⟩
  have x0 : zX0 G K1 := by rw [eK]; exact zx_sees G (xs (i + 1)) (xs (i + 2)) (xs (i + 3))
  have hM := mI_X x0 h.2.1
  refine z_al2 hC dL_law_515 ?_
  refine z_al0 hC dL_law_516 ?_
  refine z_il3 hC dL_law_517 ?_
  refine z_iconst hC dL_law_518 zi_1 ?_
  refine z_iaddN hC dL_law_519 ?_
  refine hS _ _ _ _ _ (i + 1) (by omega) dL_law_520 ?_
  refine z_al0 hC dL_law_521 ?_
  refine z_il3 hC dL_law_522 ?_
  refine z_iconst hC dL_law_523 zi_2 ?_
  refine z_iaddN hC dL_law_524 ?_
  refine hS _ _ _ _ _ (i + 2) (by omega) dL_law_525 ?_
  refine z_al0 hC dL_law_526 ?_
  refine z_il3 hC dL_law_527 ?_
  refine z_iconst hC dL_law_528 zi_3 ?_
  refine z_iaddN hC dL_law_529 ?_
  refine hS _ _ _ _ _ (i + 3) (by omega) dL_law_530 ?_
  refine z_cVi3 hC (q_sees l X K1 x0.2.2.symm hM) zm_X5_sees zi_X5_sees (x0.2.2 ▸ zo_20) zk_L_54 (by omega) (by decide) (by omega) (Nat.le_of_ble_eq_true rfl) dL_law_531 ?_
  rintro r2 K2 ⟨e2, eK2⟩
  have ee := e_sees h (xs (i + 1)) (xs (i + 2)) (xs (i + 3))
  rw [← eK] at ee
  have ez : r1 = r2 := e1.trans (ee.1.trans e2.symm)
  have hzz : zRR K2 := ⟨vc, rc, td, zR_S eK2.X ee.2⟩
  have z1 := zs_sees K1 (xs (i + 1)) (xs (i + 2)) (xs (i + 3))
  have z2 := zA0_S eK2.X
  have z0 : zA0 K1 K2 := ⟨z2.1.trans z1.1, z2.2.trans z1.2⟩
  refine z_icmp_eq hC 1316 dL_law_534 rfl (fun _ => ?_) (fun hne => absurd ez hne)
  exact kk _ K2 (by omega) (by omega) hzz ⟨z0.1.trans x0.2.1, z0.2.trans x0.2.2⟩
set_option maxHeartbeats 1000000 in
theorem w_uses (hC : zCtx l X cL_law RL 4 20 bud Z) (hS : lSld b L xs Z) (hi : i + 6 ≤ L) (hw : w + 1 ≤ bud) (h : zR G vc rc td) (kk : lKK b i bud w G Z) : Z w G 539 [some (.ref b), some (.ref (za G 0 0)), some (.ref (za G 20 0)), some (.int (nI i))] [] := by
  refine z_al1 hC dL_law_539 ?_
  refine z_al0 hC dL_law_540 ?_
  refine z_il3 hC dL_law_541 ?_
  refine z_iconst hC dL_law_542 zi_1 ?_
  refine z_iaddN hC dL_law_543 ?_
  refine hS _ _ _ _ _ (i + 1) (by omega) dL_law_544 ?_
  refine z_al0 hC dL_law_545 ?_
  refine z_il3 hC dL_law_546 ?_
  refine z_iconst hC dL_law_547 zi_2 ?_
  refine z_iaddN hC dL_law_548 ?_
  refine hS _ _ _ _ _ (i + 2) (by omega) dL_law_549 ?_
  refine z_cVi2 hC (p_uses l X G rfl h.1) zm_X4_uses zi_X4_uses zo_0 zk_L_55 (by omega) (by decide) (by omega) (Nat.le_of_ble_eq_true rfl) dL_law_550 ?_
  rintro r1 K1 ⟨e1, eK⟩
  have x0 : zX0 G K1 := by rw [← eK]; exact zX0_r G
  have hM := mI_X x0 h.2.1
  refine z_al2 hC dL_law_553 ?_
  refine z_al0 hC dL_law_554 ?_
  refine z_il3 hC dL_law_555 ?_
  refine z_iconst hC dL_law_556 zi_1 ?_
  refine z_iaddN hC dL_law_557 ?_
  refine hS _ _ _ _ _ (i + 1) (by omega) dL_law_558 ?_
  refine z_al0 hC dL_law_559 ?_
  refine z_il3 hC dL_law_560 ?_
  refine z_iconst hC dL_law_561 zi_2 ?_
  refine z_iaddN hC dL_law_562 ?_
  refine hS _ _ _ _ _ (i + 2) (by omega) dL_law_563 ?_
  refine z_cVi2 hC (q_uses l X K1 x0.2.2.symm hM) zm_X5_uses zi_X5_uses (x0.2.2 ▸ zo_20) zk_L_58 (by omega) (by decide) (by omega) (Nat.le_of_ble_eq_true rfl) dL_law_564 ?_
  rintro r2 K2 ⟨e2, eK2⟩
  have ee := e_uses h (xs (i + 1)) (xs (i + 2))
  rw [← eK] at e2 eK2
  have hzz : zRR K2 := ⟨vc, rc, td, zR_S eK2.X h⟩
  have z0 : zA0 K1 K2 := by rw [← eK]; exact zA0_S eK2.X
  have ez : r1 = r2 := e1.trans (ee.trans e2.symm)
  refine z_icmp_eq hC 1316 dL_law_567 rfl (fun _ => ?_) (fun hne => absurd ez hne)
  exact kk _ K2 (by omega) (by omega) hzz ⟨z0.1.trans x0.2.1, z0.2.trans x0.2.2⟩
set_option maxHeartbeats 1000000 in
theorem w_shape (hC : zCtx l X cL_law RL 4 20 bud Z) (hS : lSld b L xs Z) (hi : i + 6 ≤ L) (hw : w + 1 ≤ bud) (h : zR G vc rc td) (kk : lKK b i bud w G Z) : Z w G 572 [some (.ref b), some (.ref (za G 0 0)), some (.ref (za G 20 0)), some (.int (nI i))] [] := by
  refine z_al1 hC dL_law_572 ?_
  refine z_al0 hC dL_law_573 ?_
  refine z_il3 hC dL_law_574 ?_
  refine z_iconst hC dL_law_575 zi_1 ?_
  refine z_iaddN hC dL_law_576 ?_
  refine hS _ _ _ _ _ (i + 1) (by omega) dL_law_577 ?_
  refine z_al0 hC dL_law_578 ?_
  refine z_il3 hC dL_law_579 ?_
  refine z_iconst hC dL_law_580 zi_2 ?_
  refine z_iaddN hC dL_law_581 ?_
  refine hS _ _ _ _ _ (i + 2) (by omega) dL_law_582 ?_
  refine z_cVi2 hC (p_shape l X G rfl h.1) zm_X4_shape zi_X4_shape zo_0 zk_L_59 (by omega) (by decide) (by omega) (Nat.le_of_ble_eq_true rfl) dL_law_583 ?_
  rintro r1 K1 ⟨e1, eK⟩
  have x0 : zX0 G K1 := by rw [← eK]; exact zX0_r G
  have hM := mI_X x0 h.2.1
  refine z_al2 hC dL_law_586 ?_
  refine z_al0 hC dL_law_587 ?_
  refine z_il3 hC dL_law_588 ?_
  refine z_iconst hC dL_law_589 zi_1 ?_
  refine z_iaddN hC dL_law_590 ?_
  refine hS _ _ _ _ _ (i + 1) (by omega) dL_law_591 ?_
  refine z_al0 hC dL_law_592 ?_
  refine z_il3 hC dL_law_593 ?_
  refine z_iconst hC dL_law_594 zi_2 ?_
  refine z_iaddN hC dL_law_595 ?_
  refine hS _ _ _ _ _ (i + 2) (by omega) dL_law_596 ?_
  refine z_cVi2 hC (q_shape l X K1 x0.2.2.symm hM) zm_X5_shape zi_X5_shape (x0.2.2 ▸ zo_20) zk_L_62 (by omega) (by decide) (by omega) (Nat.le_of_ble_eq_true rfl) dL_law_597 ?_
  rintro r2 K2 ⟨e2, eK2⟩
  have ee := e_shape h (xs (i + 1)) (xs (i + 2))
  rw [← eK] at e2 eK2
  have hzz : zRR K2 := ⟨vc, rc, td, zR_S eK2.X h⟩
  have z0 : zA0 K1 K2 := by rw [← eK]; exact zA0_S eK2.X
  have ez : r1 = r2 := e1.trans (ee.trans e2.symm)
  refine z_icmp_eq hC 1316 dL_law_600 rfl (fun _ => ?_) (fun hne => absurd ez hne)
  exact kk _ K2 (by omega) (by omega) hzz ⟨z0.1.trans x0.2.1, z0.2.trans x0.2.2⟩
set_option maxHeartbeats 1000000 in
theorem w_count (hC : zCtx l X cL_law RL 4 20 bud Z) (hS : lSld b L xs Z) (hi : i + 6 ≤ L) (hw : w + 1 ≤ bud) (h : zR G vc rc td) (kk : lKK b i bud w G Z) : Z w G 605 [some (.ref b), some (.ref (za G 0 0)), some (.ref (za G 20 0)), some (.int (nI i))] [] := by
  refine z_al1 hC dL_law_605 ?_
  refine z_al0 hC dL_law_606 ?_
  refine z_il3 hC dL_law_607 ?_
  refine z_iconst hC dL_law_608 zi_1 ?_
  refine z_iaddN hC dL_law_609 ?_
  refine hS _ _ _ _ _ (i + 1) (by omega) dL_law_610 ?_
  refine z_al0 hC dL_law_611 ?_
  refine z_il3 hC dL_law_612 ?_
  refine z_iconst hC dL_law_613 zi_2 ?_
  refine z_iaddN hC dL_law_614 ?_
  refine hS _ _ _ _ _ (i + 2) (by omega) dL_law_615 ?_
  refine z_al0 hC dL_law_616 ?_
  refine z_il3 hC dL_law_617 ?_
  refine z_iconst hC dL_law_618 zi_3 ?_
  refine z_iaddN hC dL_law_619 ?_
  refine hS _ _ _ _ _ (i + 3) (by omega) dL_law_620 ?_
  refine z_al0 hC dL_law_621 ?_
  refine z_il3 hC dL_law_622 ?_
  refine z_iconst hC dL_law_623 zi_4 ?_
  refine z_iaddN hC dL_law_624 ?_
  refine hS _ _ _ _ _ (i + 4) (by omega) dL_law_625 ?_
  refine z_al0 hC dL_law_626 ?_
  refine z_il3 hC dL_law_627 ?_
  refine z_iconst hC dL_law_628 zi_5 ?_
  refine z_iaddN hC dL_law_629 ?_
  refine hS _ _ _ _ _ (i + 5) (by omega) dL_law_630 ?_
  refine z_cVi5 hC (p_count l X G rfl h.1) zm_X4_count zi_X4_count zo_0 zk_L_63 (by omega) (by decide) (by omega) (Nat.le_of_ble_eq_true rfl) dL_law_631 ?_
  rintro r1 K1 ⟨e1, eK⟩
  have x0 : zX0 G K1 := by rw [eK]; exact zx_count G td (xs (i + 1)) (xs (i + 2)) (xs (i + 3)) (xs (i + 4)) (xs (i + 5))
  have hM := mI_X x0 h.2.1
  refine z_al2 hC dL_law_634 ?_
  refine z_al0 hC dL_law_635 ?_
  refine z_il3 hC dL_law_636 ?_
  refine z_iconst hC dL_law_637 zi_1 ?_
  refine z_iaddN hC dL_law_638 ?_
  refine hS _ _ _ _ _ (i + 1) (by omega) dL_law_639 ?_
  refine z_al0 hC dL_law_640 ?_
  refine z_il3 hC dL_law_641 ?_
  refine z_iconst hC dL_law_642 zi_2 ?_
  refine z_iaddN hC dL_law_643 ?_
  refine hS _ _ _ _ _ (i + 2) (by omega) dL_law_644 ?_
  refine z_al0 hC dL_law_645 ?_
  refine z_il3 hC dL_law_646 ?_
  refine z_iconst hC dL_law_647 zi_3 ?_
  refine z_iaddN hC dL_law_648 ?_
  refine hS _ _ _ _ _ (i + 3) (by omega) dL_law_649 ?_
  refine z_al0 hC dL_law_650 ?_
  refine z_il3 hC dL_law_651 ?_
  refine z_iconst hC dL_law_652 zi_4 ?_
  refine z_iaddN hC dL_law_653 ?_
  refine hS _ _ _ _ _ (i + 4) (by omega) dL_law_654 ?_
  refine z_al0 hC dL_law_655 ?_
  refine z_il3 hC dL_law_656 ?_
  refine z_iconst hC dL_law_657 zi_5 ?_
  refine z_iaddN hC dL_law_658 ?_
  refine hS _ _ _ _ _ (i + 5) (by omega) dL_law_659 ?_
  refine z_cVi5 hC (q_count l X K1 x0.2.2.symm hM) zm_X5_count zi_X5_count (x0.2.2 ▸ zo_20) zk_L_66 (by omega) (by decide) (by omega) (Nat.le_of_ble_eq_true rfl) dL_law_660 ?_
  rintro r2 K2 ⟨e2, eK2⟩
  have ee := e_count h (xs (i + 1)) (xs (i + 2)) (xs (i + 3)) (xs (i + 4)) (xs (i + 5))
  rw [← eK] at ee
  rw [← eK2] at ee
  have ez : r1 = r2 := e1.trans (ee.1.trans e2.symm)
  have hzz : zRR K2 := ⟨vc, rc, td, ee.2⟩
  have z0 : zA0 K1 K2 := by rw [eK2]; exact zs_count K1 td (xs (i + 1)) (xs (i + 2)) (xs (i + 3)) (xs (i + 4)) (xs (i + 5))
  refine z_icmp_eq hC 1316 dL_law_663 rfl (fun _ => ?_) (fun hne => absurd ez hne)
  exact kk _ K2 (by omega) (by omega) hzz ⟨z0.1.trans x0.2.1, z0.2.trans x0.2.2⟩
set_option maxHeartbeats 1000000 in
theorem w_sum (hC : zCtx l X cL_law RL 4 20 bud Z) (hS : lSld b L xs Z) (hi : i + 6 ≤ L) (hw : w + 1 ≤ bud) (h : zR G vc rc td) (kk : lKK b i bud w G Z) : Z w G 668 [some (.ref b), some (.ref (za G 0 0)), some (.ref (za G 20 0)), some (.int (nI i))] [] := by
  refine z_al1 hC dL_law_668 ?_
  refine z_al0 hC dL_law_669 ?_
  refine z_il3 hC dL_law_670 ?_
  refine z_iconst hC dL_law_671 zi_1 ?_
  refine z_iaddN hC dL_law_672 ?_
  refine hS _ _ _ _ _ (i + 1) (by omega) dL_law_673 ?_
  refine z_al0 hC dL_law_674 ?_
  refine z_il3 hC dL_law_675 ?_
  refine z_iconst hC dL_law_676 zi_2 ?_
  refine z_iaddN hC dL_law_677 ?_
  refine hS _ _ _ _ _ (i + 2) (by omega) dL_law_678 ?_
  refine z_al0 hC dL_law_679 ?_
  refine z_il3 hC dL_law_680 ?_
  refine z_iconst hC dL_law_681 zi_3 ?_
  refine z_iaddN hC dL_law_682 ?_
  refine hS _ _ _ _ _ (i + 3) (by omega) dL_law_683 ?_
  refine z_al0 hC dL_law_684 ?_
  refine z_il3 hC dL_law_685 ?_
  refine z_iconst hC dL_law_686 zi_4 ?_
  refine z_iaddN hC dL_law_687 ?_
  refine hS _ _ _ _ _ (i + 4) (by omega) dL_law_688 ?_
  refine z_cVi4 hC (p_sum l X G rfl h.1) zm_X4_sum zi_X4_sum zo_0 zk_L_67 (by omega) (by decide) (by omega) (Nat.le_of_ble_eq_true rfl) dL_law_689 ?_
  rintro r1 K1 ⟨e1, eK⟩
  have x0 : zX0 G K1 := by rw [← eK]; exact zX0_r G
  have hM := mI_X x0 h.2.1
  refine z_al2 hC dL_law_692 ?_
  refine z_al0 hC dL_law_693 ?_
  refine z_il3 hC dL_law_694 ?_
  refine z_iconst hC dL_law_695 zi_1 ?_
  refine z_iaddN hC dL_law_696 ?_
  refine hS _ _ _ _ _ (i + 1) (by omega) dL_law_697 ?_
  refine z_al0 hC dL_law_698 ?_
  refine z_il3 hC dL_law_699 ?_
  refine z_iconst hC dL_law_700 zi_2 ?_
  refine z_iaddN hC dL_law_701 ?_
  refine hS _ _ _ _ _ (i + 2) (by omega) dL_law_702 ?_
  refine z_al0 hC dL_law_703 ?_
  refine z_il3 hC dL_law_704 ?_
  refine z_iconst hC dL_law_705 zi_3 ?_
  refine z_iaddN hC dL_law_706 ?_
  refine hS _ _ _ _ _ (i + 3) (by omega) dL_law_707 ?_
  refine z_al0 hC dL_law_708 ?_
  refine z_il3 hC dL_law_709 ?_
  refine z_iconst hC dL_law_710 zi_4 ?_
  refine z_iaddN hC dL_law_711 ?_
  refine hS _ _ _ _ _ (i + 4) (by omega) dL_law_712 ?_
  refine z_cVi4 hC (q_sum l X K1 x0.2.2.symm hM) zm_X5_sum zi_X5_sum (x0.2.2 ▸ zo_20) zk_L_70 (by omega) (by decide) (by omega) (Nat.le_of_ble_eq_true rfl) dL_law_713 ?_
  rintro r2 K2 ⟨e2, eK2⟩
  have ee := e_sum h (xs (i + 1)) (xs (i + 2)) (xs (i + 3)) (xs (i + 4))
  rw [← eK] at e2 eK2
  have hzz : zRR K2 := by rw [← eK2]; exact ⟨vc, rc, td, h⟩
  have z0 : zA0 K1 K2 := by rw [← eK, ← eK2]; exact ⟨rfl, rfl⟩
  have ez : r1 = r2 := e1.trans (ee.trans e2.symm)
  refine z_icmp_eq hC 1316 dL_law_716 rfl (fun _ => ?_) (fun hne => absurd ez hne)
  exact kk _ K2 (by omega) (by omega) hzz ⟨z0.1.trans x0.2.1, z0.2.trans x0.2.2⟩
set_option maxHeartbeats 1000000 in
theorem w_silent (hC : zCtx l X cL_law RL 4 20 bud Z) (hS : lSld b L xs Z) (hi : i + 6 ≤ L) (hw : w + 1 ≤ bud) (h : zR G vc rc td) (kk : lKK b i bud w G Z) : Z w G 721 [some (.ref b), some (.ref (za G 0 0)), some (.ref (za G 20 0)), some (.int (nI i))] [] := by
  refine z_al1 hC dL_law_721 ?_
  refine z_al0 hC dL_law_722 ?_
  refine z_il3 hC dL_law_723 ?_
  refine z_iconst hC dL_law_724 zi_1 ?_
  refine z_iaddN hC dL_law_725 ?_
  refine hS _ _ _ _ _ (i + 1) (by omega) dL_law_726 ?_
  refine z_cVi1 hC (p_silent l X G rfl h.1) zm_X4_silent zi_X4_silent zo_0 zk_L_71 (by omega) (by decide) (by omega) (Nat.le_of_ble_eq_true rfl) dL_law_727 ?_
  rintro r1 K1 ⟨e1, eK⟩
  have x0 : zX0 G K1 := by rw [← eK]; exact zX0_r G
  have hM := mI_X x0 h.2.1
  refine z_al2 hC dL_law_730 ?_
  refine z_al0 hC dL_law_731 ?_
  refine z_il3 hC dL_law_732 ?_
  refine z_iconst hC dL_law_733 zi_1 ?_
  refine z_iaddN hC dL_law_734 ?_
  refine hS _ _ _ _ _ (i + 1) (by omega) dL_law_735 ?_
  refine z_cVi1 hC (q_silent l X K1 x0.2.2.symm hM) zm_X5_silent zi_X5_silent (x0.2.2 ▸ zo_20) zk_L_74 (by omega) (by decide) (by omega) (Nat.le_of_ble_eq_true rfl) dL_law_736 ?_
  rintro r2 K2 ⟨e2, eK2⟩
  have ee := e_silent h (xs (i + 1))
  rw [← eK] at e2 eK2
  have hzz : zRR K2 := by rw [← eK2]; exact ⟨vc, rc, td, h⟩
  have z0 : zA0 K1 K2 := by rw [← eK, ← eK2]; exact ⟨rfl, rfl⟩
  have ez : r1 = r2 := e1.trans (ee.trans e2.symm)
  refine z_icmp_eq hC 1316 dL_law_739 rfl (fun _ => ?_) (fun hne => absurd ez hne)
  exact kk _ K2 (by omega) (by omega) hzz ⟨z0.1.trans x0.2.1, z0.2.trans x0.2.2⟩
set_option maxHeartbeats 1000000 in
theorem w_most (hC : zCtx l X cL_law RL 4 20 bud Z) (hS : lSld b L xs Z) (hi : i + 6 ≤ L) (hw : w + 1 ≤ bud) (h : zR G vc rc td) (kk : lKK b i bud w G Z) : Z w G 744 [some (.ref b), some (.ref (za G 0 0)), some (.ref (za G 20 0)), some (.int (nI i))] [] := by
  refine z_al1 hC dL_law_744 ?_
  refine z_al0 hC dL_law_745 ?_
  refine z_il3 hC dL_law_746 ?_
  refine z_iconst hC dL_law_747 zi_1 ?_
  refine z_iaddN hC dL_law_748 ?_
  refine hS _ _ _ _ _ (i + 1) (by omega) dL_law_749 ?_
  refine z_al0 hC dL_law_750 ?_
  refine z_il3 hC dL_law_751 ?_
  refine z_iconst hC dL_law_752 zi_2 ?_
  refine z_iaddN hC dL_law_753 ?_
  refine hS _ _ _ _ _ (i + 2) (by omega) dL_law_754 ?_
  refine z_al0 hC dL_law_755 ?_
  refine z_il3 hC dL_law_756 ?_
  refine z_iconst hC dL_law_757 zi_3 ?_
  refine z_iaddN hC dL_law_758 ?_
  refine hS _ _ _ _ _ (i + 3) (by omega) dL_law_759 ?_
  refine z_cVi3 hC (p_most l X G rfl h.1) zm_X4_most zi_X4_most zo_0 zk_L_75 (by omega) (by decide) (by omega) (Nat.le_of_ble_eq_true rfl) dL_law_760 ?_
  rintro r1 K1 ⟨e1, eK⟩
  have x0 : zX0 G K1 := by rw [← eK]; exact zX0_r G
  have hM := mI_X x0 h.2.1
  refine z_al2 hC dL_law_763 ?_
  refine z_al0 hC dL_law_764 ?_
  refine z_il3 hC dL_law_765 ?_
  refine z_iconst hC dL_law_766 zi_1 ?_
  refine z_iaddN hC dL_law_767 ?_
  refine hS _ _ _ _ _ (i + 1) (by omega) dL_law_768 ?_
  refine z_al0 hC dL_law_769 ?_
  refine z_il3 hC dL_law_770 ?_
  refine z_iconst hC dL_law_771 zi_2 ?_
  refine z_iaddN hC dL_law_772 ?_
  refine hS _ _ _ _ _ (i + 2) (by omega) dL_law_773 ?_
  refine z_al0 hC dL_law_774 ?_
  refine z_il3 hC dL_law_775 ?_
  refine z_iconst hC dL_law_776 zi_3 ?_
  refine z_iaddN hC dL_law_777 ?_
  refine hS _ _ _ _ _ (i + 3) (by omega) dL_law_778 ?_
  refine z_cVi3 hC (q_most l X K1 x0.2.2.symm hM) zm_X5_most zi_X5_most (x0.2.2 ▸ zo_20) zk_L_78 (by omega) (by decide) (by omega) (Nat.le_of_ble_eq_true rfl) dL_law_779 ?_
  rintro r2 K2 ⟨e2, eK2⟩
  have ee := e_most h (xs (i + 1)) (xs (i + 2)) (xs (i + 3))
  rw [← eK] at e2 eK2
  have hzz : zRR K2 := by rw [← eK2]; exact ⟨vc, rc, td, h⟩
  have z0 : zA0 K1 K2 := by rw [← eK, ← eK2]; exact ⟨rfl, rfl⟩
  have ez : r1 = r2 := e1.trans (ee.trans e2.symm)
  refine z_icmp_eq hC 1316 dL_law_782 rfl (fun _ => ?_) (fun hne => absurd ez hne)
  exact kk _ K2 (by omega) (by omega) hzz ⟨z0.1.trans x0.2.1, z0.2.trans x0.2.2⟩
set_option maxHeartbeats 1000000 in
theorem w_harm (hC : zCtx l X cL_law RL 4 20 bud Z) (hS : lSld b L xs Z) (hi : i + 6 ≤ L) (hw : w + 1 ≤ bud) (h : zR G vc rc td) (kk : lKK b i bud w G Z) : Z w G 787 [some (.ref b), some (.ref (za G 0 0)), some (.ref (za G 20 0)), some (.int (nI i))] [] := by
  refine z_al1 hC dL_law_787 ?_
  refine z_al0 hC dL_law_788 ?_
  refine z_il3 hC dL_law_789 ?_
  refine z_iconst hC dL_law_790 zi_1 ?_
  refine z_iaddN hC dL_law_791 ?_
  refine hS _ _ _ _ _ (i + 1) (by omega) dL_law_792 ?_
  refine z_al0 hC dL_law_793 ?_
  refine z_il3 hC dL_law_794 ?_
  refine z_iconst hC dL_law_795 zi_2 ?_
  refine z_iaddN hC dL_law_796 ?_
  refine hS _ _ _ _ _ (i + 2) (by omega) dL_law_797 ?_
  refine z_al0 hC dL_law_798 ?_
  refine z_il3 hC dL_law_799 ?_
  refine z_iconst hC dL_law_800 zi_3 ?_
  refine z_iaddN hC dL_law_801 ?_
  refine hS _ _ _ _ _ (i + 3) (by omega) dL_law_802 ?_
  refine z_cVi3 hC (p_harm l X G rfl h.1) zm_X4_harm zi_X4_harm zo_0 zk_L_79 (by omega) (by decide) (by omega) (Nat.le_of_ble_eq_true rfl) dL_law_803 ?_
  rintro r1 K1 ⟨e1, eK⟩
  have x0 : zX0 G K1 := by rw [← eK]; exact zX0_r G
  have hM := mI_X x0 h.2.1
  refine z_al2 hC dL_law_806 ?_
  refine z_al0 hC dL_law_807 ?_
  refine z_il3 hC dL_law_808 ?_
  refine z_iconst hC dL_law_809 zi_1 ?_
  refine z_iaddN hC dL_law_810 ?_
  refine hS _ _ _ _ _ (i + 1) (by omega) dL_law_811 ?_
  refine z_al0 hC dL_law_812 ?_
  refine z_il3 hC dL_law_813 ?_
  refine z_iconst hC dL_law_814 zi_2 ?_
  refine z_iaddN hC dL_law_815 ?_
  refine hS _ _ _ _ _ (i + 2) (by omega) dL_law_816 ?_
  refine z_al0 hC dL_law_817 ?_
  refine z_il3 hC dL_law_818 ?_
  refine z_iconst hC dL_law_819 zi_3 ?_
  refine z_iaddN hC dL_law_820 ?_
  refine hS _ _ _ _ _ (i + 3) (by omega) dL_law_821 ?_
  refine z_cVi3 hC (q_harm l X K1 x0.2.2.symm hM) zm_X5_harm zi_X5_harm (x0.2.2 ▸ zo_20) zk_L_82 (by omega) (by decide) (by omega) (Nat.le_of_ble_eq_true rfl) dL_law_822 ?_
  rintro r2 K2 ⟨e2, eK2⟩
  have ee := e_harm h (fun _ q => e_silent0 h.2.2.2.1 q) (xs (i + 1)) (xs (i + 2)) (xs (i + 3))
  rw [← eK] at e2 eK2
  have hzz : zRR K2 := ⟨vc, rc, td, zR_S eK2.X h⟩
  have z0 : zA0 K1 K2 := by rw [← eK]; exact zA0_S eK2.X
  have ez : r1 = r2 := e1.trans (ee.trans e2.symm)
  refine z_icmp_eq hC 1316 dL_law_825 rfl (fun _ => ?_) (fun hne => absurd ez hne)
  exact kk _ K2 (by omega) (by omega) hzz ⟨z0.1.trans x0.2.1, z0.2.trans x0.2.2⟩
set_option maxHeartbeats 1000000 in
theorem w_rule (hC : zCtx l X cL_law RL 4 20 bud Z) (hS : lSld b L xs Z) (hi : i + 6 ≤ L) (hw : w + 1 ≤ bud) (h : zR G vc rc td) (kk : lKK b i bud w G Z) : Z w G 830 [some (.ref b), some (.ref (za G 0 0)), some (.ref (za G 20 0)), some (.int (nI i))] [] := by
  refine z_al1 hC dL_law_830 ?_
  refine z_al0 hC dL_law_831 ?_
  refine z_il3 hC dL_law_832 ?_
  refine z_iconst hC dL_law_833 zi_1 ?_
  refine z_iaddN hC dL_law_834 ?_
  refine hS _ _ _ _ _ (i + 1) (by omega) dL_law_835 ?_
  refine z_al0 hC dL_law_836 ?_
  refine z_il3 hC dL_law_837 ?_
  refine z_iconst hC dL_law_838 zi_2 ?_
  refine z_iaddN hC dL_law_839 ?_
  refine hS _ _ _ _ _ (i + 2) (by omega) dL_law_840 ?_
  refine z_al0 hC dL_law_841 ?_
  refine z_il3 hC dL_law_842 ?_
  refine z_iconst hC dL_law_843 zi_3 ?_
  refine z_iaddN hC dL_law_844 ?_
  refine hS _ _ _ _ _ (i + 3) (by omega) dL_law_845 ?_
  refine z_al0 hC dL_law_846 ?_
  refine z_il3 hC dL_law_847 ?_
  refine z_iconst hC dL_law_848 zi_4 ?_
  refine z_iaddN hC dL_law_849 ?_
  refine hS _ _ _ _ _ (i + 4) (by omega) dL_law_850 ?_
  refine z_cVi4 hC (p_rule l X G rfl h.1) zm_X4_rule zi_X4_rule zo_0 zk_L_83 (by omega) (by decide) (by omega) (Nat.le_of_ble_eq_true rfl) dL_law_851 ?_
  rintro r1 K1 ⟨e1, q, eK⟩
  have x0 : zX0 G K1 := by rw [eK]; exact zx_rule G rc q (xs (i + 1)) (xs (i + 2)) (xs (i + 3)) (xs (i + 4))
  have hM := mI_X x0 h.2.1
  refine z_al2 hC dL_law_854 ?_
  refine z_al0 hC dL_law_855 ?_
  refine z_il3 hC dL_law_856 ?_
  refine z_iconst hC dL_law_857 zi_1 ?_
  refine z_iaddN hC dL_law_858 ?_
  refine hS _ _ _ _ _ (i + 1) (by omega) dL_law_859 ?_
  refine z_al0 hC dL_law_860 ?_
  refine z_il3 hC dL_law_861 ?_
  refine z_iconst hC dL_law_862 zi_2 ?_
  refine z_iaddN hC dL_law_863 ?_
  refine hS _ _ _ _ _ (i + 2) (by omega) dL_law_864 ?_
  refine z_al0 hC dL_law_865 ?_
  refine z_il3 hC dL_law_866 ?_
  refine z_iconst hC dL_law_867 zi_3 ?_
  refine z_iaddN hC dL_law_868 ?_
  refine hS _ _ _ _ _ (i + 3) (by omega) dL_law_869 ?_
  refine z_al0 hC dL_law_870 ?_
  refine z_il3 hC dL_law_871 ?_
  refine z_iconst hC dL_law_872 zi_4 ?_
  refine z_iaddN hC dL_law_873 ?_
  refine hS _ _ _ _ _ (i + 4) (by omega) dL_law_874 ?_
  refine z_cVi4 hC (q_rule l X K1 x0.2.2.symm hM) zm_X5_rule zi_X5_rule (x0.2.2 ▸ zo_20) zk_L_86 (by omega) (by decide) (by omega) (Nat.le_of_ble_eq_true rfl) dL_law_875 ?_
  rintro r2 K2 ⟨e2, eK2⟩
  obtain ⟨rc2, hz⟩ := e_rule h q (xs (i + 1)) (xs (i + 2)) (xs (i + 3)) (xs (i + 4))
  rw [← eK, ← eK2] at hz
  have ez : r1 = r2 := e1.trans e2.symm
  have hzz : zRR K2 := ⟨vc, rc2, td, hz⟩
  have z0 : zA0 K1 K2 := by rw [eK2]; exact zs_rule K1 rc (xs (i + 1)) (xs (i + 2)) (xs (i + 3)) (xs (i + 4))
  refine z_icmp_eq hC 1316 dL_law_878 rfl (fun _ => ?_) (fun hne => absurd ez hne)
  exact kk _ K2 (by omega) (by omega) hzz ⟨z0.1.trans x0.2.1, z0.2.trans x0.2.2⟩
set_option maxHeartbeats 1000000 in
theorem w_holds (hC : zCtx l X cL_law RL 4 20 bud Z) (hS : lSld b L xs Z) (hi : i + 6 ≤ L) (hw : w + 1 ≤ bud) (h : zR G vc rc td) (kk : lKK b i bud w G Z) : Z w G 883 [some (.ref b), some (.ref (za G 0 0)), some (.ref (za G 20 0)), some (.int (nI i))] [] := by
  refine z_al1 hC dL_law_883 ?_
  refine z_al0 hC dL_law_884 ?_
  refine z_il3 hC dL_law_885 ?_
  refine z_iconst hC dL_law_886 zi_1 ?_
  refine z_iaddN hC dL_law_887 ?_
  refine hS _ _ _ _ _ (i + 1) (by omega) dL_law_888 ?_
  refine z_al0 hC dL_law_889 ?_
  refine z_il3 hC dL_law_890 ?_
  refine z_iconst hC dL_law_891 zi_2 ?_
  refine z_iaddN hC dL_law_892 ?_
  refine hS _ _ _ _ _ (i + 2) (by omega) dL_law_893 ?_
  refine z_al0 hC dL_law_894 ?_
  refine z_il3 hC dL_law_895 ?_
  refine z_iconst hC dL_law_896 zi_3 ?_
  refine z_iaddN hC dL_law_897 ?_
  refine hS _ _ _ _ _ (i + 3) (by omega) dL_law_898 ?_
  refine z_cVi3 hC (p_holds l X G rfl h.1) zm_X4_holds zi_X4_holds zo_0 zk_L_87 (by omega) (by decide) (by omega) (Nat.le_of_ble_eq_true rfl) dL_law_899 ?_
  rintro r1 K1 ⟨e1, eK⟩
  have x0 : zX0 G K1 := by rw [← eK]; exact zX0_r G
  have hM := mI_X x0 h.2.1
  refine z_al2 hC dL_law_902 ?_
  refine z_al0 hC dL_law_903 ?_
  refine z_il3 hC dL_law_904 ?_
  refine z_iconst hC dL_law_905 zi_1 ?_
  refine z_iaddN hC dL_law_906 ?_
  refine hS _ _ _ _ _ (i + 1) (by omega) dL_law_907 ?_
  refine z_al0 hC dL_law_908 ?_
  refine z_il3 hC dL_law_909 ?_
  refine z_iconst hC dL_law_910 zi_2 ?_
  refine z_iaddN hC dL_law_911 ?_
  refine hS _ _ _ _ _ (i + 2) (by omega) dL_law_912 ?_
  refine z_al0 hC dL_law_913 ?_
  refine z_il3 hC dL_law_914 ?_
  refine z_iconst hC dL_law_915 zi_3 ?_
  refine z_iaddN hC dL_law_916 ?_
  refine hS _ _ _ _ _ (i + 3) (by omega) dL_law_917 ?_
  refine z_cVi3 hC (q_holds l X K1 x0.2.2.symm hM) zm_X5_holds zi_X5_holds (x0.2.2 ▸ zo_20) zk_L_90 (by omega) (by decide) (by omega) (Nat.le_of_ble_eq_true rfl) dL_law_918 ?_
  rintro r2 K2 ⟨e2, eK2⟩
  have ee := e_holds h (xs (i + 1)) (xs (i + 2)) (xs (i + 3))
  rw [← eK] at e2 eK2
  have hzz : zRR K2 := by rw [← eK2]; exact ⟨vc, rc, td, h⟩
  have z0 : zA0 K1 K2 := by rw [← eK, ← eK2]; exact ⟨rfl, rfl⟩
  have ez : r1 = r2 := e1.trans (ee.trans e2.symm)
  refine z_icmp_eq hC 1316 dL_law_921 rfl (fun _ => ?_) (fun hne => absurd ez hne)
  exact kk _ K2 (by omega) (by omega) hzz ⟨z0.1.trans x0.2.1, z0.2.trans x0.2.2⟩
set_option maxHeartbeats 1000000 in
theorem w_clash (hC : zCtx l X cL_law RL 4 20 bud Z) (hS : lSld b L xs Z) (hi : i + 6 ≤ L) (hw : w + 1 ≤ bud) (h : zR G vc rc td) (kk : lKK b i bud w G Z) : Z w G 926 [some (.ref b), some (.ref (za G 0 0)), some (.ref (za G 20 0)), some (.int (nI i))] [] := by
  refine z_al1 hC dL_law_926 ?_
  refine z_al0 hC dL_law_927 ?_
  refine z_il3 hC dL_law_928 ?_
  refine z_iconst hC dL_law_929 zi_1 ?_
  refine z_iaddN hC dL_law_930 ?_
  refine hS _ _ _ _ _ (i + 1) (by omega) dL_law_931 ?_
  refine z_al0 hC dL_law_932 ?_
  refine z_il3 hC dL_law_933 ?_
  refine z_iconst hC dL_law_934 zi_2 ?_
  refine z_iaddN hC dL_law_935 ?_
  refine hS _ _ _ _ _ (i + 2) (by omega) dL_law_936 ?_
  refine z_cVi2 hC (p_clash l X G rfl h.1) zm_X4_clash zi_X4_clash zo_0 zk_L_91 (by omega) (by decide) (by omega) (Nat.le_of_ble_eq_true rfl) dL_law_937 ?_
  rintro r1 K1 ⟨e1, eK⟩
  have x0 : zX0 G K1 := by rw [← eK]; exact zX0_r G
  have hM := mI_X x0 h.2.1
  refine z_al2 hC dL_law_940 ?_
  refine z_al0 hC dL_law_941 ?_
  refine z_il3 hC dL_law_942 ?_
  refine z_iconst hC dL_law_943 zi_1 ?_
  refine z_iaddN hC dL_law_944 ?_
  refine hS _ _ _ _ _ (i + 1) (by omega) dL_law_945 ?_
  refine z_al0 hC dL_law_946 ?_
  refine z_il3 hC dL_law_947 ?_
  refine z_iconst hC dL_law_948 zi_2 ?_
  refine z_iaddN hC dL_law_949 ?_
  refine hS _ _ _ _ _ (i + 2) (by omega) dL_law_950 ?_
  refine z_cVi2 hC (q_clash l X K1 x0.2.2.symm hM) zm_X5_clash zi_X5_clash (x0.2.2 ▸ zo_20) zk_L_94 (by omega) (by decide) (by omega) (Nat.le_of_ble_eq_true rfl) dL_law_951 ?_
  rintro r2 K2 ⟨e2, eK2⟩
  have ee := e_clash h (xs (i + 1)) (xs (i + 2))
  rw [← eK] at e2 eK2
  have hzz : zRR K2 := by rw [← eK2]; exact ⟨vc, rc, td, h⟩
  have z0 : zA0 K1 K2 := by rw [← eK, ← eK2]; exact ⟨rfl, rfl⟩
  have ez : r1 = r2 := e1.trans (ee.trans e2.symm)
  refine z_icmp_eq hC 1316 dL_law_954 rfl (fun _ => ?_) (fun hne => absurd ez hne)
  exact kk _ K2 (by omega) (by omega) hzz ⟨z0.1.trans x0.2.1, z0.2.trans x0.2.2⟩
set_option maxHeartbeats 1000000 in
theorem w_left (hC : zCtx l X cL_law RL 4 20 bud Z) (hS : lSld b L xs Z) (hi : i + 6 ≤ L) (hw : w + 1 ≤ bud) (h : zR G vc rc td) (kk : lKK b i bud w G Z) : Z w G 959 [some (.ref b), some (.ref (za G 0 0)), some (.ref (za G 20 0)), some (.int (nI i))] [] := by
  refine z_al1 hC dL_law_959 ?_
  refine z_al0 hC dL_law_960 ?_
  refine z_il3 hC dL_law_961 ?_
  refine z_iconst hC dL_law_962 zi_1 ?_
  refine z_iaddN hC dL_law_963 ?_
  refine hS _ _ _ _ _ (i + 1) (by omega) dL_law_964 ?_
  refine z_al0 hC dL_law_965 ?_
  refine z_il3 hC dL_law_966 ?_
  refine z_iconst hC dL_law_967 zi_2 ?_
  refine z_iaddN hC dL_law_968 ?_
  refine hS _ _ _ _ _ (i + 2) (by omega) dL_law_969 ?_
  refine z_al0 hC dL_law_970 ?_
  refine z_il3 hC dL_law_971 ?_
  refine z_iconst hC dL_law_972 zi_3 ?_
  refine z_iaddN hC dL_law_973 ?_
  refine hS _ _ _ _ _ (i + 3) (by omega) dL_law_974 ?_
  refine z_cVi3 hC (p_left l X G rfl h.1) zm_X4_left zi_X4_left zo_0 zk_L_95 (by omega) (by decide) (by omega) (Nat.le_of_ble_eq_true rfl) dL_law_975 ?_
  rintro r1 K1 ⟨e1, eK⟩
  have x0 : zX0 G K1 := by rw [← eK]; exact zX0_r G
  have hM := mI_X x0 h.2.1
  refine z_al2 hC dL_law_978 ?_
  refine z_al0 hC dL_law_979 ?_
  refine z_il3 hC dL_law_980 ?_
  refine z_iconst hC dL_law_981 zi_1 ?_
  refine z_iaddN hC dL_law_982 ?_
  refine hS _ _ _ _ _ (i + 1) (by omega) dL_law_983 ?_
  refine z_al0 hC dL_law_984 ?_
  refine z_il3 hC dL_law_985 ?_
  refine z_iconst hC dL_law_986 zi_2 ?_
  refine z_iaddN hC dL_law_987 ?_
  refine hS _ _ _ _ _ (i + 2) (by omega) dL_law_988 ?_
  refine z_al0 hC dL_law_989 ?_
  refine z_il3 hC dL_law_990 ?_
  refine z_iconst hC dL_law_991 zi_3 ?_
  refine z_iaddN hC dL_law_992 ?_
  refine hS _ _ _ _ _ (i + 3) (by omega) dL_law_993 ?_
  refine z_cVi3 hC (q_left l X K1 x0.2.2.symm hM) zm_X5_left zi_X5_left (x0.2.2 ▸ zo_20) zk_L_98 (by omega) (by decide) (by omega) (Nat.le_of_ble_eq_true rfl) dL_law_994 ?_
  rintro r2 K2 ⟨e2, eK2⟩
  have ee := e_left h (xs (i + 1)) (xs (i + 2)) (xs (i + 3))
  rw [← eK] at e2 eK2
  have hzz : zRR K2 := ⟨vc, rc, td, zR_S eK2.X h⟩
  have z0 : zA0 K1 K2 := by rw [← eK]; exact zA0_S eK2.X
  have ez : r1 = r2 := e1.trans (ee.trans e2.symm)
  refine z_icmp_eq hC 1316 dL_law_997 rfl (fun _ => ?_) (fun hne => absurd ez hne)
  exact kk _ K2 (by omega) (by omega) hzz ⟨z0.1.trans x0.2.1, z0.2.trans x0.2.2⟩
set_option maxHeartbeats 1000000 in
theorem w_days (hC : zCtx l X cL_law RL 4 20 bud Z) (hS : lSld b L xs Z) (hi : i + 6 ≤ L) (hw : w + 1 ≤ bud) (h : zR G vc rc td) (kk : lKK b i bud w G Z) : Z w G 1002 [some (.ref b), some (.ref (za G 0 0)), some (.ref (za G 20 0)), some (.int (nI i))] [] := by
  refine z_al1 hC dL_law_1002 ?_
  refine z_al0 hC dL_law_1003 ?_
  refine z_il3 hC dL_law_1004 ?_
  refine z_iconst hC dL_law_1005 zi_1 ?_
  refine z_iaddN hC dL_law_1006 ?_
  refine hS _ _ _ _ _ (i + 1) (by omega) dL_law_1007 ?_
  refine z_cVi1 hC (p_days l X G rfl h.1) zm_X4_days zi_X4_days zo_0 zk_L_99 (by omega) (by decide) (by omega) (Nat.le_of_ble_eq_true rfl) dL_law_1008 ?_
  rintro r1 K1 ⟨e1, eK⟩
  have x0 : zX0 G K1 := by rw [eK]; exact zx_days G (xs (i + 1))
  have hM := mI_X x0 h.2.1
  refine z_al2 hC dL_law_1011 ?_
  refine z_al0 hC dL_law_1012 ?_
  refine z_il3 hC dL_law_1013 ?_
  refine z_iconst hC dL_law_1014 zi_1 ?_
  refine z_iaddN hC dL_law_1015 ?_
  refine hS _ _ _ _ _ (i + 1) (by omega) dL_law_1016 ?_
  refine z_cVi1 hC (q_days l X K1 x0.2.2.symm hM) zm_X5_days zi_X5_days (x0.2.2 ▸ zo_20) zk_L_102 (by omega) (by decide) (by omega) (Nat.le_of_ble_eq_true rfl) dL_law_1017 ?_
  rintro r2 K2 ⟨e2, eK2⟩
  have ee := e_days h (xs (i + 1))
  rw [← eK] at ee
  rw [← eK2] at ee
  have ez : r1 = r2 := e1.trans (ee.1.trans e2.symm)
  have hzz : zRR K2 := ee.2
  have z0 : zA0 K1 K2 := by rw [eK2]; exact zs_days K1 (xs (i + 1))
  refine z_icmp_eq hC 1316 dL_law_1020 rfl (fun _ => ?_) (fun hne => absurd ez hne)
  exact kk _ K2 (by omega) (by omega) hzz ⟨z0.1.trans x0.2.1, z0.2.trans x0.2.2⟩
set_option maxHeartbeats 1000000 in
theorem w_promise (hC : zCtx l X cL_law RL 4 20 bud Z) (hS : lSld b L xs Z) (hi : i + 6 ≤ L) (hw : w + 1 ≤ bud) (h : zR G vc rc td) (kk : lKK b i bud w G Z) : Z w G 1025 [some (.ref b), some (.ref (za G 0 0)), some (.ref (za G 20 0)), some (.int (nI i))] [] := by
  refine z_al1 hC dL_law_1025 ?_
  refine z_al0 hC dL_law_1026 ?_
  refine z_il3 hC dL_law_1027 ?_
  refine z_iconst hC dL_law_1028 zi_1 ?_
  refine z_iaddN hC dL_law_1029 ?_
  refine hS _ _ _ _ _ (i + 1) (by omega) dL_law_1030 ?_
  refine z_al0 hC dL_law_1031 ?_
  refine z_il3 hC dL_law_1032 ?_
  refine z_iconst hC dL_law_1033 zi_2 ?_
  refine z_iaddN hC dL_law_1034 ?_
  refine hS _ _ _ _ _ (i + 2) (by omega) dL_law_1035 ?_
  refine z_al0 hC dL_law_1036 ?_
  refine z_il3 hC dL_law_1037 ?_
  refine z_iconst hC dL_law_1038 zi_3 ?_
  refine z_iaddN hC dL_law_1039 ?_
  refine hS _ _ _ _ _ (i + 3) (by omega) dL_law_1040 ?_
  refine z_cVi3 hC (p_promise l X G rfl h.1) zm_X4_promise zi_X4_promise zo_0 zk_L_103 (by omega) (by decide) (by omega) (Nat.le_of_ble_eq_true rfl) dL_law_1041 ?_
  rintro r1 K1 ⟨e1, eK⟩
  have x0 : zX0 G K1 := by rw [eK]; exact zx_promise G (xs (i + 1)) (xs (i + 2)) (xs (i + 3))
  have hM := mI_X x0 h.2.1
  refine z_al2 hC dL_law_1044 ?_
  refine z_al0 hC dL_law_1045 ?_
  refine z_il3 hC dL_law_1046 ?_
  refine z_iconst hC dL_law_1047 zi_1 ?_
  refine z_iaddN hC dL_law_1048 ?_
  refine hS _ _ _ _ _ (i + 1) (by omega) dL_law_1049 ?_
  refine z_al0 hC dL_law_1050 ?_
  refine z_il3 hC dL_law_1051 ?_
  refine z_iconst hC dL_law_1052 zi_2 ?_
  refine z_iaddN hC dL_law_1053 ?_
  refine hS _ _ _ _ _ (i + 2) (by omega) dL_law_1054 ?_
  refine z_al0 hC dL_law_1055 ?_
  refine z_il3 hC dL_law_1056 ?_
  refine z_iconst hC dL_law_1057 zi_3 ?_
  refine z_iaddN hC dL_law_1058 ?_
  refine hS _ _ _ _ _ (i + 3) (by omega) dL_law_1059 ?_
  refine z_cVi3 hC (q_promise l X K1 x0.2.2.symm hM) zm_X5_promise zi_X5_promise (x0.2.2 ▸ zo_20) zk_L_106 (by omega) (by decide) (by omega) (Nat.le_of_ble_eq_true rfl) dL_law_1060 ?_
  rintro r2 K2 ⟨e2, eK2⟩
  have ee := e_promise h (xs (i + 1)) (xs (i + 2)) (xs (i + 3))
  rw [← eK] at ee
  rw [← eK2] at ee
  have ez : r1 = r2 := e1.trans (ee.1.trans e2.symm)
  have hzz : zRR K2 := ⟨vc, rc, td, ee.2⟩
  have z0 : zA0 K1 K2 := by rw [eK2]; exact zs_promise K1 (xs (i + 1)) (xs (i + 2)) (xs (i + 3))
  refine z_icmp_eq hC 1316 dL_law_1063 rfl (fun _ => ?_) (fun hne => absurd ez hne)
  exact kk _ K2 (by omega) (by omega) hzz ⟨z0.1.trans x0.2.1, z0.2.trans x0.2.2⟩
set_option maxHeartbeats 1000000 in
theorem w_shut (hC : zCtx l X cL_law RL 4 20 bud Z) (hS : lSld b L xs Z) (hi : i + 6 ≤ L) (hw : w + 1 ≤ bud) (h : zR G vc rc td) (kk : lKK b i bud w G Z) : Z w G 1068 [some (.ref b), some (.ref (za G 0 0)), some (.ref (za G 20 0)), some (.int (nI i))] [] := by
  refine z_al1 hC dL_law_1068 ?_
  refine z_al0 hC dL_law_1069 ?_
  refine z_il3 hC dL_law_1070 ?_
  refine z_iconst hC dL_law_1071 zi_1 ?_
  refine z_iaddN hC dL_law_1072 ?_
  refine hS _ _ _ _ _ (i + 1) (by omega) dL_law_1073 ?_
  refine z_al0 hC dL_law_1074 ?_
  refine z_il3 hC dL_law_1075 ?_
  refine z_iconst hC dL_law_1076 zi_2 ?_
  refine z_iaddN hC dL_law_1077 ?_
  refine hS _ _ _ _ _ (i + 2) (by omega) dL_law_1078 ?_
  refine z_cVi2 hC (p_shut l X G rfl h.1) zm_X4_shut zi_X4_shut zo_0 zk_L_107 (by omega) (by decide) (by omega) (Nat.le_of_ble_eq_true rfl) dL_law_1079 ?_
  rintro r1 K1 ⟨e1, eK⟩
  have x0 : zX0 G K1 := by rw [eK]; exact zx_shut G (xs (i + 1)) (xs (i + 2))
  have hM := mI_X x0 h.2.1
  refine z_al2 hC dL_law_1082 ?_
  refine z_al0 hC dL_law_1083 ?_
  refine z_il3 hC dL_law_1084 ?_
  refine z_iconst hC dL_law_1085 zi_1 ?_
  refine z_iaddN hC dL_law_1086 ?_
  refine hS _ _ _ _ _ (i + 1) (by omega) dL_law_1087 ?_
  refine z_al0 hC dL_law_1088 ?_
  refine z_il3 hC dL_law_1089 ?_
  refine z_iconst hC dL_law_1090 zi_2 ?_
  refine z_iaddN hC dL_law_1091 ?_
  refine hS _ _ _ _ _ (i + 2) (by omega) dL_law_1092 ?_
  refine z_cVi2 hC (q_shut l X K1 x0.2.2.symm hM) zm_X5_shut zi_X5_shut (x0.2.2 ▸ zo_20) zk_L_110 (by omega) (by decide) (by omega) (Nat.le_of_ble_eq_true rfl) dL_law_1093 ?_
  rintro r2 K2 ⟨e2, eK2⟩
  have ee := e_shut h (xs (i + 1)) (xs (i + 2))
  rw [← eK] at ee
  rw [← eK2] at ee
  have ez : r1 = r2 := e1.trans (ee.1.trans e2.symm)
  have hzz : zRR K2 := ⟨vc, rc, td, ee.2⟩
  have z0 : zA0 K1 K2 := by rw [eK2]; exact zs_shut K1 td (xs (i + 1)) (xs (i + 2))
  refine z_icmp_eq hC 1316 dL_law_1096 rfl (fun _ => ?_) (fun hne => absurd ez hne)
  exact kk _ K2 (by omega) (by omega) hzz ⟨z0.1.trans x0.2.1, z0.2.trans x0.2.2⟩
set_option maxHeartbeats 1000000 in
theorem w_open (hC : zCtx l X cL_law RL 4 20 bud Z) (hS : lSld b L xs Z) (hi : i + 6 ≤ L) (hw : w + 1 ≤ bud) (h : zR G vc rc td) (kk : lKK b i bud w G Z) : Z w G 1101 [some (.ref b), some (.ref (za G 0 0)), some (.ref (za G 20 0)), some (.int (nI i))] [] := by
  refine z_al1 hC dL_law_1101 ?_
  refine z_al0 hC dL_law_1102 ?_
  refine z_il3 hC dL_law_1103 ?_
  refine z_iconst hC dL_law_1104 zi_1 ?_
  refine z_iaddN hC dL_law_1105 ?_
  refine hS _ _ _ _ _ (i + 1) (by omega) dL_law_1106 ?_
  refine z_cVi1 hC (p_open l X G rfl h.1) zm_X4_open zi_X4_open zo_0 zk_L_111 (by omega) (by decide) (by omega) (Nat.le_of_ble_eq_true rfl) dL_law_1107 ?_
  rintro r1 K1 ⟨e1, eK⟩
  have x0 : zX0 G K1 := by rw [eK]; exact zx_open G (xs (i + 1))
  have hM := mI_X x0 h.2.1
  refine z_al2 hC dL_law_1110 ?_
  refine z_al0 hC dL_law_1111 ?_
  refine z_il3 hC dL_law_1112 ?_
  refine z_iconst hC dL_law_1113 zi_1 ?_
  refine z_iaddN hC dL_law_1114 ?_
  refine hS _ _ _ _ _ (i + 1) (by omega) dL_law_1115 ?_
  refine z_cVi1 hC (q_open l X K1 x0.2.2.symm hM) zm_X5_open zi_X5_open (x0.2.2 ▸ zo_20) zk_L_114 (by omega) (by decide) (by omega) (Nat.le_of_ble_eq_true rfl) dL_law_1116 ?_
  rintro r2 K2 ⟨e2, eK2⟩
  have ee := e_open h (xs (i + 1))
  rw [← eK] at ee
  rw [← eK2] at ee
  have ez : r1 = r2 := e1.trans (ee.1.trans e2.symm)
  have hzz : zRR K2 := ⟨vc, rc, td, ee.2⟩
  have z0 : zA0 K1 K2 := by rw [eK2]; exact zs_open K1 (xs (i + 1))
  refine z_icmp_eq hC 1316 dL_law_1119 rfl (fun _ => ?_) (fun hne => absurd ez hne)
  exact kk _ K2 (by omega) (by omega) hzz ⟨z0.1.trans x0.2.1, z0.2.trans x0.2.2⟩
set_option maxHeartbeats 1000000 in
theorem w_about (hC : zCtx l X cL_law RL 4 20 bud Z) (hS : lSld b L xs Z) (hi : i + 6 ≤ L) (hw : w + 1 ≤ bud) (h : zR G vc rc td) (kk : lKK b i bud w G Z) : Z w G 1124 [some (.ref b), some (.ref (za G 0 0)), some (.ref (za G 20 0)), some (.int (nI i))] [] := by
  refine z_al1 hC dL_law_1124 ?_
  refine z_al0 hC dL_law_1125 ?_
  refine z_il3 hC dL_law_1126 ?_
  refine z_iconst hC dL_law_1127 zi_1 ?_
  refine z_iaddN hC dL_law_1128 ?_
  refine hS _ _ _ _ _ (i + 1) (by omega) dL_law_1129 ?_
  refine z_al0 hC dL_law_1130 ?_
  refine z_il3 hC dL_law_1131 ?_
  refine z_iconst hC dL_law_1132 zi_2 ?_
  refine z_iaddN hC dL_law_1133 ?_
  refine hS _ _ _ _ _ (i + 2) (by omega) dL_law_1134 ?_
  refine z_cVi2 hC (p_about l X G rfl h.1) zm_X4_about zi_X4_about zo_0 zk_L_115 (by omega) (by decide) (by omega) (Nat.le_of_ble_eq_true rfl) dL_law_1135 ?_
  rintro r1 K1 ⟨e1, eK⟩
  have x0 : zX0 G K1 := by rw [← eK]; exact zX0_r G
  have hM := mI_X x0 h.2.1
  refine z_al2 hC dL_law_1138 ?_
  refine z_al0 hC dL_law_1139 ?_
  refine z_il3 hC dL_law_1140 ?_
  refine z_iconst hC dL_law_1141 zi_1 ?_
  refine z_iaddN hC dL_law_1142 ?_
  refine hS _ _ _ _ _ (i + 1) (by omega) dL_law_1143 ?_
  refine z_al0 hC dL_law_1144 ?_
  refine z_il3 hC dL_law_1145 ?_
  refine z_iconst hC dL_law_1146 zi_2 ?_
  refine z_iaddN hC dL_law_1147 ?_
  refine hS _ _ _ _ _ (i + 2) (by omega) dL_law_1148 ?_
  refine z_cVi2 hC (q_about l X K1 x0.2.2.symm hM) zm_X5_about zi_X5_about (x0.2.2 ▸ zo_20) zk_L_118 (by omega) (by decide) (by omega) (Nat.le_of_ble_eq_true rfl) dL_law_1149 ?_
  rintro r2 K2 ⟨e2, eK2⟩
  have ee := e_about h (xs (i + 1)) (xs (i + 2))
  rw [← eK] at e2 eK2
  have hzz : zRR K2 := by rw [← eK2]; exact ⟨vc, rc, td, h⟩
  have z0 : zA0 K1 K2 := by rw [← eK, ← eK2]; exact ⟨rfl, rfl⟩
  have ez : r1 = r2 := e1.trans (ee.trans e2.symm)
  refine z_icmp_eq hC 1316 dL_law_1152 rfl (fun _ => ?_) (fun hne => absurd ez hne)
  exact kk _ K2 (by omega) (by omega) hzz ⟨z0.1.trans x0.2.1, z0.2.trans x0.2.2⟩
set_option maxHeartbeats 1000000 in
theorem w_harmed (hC : zCtx l X cL_law RL 4 20 bud Z) (hS : lSld b L xs Z) (hi : i + 6 ≤ L) (hw : w + 1 ≤ bud) (h : zR G vc rc td) (kk : lKK b i bud w G Z) : Z w G 1157 [some (.ref b), some (.ref (za G 0 0)), some (.ref (za G 20 0)), some (.int (nI i))] [] := by
  refine z_al1 hC dL_law_1157 ?_
  refine z_al0 hC dL_law_1158 ?_
  refine z_il3 hC dL_law_1159 ?_
  refine z_iconst hC dL_law_1160 zi_1 ?_
  refine z_iaddN hC dL_law_1161 ?_
  refine hS _ _ _ _ _ (i + 1) (by omega) dL_law_1162 ?_
  refine z_al0 hC dL_law_1163 ?_
  refine z_il3 hC dL_law_1164 ?_
  refine z_iconst hC dL_law_1165 zi_2 ?_
  refine z_iaddN hC dL_law_1166 ?_
  refine hS _ _ _ _ _ (i + 2) (by omega) dL_law_1167 ?_
  refine z_cVi2 hC (p_harmed l X G rfl h.1) zm_X4_harmed zi_X4_harmed zo_0 zk_L_119 (by omega) (by decide) (by omega) (Nat.le_of_ble_eq_true rfl) dL_law_1168 ?_
  rintro r1 K1 ⟨e1, eK⟩
  have x0 : zX0 G K1 := by rw [← eK]; exact zX0_r G
  have hM := mI_X x0 h.2.1
  refine z_al2 hC dL_law_1171 ?_
  refine z_al0 hC dL_law_1172 ?_
  refine z_il3 hC dL_law_1173 ?_
  refine z_iconst hC dL_law_1174 zi_1 ?_
  refine z_iaddN hC dL_law_1175 ?_
  refine hS _ _ _ _ _ (i + 1) (by omega) dL_law_1176 ?_
  refine z_al0 hC dL_law_1177 ?_
  refine z_il3 hC dL_law_1178 ?_
  refine z_iconst hC dL_law_1179 zi_2 ?_
  refine z_iaddN hC dL_law_1180 ?_
  refine hS _ _ _ _ _ (i + 2) (by omega) dL_law_1181 ?_
  refine z_cVi2 hC (q_harmed l X K1 x0.2.2.symm hM) zm_X5_harmed zi_X5_harmed (x0.2.2 ▸ zo_20) zk_L_122 (by omega) (by decide) (by omega) (Nat.le_of_ble_eq_true rfl) dL_law_1182 ?_
  rintro r2 K2 ⟨e2, eK2⟩
  have ee := e_harmed h (xs (i + 1)) (xs (i + 2))
  rw [← eK] at e2 eK2
  have hzz : zRR K2 := ⟨vc, rc, td, zR_S eK2.X h⟩
  have z0 : zA0 K1 K2 := by rw [← eK]; exact zA0_S eK2.X
  have ez : r1 = r2 := e1.trans (ee.trans e2.symm)
  refine z_icmp_eq hC 1316 dL_law_1185 rfl (fun _ => ?_) (fun hne => absurd ez hne)
  exact kk _ K2 (by omega) (by omega) hzz ⟨z0.1.trans x0.2.1, z0.2.trans x0.2.2⟩
set_option maxHeartbeats 1000000 in
theorem w_ready (hC : zCtx l X cL_law RL 4 20 bud Z) (hS : lSld b L xs Z) (hi : i + 6 ≤ L) (hw : w + 1 ≤ bud) (h : zR G vc rc td) (kk : lKK b i bud w G Z) : Z w G 1190 [some (.ref b), some (.ref (za G 0 0)), some (.ref (za G 20 0)), some (.int (nI i))] [] := by
  refine z_al1 hC dL_law_1190 ?_
  refine z_al0 hC dL_law_1191 ?_
  refine z_il3 hC dL_law_1192 ?_
  refine z_iconst hC dL_law_1193 zi_1 ?_
  refine z_iaddN hC dL_law_1194 ?_
  refine hS _ _ _ _ _ (i + 1) (by omega) dL_law_1195 ?_
  refine z_cVi1 hC (p_ready l X G rfl h.1) zm_X4_ready zi_X4_ready zo_0 zk_L_123 (by omega) (by decide) (by omega) (Nat.le_of_ble_eq_true rfl) dL_law_1196 ?_
  rintro r1 K1 ⟨e1, eK⟩
  have x0 : zX0 G K1 := by rw [← eK]; exact zX0_r G
  have hM := mI_X x0 h.2.1
  refine z_al2 hC dL_law_1199 ?_
  refine z_al0 hC dL_law_1200 ?_
  refine z_il3 hC dL_law_1201 ?_
  refine z_iconst hC dL_law_1202 zi_1 ?_
  refine z_iaddN hC dL_law_1203 ?_
  refine hS _ _ _ _ _ (i + 1) (by omega) dL_law_1204 ?_
  refine z_cVi1 hC (q_ready l X K1 x0.2.2.symm hM) zm_X5_ready zi_X5_ready (x0.2.2 ▸ zo_20) zk_L_126 (by omega) (by decide) (by omega) (Nat.le_of_ble_eq_true rfl) dL_law_1205 ?_
  rintro r2 K2 ⟨e2, eK2⟩
  have ee := e_ready h (xs (i + 1))
  rw [← eK] at e2 eK2
  have hzz : zRR K2 := ⟨vc, rc, td, zR_S eK2.X h⟩
  have z0 : zA0 K1 K2 := by rw [← eK]; exact zA0_S eK2.X
  have ez : r1 = r2 := e1.trans (ee.trans e2.symm)
  refine z_icmp_eq hC 1316 dL_law_1208 rfl (fun _ => ?_) (fun hne => absurd ez hne)
  exact kk _ K2 (by omega) (by omega) hzz ⟨z0.1.trans x0.2.1, z0.2.trans x0.2.2⟩
set_option maxHeartbeats 1000000 in
theorem w_set (hC : zCtx l X cL_law RL 4 20 bud Z) (hS : lSld b L xs Z) (hi : i + 6 ≤ L) (hw : w + 1 ≤ bud) (h : zR G vc rc td) (kk : lKK b i bud w G Z) : Z w G 1213 [some (.ref b), some (.ref (za G 0 0)), some (.ref (za G 20 0)), some (.int (nI i))] [] := by
  refine z_al1 hC dL_law_1213 ?_
  refine z_al0 hC dL_law_1214 ?_
  refine z_il3 hC dL_law_1215 ?_
  refine z_iconst hC dL_law_1216 zi_1 ?_
  refine z_iaddN hC dL_law_1217 ?_
  refine hS _ _ _ _ _ (i + 1) (by omega) dL_law_1218 ?_
  refine z_al0 hC dL_law_1219 ?_
  refine z_il3 hC dL_law_1220 ?_
  refine z_iconst hC dL_law_1221 zi_2 ?_
  refine z_iaddN hC dL_law_1222 ?_
  refine hS _ _ _ _ _ (i + 2) (by omega) dL_law_1223 ?_
  refine z_al0 hC dL_law_1224 ?_
  refine z_il3 hC dL_law_1225 ?_
  refine z_iconst hC dL_law_1226 zi_3 ?_
  refine z_iaddN hC dL_law_1227 ?_
  refine hS _ _ _ _ _ (i + 3) (by omega) dL_law_1228 ?_
  refine z_cVi3 hC (p_set l X G rfl h.1) zm_X4_set zi_X4_set zo_0 zk_L_127 (by omega) (by decide) (by omega) (Nat.le_of_ble_eq_true rfl) dL_law_1229 ?_
  rintro r1 K1 ⟨e1, eK⟩
  have x0 : zX0 G K1 := by rw [eK]; exact zx_set G (xs (i + 1)) (xs (i + 2)) (xs (i + 3))
  have hM := mI_X x0 h.2.1
  refine z_al2 hC dL_law_1232 ?_
  refine z_al0 hC dL_law_1233 ?_
  refine z_il3 hC dL_law_1234 ?_
  refine z_iconst hC dL_law_1235 zi_1 ?_
  refine z_iaddN hC dL_law_1236 ?_
  refine hS _ _ _ _ _ (i + 1) (by omega) dL_law_1237 ?_
  refine z_al0 hC dL_law_1238 ?_
  refine z_il3 hC dL_law_1239 ?_
  refine z_iconst hC dL_law_1240 zi_2 ?_
  refine z_iaddN hC dL_law_1241 ?_
  refine hS _ _ _ _ _ (i + 2) (by omega) dL_law_1242 ?_
  refine z_al0 hC dL_law_1243 ?_
  refine z_il3 hC dL_law_1244 ?_
  refine z_iconst hC dL_law_1245 zi_3 ?_
  refine z_iaddN hC dL_law_1246 ?_
  refine hS _ _ _ _ _ (i + 3) (by omega) dL_law_1247 ?_
  refine z_cVi3 hC (q_set l X K1 x0.2.2.symm hM) zm_X5_set zi_X5_set (x0.2.2 ▸ zo_20) zk_L_130 (by omega) (by decide) (by omega) (Nat.le_of_ble_eq_true rfl) dL_law_1248 ?_
  rintro r2 K2 ⟨e2, eK2⟩
  have ee := e_set h (xs (i + 1)) (xs (i + 2)) (xs (i + 3))
  rw [← eK] at ee
  rw [← eK2] at ee
  have ez : r1 = r2 := e1.trans (ee.1.trans e2.symm)
  have hzz : zRR K2 := ⟨vc, rc, td, ee.2⟩
  have z0 : zA0 K1 K2 := by rw [eK2]; exact zs_set K1 (xs (i + 1)) (xs (i + 2)) (xs (i + 3))
  refine z_icmp_eq hC 1316 dL_law_1251 rfl (fun _ => ?_) (fun hne => absurd ez hne)
  exact kk _ K2 (by omega) (by omega) hzz ⟨z0.1.trans x0.2.1, z0.2.trans x0.2.2⟩
set_option maxHeartbeats 1000000 in
theorem w_plan (hC : zCtx l X cL_law RL 4 20 bud Z) (hS : lSld b L xs Z) (hi : i + 6 ≤ L) (hw : w + 1 ≤ bud) (h : zR G vc rc td) (kk : lKK b i bud w G Z) : Z w G 1256 [some (.ref b), some (.ref (za G 0 0)), some (.ref (za G 20 0)), some (.int (nI i))] [] := by
  refine z_al1 hC dL_law_1256 ?_
  refine z_al0 hC dL_law_1257 ?_
  refine z_il3 hC dL_law_1258 ?_
  refine z_iconst hC dL_law_1259 zi_1 ?_
  refine z_iaddN hC dL_law_1260 ?_
  refine hS _ _ _ _ _ (i + 1) (by omega) dL_law_1261 ?_
  refine z_cVi1 hC (p_plan l X G rfl h.1) zm_X4_plan zi_X4_plan zo_0 zk_L_131 (by omega) (by decide) (by omega) (Nat.le_of_ble_eq_true rfl) dL_law_1262 ?_
  rintro r1 K1 ⟨e1, eK⟩
  have x0 : zX0 G K1 := by rw [← eK]; exact zX0_r G
  have hM := mI_X x0 h.2.1
  refine z_al2 hC dL_law_1265 ?_
  refine z_al0 hC dL_law_1266 ?_
  refine z_il3 hC dL_law_1267 ?_
  refine z_iconst hC dL_law_1268 zi_1 ?_
  refine z_iaddN hC dL_law_1269 ?_
  refine hS _ _ _ _ _ (i + 1) (by omega) dL_law_1270 ?_
  refine z_cVi1 hC (q_plan l X K1 x0.2.2.symm hM) zm_X5_plan zi_X5_plan (x0.2.2 ▸ zo_20) zk_L_134 (by omega) (by decide) (by omega) (Nat.le_of_ble_eq_true rfl) dL_law_1271 ?_
  rintro r2 K2 ⟨e2, eK2⟩
  have ee := e_plan h (xs (i + 1))
  rw [← eK] at e2 eK2
  have hzz : zRR K2 := ⟨vc, rc, td, zR_S eK2 h⟩
  have z0 : zA0 K1 K2 := by rw [← eK]; exact zA0_S eK2
  have ez : r1 = r2 := e1.trans (ee.trans e2.symm)
  refine z_icmp_eq hC 1316 dL_law_1274 rfl (fun _ => ?_) (fun hne => absurd ez hne)
  exact kk _ K2 (by omega) (by omega) hzz ⟨z0.1.trans x0.2.1, z0.2.trans x0.2.2⟩
set_option maxHeartbeats 1000000 in
theorem w_told (hC : zCtx l X cL_law RL 4 20 bud Z) (hS : lSld b L xs Z) (hi : i + 6 ≤ L) (hw : w + 1 ≤ bud) (h : zR G vc rc td) (kk : lKK b i bud w G Z) : Z w G 1279 [some (.ref b), some (.ref (za G 0 0)), some (.ref (za G 20 0)), some (.int (nI i))] [] := by
  refine z_al1 hC dL_law_1279 ?_
  refine z_al0 hC dL_law_1280 ?_
  refine z_il3 hC dL_law_1281 ?_
  refine z_iconst hC dL_law_1282 zi_1 ?_
  refine z_iaddN hC dL_law_1283 ?_
  refine hS _ _ _ _ _ (i + 1) (by omega) dL_law_1284 ?_
  refine z_cVi1 hC (p_told l X G rfl h.1) zm_X4_told zi_X4_told zo_0 zk_L_135 (by omega) (by decide) (by omega) (Nat.le_of_ble_eq_true rfl) dL_law_1285 ?_
  rintro r1 K1 ⟨e1, eK⟩
  have x0 : zX0 G K1 := by rw [← eK]; exact zX0_r G
  have hM := mI_X x0 h.2.1
  refine z_al2 hC dL_law_1288 ?_
  refine z_al0 hC dL_law_1289 ?_
  refine z_il3 hC dL_law_1290 ?_
  refine z_iconst hC dL_law_1291 zi_1 ?_
  refine z_iaddN hC dL_law_1292 ?_
  refine hS _ _ _ _ _ (i + 1) (by omega) dL_law_1293 ?_
  refine z_cVi1 hC (q_told l X K1 x0.2.2.symm hM) zm_X5_told zi_X5_told (x0.2.2 ▸ zo_20) zk_L_138 (by omega) (by decide) (by omega) (Nat.le_of_ble_eq_true rfl) dL_law_1294 ?_
  rintro r2 K2 ⟨e2, eK2⟩
  have ee := e_told h (xs (i + 1))
  rw [← eK] at e2 eK2
  have hzz : zRR K2 := by rw [← eK2]; exact ⟨vc, rc, td, h⟩
  have z0 : zA0 K1 K2 := by rw [← eK, ← eK2]; exact ⟨rfl, rfl⟩
  have ez : r1 = r2 := e1.trans (ee.trans e2.symm)
  refine z_icmp_eq hC 1316 dL_law_1297 rfl (fun _ => ?_) (fun hne => absurd ez hne)
  exact kk _ K2 (by omega) (by omega) hzz ⟨z0.1.trans x0.2.1, z0.2.trans x0.2.2⟩
set_option maxHeartbeats 1000000 in
theorem w_trace (hC : zCtx l X cL_law RL 4 20 bud Z) (hS : lSld b L xs Z) (hi : i + 6 ≤ L) (hw : w + 1 ≤ bud) (h : zR G vc rc td) (kk : lKK b i bud w G Z) : Z w G 1302 [some (.ref b), some (.ref (za G 0 0)), some (.ref (za G 20 0)), some (.int (nI i))] [] := by
  refine z_al1 hC dL_law_1302 ?_
  refine z_cVl0 hC (p_trace l X G rfl) zm_X4_trace zi_X4_trace zo_0 zk_L_139 (by omega) (by decide) (by omega) (Nat.le_of_ble_eq_true rfl) dL_law_1303 ?_
  rintro r1 K1 ⟨e1, eK⟩
  have x0 : zX0 G K1 := by rw [← eK]; exact zX0_r G
  have hM := mI_X x0 h.2.1
  refine z_al2 hC dL_law_1306 ?_
  refine z_cVl0 hC (q_trace l X K1 x0.2.2.symm) zm_X5_trace zi_X5_trace (x0.2.2 ▸ zo_20) zk_L_143 (by omega) (by decide) (by omega) (Nat.le_of_ble_eq_true rfl) dL_law_1307 ?_
  rintro r2 K2 ⟨e2, eK2⟩
  have ee := e_trace h 
  rw [← eK] at e2 eK2
  have hzz : zRR K2 := by rw [← eK2]; exact ⟨vc, rc, td, h⟩
  have z0 : zA0 K1 K2 := by rw [← eK, ← eK2]; exact ⟨rfl, rfl⟩
  have ez : r1 = r2 := e1.trans (ee.trans e2.symm)
  refine z_lcmp hC dL_law_1310 ?_
  refine z_top (lg_cmp0 ez) ?_
  refine z_if_eq hC 1316 dL_law_1311 rfl (fun _ => ?_) (fun hne => absurd rfl hne)
  exact kk _ K2 (by omega) (by omega) hzz ⟨z0.1.trans x0.2.1, z0.2.trans x0.2.2⟩
end LW

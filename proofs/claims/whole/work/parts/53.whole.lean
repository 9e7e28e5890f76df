/-! THE CLAIM OUT OF ONE WALK OF THE LAW'S BODY. Your part is whole_start (and what it stands on); all else here is the same for every law, but numbers. -/
def R_law : String := "WhoCallsLaw"
def lw_P (b : Addr) (xs : List Int32) (args : Array Value) (s : State) : Prop := args = #[.ref b] ∧ s.IntsAt b xs ∧ xs.length ≤ 3072 ∧ (Jvm.Cond.and given_1 narrow_1).before args s = true
def lw_Q (_ : Array Value) (s : State) (o : Outcome) (t : State) : Prop := o = .returned (some (.int 1)) ∧ Framed s o t [] 600000 7302250
def lw_Z (below : List Frame) (a : Array Value) (s : State) : State → Prop := fun t => ∃ o, t.status = .running ∧ Ended t below o ∧ lw_Q a s o t
/-- the law's own end, with 1 on the stack, nothing written that was there before, its room as the claim has it -/
theorem lw_ret {p : Program} {l : Launch} {e : Env} {s : State} {m : MethodId} {below : List Frame} {meth : Method} {c : Code} {b : Nat} (hx : p.tables.exec = Jvm.exec) (hb : c.code = code) (hr : meth.sig.returnType = ret) (hlocks : meth.locks = false) {pc : Nat} {H : Heap} {ls : Array Slot} (hdg : decode code pc = .ok (.ireturn, 1)) : W p l e room_1 s m #[Value.ref b] below meth c H [] 600000 7302250 (lw_Z below #[Value.ref b] s) (F0 m pc ls [.int 1]) := by
  intro T hT X
  obtain ⟨fs, hret, hrun, hended, hW, hframe⟩ := X.leave (v := some (.int 1)) (hlocks := hlocks) (fun h => by rw [hr] at h; cases h)
  have hmeth' : T.vm.method? m = some meth := X.method'
  refine ⟨T.setFrames fs, ?_, .returned (some (.int 1)), hrun, hended, rfl, ⟨_, rfl⟩, hW, hframe⟩
  jvm_step X.here [X.here.top, hx, hb, hdg, hmeth', hr, ret, narrow_b1]
  (try refine ⟨rfl, ?_⟩); (try refine ⟨rfl, ?_⟩)
  first | (intro acts; rw [hret _ acts rfl rfl rfl]) | rw [hret _ _ rfl rfl rfl]
  exact Steps.refl _
/-- what holds at the law's entry: the machine, the code, the tables' words (any of lw_tbl by 'hts w (by decide +kernel)'), the script of L ints xs at the cell b, what the Statement gives of the start (any of its parts by flat_of_before) -/
def lw_At (p : Program) (s : State) (m : MethodId) (meth : Method) (c : Code) (b L : Nat) (xs : Nat → Int32) : Prop :=
  p.tables.exec = Jvm.exec ∧ c.code = code ∧ meth.sig.returnType = ret ∧ c.maxLocals = 4 ∧ s.vm.findClass R_law = some m.cls ∧ (∀ w ∈ lw_tbl, w.before #[Value.ref b] s = true) ∧ va_X b L xs s s.heap ∧ b < s.heap.size ∧ meth.locks = false ∧ (Jvm.Cond.and given_1 narrow_1).before #[Value.ref b] s = true
set_option maxRecDepth 20000 in
theorem yao_0 : Cond.arrayOver (.object RX0) ∈ lw_tbl := zmem0 (n := 63) rfl
set_option maxRecDepth 20000 in
theorem yao_1 : Cond.arrayOver (.object RX1) ∈ lw_tbl := zmem0 (n := 65) rfl
set_option maxRecDepth 20000 in
theorem yao_2 : Cond.arrayOver (.object RX2) ∈ lw_tbl := zmem0 (n := 67) rfl
theorem lArrI {s : State} {args : Array Value} (h : (Cond.arrayClass .int).before args s = true) : ∃ c : ClassId, ArrOfT s c .int ∧ va_RA s c .int := by
  obtain ⟨c, k, comp, h1, h2, h3⟩ := Cond.arrayClass_spec h
  exact ⟨c, fun n z => ⟨(fun k h => by cases h), k, h2, comp, h3⟩, h1⟩
theorem lArrZ {s : State} {args : Array Value} (h : (Cond.arrayClass .boolean).before args s = true) : ∃ c : ClassId, ArrOfT s c .boolean ∧ va_RA s c .boolean := by
  obtain ⟨c, k, comp, h1, h2, h3⟩ := Cond.arrayClass_spec h
  exact ⟨c, fun n z => ⟨(fun k h => by cases h), k, h2, comp, h3⟩, h1⟩
theorem lOver {s : State} {C : String} (h : va_AO C s) : ∃ c : ClassId, ArrOfT s c (.object C) ∧ va_RA s c (.object C) := by
  obtain ⟨comp, c, k, h1, h2, h3, h4, h5⟩ := Cond.arrayOver_spec h
  exact ⟨c, fun n z => ⟨(fun k h => by cases h), k, h3, comp, h4⟩, k, comp, h3, h4, h1, h5⟩
set_option maxHeartbeats 4000000 in
theorem law_start {l : Launch} {X : zX} {b : Nat} {Y : yZ} (hY : yCtx l X cL_law RL 4 20 100000 false true Y) (fin : ∀ (w : Nat) (K : zG), w ≤ 3000 → zRR K → Y w (z_ls X K) 18 [some (.ref b), some (.ref (za K 0 0)), some (.ref (za K 20 0)), some (.int (nI 0))] []) : Y 0 [] 0 [some (.ref b), none, none, none] [] := by
  refine y_new (ci := 4) hY 2 (fs := yfX4) rfl zu_X4 tyX4_ok zcc_L_7 zins_X4 zini_X4 yfX4_ok (by decide) (by decide) (by omega) dL_law_0 (fun a => ?_)
  refine y_dup hY dL_law_3 rfl ?_
  refine y_callI (w := 0 + 2) hY (As := []) (r := a) (st := [.ref a]) (wr := []) (wc := [(a, .inr (4, yfX4))]) (c_X4_init l X a) zm_X4_init (by omega) (by decide) (by omega) (Nat.le_of_ble_eq_true rfl) rfl (fun h => h) zi_X4_init zk_L_9 dL_law_4 (fun wl2 h => ?_)
  obtain ⟨A, rfl⟩ := h
  refine y_asN hY dL_law_7 rfl (by decide) ?_
  refine y_eq (wl2 := yWC X a A) rfl ?_
  refine y_new (ci := 5) hY 8 (fs := yfX5) rfl zu_X5 tyX5_ok zcc_L_10 zins_X5 zini_X5 yfX5_ok (by decide) (by decide) (by omega) dL_law_8 (fun m => ?_)
  refine y_dup hY dL_law_11 rfl ?_
  refine y_callI (w := 0 + 2 + 1100 + 8) hY (As := []) (r := m) (st := [.ref m]) (wr := yWC X a A) (wc := [(m, .inr (5, yfX5))]) (c_X5_init l X m) zm_X5_init (by omega) (by decide) (by omega) (Nat.le_of_ble_eq_true rfl) rfl (fun h => absurd h (by decide)) zi_X5_init zk_L_12 dL_law_12 (fun wl2 h => ?_)
  obtain ⟨q1, q2, q3, q4, q5, q6, q7, q8, q9, q10, q11, q12, q13, q14, q15, q16, q17, q18, q19, q20, q21, q22, q23, q24, rfl⟩ := h
  refine y_asN hY dL_law_15 rfl (by decide) ?_
  refine y_iconst hY dL_law_16 zi_0 ?_
  refine y_isN hY dL_law_17 rfl (by decide) ?_
  refine y_eq (y_start X A a m q1 q2 q3 q4 q5 q6 q7 q8 q9 q10 q11 q12 q13 q14 q15 q16 q17 q18 q19 q20 q21 q22 q23 q24) ?_
  exact fin _ (yG (yA A a m q1 q2 q3 q4 q5 q6 q7 q8 q9 q10 q11 q12 q13 q14 q15 q16 q17 q18 q19 q20 q21 q22 q23 q24)) (by omega) ⟨1, 0, 0, zR_yG _⟩
set_option maxHeartbeats 4000000 in
/-- YOUR PART: from the entry, for every script of at most 3072 ints, the law comes to its end with true ('hflags': the launch's flags, for a law that throws: no stack traces) -/
theorem whole_start {p : Program} {e : Env} {s : State} {m : MethodId} {below : List Frame} {meth : Method} {c : Code} (l : Launch) (hflags : l.flags = flags0) {b L : Nat} {xs : Nat → Int32} (hL : L ≤ 3072) (C0 : lw_At p s m meth c b L xs) : W p l e room_1 s m #[Value.ref b] below meth c s.heap [] 0 0 (lw_Z below #[Value.ref b] s) (entryFrame m ([Value.ref b] : List Value).toArray 4) := by
  obtain ⟨hx, hb, hr, hml, hown, hts, hX, hbl, hlocks, hgv⟩ := id C0
  have hA : ∀ q : Nat, s.heap.size ≤ q → (fun q : Nat => s.heap.size ≤ q) q := fun _ h => h
  have hbA : ¬ (fun q : Nat => s.heap.size ≤ q) b := Nat.not_le.mpr hbl
  have htz : ∀ w ∈ zall, w.before #[Value.ref b] s = true := fun w h => hts w (zall_tbl h)
  have hao : yAO s := ⟨va_AO.of (hts _ yao_0), va_AO.of (hts _ yao_1), va_AO.of (hts _ yao_2)⟩
  obtain ⟨k0, i0, hK0⟩ := u_known (C := RX0) (T := TX0) (N := 5) (n := 5) htz zu_X0 (htz _ zins_X0)
  obtain ⟨k1, i1, hK1⟩ := u_known (C := RX1) (T := TX1) (N := 6) (n := 6) htz zu_X1 (htz _ zins_X1)
  obtain ⟨k2, i2, hK2⟩ := u_known (C := RX2) (T := TX2) (N := 4) (n := 4) htz zu_X2 (htz _ zins_X2)
  obtain ⟨k3, i3, hK3⟩ := u_known (C := RX3) (T := TX3) (N := 7) (n := 7) htz zu_X3 (htz _ zins_X3)
  obtain ⟨k4, i4, hK4⟩ := u_known (C := RX4) (T := TX4) (N := 8) (n := 8) htz zu_X4 (htz _ zins_X4)
  obtain ⟨k5, i5, hK5⟩ := u_known (C := RX5) (T := TX5) (N := 31) (n := 31) htz zu_X5 (htz _ zins_X5)
  obtain ⟨a0, hA0⟩ := lArrI (htz _ yarr_I)
  obtain ⟨a1, hA1⟩ := lArrZ (htz _ yarr_Z)
  obtain ⟨a2, hA2⟩ := lOver hao.1
  obtain ⟨a3, hA3⟩ := lOver hao.2.1
  obtain ⟨a4, hA4⟩ := lOver hao.2.2
  obtain ⟨X, hKX⟩ : ∃ X : zX, va_K X.1 zcl (z_tys X) s := by
    refine ⟨((fun k => match k with | 0 => k0 | 1 => k1 | 2 => k2 | 3 => k3 | 4 => k4 | _ => k5, fun k => match k with | 0 => i0 | 1 => i1 | 2 => i2 | 3 => i3 | 4 => i4 | _ => i5), fun k => match k with | 0 => a0 | 1 => a1 | 2 => a2 | 3 => a3 | _ => a4), ?_, ?_⟩
    · intro k q hq
      match k, hq with
      | 0, hq => cases hq; exact hK0
      | 1, hq => cases hq; exact hK1
      | 2, hq => cases hq; exact hK2
      | 3, hq => cases hq; exact hK3
      | 4, hq => cases hq; exact hK4
      | 5, hq => cases hq; exact hK5
      | k + 6, hq => simp [zcl] at hq
    · intro k q hq
      match k, hq with
      | 0, hq => cases hq; exact hA0
      | 1, hq => cases hq; exact hA1
      | 2, hq => cases hq; exact hA2
      | 3, hq => cases hq; exact hA3
      | 4, hq => cases hq; exact hA4
      | k + 5, hq => simp [z_tys] at hq
  have hSt : zS X s := ⟨hKX, fun q hq => va_Nw.of rfl (hts _ (zNF_tbl q hq)), fun q hq => va_Nw.of rfl (hts _ (zNM_tbl q hq))⟩
  have hY : yCtx l X cL_law RL 4 20 100000 false true (fun n wl pc lv st => Yj p l e room_1 s m #[Value.ref b] below meth c (0 + n) (0 + 4 * n) (lw_Z below #[Value.ref b] s) (fun q : Nat => s.heap.size ≤ q) s.heap 4 X wl pc lv st) :=
    ⟨p, e, room_1, s, m, #[Value.ref b], below, meth, c, 0, 0, _, _, s.heap, rfl, hx, hb, hml, hown, htz, hSt, hA, Nat.le_of_ble_eq_true rfl, Nat.le_of_ble_eq_true rfl, Nat.le_of_ble_eq_true rfl, Nat.le_of_ble_eq_true rfl, (fun h => by cases h), fun _ => hao⟩
  have hC : zCtx l X cL_law RL 4 20 4000 (fun n G pc lv st => Zj p l e room_1 s m #[Value.ref b] below meth c (5000 + n) (20000 + 4 * n) (lw_Z below #[Value.ref b] s) (fun q : Nat => s.heap.size ≤ q) s.heap 4 X G pc lv st) :=
    ⟨p, e, room_1, s, m, #[Value.ref b], below, meth, c, 5000, 20000, _, _, s.heap, rfl, hx, hb, hml, hown, htz, hSt, hA, Nat.le_of_ble_eq_true rfl, Nat.le_of_ble_eq_true rfl, Nat.le_of_ble_eq_true rfl, Nat.le_of_ble_eq_true rfl⟩
  have hS2 : lSld b L xs (fun n G pc lv st => Zj p l e room_1 s m #[Value.ref b] below meth c (5000 + n) (20000 + 4 * n) (lw_Z below #[Value.ref b] s) (fun q : Nat => s.heap.size ≤ q) s.heap 4 X G pc lv st) := by
    intro w G pc lv st j hj hd k H locs ls hP hD hS hl
    refine va_sld hx hb hX hbl hbA hS (vp_in_nI hj (by omega)) hd ?_
    rw [nI_clamp (by omega)]
    exact k H locs ls hP hD hS hl
  have hN2 : lSlen b L (fun n G pc lv st => Zj p l e room_1 s m #[Value.ref b] below meth c (5000 + n) (20000 + 4 * n) (lw_Z below #[Value.ref b] s) (fun q : Nat => s.heap.size ≤ q) s.heap 4 X G pc lv st) := by
    intro w G pc lv st hd k H locs ls hP hD hS hl
    exact va_slen hx hb hX hbl hbA hS hd (k H locs ls hP hD hS hl)
  have hE2 : lEnd 4000 (fun n G pc lv st => Zj p l e room_1 s m #[Value.ref b] below meth c (5000 + n) (20000 + 4 * n) (lw_Z below #[Value.ref b] s) (fun q : Nat => s.heap.size ≤ q) s.heap 4 X G pc lv st) := by
    intro w G pc lv hw hd H locs ls hP hD hS hl
    exact va_forget hS.2.2 (W.widen (k := 600000) (n := 7302250) (by omega) (by omega) (lw_ret hx hb hr hlocks hd))
  have key := law_start (b := b) hY (fun w K hw hK H locs ls hP hD hS hl => W.widen (k := 5000 + 0) (n := 20000 + 4 * 0) (by omega) (by omega) (w_loop hC hS2 hN2 hE2 hL (by decide) (L + 1) 0 0 K (Nat.zero_le L) (by omega) (Nat.le_refl 0) hK H locs ls hP hD hS hl))
  rw [lg_entry_eq]
  exact key s.heap [] _ (fun k q h => by simp at h) ⟨fun i j p q h => by simp at h, fun k q h => by simp at h⟩ va_S.rf (zlv_entry [Value.ref b] 4 (Nat.le_of_ble_eq_true rfl) (zcat rfl))
set_option maxHeartbeats 4000000 in
theorem lw_walk (l : Launch) (hflags : l.flags = flags0) (b : Addr) (xs : List Int32) : MetFree l x (headSpec (Jvm.Cond.code x code maxLocals ret :: tables_1) room_1) (lw_P b xs) (fun _ _ _ _ _ => True) lw_Q := by
  refine MetFree.of_bodyS (code := code) (maxLocals := maxLocals) (ret := ret) (by decide) ?_ ?_
  · intro args s m h hn
    obtain ⟨meth, c, h1, h2, h3, h4, h5, h6, -, -⟩ := Cond.code_spec hn (atoms_spec (ws := Jvm.Cond.code x code maxLocals ret :: tables_1) h _ List.mem_cons_self)
    exact ⟨meth, c, h1, h2, h3, h4, h5, h6⟩
  · intro p e s m args below meth c s₁ B hml0 hP _
    obtain ⟨rfl, hx, hbd, hgv⟩ := hP
    obtain ⟨scr, harrAt, hlist, hof, hsmall⟩ := hx
    obtain ⟨hcb, hkn, -, -⟩ := State.arrayAt?_spec harrAt
    have hown : s.vm.findClass R_law = some m.cls := findClass_of_methodNamed B.named
    have hts0 : ∀ c ∈ (Jvm.Cond.code x code maxLocals ret :: tables_1), c.before #[Value.ref b] s = true := atoms_spec (ws := Jvm.Cond.code x code maxLocals ret :: tables_1) B.pre
    have hts : ∀ w ∈ lw_tbl, w.before #[Value.ref b] s = true := k2_hts_sels lw_privs (fun w hw => hts0 w (List.mem_cons_of_mem _ hw)) lw_privs_ok
    have hml : c.maxLocals = 4 := B.maxLocals_eq (hts0 _ List.mem_cons_self)
    have X₀ : Stand p l e room_1 s m #[Value.ref b] below meth c s₁ [] 0 0 := Stand.of_body B
    have hh0 : s₁.heap = s.heap := by rw [B.state]; rfl
    have hsz : scr.slots.size = xs.length := by rw [← Array.length_toList, hlist, List.length_map]
    have hval : ∀ j : Nat, j < xs.length → scr.slots[j]? = some (.int (xs.getD j 0)) := fun j hj => by
      rw [← Array.getElem?_toList, hlist]
      simp [hj]
    have hbl : b < s.heap.size := (Array.getElem?_eq_some_iff.mp hcb).1
    have hX : va_X b xs.length (fun j => xs.getD j 0) s s.heap := ⟨scr, hcb, hof, hkn, hsz, hval⟩
    have K : W p l e room_1 s m #[Value.ref b] below meth c s₁.heap [] 0 0 (lw_Z below #[Value.ref b] s) (entryFrame m ([Value.ref b] : List Value).toArray 4) := by
      rw [hh0]
      exact whole_start l hflags hbd ⟨B.exec, B.bytes, B.returns, hml, hown, hts, hX, hbl, B.notSynchronized, hgv⟩
    obtain ⟨t, a1, o, b1, b2, b3⟩ := K s₁ rfl X₀
    exact ⟨t, o, a1, b1, b2, b3⟩
theorem lw_pre_spec {args : Array Value} {s : State} (h : (Jvm.Cond.and given_1 narrow_1).before args s = true) (hr : rest_1_c.before args s = true) : ∃ (b : Addr) (xs : List Int32), lw_P b xs args s := by
  have hs := flat_of_before _ h
  have hq := flat_of_before _ hr
  have hc : (Cond.count 1).before args s = true := hs _ (by decide +kernel)
  have harr : (Cond.arrayOf (.arg 0) .int).before args s = true := hs _ (by decide +kernel)
  have hle : (Cond.le (.length (.arg 0)) (.int 3072)).before args s = true := hs _ (by decide +kernel)
  have hlen : (Cond.isInt (.length (.arg 0))).before args s = true := hq _ (by decide +kernel)
  have hall : (Cond.all (.arg 0) (.isInt (.elem (.arg 0) (.index 0)))).before args s = true := hq _ (by decide +kernel)
  obtain ⟨b, xs, hb, hx⟩ := State.ints_of_pre rfl harr hlen hall
  have hsm : xs.length < 2 ^ 31 := hx.choose_spec.2.2.2
  have hev : (Term.length (.arg 0)).eval args s none [] s = some (.int xs.length.toInt32) := hx.length_eval hb
  have hv := Cond.le_ints hev (show (Term.int 3072).eval args s none [] s = some (.int 3072) from rfl)
  have hd : xs.length.toInt32 ≤ 3072 := by
    simpa [Cond.before, Cond.holds, hv] using hle
  have hN : xs.length ≤ 3072 := (Int32.ofNat_le_ofNat hsm (by decide)).mp (show Int32.ofNat xs.length ≤ Int32.ofNat 3072 from hd)
  exact ⟨b, xs, Cond.one_arg hc (show args[0]? = some (.ref b) from hb), hx, hN, h⟩
theorem lw_comes (l : Launch) (hflags : l.flags = flags0) : Comes l x (Jvm.Cond.code x code maxLocals ret :: tables_1) room_1 (fun tb e args s => Calls_1 tb e args s ∧ rest_1 tb e args s ∧ Pre_1 tb e args s)
    (fun _ _ args s o t => lw_Q args s o t) := by
  intro p e ha hc hk s m args below hf hfit hheap happ hpre
  obtain ⟨b, xs, hP⟩ := lw_pre_spec hpre.2.2 hpre.2.1
  obtain ⟨k, o, h1, h2, h3, hQ⟩ := lw_walk l hflags b xs p e ha hc hk s m args below hf ((Spec.applies_iff_loose hf).mp happ).1 hP trivial
  exact ⟨k, o, h1, h2, h3, hQ⟩
theorem lw_frame {s t : State} {o : Outcome} {args : Array Value} (h : Framed s o t [] 600000 7302250) :
    Framed s o t (fieldLocs frame_1_writes args s ++ arrayLocs frame_1_arrays args s ++ staticLocs frame_1_statics s) 600000 7302250 := h
theorem lw_limb (L : Cond) (hL : ∀ (args : Array Value) (s t : State), L.after args s (.returned (some (.int 1))) t = true) :
    ArmFor flags0 classFile x code maxLocals ret World_1 tables_1 room_1 Calls_1 rest_1 Pre_1
      (fun tb e a s o t => postC L tb e a s o t ∧ Framed s o t (fieldLocs frame_1_writes a s ++ arrayLocs frame_1_arrays a s ++ staticLocs frame_1_statics s) 600000 7302250) := by
  intro l hflags _ _ p e ha hc hk s m args below hf hfit hheap happ hpre
  obtain ⟨k, o, h1, h2, h3, rfl, hF⟩ := lw_comes l hflags p e ha hc hk s m args below hf hfit hheap happ hpre
  exact ⟨k, _, h1, h2, h3, hL args s _, lw_frame hF⟩
theorem i_vc : Claimed_1_1 ∧ Claimed_1_2 := ⟨lw_limb limb_1_1 (fun args s t => by simp [limb_1_1, Cond.after, Cond.holds, Cond.value]), lw_limb limb_1_2 (fun args s t => Cond.after_iff.mpr (by
  first | (rw [show limb_1_2 = Cond.eq .result (.int 1) from rfl, Cond.eq_ints (x := 1) (y := 1) rfl rfl]; simp; done) | (simp [limb_1_2, Cond.value, Term.eval]; done)))⟩

/-! worlds as lists: what constructors make -/
def Yj (p : Program) (l : Launch) (e : Env) (R : Room) (s : State) (m : MethodId) (args : Array Value) (below : List Frame) (meth : Method) (c : Code) (cells slots : Nat) (Q : State → Prop) (A : Nat → Prop) (H0 : Heap) (nL : Nat) (X : zX) (wl : va_W) (pc : Nat) (lv : List (Option Value)) (st : List Value) : Prop :=
  ∀ (H : Heap) (locs : List Loc) (ls : Array Slot), va_P X.1 zcl wl H → va_D A wl → va_S A H0 H locs → zlv ls nL lv → W p l e R s m args below meth c H locs cells slots Q (F0 m pc ls st)
abbrev yZ : Type := Nat → va_W → Nat → List (Option Value) → List Value → Prop
def yAO (s : State) : Prop := va_AO RX0 s ∧ va_AO RX1 s ∧ va_AO RX2 s
def yCtx (l : Launch) (X : zX) (cc : ByteArray) (own : String) (nL lev bud : Nat) (ini ao : Bool) (Y : yZ) : Prop :=
  ∃ (p : Program) (e : Env) (R : Room) (s : State) (m : MethodId) (args : Array Value) (below : List Frame) (meth : Method) (c : Code) (c0 s0 : Nat) (Q : State → Prop) (A : Nat → Prop) (H0 : Heap),
    Y = (fun n wl pc lv st => Yj p l e R s m args below meth c (c0 + n) (s0 + 4 * n) Q A H0 nL X wl pc lv st) ∧ p.tables.exec = Jvm.exec ∧ c.code = cc ∧ c.maxLocals = nL ∧ s.vm.findClass own = some m.cls ∧ (∀ w ∈ zall, w.before args s = true) ∧ zS X s ∧ (∀ q : Nat, H0.size ≤ q → A q) ∧ lev ≤ R.frames ∧ 4000 + 40 * lev ≤ R.locals ∧ c0 + bud ≤ R.cells ∧ s0 + 4 * bud ≤ R.slots ∧ (ini = true → meth.name = "<init>") ∧ (ao = true → yAO s)
theorem zCtx.y {l : Launch} {X : zX} {cc : ByteArray} {own : String} {nL lev bud : Nat} {Z : zZ} (hC : zCtx l X cc own nL lev bud Z) : ∃ Y : yZ, yCtx l X cc own nL lev bud false false Y ∧ ∀ n G pc lv st, Y n (z_ls X G) pc lv st ↔ Z n G pc lv st := by
  obtain ⟨p, e, R, s, m, args, below, meth, c, c0, s0, Q, A, H0, rfl, hx, hb, hml, hown, hts, hSt, hA, hl1, hl2, hl3, hl4⟩ := hC
  exact ⟨_, ⟨p, e, R, s, m, args, below, meth, c, c0, s0, Q, A, H0, rfl, hx, hb, hml, hown, hts, hSt, hA, hl1, hl2, hl3, hl4, (fun h => by cases h), (fun h => by cases h)⟩, fun n G pc lv st => Iff.rfl⟩
def yPre (X : zX) (ao : Bool) (as : List Value) (wl : va_W) (sz : Nat) : Array Value → State → Prop := fun v U => v = as.toArray ∧ U.heap.size = sz ∧ va_P X.1 zcl wl U.heap ∧ va_D (fun _ => True) wl ∧ zS X U ∧ (ao = true → yAO U)
def yQc (X : zX) (P : va_W → Prop) (A : Nat → Prop) : Array Value → State → Outcome → State → Prop := va_Qv P (fun wl' t => va_P X.1 zcl wl' t.heap ∧ va_D A wl') A
def yC (l : Launch) (y : MethodName) (b : ByteArray) (nL lev bud : Nat) (X : zX) (ao : Bool) (as : List Value) (wl : va_W) (P : va_W → Prop) : Prop :=
  ∀ sz : Nat, Met l y (.code y b nL none :: zall) (zRm lev bud) (yPre X ao as wl sz) (yQc X P (va_A wl sz)) bud (4 * bud) (va_A wl sz)
def yEnd (cc : ByteArray) (bud : Nat) (P : va_W → Prop) (Y : yZ) : Prop := ∀ (w : Nat) (wl : va_W) (pc : Nat) (lv : List (Option Value)), w ≤ bud → decode cc pc = .ok (.return_, 1) → P wl → Y w wl pc lv []
set_option maxHeartbeats 1000000 in
theorem yC_of {l : Launch} {y : MethodName} {cc : ByteArray} {nL lev bud : Nat} {X : zX} {ao : Bool} {as : List Value} {wl : va_W} {P : va_W → Prop} (ini : Bool) (hini : ini = true → y.name = "<init>") (hy : plainName y.cls = true) (hc : ∀ v ∈ as, v.category = 1) (hn : as.length ≤ nL)
    (body : ∀ Y : yZ, yCtx l X cc y.cls nL lev bud ini ao Y → yEnd cc bud P Y → Y 0 wl 0 (as.map some ++ List.replicate (nL - as.length) none) []) : yC l y cc nL lev bud X ao as wl P := by
  intro sz
  refine Met.ofW (cc := cc) (maxL := nL) (ret := none) hy rfl ?_
  intro p e s m args below meth c s₁ B hml hv
  obtain ⟨rfl, hsz, hP, hD, hSt, hao⟩ := hv
  subst hsz
  have hts := atoms_spec (ws := Cond.code y cc nL none :: zall) B.pre
  have hown : s.vm.findClass y.cls = some m.cls := findClass_of_methodNamed B.named
  have hlocks := B.notSynchronized
  have hx := B.exec
  have hb := B.bytes
  have hr := B.returns
  have hin := (name_of_methodNamed B.named B.method).1
  rw [lg_entry_eq]
  have key := body (fun n wl' pc lv st => Yj p l e (zRm lev bud) s m as.toArray below meth c (0 + n) (0 + 4 * n) (MQ below (yQc X P (va_A wl s.heap.size)) as.toArray s bud (4 * bud) (va_A wl s.heap.size)) (va_A wl s.heap.size) s.heap nL X wl' pc lv st)
    ⟨p, e, zRm lev bud, s, m, as.toArray, below, meth, c, 0, 0, _, va_A wl s.heap.size, s.heap, rfl, hx, hb, hml, hown, fun w hw => hts w (List.mem_cons_of_mem _ hw), hSt, fun q h => Or.inr h, Nat.le_refl _, Nat.le_refl _, by simp [zRm], by simp [zRm], fun h => hin.trans (hini h), hao⟩
    (fun w wl' pc lv hw hd hp H locs ls hP' hD' hS' hl => W.widen (k := bud) (n := 4 * bud) (by omega) (by omega) (W.vret hx hb hr (fun t ht hW => ⟨⟨wl', rfl, hp, by rw [ht]; exact hP', hD'⟩, hS'.F ht⟩) hS'.2.2 hd))
  exact key s.heap [] _ hP hD.self va_S.rf (zlv_entry as nL hn hc)
/-- behind a call: what the callee did not have stays -/
theorem y_join {A0 : Nat → Prop} {D : va_G} {cl : List vw_C} {wr wc w1 : va_W} {H H1 : Heap} (hP : va_P D cl (wr ++ wc) H) (hD : va_D A0 (wr ++ wc)) (hk : ∀ q : Nat, q < H.size → ¬ va_A wc H.size q → H1[q]? = H[q]?) (hF : ∀ q, va_A wc H.size q → A0 q) (hP1 : va_P D cl w1 H1) (hD1 : va_D (va_A wc H.size) w1) : va_P D cl (wr ++ w1) H1 ∧ va_D A0 (wr ++ w1) := by
  have inl : ∀ (k : Nat) (q : Nat × va_E), wr[k]? = some q → (wr ++ wc)[k]? = some q ∧ k < wr.length := fun k q h => by
    have hk := (List.getElem?_eq_some_iff.mp h).1
    exact ⟨by rw [List.getElem?_append_left hk]; exact h, hk⟩
  have inr : ∀ (k : Nat) (q : Nat × va_E), wc[k]? = some q → (wr ++ wc)[wr.length + k]? = some q := fun k q h => by
    rw [List.getElem?_append_right (by omega), show wr.length + k - wr.length = k by omega]
    exact h
  have apart : ∀ (k : Nat) (q : Nat × va_E), wr[k]? = some q → q.1 < H.size ∧ ¬ va_A wc H.size q.1 := by
    intro k q hq
    obtain ⟨h1, h2⟩ := inl k q hq
    have hl := (hP k q h1).lt
    refine ⟨hl, fun h => ?_⟩
    rcases h with ⟨k2, e, h⟩ | h
    · have hij := hD.1 k (wr.length + k2) q (q.1, e) h1 (inr k2 _ h) rfl
      omega
    · omega
  refine ⟨va_P.app (fun k q hq => ?_) hP1, va_D.app ⟨fun i j x y hi hj hxy => hD.1 i j x y (inl i x hi).1 (inl j y hj).1 hxy, fun k q hk => hD.2 k q (inl k q hk).1⟩ (hD1.weaken (fun k q _ h => hF q.1 h)) (fun i j x y hx hy hxy => ?_)⟩
  · obtain ⟨g1, g2⟩ := apart k q hq
    exact (hP k q (inl k q hq).1).kept (hk q.1 g1 g2)
  · exact (apart i x hx).2 (by rw [hxy]; exact hD1.2 j y hy)
set_option maxRecDepth 20000 in
theorem yarr_I : Cond.arrayClass .int ∈ zall := zmem (n := 97) rfl rfl
set_option maxRecDepth 20000 in
theorem yarr_Z : Cond.arrayClass .boolean ∈ zall := zmem (n := 156) rfl rfl
set_option maxRecDepth 20000 in
theorem yob_c : Cond.code objectInit ⟨#[0xb1]⟩ 1 none ∈ zall := zmem (n := 61) rfl rfl
set_option maxRecDepth 20000 in
theorem yob_i : Cond.instanceMethod objectInit ∈ zall := zmem (n := 60) rfl rfl
set_option maxRecDepth 20000 in
theorem yob_X4 : Cond.methodLink RX4 1 objectInit ∈ zall := zmem (n := 59) rfl rfl
set_option maxRecDepth 20000 in
theorem yob_X0 : Cond.methodLink RX0 3 objectInit ∈ zall := zmem (n := 72) rfl rfl
set_option maxRecDepth 20000 in
theorem yob_X1 : Cond.methodLink RX1 3 objectInit ∈ zall := zmem (n := 102) rfl rfl
set_option maxRecDepth 20000 in
theorem yob_X3 : Cond.methodLink RX3 3 objectInit ∈ zall := zmem (n := 108) rfl rfl
set_option maxRecDepth 20000 in
theorem yob_X2 : Cond.methodLink RX2 1 objectInit ∈ zall := zmem (n := 365) rfl rfl
set_option maxRecDepth 20000 in
theorem yob_X5 : Cond.methodLink RX5 1 objectInit ∈ zall := zmem (n := 492) rfl rfl
section YR
variable {l : Launch} {X : zX} {cc : ByteArray} {own : String} {nL lev bud : Nat} {ini ao : Bool} {Y : yZ} {w : Nat} {wl : va_W} {pc : Nat} {lv : List (Option Value)} {st : List Value}
theorem y_eq {Y : yZ} {wl2 : va_W} (h : wl = wl2) (k : Y w wl2 pc lv st) : Y w wl pc lv st := h ▸ k
theorem y_lv {Y : yZ} {lv2 : List (Option Value)} (h : lv = lv2) (k : Y w wl pc lv2 st) : Y w wl pc lv st := h ▸ k
theorem y_widen (hC : yCtx l X cc own nL lev bud ini ao Y) {w2 : Nat} (h : w ≤ w2) (k : Y w2 wl pc lv st) : Y w wl pc lv st := by
  obtain ⟨p, e, R, s, m, args, below, meth, c, c0, s0, Q, A, H0, rfl, hx, hb, hml, hown, hts, hSt, hA, hl1, hl2, hl3, hl4, hin, hao⟩ := hC
  exact fun H locs ls hP hD hS hl => W.widen (k := c0 + w2) (n := s0 + 4 * w2) (by omega) (by omega) (k H locs ls hP hD hS hl)
theorem y_perm (hC : yCtx l X cc own nL lev bud ini ao Y) {wl2 : va_W} (is : List Nat) (hn : va_nd is = true) (h1 : is.filterMap (fun i => wl[i]?) = wl2) (h2 : is.map (fun i => wl[i]?) = wl2.map some) (k : Y w wl2 pc lv st) : Y w wl pc lv st := by
  obtain ⟨p, e, R, s, m, args, below, meth, c, c0, s0, Q, A, H0, rfl, hx, hb, hml, hown, hts, hSt, hA, hl1, hl2, hl3, hl4, hin, hao⟩ := hC
  exact fun H locs ls hP hD hS hl => k H locs ls (hP.sub is h1) (hD.sub is hn h2) hS hl
theorem y_iconst (hC : yCtx l X cc own nL lev bud ini ao Y) {n : Int} {v : Int32} (hd : decode cc pc = .ok (.iconst n, 1)) (hv : Int32.ofInt n = v) (k : Y w wl (pc + 1) lv (.int v :: st)) : Y w wl pc lv st := by
  obtain ⟨p, e, R, s, m, args, below, meth, c, c0, s0, Q, A, H0, rfl, hx, hb, hml, hown, hts, hSt, hA, hl1, hl2, hl3, hl4, hin, hao⟩ := hC
  exact fun H locs ls hP hD hS hl => lv_iconst hx hb hd hv (k H locs ls hP hD hS hl)
theorem y_bipush (hC : yCtx l X cc own nL lev bud ini ao Y) {n : Int} {v : Int32} (hd : decode cc pc = .ok (.bipush n, 2)) (hv : (Int8.ofInt n).toInt32 = v) (k : Y w wl (pc + 2) lv (.int v :: st)) : Y w wl pc lv st := by
  obtain ⟨p, e, R, s, m, args, below, meth, c, c0, s0, Q, A, H0, rfl, hx, hb, hml, hown, hts, hSt, hA, hl1, hl2, hl3, hl4, hin, hao⟩ := hC
  exact fun H locs ls hP hD hS hl => lv_bipush hx hb hd hv (k H locs ls hP hD hS hl)
theorem y_sipush (hC : yCtx l X cc own nL lev bud ini ao Y) {n : Int} {v : Int32} (hd : decode cc pc = .ok (.sipush n, 3)) (hv : (Int16.ofInt n).toInt32 = v) (k : Y w wl (pc + 3) lv (.int v :: st)) : Y w wl pc lv st := by
  obtain ⟨p, e, R, s, m, args, below, meth, c, c0, s0, Q, A, H0, rfl, hx, hb, hml, hown, hts, hSt, hA, hl1, hl2, hl3, hl4, hin, hao⟩ := hC
  exact fun H locs ls hP hD hS hl => lv_sipush hx hb hd hv (k H locs ls hP hD hS hl)
theorem y_lconst (hC : yCtx l X cc own nL lev bud ini ao Y) {n : Fin 2} {v : Int64} (hd : decode cc pc = .ok (.lconst n, 1)) (hv : Int64.ofNat (n : Nat) = v) (k : Y w wl (pc + 1) lv (.long v :: st)) : Y w wl pc lv st := by
  obtain ⟨p, e, R, s, m, args, below, meth, c, c0, s0, Q, A, H0, rfl, hx, hb, hml, hown, hts, hSt, hA, hl1, hl2, hl3, hl4, hin, hao⟩ := hC
  exact fun H locs ls hP hD hS hl => lv_lconst hx hb hd hv (k H locs ls hP hD hS hl)
theorem y_ilN (hC : yCtx l X cc own nL lev bud ini ao Y) {j : Fin 4} {i : Nat} {x : Int32} (hd : decode cc pc = .ok (.iload_n j, 1)) (hi : (j : Nat) = i) (h : lv[i]? = some (some (.int x))) (k : Y w wl (pc + 1) lv (.int x :: st)) : Y w wl pc lv st := by
  obtain ⟨p, e, R, s, m, args, below, meth, c, c0, s0, Q, A, H0, rfl, hx, hb, hml, hown, hts, hSt, hA, hl1, hl2, hl3, hl4, hin, hao⟩ := hC
  exact fun H locs ls hP hD hS hl => lv_iload_n hx hb hd hi (hl.2.2 i _ h).1 (k H locs ls hP hD hS hl)
theorem y_ilW (hC : yCtx l X cc own nL lev bud ini ao Y) {i : Nat} {x : Int32} (hd : decode cc pc = .ok (.iload i, 2)) (h : lv[i]? = some (some (.int x))) (k : Y w wl (pc + 2) lv (.int x :: st)) : Y w wl pc lv st := by
  obtain ⟨p, e, R, s, m, args, below, meth, c, c0, s0, Q, A, H0, rfl, hx, hb, hml, hown, hts, hSt, hA, hl1, hl2, hl3, hl4, hin, hao⟩ := hC
  exact fun H locs ls hP hD hS hl => lv_iload hx hb hd (hl.2.2 i _ h).1 (k H locs ls hP hD hS hl)
theorem y_alN (hC : yCtx l X cc own nL lev bud ini ao Y) {j : Fin 4} {i : Nat} {x : Nat} (hd : decode cc pc = .ok (.aload_n j, 1)) (hi : (j : Nat) = i) (h : lv[i]? = some (some (.ref x))) (k : Y w wl (pc + 1) lv (.ref x :: st)) : Y w wl pc lv st := by
  obtain ⟨p, e, R, s, m, args, below, meth, c, c0, s0, Q, A, H0, rfl, hx, hb, hml, hown, hts, hSt, hA, hl1, hl2, hl3, hl4, hin, hao⟩ := hC
  exact fun H locs ls hP hD hS hl => lv_aload_n hx hb hd hi (hl.2.2 i _ h).1 (k H locs ls hP hD hS hl)
theorem y_alW (hC : yCtx l X cc own nL lev bud ini ao Y) {i : Nat} {x : Nat} (hd : decode cc pc = .ok (.aload i, 2)) (h : lv[i]? = some (some (.ref x))) (k : Y w wl (pc + 2) lv (.ref x :: st)) : Y w wl pc lv st := by
  obtain ⟨p, e, R, s, m, args, below, meth, c, c0, s0, Q, A, H0, rfl, hx, hb, hml, hown, hts, hSt, hA, hl1, hl2, hl3, hl4, hin, hao⟩ := hC
  exact fun H locs ls hP hD hS hl => lv_aload hx hb hd (hl.2.2 i _ h).1 (k H locs ls hP hD hS hl)
theorem y_isN (hC : yCtx l X cc own nL lev bud ini ao Y) {j : Fin 4} {i : Nat} {x : Int32} (hd : decode cc pc = .ok (.istore_n j, 1)) (hi : (j : Nat) = i) (hn : i < nL) (k : Y w wl (pc + 1) (lv.set i (some (.int x))) st) : Y w wl pc lv (.int x :: st) := by
  obtain ⟨p, e, R, s, m, args, below, meth, c, c0, s0, Q, A, H0, rfl, hx, hb, hml, hown, hts, hSt, hA, hl1, hl2, hl3, hl4, hin, hao⟩ := hC
  exact fun H locs ls hP hD hS hl => lv_istore_n hx hb hd hi hl.has hn rfl (fun ls2 h2 => k H locs ls2 hP hD hS (hl.put rfl h2))
theorem y_asN (hC : yCtx l X cc own nL lev bud ini ao Y) {j : Fin 4} {i : Nat} {x : Nat} (hd : decode cc pc = .ok (.astore_n j, 1)) (hi : (j : Nat) = i) (hn : i < nL) (k : Y w wl (pc + 1) (lv.set i (some (.ref x))) st) : Y w wl pc lv (.ref x :: st) := by
  obtain ⟨p, e, R, s, m, args, below, meth, c, c0, s0, Q, A, H0, rfl, hx, hb, hml, hown, hts, hSt, hA, hl1, hl2, hl3, hl4, hin, hao⟩ := hC
  exact fun H locs ls hP hD hS hl => lv_astore_n hx hb hd hi hl.has hn rfl (fun ls2 h2 => k H locs ls2 hP hD hS (hl.put rfl h2))
theorem y_iinc (hC : yCtx l X cc own nL lev bud ini ao Y) {i : Nat} {n : Int} {x v : Int32} (hd : decode cc pc = .ok (.iinc i n, 3)) (h : lv[i]? = some (some (.int x))) (hv : x + Int32.ofInt n = v) (hn : i < nL) (k : Y w wl (pc + 3) (lv.set i (some (.int v))) st) : Y w wl pc lv st := by
  obtain ⟨p, e, R, s, m, args, below, meth, c, c0, s0, Q, A, H0, rfl, hx, hb, hml, hown, hts, hSt, hA, hl1, hl2, hl3, hl4, hin, hao⟩ := hC
  intro H locs ls hP hD hS hl
  obtain ⟨k0, hk0⟩ := List.getElem?_of_mem ((zpr_mem lv 0 (i, .int x)).mpr ⟨i, (Nat.zero_add i).symm, h⟩)
  exact lv_iinc hx hb hd hl.has hk0 hv hn rfl (fun ls2 h2 => k H locs ls2 hP hD hS (hl.put rfl h2))
theorem y_dup (hC : yCtx l X cc own nL lev bud ini ao Y) {v : Value} (hd : decode cc pc = .ok (.dup, 1)) (hv : v.category = 1) (k : Y w wl (pc + 1) lv (v :: v :: st)) : Y w wl pc lv (v :: st) := by
  obtain ⟨p, e, R, s, m, args, below, meth, c, c0, s0, Q, A, H0, rfl, hx, hb, hml, hown, hts, hSt, hA, hl1, hl2, hl3, hl4, hin, hao⟩ := hC
  exact fun H locs ls hP hD hS hl => lv_dup hx hb hd hv (k H locs ls hP hD hS hl)
theorem y_goto (hC : yCtx l X cc own nL lev bud ini ao Y) {off : Int} (tgt : Nat) (hd : decode cc pc = .ok (.goto off, 3)) (ht : (pc : Int) + off = (tgt : Int)) (k : Y w wl tgt lv st) : Y w wl pc lv st := by
  obtain ⟨p, e, R, s, m, args, below, meth, c, c0, s0, Q, A, H0, rfl, hx, hb, hml, hown, hts, hSt, hA, hl1, hl2, hl3, hl4, hin, hao⟩ := hC
  exact fun H locs ls hP hD hS hl => lv_goto hx hb hd ht (k H locs ls hP hD hS hl)
theorem y_icmp_ge (hC : yCtx l X cc own nL lev bud ini ao Y) {x y : Int32} {off : Int} (tgt : Nat) (hd : decode cc pc = .ok (.if_icmp .ge off, 3)) (ht : (pc : Int) + off = (tgt : Int)) (kt : y ≤ x → Y w wl tgt lv st) (kf : ¬ y ≤ x → Y w wl (pc + 3) lv st) : Y w wl pc lv (.int y :: .int x :: st) := by
  obtain ⟨p, e, R, s, m, args, below, meth, c, c0, s0, Q, A, H0, rfl, hx, hb, hml, hown, hts, hSt, hA, hl1, hl2, hl3, hl4, hin, hao⟩ := hC
  exact fun H locs ls hP hD hS hl => lv_icmp_ge hx hb hd ht (fun h => kt h H locs ls hP hD hS hl) (fun h => kf h H locs ls hP hD hS hl)
theorem y_iadd (hC : yCtx l X cc own nL lev bud ini ao Y) {x y : Int32} (hd : decode cc pc = .ok (.iadd, 1)) (k : Y w wl (pc + 1) lv (.int (x + y) :: st)) : Y w wl pc lv (.int y :: .int x :: st) := by
  obtain ⟨p, e, R, s, m, args, below, meth, c, c0, s0, Q, A, H0, rfl, hx, hb, hml, hown, hts, hSt, hA, hl1, hl2, hl3, hl4, hin, hao⟩ := hC
  exact fun H locs ls hP hD hS hl => lv_iadd hx hb hd (k H locs ls hP hD hS hl)
theorem y_obj (hC : yCtx l X cc own nL lev bud ini ao Y) {idx a : Nat} (hlk : Cond.methodLink own idx objectInit ∈ zall) (h1 : 1 ≤ lev) (hst : (st.map fun v => v.category).sum ≤ 8) (hd : decode cc pc = .ok (.invokespecial idx, 3)) (k : Y w wl (pc + 3) lv st) : Y w wl pc lv (.ref a :: st) := by
  obtain ⟨p, e, R, s, m, args, below, meth, c, c0, s0, Q, A, H0, rfl, hx, hb, hml, hown, hts, hSt, hA, hl1, hl2, hl3, hl4, hin, hao⟩ := hC
  intro H locs ls hP hD hS hl
  refine W.objInit hx hb hown (hts _ hlk) (hts _ yob_i) (hts _ yob_c) rfl (hl.1.trans hml.symm) rfl hd (by omega) ?_ ?_
  · have := lv_room (m := m) (pc := pc) (ls := ls) (rest := .ref a :: st) hst
    omega
  · exact W.eq (g2 := F0 m (pc + 3) ls st) rfl (k H locs ls hP hD hS hl)
theorem y_new (hC : yCtx l X cc own nL lev bud ini ao Y) {ci idx N : Nat} {C : String} {T : u_T} {fs : List Value} {ty0 : Nat → FieldType} (k : Nat) (hc : zcl[ci]? = some (C, T, N)) (hws : ∀ w ∈ u_ws C T N, w ∈ zall) (hty : ∀ k, k < N → parseFieldDescriptor (T k).2.2.1 = some (ty0 k)) (hcl : Cond.classLink own idx C ∈ zall) (hins : Cond.instantiable C N ∈ zall) (hini : Cond.initialized C ∈ zall) (hfs : ∀ j, j < N → defaultValue (ty0 j) = vp_V fs j) (h1 : 1 ≤ k) (hk : N ≤ 4 * k) (hw : w + k ≤ bud) (hd : decode cc pc = .ok (.new idx, 3)) (kk : ∀ q : Nat, Y (w + k) (wl ++ [(q, .inr (ci, fs))]) (pc + 3) lv (.ref q :: st)) : Y w wl pc lv st := by
  obtain ⟨p, e, R, s, m, args, below, meth, c, c0, s0, Q, A, H0, rfl, hx, hb, hml, hown, hts, hSt, hA, hl1, hl2, hl3, hl4, hin, hao⟩ := hC
  intro H locs ls hP hD hS hl
  exact va_new hx hb hts hws ty0 hty hown (hts _ hcl) (hts _ hins) (hts _ hini) hSt.1 hP hD hS hA hc hfs (by omega) (by omega) hd (fun q H1 hP1 hD1 hS1 => W.widen (k := c0 + (w + k)) (n := s0 + 4 * (w + k)) (by omega) (by omega) (kk q H1 locs ls hP1 hD1 hS1 hl))
theorem y_newarI (hC : yCtx l X cc own nL lev bud ini ao Y) {n : Nat} (k : Nat) (hn : n < 100000) (h1 : 1 ≤ k) (hk : n ≤ 4 * k) (hw : w + k ≤ bud) (hd : decode cc pc = .ok (.newarray .int, 2)) (kk : ∀ q : Nat, Y (w + k) (wl ++ [(q, .inl (X.2 0, n, .inl (fun _ => 0)))]) (pc + 2) lv (.ref q :: st)) : Y w wl pc lv (.int (nI n) :: st) := by
  obtain ⟨p, e, R, s, m, args, below, meth, c, c0, s0, Q, A, H0, rfl, hx, hb, hml, hown, hts, hSt, hA, hl1, hl2, hl3, hl4, hin, hao⟩ := hC
  intro H locs ls hP hD hS hl
  refine va_newa (atype := .int) hx hb (hts _ yarr_I) rfl hSt.1 hP hD hS hA (n := nI n) (N' := n) (a0 := (n, .inl (fun _ => 0))) (fun _ => rfl) (nI_pos (by omega)) (nI_clamp (by omega)) ?_ (by omega) (by omega) hd (fun q cA H1 hK1 hP1 hD1 hS1 => ?_)
  · show n * componentBytes FieldType.int ≤ 536870912
    have hcb : componentBytes FieldType.int ≤ 8 := by decide
    have := Nat.mul_le_mul (show n ≤ 100000 by omega) hcb
    omega
  · have e1 := va_nm_int (hK1.2 5 _ rfl).2
    have e2 := va_nm_int (hSt.1.2 0 _ rfl).2
    have e3 : cA = X.2 0 := Option.some.inj (e1.symm.trans e2)
    rw [e3] at hP1 hD1
    exact W.widen (k := c0 + (w + k)) (n := s0 + 4 * (w + k)) (by omega) (by omega) (kk q H1 locs ls hP1 hD1 hS1 hl)
theorem y_newarZ (hC : yCtx l X cc own nL lev bud ini ao Y) {n : Nat} (k : Nat) (hn : n < 100000) (h1 : 1 ≤ k) (hk : n ≤ 4 * k) (hw : w + k ≤ bud) (hd : decode cc pc = .ok (.newarray .boolean, 2)) (kk : ∀ q : Nat, Y (w + k) (wl ++ [(q, .inl (X.2 1, n, .inl (fun _ => 0)))]) (pc + 2) lv (.ref q :: st)) : Y w wl pc lv (.int (nI n) :: st) := by
  obtain ⟨p, e, R, s, m, args, below, meth, c, c0, s0, Q, A, H0, rfl, hx, hb, hml, hown, hts, hSt, hA, hl1, hl2, hl3, hl4, hin, hao⟩ := hC
  intro H locs ls hP hD hS hl
  refine va_newa (atype := .boolean) hx hb (hts _ yarr_Z) rfl hSt.1 hP hD hS hA (n := nI n) (N' := n) (a0 := (n, .inl (fun _ => 0))) (fun _ => rfl) (nI_pos (by omega)) (nI_clamp (by omega)) ?_ (by omega) (by omega) hd (fun q cA H1 hK1 hP1 hD1 hS1 => ?_)
  · show n * componentBytes FieldType.boolean ≤ 536870912
    have hcb : componentBytes FieldType.boolean ≤ 8 := by decide
    have := Nat.mul_le_mul (show n ≤ 100000 by omega) hcb
    omega
  · have e1 := va_nm_boolean (hK1.2 5 _ rfl).2
    have e2 := va_nm_boolean (hSt.1.2 1 _ rfl).2
    have e3 : cA = X.2 1 := Option.some.inj (e1.symm.trans e2)
    rw [e3] at hP1 hD1
    exact W.widen (k := c0 + (w + k)) (n := s0 + 4 * (w + k)) (by omega) (by omega) (kk q H1 locs ls hP1 hD1 hS1 hl)
theorem y_newq_X0 (hC : yCtx l X cc own nL lev bud ini ao Y) {n idx : Nat} (k : Nat) (hcl : Cond.classLink own idx RX0 ∈ zall) (hn : n < 100000) (h1 : 1 ≤ k) (hk : n ≤ 4 * k) (hw : w + k ≤ bud) (hd : decode cc pc = .ok (.anewarray idx, 3)) (ha : ao = true) (kk : ∀ q : Nat, Y (w + k) (wl ++ [(q, .inl (X.2 2, n, .inr (.inr (.inr (.inr (fun _ => none))))))]) (pc + 3) lv (.ref q :: st)) : Y w wl pc lv (.int (nI n) :: st) := by
  obtain ⟨p, e, R, s, m, args, below, meth, c, c0, s0, Q, A, H0, rfl, hx, hb, hml, hown, hts, hSt, hA, hl1, hl2, hl3, hl4, hin, hao⟩ := hC
  intro H locs ls hP hD hS hl
  refine va_newq hx hb hown (hts _ hcl) (hao ha).1 hSt.1 hP hD hS hA (n := nI n) (N' := n) (nI_pos (by omega)) (nI_clamp (by omega)) (by omega) (by omega) (by omega) hd (fun q cA H1 hK1 hP1 hD1 hS1 => ?_)
  have e1 := va_nmO (hK1.2 5 _ rfl).2 rfl
  have e2 := va_nmO (hSt.1.2 2 _ rfl).2 rfl
  have e3 : cA = X.2 2 := Option.some.inj (e1.symm.trans e2)
  rw [e3] at hP1 hD1
  exact W.widen (k := c0 + (w + k)) (n := s0 + 4 * (w + k)) (by omega) (by omega) (kk q H1 locs ls hP1 hD1 hS1 hl)
theorem y_newq_X1 (hC : yCtx l X cc own nL lev bud ini ao Y) {n idx : Nat} (k : Nat) (hcl : Cond.classLink own idx RX1 ∈ zall) (hn : n < 100000) (h1 : 1 ≤ k) (hk : n ≤ 4 * k) (hw : w + k ≤ bud) (hd : decode cc pc = .ok (.anewarray idx, 3)) (ha : ao = true) (kk : ∀ q : Nat, Y (w + k) (wl ++ [(q, .inl (X.2 3, n, .inr (.inr (.inr (.inr (fun _ => none))))))]) (pc + 3) lv (.ref q :: st)) : Y w wl pc lv (.int (nI n) :: st) := by
  obtain ⟨p, e, R, s, m, args, below, meth, c, c0, s0, Q, A, H0, rfl, hx, hb, hml, hown, hts, hSt, hA, hl1, hl2, hl3, hl4, hin, hao⟩ := hC
  intro H locs ls hP hD hS hl
  refine va_newq hx hb hown (hts _ hcl) (hao ha).2.1 hSt.1 hP hD hS hA (n := nI n) (N' := n) (nI_pos (by omega)) (nI_clamp (by omega)) (by omega) (by omega) (by omega) hd (fun q cA H1 hK1 hP1 hD1 hS1 => ?_)
  have e1 := va_nmO (hK1.2 5 _ rfl).2 rfl
  have e2 := va_nmO (hSt.1.2 3 _ rfl).2 rfl
  have e3 : cA = X.2 3 := Option.some.inj (e1.symm.trans e2)
  rw [e3] at hP1 hD1
  exact W.widen (k := c0 + (w + k)) (n := s0 + 4 * (w + k)) (by omega) (by omega) (kk q H1 locs ls hP1 hD1 hS1 hl)
theorem y_newq_X2 (hC : yCtx l X cc own nL lev bud ini ao Y) {n idx : Nat} (k : Nat) (hcl : Cond.classLink own idx RX2 ∈ zall) (hn : n < 100000) (h1 : 1 ≤ k) (hk : n ≤ 4 * k) (hw : w + k ≤ bud) (hd : decode cc pc = .ok (.anewarray idx, 3)) (ha : ao = true) (kk : ∀ q : Nat, Y (w + k) (wl ++ [(q, .inl (X.2 4, n, .inr (.inr (.inr (.inr (fun _ => none))))))]) (pc + 3) lv (.ref q :: st)) : Y w wl pc lv (.int (nI n) :: st) := by
  obtain ⟨p, e, R, s, m, args, below, meth, c, c0, s0, Q, A, H0, rfl, hx, hb, hml, hown, hts, hSt, hA, hl1, hl2, hl3, hl4, hin, hao⟩ := hC
  intro H locs ls hP hD hS hl
  refine va_newq hx hb hown (hts _ hcl) (hao ha).2.2 hSt.1 hP hD hS hA (n := nI n) (N' := n) (nI_pos (by omega)) (nI_clamp (by omega)) (by omega) (by omega) (by omega) hd (fun q cA H1 hK1 hP1 hD1 hS1 => ?_)
  have e1 := va_nmO (hK1.2 5 _ rfl).2 rfl
  have e2 := va_nmO (hSt.1.2 4 _ rfl).2 rfl
  have e3 : cA = X.2 4 := Option.some.inj (e1.symm.trans e2)
  rw [e3] at hP1 hD1
  exact W.widen (k := c0 + (w + k)) (n := s0 + 4 * (w + k)) (by omega) (by omega) (kk q H1 locs ls hP1 hD1 hS1 hl)
theorem y_get (hC : yCtx l X cc own nL lev bud ini ao Y) {a ci f idx N : Nat} {C : String} {T : u_T} {fs : List Value} {v : Value} (q0 : Nat) (he : wl[q0]? = some (a, .inr (ci, fs))) (hc : zcl[ci]? = some (C, T, N)) (hws : ∀ w ∈ u_ws C T N, w ∈ zall) (hf : f < N) (hlk : Cond.fieldLink own idx (T f).1 (T f).2.1 (T f).2.2.1 ∈ zall) (hv : fs[f]? = some v) (hd : decode cc pc = .ok (.getfield idx, 3)) (kk : Y w wl (pc + 3) lv (v :: st)) : Y w wl pc lv (.ref a :: st) := by
  obtain ⟨p, e, R, s, m, args, below, meth, c, c0, s0, Q, A, H0, rfl, hx, hb, hml, hown, hts, hSt, hA, hl1, hl2, hl3, hl4, hin, hao⟩ := hC
  intro H locs ls hP hD hS hl
  exact va_get hx hb hts hws hown hSt.1 hP q0 he hc f hf (hts _ hlk) (fun _ h => h) hv hd (kk H locs ls hP hD hS hl)
theorem y_put (hC : yCtx l X cc own nL lev bud ini ao Y) {a ci f idx N : Nat} {C : String} {T : u_T} {fs : List Value} {v : Value} (q0 : Nat) {ty0 : Nat → FieldType} {ty : FieldType} (he : wl[q0]? = some (a, .inr (ci, fs))) (hc : zcl[ci]? = some (C, T, N)) (hws : ∀ w ∈ u_ws C T N, w ∈ zall) (hty : ∀ k, k < N → parseFieldDescriptor (T k).2.2.1 = some (ty0 k)) (hnm : ∀ a, a < N → ∀ b, b < N → a ≠ b → (T a).2.1 ≠ (T b).2.1) (hf : f < N) (hlk : Cond.fieldLink own idx (T f).1 (T f).2.1 (T f).2.2.1 ∈ zall) (hfin : (T f).2.2.2 = false) (hpd : parseFieldDescriptor (T f).2.2.1 = some ty) (hn : narrow ty v = v) (hfit : fits ty v = true) (hlen : f < fs.length) (hd : decode cc pc = .ok (.putfield idx, 3)) (kk : Y w (wl.set q0 (a, .inr (ci, fs.set f v))) (pc + 3) lv st) : Y w wl pc lv (v :: .ref a :: st) := by
  obtain ⟨p, e, R, s, m, args, below, meth, c, c0, s0, Q, A, H0, rfl, hx, hb, hml, hown, hts, hSt, hA, hl1, hl2, hl3, hl4, hin, hao⟩ := hC
  intro H locs ls hP hD hS hl
  exact va_put hx hb hts hws ty0 hty hnm hown hSt.1 hP hD hS q0 he hc f hf (hts _ hlk) (fun _ h => h) hfin hpd hn hfit hlen hd (fun H1 locs1 hP1 hD1 hS1 => kk H1 locs1 ls hP1 hD1 hS1 hl)
theorem y_putF (hC : yCtx l X cc own nL lev bud ini ao Y) {a ci f idx N : Nat} {C : String} {T : u_T} {fs : List Value} {v : Value} (q0 : Nat) {ty0 : Nat → FieldType} {ty : FieldType} (he : wl[q0]? = some (a, .inr (ci, fs))) (hc : zcl[ci]? = some (C, T, N)) (hws : ∀ w ∈ u_ws C T N, w ∈ zall) (hty : ∀ k, k < N → parseFieldDescriptor (T k).2.2.1 = some (ty0 k)) (hnm : ∀ a, a < N → ∀ b, b < N → a ≠ b → (T a).2.1 ≠ (T b).2.1) (hf : f < N) (hlk : Cond.fieldLink own idx (T f).1 (T f).2.1 (T f).2.2.1 ∈ zall) (hfin : (T f).2.2.2 = true) (hi2 : ini = true) (hdecl : (T f).1 = own) (hpd : parseFieldDescriptor (T f).2.2.1 = some ty) (hn : narrow ty v = v) (hfit : fits ty v = true) (hlen : f < fs.length) (hd : decode cc pc = .ok (.putfield idx, 3)) (kk : Y w (wl.set q0 (a, .inr (ci, fs.set f v))) (pc + 3) lv st) : Y w wl pc lv (v :: .ref a :: st) := by
  obtain ⟨p, e, R, s, m, args, below, meth, c, c0, s0, Q, A, H0, rfl, hx, hb, hml, hown, hts, hSt, hA, hl1, hl2, hl3, hl4, hin, hao⟩ := hC
  intro H locs ls hP hD hS hl
  exact va_putF hx hb hts hws ty0 hty hnm hown hSt.1 hP hD hS q0 he hc f hf (hts _ hlk) (fun _ h => h) hfin (hin hi2) hdecl hpd hn hfit hlen hd (fun H1 locs1 hP1 hD1 hS1 => kk H1 locs1 ls hP1 hD1 hS1 hl)
theorem y_iast (hC : yCtx l X cc own nL lev bud ini ao Y) {a n : Nat} {f : Nat → Int32} (q0 : Nat) (he : wl[q0]? = some (a, .inl (X.2 0, n, .inl f))) {j : Nat} {x : Int32} (hj : j < n) (hn : n < 2 ^ 31) (hd : decode cc pc = .ok (.iastore, 1)) (kk : Y w (wl.set q0 (a, .inl (X.2 0, n, .inl (upd f j x)))) (pc + 1) lv st) : Y w wl pc lv (.int x :: .int (nI j) :: .ref a :: st) := by
  obtain ⟨p, e, R, s, m, args, below, meth, c, c0, s0, Q, A, H0, rfl, hx, hb, hml, hown, hts, hSt, hA, hl1, hl2, hl3, hl4, hin, hao⟩ := hC
  intro H locs ls hP hD hS hl
  refine va_iast hx hb hSt.1 hP hD hS q0 0 he rfl (vp_in_nI hj hn) hd (fun H1 locs1 hP1 hD1 hS1 => ?_)
  rw [nI_clamp (by omega)] at hP1 hD1
  exact kk H1 locs1 ls hP1 hD1 hS1 hl
theorem y_alen (hC : yCtx l X cc own nL lev bud ini ao Y) {a n : Nat} {f : Nat → Int32} (q0 : Nat) (he : wl[q0]? = some (a, .inl (X.2 0, n, .inl f))) (hd : decode cc pc = .ok (.arraylength, 1)) (kk : Y w wl (pc + 1) lv (.int (nI n) :: st)) : Y w wl pc lv (.ref a :: st) := by
  obtain ⟨p, e, R, s, m, args, below, meth, c, c0, s0, Q, A, H0, rfl, hx, hb, hml, hown, hts, hSt, hA, hl1, hl2, hl3, hl4, hin, hao⟩ := hC
  intro H locs ls hP hD hS hl
  exact va_alen hx hb hSt.1 hP q0 0 he (ty := .int) rfl rfl hd (kk H locs ls hP hD hS hl)
theorem y_aast (hC : yCtx l X cc own nL lev bud ini ao Y) {a n ci v : Nat} {C : String} {T : u_T} {N : Nat} {vs : List Value} {f : Nat → Option Nat} (q0 t0 qk : Nat) (he : wl[q0]? = some (a, .inl (X.2 t0, n, .inr (.inr (.inr (.inr f)))))) (ht : (z_tys X)[t0]? = some (X.2 t0, .object C)) (hv : wl[qk]? = some (v, .inr (ci, vs))) (hc : zcl[ci]? = some (C, T, N)) {j : Nat} (hj : j < n) (hn : n < 2 ^ 31) (hd : decode cc pc = .ok (.aastore, 1)) (kk : Y w (wl.set q0 (a, .inl (X.2 t0, n, .inr (.inr (.inr (.inr (va_up f j (some v)))))))) (pc + 1) lv st) : Y w wl pc lv (.ref v :: .int (nI j) :: .ref a :: st) := by
  obtain ⟨p, e, R, s, m, args, below, meth, c, c0, s0, Q, A, H0, rfl, hx, hb, hml, hown, hts, hSt, hA, hl1, hl2, hl3, hl4, hin, hao⟩ := hC
  intro H locs ls hP hD hS hl
  refine va_astq hx hb hSt.1 hP hD hS q0 t0 qk ci he ht hv hc (vp_in_nI hj hn) hd (fun H1 locs1 hP1 hD1 hS1 => ?_)
  rw [nI_clamp (by omega)] at hP1 hD1
  exact kk H1 locs1 ls hP1 hD1 hS1 hl
set_option maxHeartbeats 1000000 in
theorem y_callS (hC : yCtx l X cc own nL lev bud ini ao Y) {y : MethodName} {b : ByteArray} {nLc lev2 bud2 n idx : Nat} {ao2 : Bool} {As : List Value} {wr wc : va_W} {P : va_W → Prop} (hM : yC l y b nLc lev2 bud2 X ao2 As wc P) (hm : zM y b nLc none n) (hlv : lev2 + 1 ≤ lev) (hnl : nLc ≤ 21) (hbd : w + bud2 ≤ bud) (hst : (st.map fun v => v.category).sum ≤ 8) (hlen : As.length = n) (ha2 : ao2 = true → ao = true) (hi : zIS y) (hk : Cond.methodLink own idx y ∈ zall) (hd : decode cc pc = .ok (.invokestatic idx, 3)) (kk : ∀ wl2 : va_W, P wl2 → Y (w + bud2) (wr ++ wl2) (pc + 3) lv st) : Y w (wr ++ wc) pc lv (As.reverse ++ st) := by
  obtain ⟨p, e, R, s, m, args, below, meth, c, c0, s0, Q, A, H0, rfl, hx, hb, hml, hown, hts, hSt, hA, hl1, hl2, hl3, hl4, hin, hao⟩ := hC
  intro H locs ls hP hD hS hl
  have hic : ∀ (k : Nat) (q : Nat × va_E), wc[k]? = some q → (wr ++ wc)[wr.length + k]? = some q := fun k q h => by
    rw [List.getElem?_append_right (by omega), show wr.length + k - wr.length = k by omega]
    exact h
  have hPc : va_P X.1 zcl wc H := fun k q h => hP _ q (hic k q h)
  have hDc : va_D (fun _ => True) wc := ⟨fun i j x y hi hj hxy => by
    have := hD.1 _ _ x y (hic i x hi) (hic j y hj) hxy
    omega, fun _ _ _ => trivial⟩
  have hsub : ∀ q, va_A wc H.size q → A q := by
    rintro q (⟨k, e, hk⟩ | hq)
    · exact hD.2 _ _ (hic k _ hk)
    · exact hA q (Nat.le_trans hS.1 hq)
  have hG : GoodIn zall (Cond.code y b nLc none :: zall) := by
    intro x hx
    rcases List.mem_cons.mp hx with rfl | hx
    · exact ⟨hm.1, zall_good hm.1⟩
    · exact ⟨hx, zall_good hx⟩
  have hR : (zRm lev2 bud2).frames + 1 ≤ R.frames ∧ 8 + (nLc + 11) + (zRm lev2 bud2).locals ≤ R.locals := by
    constructor <;> simp only [zRm] <;> omega
  have hbl : FrameBlind (yPre X ao2 As wc H.size) := fun a U g mk h => ⟨h.1, h.2.1, h.2.2.1, h.2.2.2.1, zS.same (u := U) (U := U.calling g mk a) rfl h.2.2.2.2.1, fun q => ⟨va_AO.moved (u := U) (U := U.calling g mk a) (Vm.Alike.refl U.vm) (h.2.2.2.2.2 q).1, va_AO.moved (u := U) (U := U.calling g mk a) (Vm.Alike.refl U.vm) (h.2.2.2.2.2 q).2.1, va_AO.moved (u := U) (U := U.calling g mk a) (Vm.Alike.refl U.vm) (h.2.2.2.2.2 q).2.2⟩⟩
  have hpr : ∀ U : State, U.heap = H → s.WarmedH U.vm → yPre X ao2 As wc H.size (As).toArray U := fun U hU hW => ⟨rfl, by rw [hU], by rw [hU]; exact hPc, hDc, hSt.warm hW, fun q => ⟨va_AO.moved hW.alike (hao (ha2 q)).1, va_AO.moved hW.alike (hao (ha2 q)).2.1, va_AO.moved hW.alike (hao (ha2 q)).2.2⟩⟩
  have cw : CallB R s args own idx y b nLc none (Cond.code y b nLc none :: zall) (zRm lev2 bud2) bud2 (4 * bud2) n := callB_of n hts hG rfl rfl rfl (hts _ hi.2) (hts _ hk) hm.2 hR
  refine va_callv (va_runS ⟨hx, hb, hml, hown, hts⟩ (hM H.size) ⟨cw, hts _ hi.1⟩ ⟨hbl, hpr⟩ rfl hlen hl.1 rfl (lv_room hst) hd ⟨by omega, by omega⟩) hS (fun q _ h => hsub q h) hsub (fun u t H1 locs1 ht hvm hp hB hz hk hS1 => ?_)
  obtain ⟨hP1, hD1⟩ := hB
  rw [ht] at hP1
  obtain ⟨hP2, hD2⟩ := y_join hP hD hk hsub hP1 hD1
  have h5 := kk u hp H1 locs1 ls hP2 hD2 hS1 hl
  rw [show c0 + w + bud2 = c0 + (w + bud2) by omega, show s0 + 4 * w + 4 * bud2 = s0 + 4 * (w + bud2) by omega]
  exact h5
set_option maxHeartbeats 1000000 in
theorem y_callI (hC : yCtx l X cc own nL lev bud ini ao Y) {y : MethodName} {b : ByteArray} {nLc lev2 bud2 n idx : Nat} {ao2 : Bool} {As : List Value} {wr wc : va_W} {P : va_W → Prop} {r : Nat} (hM : yC l y b nLc lev2 bud2 X ao2 (.ref r :: As) wc P) (hm : zM y b nLc none n) (hlv : lev2 + 1 ≤ lev) (hnl : nLc ≤ 21) (hbd : w + bud2 ≤ bud) (hst : (st.map fun v => v.category).sum ≤ 8) (hlen : As.length = n) (ha2 : ao2 = true → ao = true) (hi : zII y) (hk : Cond.methodLink own idx y ∈ zall) (hd : decode cc pc = .ok (.invokespecial idx, 3)) (kk : ∀ wl2 : va_W, P wl2 → Y (w + bud2) (wr ++ wl2) (pc + 3) lv st) : Y w (wr ++ wc) pc lv (As.reverse ++ .ref r :: st) := by
  obtain ⟨p, e, R, s, m, args, below, meth, c, c0, s0, Q, A, H0, rfl, hx, hb, hml, hown, hts, hSt, hA, hl1, hl2, hl3, hl4, hin, hao⟩ := hC
  intro H locs ls hP hD hS hl
  have hic : ∀ (k : Nat) (q : Nat × va_E), wc[k]? = some q → (wr ++ wc)[wr.length + k]? = some q := fun k q h => by
    rw [List.getElem?_append_right (by omega), show wr.length + k - wr.length = k by omega]
    exact h
  have hPc : va_P X.1 zcl wc H := fun k q h => hP _ q (hic k q h)
  have hDc : va_D (fun _ => True) wc := ⟨fun i j x y hi hj hxy => by
    have := hD.1 _ _ x y (hic i x hi) (hic j y hj) hxy
    omega, fun _ _ _ => trivial⟩
  have hsub : ∀ q, va_A wc H.size q → A q := by
    rintro q (⟨k, e, hk⟩ | hq)
    · exact hD.2 _ _ (hic k _ hk)
    · exact hA q (Nat.le_trans hS.1 hq)
  have hG : GoodIn zall (Cond.code y b nLc none :: zall) := by
    intro x hx
    rcases List.mem_cons.mp hx with rfl | hx
    · exact ⟨hm.1, zall_good hm.1⟩
    · exact ⟨hx, zall_good hx⟩
  have hR : (zRm lev2 bud2).frames + 1 ≤ R.frames ∧ 8 + (nLc + 11) + (zRm lev2 bud2).locals ≤ R.locals := by
    constructor <;> simp only [zRm] <;> omega
  have hbl : FrameBlind (yPre X ao2 (.ref r :: As) wc H.size) := fun a U g mk h => ⟨h.1, h.2.1, h.2.2.1, h.2.2.2.1, zS.same (u := U) (U := U.calling g mk a) rfl h.2.2.2.2.1, fun q => ⟨va_AO.moved (u := U) (U := U.calling g mk a) (Vm.Alike.refl U.vm) (h.2.2.2.2.2 q).1, va_AO.moved (u := U) (U := U.calling g mk a) (Vm.Alike.refl U.vm) (h.2.2.2.2.2 q).2.1, va_AO.moved (u := U) (U := U.calling g mk a) (Vm.Alike.refl U.vm) (h.2.2.2.2.2 q).2.2⟩⟩
  have hpr : ∀ U : State, U.heap = H → s.WarmedH U.vm → yPre X ao2 (.ref r :: As) wc H.size ((.ref r :: As)).toArray U := fun U hU hW => ⟨rfl, by rw [hU], by rw [hU]; exact hPc, hDc, hSt.warm hW, fun q => ⟨va_AO.moved hW.alike (hao (ha2 q)).1, va_AO.moved hW.alike (hao (ha2 q)).2.1, va_AO.moved hW.alike (hao (ha2 q)).2.2⟩⟩
  have cw : CallB R s args own idx y b nLc none (Cond.code y b nLc none :: zall) (zRm lev2 bud2) bud2 (4 * bud2) n := callB_of n hts hG rfl rfl rfl (hts _ hi.2.2) (hts _ hk) hm.2 hR
  refine va_callv (va_runI ⟨hx, hb, hml, hown, hts⟩ (hM H.size) ⟨cw, hi.2.1, hts _ hi.1⟩ ⟨hbl, hpr⟩ rfl hlen hl.1 rfl (lv_room hst) hd ⟨by omega, by omega⟩) hS (fun q _ h => hsub q h) hsub (fun u t H1 locs1 ht hvm hp hB hz hk hS1 => ?_)
  obtain ⟨hP1, hD1⟩ := hB
  rw [ht] at hP1
  obtain ⟨hP2, hD2⟩ := y_join hP hD hk hsub hP1 hD1
  have h5 := kk u hp H1 locs1 ls hP2 hD2 hS1 hl
  rw [show c0 + w + bud2 = c0 + (w + bud2) by omega, show s0 + 4 * w + 4 * bud2 = s0 + 4 * (w + bud2) by omega]
  exact h5
set_option maxHeartbeats 1000000 in
theorem y_callIN (hC : yCtx l X cc own nL lev bud ini ao Y) {y : MethodName} {b : ByteArray} {nLc lev2 bud2 n idx : Nat} {ao2 : Bool} {As : List Value} {wr wc : va_W} {P : va_W → Prop} {r : Nat} {host : String} (hM : yC l y b nLc lev2 bud2 X ao2 (.ref r :: As) wc P) (hm : zM y b nLc none n) (hlv : lev2 + 1 ≤ lev) (hnl : nLc ≤ 21) (hbd : w + bud2 ≤ bud) (hst : (st.map fun v => v.category).sum ≤ 8) (hlen : As.length = n) (ha2 : ao2 = true → ao = true) (hi : zII y) (hk : (own, idx, y, host) ∈ zNM) (hd : decode cc pc = .ok (.invokespecial idx, 3)) (kk : ∀ wl2 : va_W, P wl2 → Y (w + bud2) (wr ++ wl2) (pc + 3) lv st) : Y w (wr ++ wc) pc lv (As.reverse ++ .ref r :: st) := by
  obtain ⟨p, e, R, s, m, args, below, meth, c, c0, s0, Q, A, H0, rfl, hx, hb, hml, hown, hts, hSt, hA, hl1, hl2, hl3, hl4, hin, hao⟩ := hC
  intro H locs ls hP hD hS hl
  have hic : ∀ (k : Nat) (q : Nat × va_E), wc[k]? = some q → (wr ++ wc)[wr.length + k]? = some q := fun k q h => by
    rw [List.getElem?_append_right (by omega), show wr.length + k - wr.length = k by omega]
    exact h
  have hPc : va_P X.1 zcl wc H := fun k q h => hP _ q (hic k q h)
  have hDc : va_D (fun _ => True) wc := ⟨fun i j x y hi hj hxy => by
    have := hD.1 _ _ x y (hic i x hi) (hic j y hj) hxy
    omega, fun _ _ _ => trivial⟩
  have hsub : ∀ q, va_A wc H.size q → A q := by
    rintro q (⟨k, e, hk⟩ | hq)
    · exact hD.2 _ _ (hic k _ hk)
    · exact hA q (Nat.le_trans hS.1 hq)
  have hG : GoodIn zall (Cond.code y b nLc none :: zall) := by
    intro x hx
    rcases List.mem_cons.mp hx with rfl | hx
    · exact ⟨hm.1, zall_good hm.1⟩
    · exact ⟨hx, zall_good hx⟩
  have hR : (zRm lev2 bud2).frames + 1 ≤ R.frames ∧ 8 + (nLc + 11) + (zRm lev2 bud2).locals ≤ R.locals := by
    constructor <;> simp only [zRm] <;> omega
  have hbl : FrameBlind (yPre X ao2 (.ref r :: As) wc H.size) := fun a U g mk h => ⟨h.1, h.2.1, h.2.2.1, h.2.2.2.1, zS.same (u := U) (U := U.calling g mk a) rfl h.2.2.2.2.1, fun q => ⟨va_AO.moved (u := U) (U := U.calling g mk a) (Vm.Alike.refl U.vm) (h.2.2.2.2.2 q).1, va_AO.moved (u := U) (U := U.calling g mk a) (Vm.Alike.refl U.vm) (h.2.2.2.2.2 q).2.1, va_AO.moved (u := U) (U := U.calling g mk a) (Vm.Alike.refl U.vm) (h.2.2.2.2.2 q).2.2⟩⟩
  have hpr : ∀ U : State, U.heap = H → s.WarmedH U.vm → yPre X ao2 (.ref r :: As) wc H.size ((.ref r :: As)).toArray U := fun U hU hW => ⟨rfl, by rw [hU], by rw [hU]; exact hPc, hDc, hSt.warm hW, fun q => ⟨va_AO.moved hW.alike (hao (ha2 q)).1, va_AO.moved hW.alike (hao (ha2 q)).2.1, va_AO.moved hW.alike (hao (ha2 q)).2.2⟩⟩
  have cw := va_cnB (args := args) (own := own) (host := host) (index := idx) (rm := zRm lev2 bud2) (mc := bud2) (ms := 4 * bud2) n hts hG rfl rfl rfl (hSt.2.2 _ hk) (hts _ hi.2.2) hm.2 hR
  refine va_callv (va_runIN ⟨hx, hb, hml, hown, hts⟩ (hM H.size) ⟨cw, hi.2.1, hts _ hi.1⟩ ⟨hbl, hpr⟩ rfl hlen hl.1 rfl (lv_room hst) hd ⟨by omega, by omega⟩) hS (fun q _ h => hsub q h) hsub (fun u t H1 locs1 ht hvm hp hB hz hk hS1 => ?_)
  obtain ⟨hP1, hD1⟩ := hB
  rw [ht] at hP1
  obtain ⟨hP2, hD2⟩ := y_join hP hD hk hsub hP1 hD1
  have h5 := kk u hp H1 locs1 ls hP2 hD2 hS1 hl
  rw [show c0 + w + bud2 = c0 + (w + bud2) by omega, show s0 + 4 * w + 4 * bud2 = s0 + 4 * (w + bud2) by omega]
  exact h5
end YR

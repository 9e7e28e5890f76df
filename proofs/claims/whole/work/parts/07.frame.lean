/-! one world for the class and the reference: cells by kind and number; G: ints, longs, counters, addresses -/
abbrev zX : Type := va_G × (Nat → ClassId)
abbrev zG : Type := (Nat → Nat → Nat → Int32) × (Nat → Int64) × (Nat → Nat) × (Nat → Nat → Nat)
def zg (G : zG) : Nat → Nat → Nat → Int32 := G.1
def zt (G : zG) : Nat → Int64 := G.2.1
def zn (G : zG) : Nat → Nat := G.2.2.1
def za (G : zG) : Nat → Nat → Nat := G.2.2.2
def zuA (G : zG) (k i : Nat) (f : Nat → Int32) : zG := (fun k' i' => if k' = k ∧ i' = i then f else G.1 k' i', G.2)
def zu (G : zG) (k i j : Nat) (v : Int32) : zG := zuA G k i (upd (zg G k i) j v)
def zuT (G : zG) (j : Nat) (v : Int64) : zG := (G.1, (fun j' => if j' = j then v else G.2.1 j'), G.2.2)
def zuN (G : zG) (j v : Nat) : zG := (G.1, G.2.1, (fun j' => if j' = j then v else G.2.2.1 j'), G.2.2.2)
def zuD (G : zG) (k i q : Nat) : zG := (G.1, G.2.1, G.2.2.1, fun k' i' => if k' = k ∧ i' = i then q else G.2.2.2 k' i')
def z_cu (I : Nat → ClassId) (a : Nat → Nat → Nat) (n : Nat → Nat) (t : Nat → Int64) (k i : Nat) (f : Nat → Int32) : va_E := match k with
  | 0 => .inr (4, [.ref (a 1 0), .ref (a 2 0), .ref (a 3 0), .int (f 3), .int (f 4), .int (f 5), .int (f 6), .long (t 0)])
  | 1 => .inl (I 2, 8, .inr (.inr (.inr (.inr (fun j => if j < 8 then some (a 4 j) else none)))))
  | 2 => .inl (I 3, 6, .inr (.inr (.inr (.inr (fun j => if j < 6 then some (a 7 j) else none)))))
  | 3 => .inl (I 4, 12, .inr (.inr (.inr (.inr (fun j => if j < n 1 then some (a 17 j) else none)))))
  | 4 => .inr (0, [.ref (a 5 i), .ref (a 6 i), .int (f 2), .int (f 3), .int (f 4)])
  | 5 => .inl (I 0, 40, .inl f)
  | 6 => .inl (I 0, 6, .inl f)
  | 7 => .inr (1, [.ref (a 10 i), .ref (a 8 i), .ref (a 9 i), .int (f 3), .int (f 4), .int (f 5)])
  | 8 => .inl (I 0, 320, .inl f)
  | 9 => .inl (I 1, 100, .inl f)
  | 10 => .inr (3, [.ref (a 11 i), .ref (a 12 i), .ref (a 13 i), .ref (a 14 i), .ref (a 15 i), .ref (a 16 i), .int (f 6)])
  | 11 => .inl (I 0, 12, .inl f)
  | 12 => .inl (I 0, 12, .inl f)
  | 13 => .inl (I 0, 12, .inl f)
  | 14 => .inl (I 0, 12, .inl f)
  | 15 => .inl (I 0, 12, .inl f)
  | 16 => .inl (I 0, 96, .inl f)
  | 17 => .inr (2, [.int (f 0), .int (f 1), .int (f 2), .int (f 3)])
  | 20 => .inr (5, [.int (f 0), .ref (a 21 0), .ref (a 22 0), .ref (a 23 0), .ref (a 24 0), .ref (a 25 0), .ref (a 26 0), .ref (a 27 0), .ref (a 28 0), .ref (a 29 0), .ref (a 30 0), .ref (a 31 0), .int (f 12), .int (f 13), .ref (a 34 0), .ref (a 35 0), .ref (a 36 0), .ref (a 37 0), .int (f 18), .ref (a 39 0), .ref (a 40 0), .ref (a 41 0), .ref (a 42 0), .ref (a 43 0), .long (t 1), .ref (a 45 0), .ref (a 46 0), .ref (a 47 0), .long (t 2), .int (f 29), .ref (a 50 0)])
  | 21 => .inl (I 0, 320, .inl f)
  | 22 => .inl (I 0, 6, .inl f)
  | 23 => .inl (I 0, 6, .inl f)
  | 24 => .inl (I 0, 72, .inl f)
  | 25 => .inl (I 0, 72, .inl f)
  | 26 => .inl (I 0, 72, .inl f)
  | 27 => .inl (I 0, 72, .inl f)
  | 28 => .inl (I 0, 72, .inl f)
  | 29 => .inl (I 0, 1920, .inl f)
  | 30 => .inl (I 1, 600, .inl f)
  | 31 => .inl (I 1, 6, .inl f)
  | 34 => .inl (I 0, 12, .inl f)
  | 35 => .inl (I 0, 12, .inl f)
  | 36 => .inl (I 0, 12, .inl f)
  | 37 => .inl (I 0, 12, .inl f)
  | 39 => .inl (I 0, 48, .inl f)
  | 40 => .inl (I 0, 8, .inl f)
  | 41 => .inl (I 0, 8, .inl f)
  | 42 => .inl (I 0, 8, .inl f)
  | 43 => .inl (I 0, 6, .inl f)
  | 45 => .inl (I 0, 64, .inl f)
  | 46 => .inl (I 0, 64, .inl f)
  | 47 => .inl (I 0, 8, .inl f)
  | 50 => .inl (I 0, 8, .inl f)
  | _ => .inl (I 0, 0, .inl f)
def z_ct (X : zX) (G : zG) (k i : Nat) : va_E := z_cu X.2 (za G) (zn G) (zt G) k i (zg G k i)
def zix0 : List (Nat × Nat) := [(0, 0), (1, 0), (2, 0), (3, 0)] ++ ((List.range 8).flatMap (fun i => [(4, i), (5, i), (6, i)]) ++ ((List.range 6).flatMap (fun i => [(7, i), (8, i), (9, i), (10, i), (11, i), (12, i), (13, i), (14, i), (15, i), (16, i)]) ++ [(20, 0), (21, 0), (22, 0), (23, 0), (24, 0), (25, 0), (26, 0), (27, 0), (28, 0), (29, 0), (30, 0), (31, 0), (34, 0), (35, 0), (36, 0), (37, 0), (39, 0), (40, 0), (41, 0), (42, 0), (43, 0), (45, 0), (46, 0), (47, 0), (50, 0)]))
def zix (G : zG) : List (Nat × Nat) := zix0 ++ (List.range (zn G 0)).map (fun r => (17, r))
def z_ls (X : zX) (G : zG) : va_W := (zix G).map (fun q => (za G q.1 q.2, z_ct X G q.1 q.2))
def z_tys (X : zX) : List (ClassId × FieldType) := [(X.2 0, .int), (X.2 1, .boolean), (X.2 2, .object RX0), (X.2 3, .object RX1), (X.2 4, .object RX2)]
theorem zix_in {G : zG} {q : Nat × Nat} (h : q ∈ zix0) : q ∈ zix G := List.mem_append_left _ h
theorem zm0 {G : zG} : (0, 0) ∈ zix G := zix_in (by decide)
theorem zm1 {G : zG} : (1, 0) ∈ zix G := zix_in (by decide)
theorem zm2 {G : zG} : (2, 0) ∈ zix G := zix_in (by decide)
theorem zm3 {G : zG} : (3, 0) ∈ zix G := zix_in (by decide)
theorem zmx4 : ∀ i, i < 8 → (4, i) ∈ zix0 := by decide
theorem zm4 {G : zG} {i : Nat} (h : i < 8) : (4, i) ∈ zix G := zix_in (zmx4 i h)
theorem zmx5 : ∀ i, i < 8 → (5, i) ∈ zix0 := by decide
theorem zm5 {G : zG} {i : Nat} (h : i < 8) : (5, i) ∈ zix G := zix_in (zmx5 i h)
theorem zmx6 : ∀ i, i < 8 → (6, i) ∈ zix0 := by decide
theorem zm6 {G : zG} {i : Nat} (h : i < 8) : (6, i) ∈ zix G := zix_in (zmx6 i h)
theorem zmx7 : ∀ i, i < 6 → (7, i) ∈ zix0 := by decide
theorem zm7 {G : zG} {i : Nat} (h : i < 6) : (7, i) ∈ zix G := zix_in (zmx7 i h)
theorem zmx8 : ∀ i, i < 6 → (8, i) ∈ zix0 := by decide
theorem zm8 {G : zG} {i : Nat} (h : i < 6) : (8, i) ∈ zix G := zix_in (zmx8 i h)
theorem zmx9 : ∀ i, i < 6 → (9, i) ∈ zix0 := by decide
theorem zm9 {G : zG} {i : Nat} (h : i < 6) : (9, i) ∈ zix G := zix_in (zmx9 i h)
theorem zmx10 : ∀ i, i < 6 → (10, i) ∈ zix0 := by decide
theorem zm10 {G : zG} {i : Nat} (h : i < 6) : (10, i) ∈ zix G := zix_in (zmx10 i h)
theorem zmx11 : ∀ i, i < 6 → (11, i) ∈ zix0 := by decide
theorem zm11 {G : zG} {i : Nat} (h : i < 6) : (11, i) ∈ zix G := zix_in (zmx11 i h)
theorem zmx12 : ∀ i, i < 6 → (12, i) ∈ zix0 := by decide
theorem zm12 {G : zG} {i : Nat} (h : i < 6) : (12, i) ∈ zix G := zix_in (zmx12 i h)
theorem zmx13 : ∀ i, i < 6 → (13, i) ∈ zix0 := by decide
theorem zm13 {G : zG} {i : Nat} (h : i < 6) : (13, i) ∈ zix G := zix_in (zmx13 i h)
theorem zmx14 : ∀ i, i < 6 → (14, i) ∈ zix0 := by decide
theorem zm14 {G : zG} {i : Nat} (h : i < 6) : (14, i) ∈ zix G := zix_in (zmx14 i h)
theorem zmx15 : ∀ i, i < 6 → (15, i) ∈ zix0 := by decide
theorem zm15 {G : zG} {i : Nat} (h : i < 6) : (15, i) ∈ zix G := zix_in (zmx15 i h)
theorem zmx16 : ∀ i, i < 6 → (16, i) ∈ zix0 := by decide
theorem zm16 {G : zG} {i : Nat} (h : i < 6) : (16, i) ∈ zix G := zix_in (zmx16 i h)
theorem zm17 {G : zG} {i : Nat} (h : i < zn G 0) : (17, i) ∈ zix G := List.mem_append_right _ (List.mem_map.mpr ⟨i, List.mem_range.mpr h, rfl⟩)
theorem zm20 {G : zG} : (20, 0) ∈ zix G := zix_in (by decide)
theorem zm21 {G : zG} : (21, 0) ∈ zix G := zix_in (by decide)
theorem zm22 {G : zG} : (22, 0) ∈ zix G := zix_in (by decide)
theorem zm23 {G : zG} : (23, 0) ∈ zix G := zix_in (by decide)
theorem zm24 {G : zG} : (24, 0) ∈ zix G := zix_in (by decide)
theorem zm25 {G : zG} : (25, 0) ∈ zix G := zix_in (by decide)
theorem zm26 {G : zG} : (26, 0) ∈ zix G := zix_in (by decide)
theorem zm27 {G : zG} : (27, 0) ∈ zix G := zix_in (by decide)
theorem zm28 {G : zG} : (28, 0) ∈ zix G := zix_in (by decide)
theorem zm29 {G : zG} : (29, 0) ∈ zix G := zix_in (by decide)
theorem zm30 {G : zG} : (30, 0) ∈ zix G := zix_in (by decide)
theorem zm31 {G : zG} : (31, 0) ∈ zix G := zix_in (by decide)
theorem zm34 {G : zG} : (34, 0) ∈ zix G := zix_in (by decide)
theorem zm35 {G : zG} : (35, 0) ∈ zix G := zix_in (by decide)
theorem zm36 {G : zG} : (36, 0) ∈ zix G := zix_in (by decide)
theorem zm37 {G : zG} : (37, 0) ∈ zix G := zix_in (by decide)
theorem zm39 {G : zG} : (39, 0) ∈ zix G := zix_in (by decide)
theorem zm40 {G : zG} : (40, 0) ∈ zix G := zix_in (by decide)
theorem zm41 {G : zG} : (41, 0) ∈ zix G := zix_in (by decide)
theorem zm42 {G : zG} : (42, 0) ∈ zix G := zix_in (by decide)
theorem zm43 {G : zG} : (43, 0) ∈ zix G := zix_in (by decide)
theorem zm45 {G : zG} : (45, 0) ∈ zix G := zix_in (by decide)
theorem zm46 {G : zG} : (46, 0) ∈ zix G := zix_in (by decide)
theorem zm47 {G : zG} : (47, 0) ∈ zix G := zix_in (by decide)
theorem zm50 {G : zG} : (50, 0) ∈ zix G := zix_in (by decide)
theorem zg_zuA (G : zG) (k i : Nat) (f : Nat → Int32) (k' i' : Nat) : zg (zuA G k i f) k' i' = if k' = k ∧ i' = i then f else zg G k' i' := rfl
theorem zg_zu (G : zG) (k i j : Nat) (v : Int32) (k' i' j' : Nat) : zg (zu G k i j v) k' i' j' = if k' = k ∧ i' = i ∧ j' = j then v else zg G k' i' j' := by
  unfold zu
  rw [zg_zuA]
  by_cases h : k' = k ∧ i' = i
  · obtain ⟨rfl, rfl⟩ := h
    by_cases hj : j' = j
    · subst hj
      simp [upd]
    · simp [upd, hj]
  · rw [if_neg h, if_neg (fun q => h ⟨q.1, q.2.1⟩)]
theorem zt_zu (G : zG) (k i j : Nat) (v : Int32) : zt (zu G k i j v) = zt G := rfl
theorem zn_zu (G : zG) (k i j : Nat) (v : Int32) : zn (zu G k i j v) = zn G := rfl
theorem za_zu (G : zG) (k i j : Nat) (v : Int32) : za (zu G k i j v) = za G := rfl
theorem zg_zuT (G : zG) (j : Nat) (v : Int64) : zg (zuT G j v) = zg G := rfl
theorem zt_zuT (G : zG) (j : Nat) (v : Int64) (j' : Nat) : zt (zuT G j v) j' = if j' = j then v else zt G j' := rfl
theorem zn_zuT (G : zG) (j : Nat) (v : Int64) : zn (zuT G j v) = zn G := rfl
theorem za_zuT (G : zG) (j : Nat) (v : Int64) : za (zuT G j v) = za G := rfl
theorem z_ct_uA (X : zX) (G : zG) (k i : Nat) (f : Nat → Int32) (k' i' : Nat) (h : ¬ (k' = k ∧ i' = i)) : z_ct X (zuA G k i f) k' i' = z_ct X G k' i' := by
  show z_cu X.2 (za G) (zn G) (zt G) k' i' (zg (zuA G k i f) k' i') = _
  rw [zg_zuA, if_neg h]
  rfl
theorem z_ct_uS (X : zX) (G : zG) (k i : Nat) (f : Nat → Int32) : z_ct X (zuA G k i f) k i = z_cu X.2 (za G) (zn G) (zt G) k i f := by
  show z_cu X.2 (za G) (zn G) (zt G) k i (zg (zuA G k i f) k i) = _
  rw [zg_zuA, if_pos ⟨rfl, rfl⟩]
theorem z_cuT0 (I : Nat → ClassId) (a : Nat → Nat → Nat) (n : Nat → Nat) (t t' : Nat → Int64) (k i : Nat) (f : Nat → Int32) (hk : k ≠ 0) (h1 : t' 1 = t 1) (h2 : t' 2 = t 2) : z_cu I a n t' k i f = z_cu I a n t k i f := by
  unfold z_cu
  split <;> first | rfl | (exact absurd rfl hk) | rw [h1, h2]
theorem z_cuT20 (I : Nat → ClassId) (a : Nat → Nat → Nat) (n : Nat → Nat) (t t' : Nat → Int64) (k i : Nat) (f : Nat → Int32) (hk : k ≠ 20) (h0 : t' 0 = t 0) : z_cu I a n t' k i f = z_cu I a n t k i f := by
  unfold z_cu
  split <;> first | rfl | (exact absurd rfl hk) | rw [h0]
theorem z_pl {X : zX} {G : zG} {k i : Nat} (hm : (k, i) ∈ zix G) : ∃ q0 : Nat, (zix G)[q0]? = some (k, i) ∧ (z_ls X G)[q0]? = some (za G k i, z_ct X G k i) := by
  obtain ⟨q0, hq⟩ := List.getElem?_of_mem hm
  exact ⟨q0, hq, by simp [z_ls, hq]⟩
theorem z_set {A : Nat → Prop} {X : zX} {G G' : zG} {k i q0 : Nat} {e' : va_E} (hD : va_D A (z_ls X G)) (hq : (zix G)[q0]? = some (k, i)) (hx : zix G' = zix G) (ha : za G' = za G) (he : z_ct X G' k i = e') (ho : ∀ k' i', (k', i') ∈ zix G → ¬ (k' = k ∧ i' = i) → z_ct X G' k' i' = z_ct X G k' i') : (z_ls X G).set q0 (za G k i, e') = z_ls X G' := by
  apply List.ext_getElem?
  intro n
  have hlen : q0 < (zix G).length := (List.getElem?_eq_some_iff.mp hq).1
  by_cases hn : n = q0
  · subst hn
    rw [List.getElem?_set_self (by simpa [z_ls] using hlen)]
    simp [z_ls, hx, ha, hq, he]
  · rw [List.getElem?_set_ne (Ne.symm hn)]
    simp only [z_ls, hx, List.getElem?_map]
    cases h : (zix G)[n]? with
    | none => rfl
    | some x =>
      have hne : ¬ (x.1 = k ∧ x.2 = i) := by
        rintro ⟨h1, h2⟩
        exact hn (hD.1 n q0 (za G x.1 x.2, z_ct X G x.1 x.2) (za G k i, z_ct X G k i) (by simp [z_ls, h]) (by simp [z_ls, hq]) (by rw [h1, h2]))
      simp only [Option.map_some, ha, ho x.1 x.2 (List.mem_of_getElem? h) hne]
/-! locals by place: what is known of each -/
def zpr : Nat → List (Option Value) → List (Nat × Value)
  | _, [] => []
  | n, none :: t => zpr (n + 1) t
  | n, some v :: t => (n, v) :: zpr (n + 1) t
theorem zpr_mem : ∀ (lv : List (Option Value)) (n : Nat) (q : Nat × Value), q ∈ zpr n lv ↔ ∃ d, q.1 = n + d ∧ lv[d]? = some (some q.2)
  | [], n, q => by simp [zpr]
  | none :: t, n, q => by
    rw [show zpr n (none :: t) = zpr (n + 1) t from rfl, zpr_mem t (n + 1) q]
    constructor
    · rintro ⟨d, h1, h2⟩
      exact ⟨d + 1, by omega, by simpa using h2⟩
    · rintro ⟨d, h1, h2⟩
      cases d with
      | zero => simp at h2
      | succ d => exact ⟨d, by omega, by simpa using h2⟩
  | some v :: t, n, q => by
    rw [show zpr n (some v :: t) = (n, v) :: zpr (n + 1) t from rfl, List.mem_cons, zpr_mem t (n + 1) q]
    constructor
    · rintro (rfl | ⟨d, h1, h2⟩)
      · exact ⟨0, rfl, rfl⟩
      · exact ⟨d + 1, by omega, by simpa using h2⟩
    · rintro ⟨d, h1, h2⟩
      cases d with
      | zero =>
        left
        simp at h2
        exact Prod.ext (by simpa using h1) h2.symm
      | succ d => exact Or.inr ⟨d, by omega, by simpa using h2⟩
def zlv (ls : Array Slot) (nL : Nat) (lv : List (Option Value)) : Prop := ls.size = nL ∧ lv_wf ls ∧ ∀ (i : Nat) (v : Value), lv[i]? = some (some v) → ls[i]? = some (.val v) ∧ v.category = 1
theorem zlv.has {ls : Array Slot} {nL : Nat} {lv : List (Option Value)} (h : zlv ls nL lv) : lv_has ls nL (zpr 0 lv) := ⟨h.1, h.2.1, fun q hq => by
  obtain ⟨d, h1, h2⟩ := (zpr_mem lv 0 q).mp hq
  rw [h1, Nat.zero_add]
  exact (h.2.2 d q.2 h2).1⟩
theorem zlv.put {ls ls' : Array Slot} {nL i : Nat} {v : Value} {lv : List (Option Value)} (h : zlv ls nL lv) (hc : v.category = 1) (h' : lv_has ls' nL ((i, v) :: (zpr 0 lv).filter (fun q => !(q.1 == i) && !(q.1 + 1 == i && q.2.category == 2)))) : zlv ls' nL (lv.set i (some v)) := by
  refine ⟨h'.1, h'.2.1, fun j w hj => ?_⟩
  by_cases hji : j = i
  · subst hji
    have hl : j < lv.length := by
      have := (List.getElem?_eq_some_iff.mp hj).1
      simpa using this
    rw [List.getElem?_set_self hl] at hj
    cases hj
    exact ⟨h'.2.2 (j, v) List.mem_cons_self, hc⟩
  · rw [List.getElem?_set_ne (Ne.symm hji)] at hj
    obtain ⟨h1, h2⟩ := h.2.2 j w hj
    refine ⟨h'.2.2 (j, w) (List.mem_cons_of_mem _ (List.mem_filter.mpr ⟨(zpr_mem lv 0 (j, w)).mpr ⟨j, (Nat.zero_add j).symm, hj⟩, ?_⟩)), h2⟩
    simp [hji, h2]
theorem zlv.drop {ls : Array Slot} {nL i : Nat} {lv : List (Option Value)} (h : zlv ls nL lv) : zlv ls nL (lv.set i none) := by
  refine ⟨h.1, h.2.1, fun j w hj => ?_⟩
  by_cases hji : j = i
  · subst hji
    have hl : j < lv.length := by
      have := (List.getElem?_eq_some_iff.mp hj).1
      simpa using this
    rw [List.getElem?_set_self hl] at hj
    cases hj
  · rw [List.getElem?_set_ne (Ne.symm hji)] at hj
    exact h.2.2 j w hj
theorem lg_sl1 : ∀ vs : List Value, (∀ v ∈ vs, v.category = 1) → lg_sl vs = vs.map Slot.val
  | [], _ => rfl
  | v :: vs, h => by
    have h1 := h v List.mem_cons_self
    have h2 := lg_sl1 vs (fun x hx => h x (List.mem_cons_of_mem _ hx))
    unfold lg_sl at h2 ⊢
    rw [List.flatMap_cons, h2, if_neg (by omega)]
    rfl
theorem zlv_entry (vs : List Value) (n : Nat) (hn : vs.length ≤ n) (hc : ∀ v ∈ vs, v.category = 1) : zlv ((lg_sl vs ++ List.replicate (n - (lg_sl vs).length) Slot.unset).toArray) n (vs.map some ++ List.replicate (n - vs.length) none) := by
  have h0 := lv_entry vs (n := n) (by rw [lg_sl1 vs hc, List.length_map]; exact hn)
  refine ⟨h0.1, h0.2.1, fun i v hi => ?_⟩
  have hl : i < vs.length := by
    apply Nat.lt_of_not_le
    intro hle
    rw [List.getElem?_append_right (by simpa using hle)] at hi
    obtain ⟨h1, h2⟩ := List.getElem?_eq_some_iff.mp hi
    simp at h2
  rw [List.getElem?_append_left (by simpa using hl), List.getElem?_map] at hi
  have hv : vs[i]? = some v := by
    cases hx : vs[i]? with
    | none => rw [hx] at hi; cases hi
    | some x => rw [hx] at hi; cases hi; rfl
  refine ⟨?_, hc v (List.mem_of_getElem? hv)⟩
  rw [lg_sl1 vs hc, List.getElem?_toArray, List.getElem?_append_left (by simpa using hl), List.getElem?_map, hv]
  rfl
/-! what stays for a whole method: tables -/
def zS (X : zX) (U : State) : Prop := va_K X.1 zcl (z_tys X) U ∧ (∀ q ∈ zNF, va_Nw (.fieldLinkNest q.1 q.2.1 q.2.2.1 q.2.2.2.1 q.2.2.2.2.1 q.2.2.2.2.2) U) ∧ ∀ q ∈ zNM, va_Nw (.methodLinkNest q.1 q.2.1 q.2.2.1 q.2.2.2) U
theorem zS.warm {X : zX} {s U : State} (hW : s.WarmedH U.vm) (h : zS X s) : zS X U := ⟨va_K.moved hW.alike h.1, fun q hq => va_Nw.warmF hW (h.2.1 q hq), fun q hq => va_Nw.warmM hW (h.2.2 q hq)⟩
theorem zS.same {X : zX} {u U : State} (e : u.vm = U.vm) (h : zS X u) : zS X U := ⟨va_K.moved (by rw [e]; exact Vm.Alike.refl _) h.1, fun q hq => va_Nw.same rfl e (h.2.1 q hq), fun q hq => va_Nw.same rfl e (h.2.2 q hq)⟩
/-! contracts -/
def zRm (lev bud : Nat) : Room := { frames := lev, cells := bud, slots := 4 * bud, locals := 4000 + 40 * lev }
def zPre (X : zX) (as : List Value) (G : zG) (sz : Nat) : Array Value → State → Prop := fun v U => v = as.toArray ∧ U.heap.size = sz ∧ va_P X.1 zcl (z_ls X G) U.heap ∧ va_D (fun _ => True) (z_ls X G) ∧ zS X U
def zQc (X : zX) (P : Option Value → zG → Prop) (A : Nat → Prop) : Array Value → State → Outcome → State → Prop := fun _ st oc t => (∃ (v : Option Value) (G' : zG), oc = .returned v ∧ P v G' ∧ va_P X.1 zcl (z_ls X G') t.heap ∧ va_D A (z_ls X G')) ∧ va_F A st t
def zC (l : Launch) (y : MethodName) (b : ByteArray) (nL : Nat) (ret : Option FieldType) (lev bud : Nat) (X : zX) (as : List Value) (G : zG) (P : Option Value → zG → Prop) : Prop :=
  ∀ sz : Nat, Met l y (.code y b nL ret :: zall) (zRm lev bud) (zPre X as G sz) (zQc X P (va_A (z_ls X G) sz)) bud (4 * bud) (va_A (z_ls X G) sz)
def Zj (p : Program) (l : Launch) (e : Env) (R : Room) (s : State) (m : MethodId) (args : Array Value) (below : List Frame) (meth : Method) (c : Code) (cells slots : Nat) (Q : State → Prop) (A : Nat → Prop) (H0 : Heap) (nL : Nat) (X : zX) (G : zG) (pc : Nat) (lv : List (Option Value)) (st : List Value) : Prop :=
  ∀ (H : Heap) (locs : List Loc) (ls : Array Slot), va_P X.1 zcl (z_ls X G) H → va_D A (z_ls X G) → va_S A H0 H locs → zlv ls nL lv → W p l e R s m args below meth c H locs cells slots Q (F0 m pc ls st)
abbrev zZ : Type := Nat → zG → Nat → List (Option Value) → List Value → Prop
def zCtx (l : Launch) (X : zX) (cc : ByteArray) (own : String) (nL lev bud : Nat) (Z : zZ) : Prop :=
  ∃ (p : Program) (e : Env) (R : Room) (s : State) (m : MethodId) (args : Array Value) (below : List Frame) (meth : Method) (c : Code) (c0 s0 : Nat) (Q : State → Prop) (A : Nat → Prop) (H0 : Heap),
    Z = (fun n G pc lv st => Zj p l e R s m args below meth c (c0 + n) (s0 + 4 * n) Q A H0 nL X G pc lv st) ∧ p.tables.exec = Jvm.exec ∧ c.code = cc ∧ c.maxLocals = nL ∧ s.vm.findClass own = some m.cls ∧ (∀ w ∈ zall, w.before args s = true) ∧ zS X s ∧ (∀ q : Nat, H0.size ≤ q → A q) ∧ lev ≤ R.frames ∧ 4000 + 40 * lev ≤ R.locals ∧ c0 + bud ≤ R.cells ∧ s0 + 4 * bud ≤ R.slots
def zEnd (cc : ByteArray) (ret : Option FieldType) (bud : Nat) (P : Option Value → zG → Prop) (Z : zZ) : Prop :=
  (∀ (w : Nat) (G : zG) (pc : Nat) (lv : List (Option Value)) (v : Int32) (ty : FieldType), w ≤ bud → ret = some ty → narrow ty (.int v) = .int v → decode cc pc = .ok (.ireturn, 1) → P (some (.int v)) G → Z w G pc lv [.int v]) ∧
  (∀ (w : Nat) (G : zG) (pc : Nat) (lv : List (Option Value)) (v : Value) (nm : String), w ≤ bud → ret = some (.object nm) → (v = .null ∨ ∃ a, v = .ref a) → decode cc pc = .ok (.areturn, 1) → P (some v) G → Z w G pc lv [v]) ∧
  (∀ (w : Nat) (G : zG) (pc : Nat) (lv : List (Option Value)), w ≤ bud → ret = none → decode cc pc = .ok (.return_, 1) → P none G → Z w G pc lv []) ∧
  (∀ (w : Nat) (G : zG) (pc : Nat) (lv : List (Option Value)) (v : Int64), w ≤ bud → ret = some .long → decode cc pc = .ok (.lreturn, 1) → P (some (.long v)) G → Z w G pc lv [.long v])
set_option maxHeartbeats 1000000 in
theorem zC_of {l : Launch} {y : MethodName} {cc : ByteArray} {nL : Nat} {ret : Option FieldType} {lev bud : Nat} {X : zX} {as : List Value} {G : zG} {P : Option Value → zG → Prop} (hy : plainName y.cls = true) (hc : ∀ v ∈ as, v.category = 1) (hn : as.length ≤ nL)
    (body : ∀ Z : zZ, zCtx l X cc y.cls nL lev bud Z → zEnd cc ret bud P Z → Z 0 G 0 (as.map some ++ List.replicate (nL - as.length) none) []) : zC l y cc nL ret lev bud X as G P := by
  intro sz
  refine Met.ofW (cc := cc) (maxL := nL) (ret := ret) hy rfl ?_
  intro p e s m args below meth c s₁ B hml hv
  obtain ⟨rfl, hsz, hP, hD, hSt⟩ := hv
  subst hsz
  have hts := atoms_spec (ws := Cond.code y cc nL ret :: zall) B.pre
  have hown : s.vm.findClass y.cls = some m.cls := findClass_of_methodNamed B.named
  have hlocks := B.notSynchronized
  have hx := B.exec
  have hb := B.bytes
  have hr := B.returns
  rw [lg_entry_eq]
  have key := body (fun n G' pc lv st => Zj p l e (zRm lev bud) s m as.toArray below meth c (0 + n) (0 + 4 * n) (MQ below (zQc X P (va_A (z_ls X G) s.heap.size)) as.toArray s bud (4 * bud) (va_A (z_ls X G) s.heap.size)) (va_A (z_ls X G) s.heap.size) s.heap nL X G' pc lv st)
    ⟨p, e, zRm lev bud, s, m, as.toArray, below, meth, c, 0, 0, _, va_A (z_ls X G) s.heap.size, s.heap, rfl, hx, hb, hml, hown, fun w hw => hts w (List.mem_cons_of_mem _ hw), hSt, fun q h => Or.inr h, Nat.le_refl _, Nat.le_refl _, by simp [zRm], by simp [zRm]⟩
    ⟨fun w G' pc lv v ty hw h1 h2 hd hp H locs ls hP' hD' hS' hl => W.widen (k := bud) (n := 4 * bud) (by omega) (by omega) (W.zret hx hb (hr.trans h1) h2 (fun t ht hW => ⟨⟨_, G', rfl, hp, by rw [ht]; exact hP', hD'⟩, hS'.F ht⟩) hS'.2.2 hd),
     fun w G' pc lv v nm hw h1 h2 hd hp H locs ls hP' hD' hS' hl => W.widen (k := bud) (n := 4 * bud) (by omega) (by omega) (W.aret hx hb (hr.trans h1) (Or.inl ⟨nm, rfl⟩) h2 (fun t ht hW => ⟨⟨_, G', rfl, hp, by rw [ht]; exact hP', hD'⟩, hS'.F ht⟩) hS'.2.2 hd),
     fun w G' pc lv hw h1 hd hp H locs ls hP' hD' hS' hl => W.widen (k := bud) (n := 4 * bud) (by omega) (by omega) (W.vret hx hb (hr.trans h1) (fun t ht hW => ⟨⟨_, G', rfl, hp, by rw [ht]; exact hP', hD'⟩, hS'.F ht⟩) hS'.2.2 hd),
     fun w G' pc lv v hw h1 hd hp H locs ls hP' hD' hS' hl => W.widen (k := bud) (n := 4 * bud) (by omega) (by omega) (W.lret hx hb (hr.trans h1) (fun t ht hW => ⟨⟨_, G', rfl, hp, by rw [ht]; exact hP', hD'⟩, hS'.F ht⟩) hS'.2.2 hd)⟩
  exact key s.heap [] _ hP hD.self va_S.rf (zlv_entry as nL hn hc)
/-! behind a call -/
theorem zj_after {p : Program} {l : Launch} {e : Env} {R : Room} {s : State} {m : MethodId} {args : Array Value} {below : List Frame} {meth : Method} {c : Code} {H : Heap} {locs : List Loc} {cells slots mc ms : Nat} {Q : State → Prop} {pc : Nat} {ls : Array Slot} {rest st0 : List Value} {a : Array Value} {A0 A1 : Nat → Prop} {H0 : Heap} {free : Addr → Prop} {X : zX} {P : Option Value → zG → Prop}
    (hr : va_Run p l e R s m args below meth c H locs cells slots mc ms (F0 m pc ls st0) rest (zQc X P A1 a) free) (hS : va_S A0 H0 H locs) (hA : ∀ q, A1 q → A0 q) (hf : ∀ q, free q → A0 q)
    (kk : ∀ (v : Option Value) (G' : zG) (H1 : Heap) (locs1 : List Loc), P v G' → va_P X.1 zcl (z_ls X G') H1 → va_D A0 (z_ls X G') → va_S A0 H0 H1 locs1 → W p l e R s m args below meth c H1 locs1 (cells + mc) (slots + ms) Q (F0 m (pc + 3) ls (v.toList ++ rest))) : W p l e R s m args below meth c H locs cells slots Q (F0 m pc ls st0) := by
  intro T hT Xx
  obtain ⟨v, st₀, t, T', L, h0, X', hL, e1, e2, ⟨⟨v', G', hv, hp, hb, hd⟩, hz, hk⟩, st⟩ := hr T hT Xx
  cases hv
  rw [h0] at hz hk
  obtain ⟨t2, a1, b1⟩ := kk v G' T'.heap (locs ++ L) hp (by rw [e1]; exact hb) (hd.weaken (fun k q _ h => hA q.1 h))
    ⟨Nat.le_trans hS.1 (by rw [e1]; exact hz), fun q h1 h2 => by rw [e1, hk q (Nat.lt_of_lt_of_le h1 hS.1) (fun z => h2 (hA q z))]; exact hS.2.1 q h1 h2, fun q hq => by
      rcases List.mem_append.mp hq with h | h
      · exact hS.2.2 q h
      · exact hf _ (hL q h)⟩ T' rfl X'
  exact ⟨t2, st t2 a1, b1⟩
def zO (X : zX) (G : zG) (a : Nat) (C : String) : Prop := ∃ (k i ci : Nat) (fs : List Value) (q : vw_C), (k, i) ∈ zix G ∧ a = za G k i ∧ z_ct X G k i = .inr (ci, fs) ∧ zcl[ci]? = some q ∧ q.1 = C
section ZR
variable {l : Launch} {X : zX} {cc : ByteArray} {own : String} {nL lev bud : Nat} {Z : zZ} {w : Nat} {G : zG} {pc : Nat} {lv : List (Option Value)} {st : List Value}
theorem z_iconst (hC : zCtx l X cc own nL lev bud Z) {n : Int} {v : Int32} (hd : decode cc pc = .ok (.iconst n, 1)) (hv : Int32.ofInt n = v) (k : Z w G (pc + 1) lv (.int v :: st)) : Z w G pc lv st := by
  obtain ⟨p, e, R, s, m, args, below, meth, c, c0, s0, Q, A, H0, rfl, hx, hb, hml, hown, hts, hSt, hA, hl1, hl2, hl3, hl4⟩ := hC
  exact fun H locs ls hP hD hS hl => lv_iconst hx hb hd hv (k H locs ls hP hD hS hl)
theorem z_bipush (hC : zCtx l X cc own nL lev bud Z) {n : Int} {v : Int32} (hd : decode cc pc = .ok (.bipush n, 2)) (hv : (Int8.ofInt n).toInt32 = v) (k : Z w G (pc + 2) lv (.int v :: st)) : Z w G pc lv st := by
  obtain ⟨p, e, R, s, m, args, below, meth, c, c0, s0, Q, A, H0, rfl, hx, hb, hml, hown, hts, hSt, hA, hl1, hl2, hl3, hl4⟩ := hC
  exact fun H locs ls hP hD hS hl => lv_bipush hx hb hd hv (k H locs ls hP hD hS hl)
theorem z_sipush (hC : zCtx l X cc own nL lev bud Z) {n : Int} {v : Int32} (hd : decode cc pc = .ok (.sipush n, 3)) (hv : (Int16.ofInt n).toInt32 = v) (k : Z w G (pc + 3) lv (.int v :: st)) : Z w G pc lv st := by
  obtain ⟨p, e, R, s, m, args, below, meth, c, c0, s0, Q, A, H0, rfl, hx, hb, hml, hown, hts, hSt, hA, hl1, hl2, hl3, hl4⟩ := hC
  exact fun H locs ls hP hD hS hl => lv_sipush hx hb hd hv (k H locs ls hP hD hS hl)
theorem z_lconst (hC : zCtx l X cc own nL lev bud Z) {n : Fin 2} {v : Int64} (hd : decode cc pc = .ok (.lconst n, 1)) (hv : Int64.ofNat (n : Nat) = v) (k : Z w G (pc + 1) lv (.long v :: st)) : Z w G pc lv st := by
  obtain ⟨p, e, R, s, m, args, below, meth, c, c0, s0, Q, A, H0, rfl, hx, hb, hml, hown, hts, hSt, hA, hl1, hl2, hl3, hl4⟩ := hC
  exact fun H locs ls hP hD hS hl => lv_lconst hx hb hd hv (k H locs ls hP hD hS hl)
theorem z_null (hC : zCtx l X cc own nL lev bud Z) (hd : decode cc pc = .ok (.aconst_null, 1)) (k : Z w G (pc + 1) lv (.null :: st)) : Z w G pc lv st := by
  obtain ⟨p, e, R, s, m, args, below, meth, c, c0, s0, Q, A, H0, rfl, hx, hb, hml, hown, hts, hSt, hA, hl1, hl2, hl3, hl4⟩ := hC
  exact fun H locs ls hP hD hS hl => lv_null hx hb hd (k H locs ls hP hD hS hl)
theorem z_ilN (hC : zCtx l X cc own nL lev bud Z) {j : Fin 4} {i : Nat} {x : Int32} (hd : decode cc pc = .ok (.iload_n j, 1)) (hi : (j : Nat) = i) (h : lv[i]? = some (some (.int x))) (k : Z w G (pc + 1) lv (.int x :: st)) : Z w G pc lv st := by
  obtain ⟨p, e, R, s, m, args, below, meth, c, c0, s0, Q, A, H0, rfl, hx, hb, hml, hown, hts, hSt, hA, hl1, hl2, hl3, hl4⟩ := hC
  exact fun H locs ls hP hD hS hl => lv_iload_n hx hb hd hi (hl.2.2 i _ h).1 (k H locs ls hP hD hS hl)
theorem z_ilW (hC : zCtx l X cc own nL lev bud Z) {i : Nat} {x : Int32} (hd : decode cc pc = .ok (.iload i, 2)) (h : lv[i]? = some (some (.int x))) (k : Z w G (pc + 2) lv (.int x :: st)) : Z w G pc lv st := by
  obtain ⟨p, e, R, s, m, args, below, meth, c, c0, s0, Q, A, H0, rfl, hx, hb, hml, hown, hts, hSt, hA, hl1, hl2, hl3, hl4⟩ := hC
  exact fun H locs ls hP hD hS hl => lv_iload hx hb hd (hl.2.2 i _ h).1 (k H locs ls hP hD hS hl)
theorem z_alN (hC : zCtx l X cc own nL lev bud Z) {j : Fin 4} {i : Nat} {x : Nat} (hd : decode cc pc = .ok (.aload_n j, 1)) (hi : (j : Nat) = i) (h : lv[i]? = some (some (.ref x))) (k : Z w G (pc + 1) lv (.ref x :: st)) : Z w G pc lv st := by
  obtain ⟨p, e, R, s, m, args, below, meth, c, c0, s0, Q, A, H0, rfl, hx, hb, hml, hown, hts, hSt, hA, hl1, hl2, hl3, hl4⟩ := hC
  exact fun H locs ls hP hD hS hl => lv_aload_n hx hb hd hi (hl.2.2 i _ h).1 (k H locs ls hP hD hS hl)
theorem z_alW (hC : zCtx l X cc own nL lev bud Z) {i : Nat} {x : Nat} (hd : decode cc pc = .ok (.aload i, 2)) (h : lv[i]? = some (some (.ref x))) (k : Z w G (pc + 2) lv (.ref x :: st)) : Z w G pc lv st := by
  obtain ⟨p, e, R, s, m, args, below, meth, c, c0, s0, Q, A, H0, rfl, hx, hb, hml, hown, hts, hSt, hA, hl1, hl2, hl3, hl4⟩ := hC
  exact fun H locs ls hP hD hS hl => lv_aload hx hb hd (hl.2.2 i _ h).1 (k H locs ls hP hD hS hl)
theorem z_nlN (hC : zCtx l X cc own nL lev bud Z) {j : Fin 4} {i : Nat} (hd : decode cc pc = .ok (.aload_n j, 1)) (hi : (j : Nat) = i) (h : lv[i]? = some (some .null)) (k : Z w G (pc + 1) lv (.null :: st)) : Z w G pc lv st := by
  obtain ⟨p, e, R, s, m, args, below, meth, c, c0, s0, Q, A, H0, rfl, hx, hb, hml, hown, hts, hSt, hA, hl1, hl2, hl3, hl4⟩ := hC
  exact fun H locs ls hP hD hS hl => lv_aload_nN hx hb hd hi (hl.2.2 i _ h).1 (k H locs ls hP hD hS hl)
theorem z_nlW (hC : zCtx l X cc own nL lev bud Z) {i : Nat} (hd : decode cc pc = .ok (.aload i, 2)) (h : lv[i]? = some (some .null)) (k : Z w G (pc + 2) lv (.null :: st)) : Z w G pc lv st := by
  obtain ⟨p, e, R, s, m, args, below, meth, c, c0, s0, Q, A, H0, rfl, hx, hb, hml, hown, hts, hSt, hA, hl1, hl2, hl3, hl4⟩ := hC
  exact fun H locs ls hP hD hS hl => lv_aloadN hx hb hd (hl.2.2 i _ h).1 (k H locs ls hP hD hS hl)
theorem z_isN (hC : zCtx l X cc own nL lev bud Z) {j : Fin 4} {i : Nat} {x : Int32} (hd : decode cc pc = .ok (.istore_n j, 1)) (hi : (j : Nat) = i) (hn : i < nL) (k : Z w G (pc + 1) (lv.set i (some (.int x))) st) : Z w G pc lv (.int x :: st) := by
  obtain ⟨p, e, R, s, m, args, below, meth, c, c0, s0, Q, A, H0, rfl, hx, hb, hml, hown, hts, hSt, hA, hl1, hl2, hl3, hl4⟩ := hC
  exact fun H locs ls hP hD hS hl => lv_istore_n hx hb hd hi hl.has hn rfl (fun ls2 h2 => k H locs ls2 hP hD hS (hl.put rfl h2))
theorem z_isW (hC : zCtx l X cc own nL lev bud Z) {i : Nat} {x : Int32} (hd : decode cc pc = .ok (.istore i, 2)) (hn : i < nL) (k : Z w G (pc + 2) (lv.set i (some (.int x))) st) : Z w G pc lv (.int x :: st) := by
  obtain ⟨p, e, R, s, m, args, below, meth, c, c0, s0, Q, A, H0, rfl, hx, hb, hml, hown, hts, hSt, hA, hl1, hl2, hl3, hl4⟩ := hC
  exact fun H locs ls hP hD hS hl => lv_istore hx hb hd hl.has hn rfl (fun ls2 h2 => k H locs ls2 hP hD hS (hl.put rfl h2))
theorem z_asN (hC : zCtx l X cc own nL lev bud Z) {j : Fin 4} {i : Nat} {x : Nat} (hd : decode cc pc = .ok (.astore_n j, 1)) (hi : (j : Nat) = i) (hn : i < nL) (k : Z w G (pc + 1) (lv.set i (some (.ref x))) st) : Z w G pc lv (.ref x :: st) := by
  obtain ⟨p, e, R, s, m, args, below, meth, c, c0, s0, Q, A, H0, rfl, hx, hb, hml, hown, hts, hSt, hA, hl1, hl2, hl3, hl4⟩ := hC
  exact fun H locs ls hP hD hS hl => lv_astore_n hx hb hd hi hl.has hn rfl (fun ls2 h2 => k H locs ls2 hP hD hS (hl.put rfl h2))
theorem z_asW (hC : zCtx l X cc own nL lev bud Z) {i : Nat} {x : Nat} (hd : decode cc pc = .ok (.astore i, 2)) (hn : i < nL) (k : Z w G (pc + 2) (lv.set i (some (.ref x))) st) : Z w G pc lv (.ref x :: st) := by
  obtain ⟨p, e, R, s, m, args, below, meth, c, c0, s0, Q, A, H0, rfl, hx, hb, hml, hown, hts, hSt, hA, hl1, hl2, hl3, hl4⟩ := hC
  exact fun H locs ls hP hD hS hl => lv_astore hx hb hd hl.has hn rfl (fun ls2 h2 => k H locs ls2 hP hD hS (hl.put rfl h2))
theorem z_nsN (hC : zCtx l X cc own nL lev bud Z) {j : Fin 4} {i : Nat} (hd : decode cc pc = .ok (.astore_n j, 1)) (hi : (j : Nat) = i) (hn : i < nL) (k : Z w G (pc + 1) (lv.set i (some (.null))) st) : Z w G pc lv (.null :: st) := by
  obtain ⟨p, e, R, s, m, args, below, meth, c, c0, s0, Q, A, H0, rfl, hx, hb, hml, hown, hts, hSt, hA, hl1, hl2, hl3, hl4⟩ := hC
  exact fun H locs ls hP hD hS hl => lv_astore_nN hx hb hd hi hl.has hn rfl (fun ls2 h2 => k H locs ls2 hP hD hS (hl.put rfl h2))
theorem z_nsW (hC : zCtx l X cc own nL lev bud Z) {i : Nat} (hd : decode cc pc = .ok (.astore i, 2)) (hn : i < nL) (k : Z w G (pc + 2) (lv.set i (some (.null))) st) : Z w G pc lv (.null :: st) := by
  obtain ⟨p, e, R, s, m, args, below, meth, c, c0, s0, Q, A, H0, rfl, hx, hb, hml, hown, hts, hSt, hA, hl1, hl2, hl3, hl4⟩ := hC
  exact fun H locs ls hP hD hS hl => lv_astoreN hx hb hd hl.has hn rfl (fun ls2 h2 => k H locs ls2 hP hD hS (hl.put rfl h2))
theorem z_iinc (hC : zCtx l X cc own nL lev bud Z) {i : Nat} {n : Int} {x v : Int32} (hd : decode cc pc = .ok (.iinc i n, 3)) (h : lv[i]? = some (some (.int x))) (hv : x + Int32.ofInt n = v) (hn : i < nL) (k : Z w G (pc + 3) (lv.set i (some (.int v))) st) : Z w G pc lv st := by
  obtain ⟨p, e, R, s, m, args, below, meth, c, c0, s0, Q, A, H0, rfl, hx, hb, hml, hown, hts, hSt, hA, hl1, hl2, hl3, hl4⟩ := hC
  intro H locs ls hP hD hS hl
  obtain ⟨k0, hk0⟩ := List.getElem?_of_mem ((zpr_mem lv 0 (i, .int x)).mpr ⟨i, (Nat.zero_add i).symm, h⟩)
  exact lv_iinc hx hb hd hl.has hk0 hv hn rfl (fun ls2 h2 => k H locs ls2 hP hD hS (hl.put rfl h2))
theorem z_drop (hC : zCtx l X cc own nL lev bud Z) (i : Nat) (k : Z w G pc (lv.set i none) st) : Z w G pc lv st := by
  obtain ⟨p, e, R, s, m, args, below, meth, c, c0, s0, Q, A, H0, rfl, hx, hb, hml, hown, hts, hSt, hA, hl1, hl2, hl3, hl4⟩ := hC
  exact fun H locs ls hP hD hS hl => k H locs ls hP hD hS hl.drop
theorem z_il0 (hC : zCtx l X cc own nL lev bud Z) {x : Int32} {t : List (Option Value)} (hd : decode cc pc = .ok (.iload_n 0, 1)) (k : Z w G (pc + 1) (some (.int x) :: t) (.int x :: st)) : Z w G pc (some (.int x) :: t) st := z_ilN hC hd rfl rfl k
theorem z_al0 (hC : zCtx l X cc own nL lev bud Z) {x : Nat} {t : List (Option Value)} (hd : decode cc pc = .ok (.aload_n 0, 1)) (k : Z w G (pc + 1) (some (.ref x) :: t) (.ref x :: st)) : Z w G pc (some (.ref x) :: t) st := z_alN hC hd rfl rfl k
theorem z_nl0 (hC : zCtx l X cc own nL lev bud Z) {t : List (Option Value)} (hd : decode cc pc = .ok (.aload_n 0, 1)) (k : Z w G (pc + 1) (some .null :: t) (.null :: st)) : Z w G pc (some .null :: t) st := z_nlN hC hd rfl rfl k
theorem z_is0 (hC : zCtx l X cc own nL lev bud Z) {x : Int32} {o : Option Value} {t : List (Option Value)} (hd : decode cc pc = .ok (.istore_n 0, 1)) (hn : 0 < nL) (k : Z w G (pc + 1) (some (.int x) :: t) st) : Z w G pc (o :: t) (.int x :: st) := z_isN hC hd rfl hn k
theorem z_as0 (hC : zCtx l X cc own nL lev bud Z) {x : Nat} {o : Option Value} {t : List (Option Value)} (hd : decode cc pc = .ok (.astore_n 0, 1)) (hn : 0 < nL) (k : Z w G (pc + 1) (some (.ref x) :: t) st) : Z w G pc (o :: t) (.ref x :: st) := z_asN hC hd rfl hn k
theorem z_ns0 (hC : zCtx l X cc own nL lev bud Z) {o : Option Value} {t : List (Option Value)} (hd : decode cc pc = .ok (.astore_n 0, 1)) (hn : 0 < nL) (k : Z w G (pc + 1) (some (.null) :: t) st) : Z w G pc (o :: t) (.null :: st) := z_nsN hC hd rfl hn k
theorem z_dr0 (hC : zCtx l X cc own nL lev bud Z) {o : Option Value} {t : List (Option Value)} (k : Z w G pc (none :: t) st) : Z w G pc (o :: t) st := z_drop hC 0 k
theorem z_inc0 (hC : zCtx l X cc own nL lev bud Z) {n : Nat} {t : List (Option Value)} (hd : decode cc pc = .ok (.iinc 0 1, 3)) (hn : 0 < nL) (k : Z w G (pc + 3) (some (.int (nI (n + 1))) :: t) st) : Z w G pc (some (.int (nI n)) :: t) st := z_iinc hC hd rfl (nI_succ n).symm hn k
theorem z_il1 (hC : zCtx l X cc own nL lev bud Z) {a0 : Option Value} {x : Int32} {t : List (Option Value)} (hd : decode cc pc = .ok (.iload_n 1, 1)) (k : Z w G (pc + 1) (a0 :: some (.int x) :: t) (.int x :: st)) : Z w G pc (a0 :: some (.int x) :: t) st := z_ilN hC hd rfl rfl k
theorem z_al1 (hC : zCtx l X cc own nL lev bud Z) {a0 : Option Value} {x : Nat} {t : List (Option Value)} (hd : decode cc pc = .ok (.aload_n 1, 1)) (k : Z w G (pc + 1) (a0 :: some (.ref x) :: t) (.ref x :: st)) : Z w G pc (a0 :: some (.ref x) :: t) st := z_alN hC hd rfl rfl k
theorem z_nl1 (hC : zCtx l X cc own nL lev bud Z) {a0 : Option Value} {t : List (Option Value)} (hd : decode cc pc = .ok (.aload_n 1, 1)) (k : Z w G (pc + 1) (a0 :: some .null :: t) (.null :: st)) : Z w G pc (a0 :: some .null :: t) st := z_nlN hC hd rfl rfl k
theorem z_is1 (hC : zCtx l X cc own nL lev bud Z) {a0 : Option Value} {x : Int32} {o : Option Value} {t : List (Option Value)} (hd : decode cc pc = .ok (.istore_n 1, 1)) (hn : 1 < nL) (k : Z w G (pc + 1) (a0 :: some (.int x) :: t) st) : Z w G pc (a0 :: o :: t) (.int x :: st) := z_isN hC hd rfl hn k
theorem z_as1 (hC : zCtx l X cc own nL lev bud Z) {a0 : Option Value} {x : Nat} {o : Option Value} {t : List (Option Value)} (hd : decode cc pc = .ok (.astore_n 1, 1)) (hn : 1 < nL) (k : Z w G (pc + 1) (a0 :: some (.ref x) :: t) st) : Z w G pc (a0 :: o :: t) (.ref x :: st) := z_asN hC hd rfl hn k
theorem z_ns1 (hC : zCtx l X cc own nL lev bud Z) {a0 : Option Value} {o : Option Value} {t : List (Option Value)} (hd : decode cc pc = .ok (.astore_n 1, 1)) (hn : 1 < nL) (k : Z w G (pc + 1) (a0 :: some (.null) :: t) st) : Z w G pc (a0 :: o :: t) (.null :: st) := z_nsN hC hd rfl hn k
theorem z_dr1 (hC : zCtx l X cc own nL lev bud Z) {a0 : Option Value} {o : Option Value} {t : List (Option Value)} (k : Z w G pc (a0 :: none :: t) st) : Z w G pc (a0 :: o :: t) st := z_drop hC 1 k
theorem z_inc1 (hC : zCtx l X cc own nL lev bud Z) {a0 : Option Value} {n : Nat} {t : List (Option Value)} (hd : decode cc pc = .ok (.iinc 1 1, 3)) (hn : 1 < nL) (k : Z w G (pc + 3) (a0 :: some (.int (nI (n + 1))) :: t) st) : Z w G pc (a0 :: some (.int (nI n)) :: t) st := z_iinc hC hd rfl (nI_succ n).symm hn k
theorem z_il2 (hC : zCtx l X cc own nL lev bud Z) {a0 : Option Value} {a1 : Option Value} {x : Int32} {t : List (Option Value)} (hd : decode cc pc = .ok (.iload_n 2, 1)) (k : Z w G (pc + 1) (a0 :: a1 :: some (.int x) :: t) (.int x :: st)) : Z w G pc (a0 :: a1 :: some (.int x) :: t) st := z_ilN hC hd rfl rfl k
theorem z_al2 (hC : zCtx l X cc own nL lev bud Z) {a0 : Option Value} {a1 : Option Value} {x : Nat} {t : List (Option Value)} (hd : decode cc pc = .ok (.aload_n 2, 1)) (k : Z w G (pc + 1) (a0 :: a1 :: some (.ref x) :: t) (.ref x :: st)) : Z w G pc (a0 :: a1 :: some (.ref x) :: t) st := z_alN hC hd rfl rfl k
theorem z_nl2 (hC : zCtx l X cc own nL lev bud Z) {a0 : Option Value} {a1 : Option Value} {t : List (Option Value)} (hd : decode cc pc = .ok (.aload_n 2, 1)) (k : Z w G (pc + 1) (a0 :: a1 :: some .null :: t) (.null :: st)) : Z w G pc (a0 :: a1 :: some .null :: t) st := z_nlN hC hd rfl rfl k
theorem z_is2 (hC : zCtx l X cc own nL lev bud Z) {a0 : Option Value} {a1 : Option Value} {x : Int32} {o : Option Value} {t : List (Option Value)} (hd : decode cc pc = .ok (.istore_n 2, 1)) (hn : 2 < nL) (k : Z w G (pc + 1) (a0 :: a1 :: some (.int x) :: t) st) : Z w G pc (a0 :: a1 :: o :: t) (.int x :: st) := z_isN hC hd rfl hn k
theorem z_as2 (hC : zCtx l X cc own nL lev bud Z) {a0 : Option Value} {a1 : Option Value} {x : Nat} {o : Option Value} {t : List (Option Value)} (hd : decode cc pc = .ok (.astore_n 2, 1)) (hn : 2 < nL) (k : Z w G (pc + 1) (a0 :: a1 :: some (.ref x) :: t) st) : Z w G pc (a0 :: a1 :: o :: t) (.ref x :: st) := z_asN hC hd rfl hn k
theorem z_ns2 (hC : zCtx l X cc own nL lev bud Z) {a0 : Option Value} {a1 : Option Value} {o : Option Value} {t : List (Option Value)} (hd : decode cc pc = .ok (.astore_n 2, 1)) (hn : 2 < nL) (k : Z w G (pc + 1) (a0 :: a1 :: some (.null) :: t) st) : Z w G pc (a0 :: a1 :: o :: t) (.null :: st) := z_nsN hC hd rfl hn k
theorem z_dr2 (hC : zCtx l X cc own nL lev bud Z) {a0 : Option Value} {a1 : Option Value} {o : Option Value} {t : List (Option Value)} (k : Z w G pc (a0 :: a1 :: none :: t) st) : Z w G pc (a0 :: a1 :: o :: t) st := z_drop hC 2 k
theorem z_inc2 (hC : zCtx l X cc own nL lev bud Z) {a0 : Option Value} {a1 : Option Value} {n : Nat} {t : List (Option Value)} (hd : decode cc pc = .ok (.iinc 2 1, 3)) (hn : 2 < nL) (k : Z w G (pc + 3) (a0 :: a1 :: some (.int (nI (n + 1))) :: t) st) : Z w G pc (a0 :: a1 :: some (.int (nI n)) :: t) st := z_iinc hC hd rfl (nI_succ n).symm hn k
theorem z_il3 (hC : zCtx l X cc own nL lev bud Z) {a0 : Option Value} {a1 : Option Value} {a2 : Option Value} {x : Int32} {t : List (Option Value)} (hd : decode cc pc = .ok (.iload_n 3, 1)) (k : Z w G (pc + 1) (a0 :: a1 :: a2 :: some (.int x) :: t) (.int x :: st)) : Z w G pc (a0 :: a1 :: a2 :: some (.int x) :: t) st := z_ilN hC hd rfl rfl k
theorem z_al3 (hC : zCtx l X cc own nL lev bud Z) {a0 : Option Value} {a1 : Option Value} {a2 : Option Value} {x : Nat} {t : List (Option Value)} (hd : decode cc pc = .ok (.aload_n 3, 1)) (k : Z w G (pc + 1) (a0 :: a1 :: a2 :: some (.ref x) :: t) (.ref x :: st)) : Z w G pc (a0 :: a1 :: a2 :: some (.ref x) :: t) st := z_alN hC hd rfl rfl k
theorem z_nl3 (hC : zCtx l X cc own nL lev bud Z) {a0 : Option Value} {a1 : Option Value} {a2 : Option Value} {t : List (Option Value)} (hd : decode cc pc = .ok (.aload_n 3, 1)) (k : Z w G (pc + 1) (a0 :: a1 :: a2 :: some .null :: t) (.null :: st)) : Z w G pc (a0 :: a1 :: a2 :: some .null :: t) st := z_nlN hC hd rfl rfl k
theorem z_is3 (hC : zCtx l X cc own nL lev bud Z) {a0 : Option Value} {a1 : Option Value} {a2 : Option Value} {x : Int32} {o : Option Value} {t : List (Option Value)} (hd : decode cc pc = .ok (.istore_n 3, 1)) (hn : 3 < nL) (k : Z w G (pc + 1) (a0 :: a1 :: a2 :: some (.int x) :: t) st) : Z w G pc (a0 :: a1 :: a2 :: o :: t) (.int x :: st) := z_isN hC hd rfl hn k
theorem z_as3 (hC : zCtx l X cc own nL lev bud Z) {a0 : Option Value} {a1 : Option Value} {a2 : Option Value} {x : Nat} {o : Option Value} {t : List (Option Value)} (hd : decode cc pc = .ok (.astore_n 3, 1)) (hn : 3 < nL) (k : Z w G (pc + 1) (a0 :: a1 :: a2 :: some (.ref x) :: t) st) : Z w G pc (a0 :: a1 :: a2 :: o :: t) (.ref x :: st) := z_asN hC hd rfl hn k
theorem z_ns3 (hC : zCtx l X cc own nL lev bud Z) {a0 : Option Value} {a1 : Option Value} {a2 : Option Value} {o : Option Value} {t : List (Option Value)} (hd : decode cc pc = .ok (.astore_n 3, 1)) (hn : 3 < nL) (k : Z w G (pc + 1) (a0 :: a1 :: a2 :: some (.null) :: t) st) : Z w G pc (a0 :: a1 :: a2 :: o :: t) (.null :: st) := z_nsN hC hd rfl hn k
theorem z_dr3 (hC : zCtx l X cc own nL lev bud Z) {a0 : Option Value} {a1 : Option Value} {a2 : Option Value} {o : Option Value} {t : List (Option Value)} (k : Z w G pc (a0 :: a1 :: a2 :: none :: t) st) : Z w G pc (a0 :: a1 :: a2 :: o :: t) st := z_drop hC 3 k
theorem z_inc3 (hC : zCtx l X cc own nL lev bud Z) {a0 : Option Value} {a1 : Option Value} {a2 : Option Value} {n : Nat} {t : List (Option Value)} (hd : decode cc pc = .ok (.iinc 3 1, 3)) (hn : 3 < nL) (k : Z w G (pc + 3) (a0 :: a1 :: a2 :: some (.int (nI (n + 1))) :: t) st) : Z w G pc (a0 :: a1 :: a2 :: some (.int (nI n)) :: t) st := z_iinc hC hd rfl (nI_succ n).symm hn k
theorem z_il4 (hC : zCtx l X cc own nL lev bud Z) {a0 : Option Value} {a1 : Option Value} {a2 : Option Value} {a3 : Option Value} {x : Int32} {t : List (Option Value)} (hd : decode cc pc = .ok (.iload 4, 2)) (k : Z w G (pc + 2) (a0 :: a1 :: a2 :: a3 :: some (.int x) :: t) (.int x :: st)) : Z w G pc (a0 :: a1 :: a2 :: a3 :: some (.int x) :: t) st := z_ilW hC hd rfl k
theorem z_al4 (hC : zCtx l X cc own nL lev bud Z) {a0 : Option Value} {a1 : Option Value} {a2 : Option Value} {a3 : Option Value} {x : Nat} {t : List (Option Value)} (hd : decode cc pc = .ok (.aload 4, 2)) (k : Z w G (pc + 2) (a0 :: a1 :: a2 :: a3 :: some (.ref x) :: t) (.ref x :: st)) : Z w G pc (a0 :: a1 :: a2 :: a3 :: some (.ref x) :: t) st := z_alW hC hd rfl k
theorem z_nl4 (hC : zCtx l X cc own nL lev bud Z) {a0 : Option Value} {a1 : Option Value} {a2 : Option Value} {a3 : Option Value} {t : List (Option Value)} (hd : decode cc pc = .ok (.aload 4, 2)) (k : Z w G (pc + 2) (a0 :: a1 :: a2 :: a3 :: some .null :: t) (.null :: st)) : Z w G pc (a0 :: a1 :: a2 :: a3 :: some .null :: t) st := z_nlW hC hd rfl k
theorem z_is4 (hC : zCtx l X cc own nL lev bud Z) {a0 : Option Value} {a1 : Option Value} {a2 : Option Value} {a3 : Option Value} {x : Int32} {o : Option Value} {t : List (Option Value)} (hd : decode cc pc = .ok (.istore 4, 2)) (hn : 4 < nL) (k : Z w G (pc + 2) (a0 :: a1 :: a2 :: a3 :: some (.int x) :: t) st) : Z w G pc (a0 :: a1 :: a2 :: a3 :: o :: t) (.int x :: st) := z_isW hC hd hn k
theorem z_as4 (hC : zCtx l X cc own nL lev bud Z) {a0 : Option Value} {a1 : Option Value} {a2 : Option Value} {a3 : Option Value} {x : Nat} {o : Option Value} {t : List (Option Value)} (hd : decode cc pc = .ok (.astore 4, 2)) (hn : 4 < nL) (k : Z w G (pc + 2) (a0 :: a1 :: a2 :: a3 :: some (.ref x) :: t) st) : Z w G pc (a0 :: a1 :: a2 :: a3 :: o :: t) (.ref x :: st) := z_asW hC hd hn k
theorem z_ns4 (hC : zCtx l X cc own nL lev bud Z) {a0 : Option Value} {a1 : Option Value} {a2 : Option Value} {a3 : Option Value} {o : Option Value} {t : List (Option Value)} (hd : decode cc pc = .ok (.astore 4, 2)) (hn : 4 < nL) (k : Z w G (pc + 2) (a0 :: a1 :: a2 :: a3 :: some (.null) :: t) st) : Z w G pc (a0 :: a1 :: a2 :: a3 :: o :: t) (.null :: st) := z_nsW hC hd hn k
theorem z_dr4 (hC : zCtx l X cc own nL lev bud Z) {a0 : Option Value} {a1 : Option Value} {a2 : Option Value} {a3 : Option Value} {o : Option Value} {t : List (Option Value)} (k : Z w G pc (a0 :: a1 :: a2 :: a3 :: none :: t) st) : Z w G pc (a0 :: a1 :: a2 :: a3 :: o :: t) st := z_drop hC 4 k
theorem z_inc4 (hC : zCtx l X cc own nL lev bud Z) {a0 : Option Value} {a1 : Option Value} {a2 : Option Value} {a3 : Option Value} {n : Nat} {t : List (Option Value)} (hd : decode cc pc = .ok (.iinc 4 1, 3)) (hn : 4 < nL) (k : Z w G (pc + 3) (a0 :: a1 :: a2 :: a3 :: some (.int (nI (n + 1))) :: t) st) : Z w G pc (a0 :: a1 :: a2 :: a3 :: some (.int (nI n)) :: t) st := z_iinc hC hd rfl (nI_succ n).symm hn k
theorem z_il5 (hC : zCtx l X cc own nL lev bud Z) {a0 : Option Value} {a1 : Option Value} {a2 : Option Value} {a3 : Option Value} {a4 : Option Value} {x : Int32} {t : List (Option Value)} (hd : decode cc pc = .ok (.iload 5, 2)) (k : Z w G (pc + 2) (a0 :: a1 :: a2 :: a3 :: a4 :: some (.int x) :: t) (.int x :: st)) : Z w G pc (a0 :: a1 :: a2 :: a3 :: a4 :: some (.int x) :: t) st := z_ilW hC hd rfl k
theorem z_al5 (hC : zCtx l X cc own nL lev bud Z) {a0 : Option Value} {a1 : Option Value} {a2 : Option Value} {a3 : Option Value} {a4 : Option Value} {x : Nat} {t : List (Option Value)} (hd : decode cc pc = .ok (.aload 5, 2)) (k : Z w G (pc + 2) (a0 :: a1 :: a2 :: a3 :: a4 :: some (.ref x) :: t) (.ref x :: st)) : Z w G pc (a0 :: a1 :: a2 :: a3 :: a4 :: some (.ref x) :: t) st := z_alW hC hd rfl k
theorem z_nl5 (hC : zCtx l X cc own nL lev bud Z) {a0 : Option Value} {a1 : Option Value} {a2 : Option Value} {a3 : Option Value} {a4 : Option Value} {t : List (Option Value)} (hd : decode cc pc = .ok (.aload 5, 2)) (k : Z w G (pc + 2) (a0 :: a1 :: a2 :: a3 :: a4 :: some .null :: t) (.null :: st)) : Z w G pc (a0 :: a1 :: a2 :: a3 :: a4 :: some .null :: t) st := z_nlW hC hd rfl k
theorem z_is5 (hC : zCtx l X cc own nL lev bud Z) {a0 : Option Value} {a1 : Option Value} {a2 : Option Value} {a3 : Option Value} {a4 : Option Value} {x : Int32} {o : Option Value} {t : List (Option Value)} (hd : decode cc pc = .ok (.istore 5, 2)) (hn : 5 < nL) (k : Z w G (pc + 2) (a0 :: a1 :: a2 :: a3 :: a4 :: some (.int x) :: t) st) : Z w G pc (a0 :: a1 :: a2 :: a3 :: a4 :: o :: t) (.int x :: st) := z_isW hC hd hn k
theorem z_as5 (hC : zCtx l X cc own nL lev bud Z) {a0 : Option Value} {a1 : Option Value} {a2 : Option Value} {a3 : Option Value} {a4 : Option Value} {x : Nat} {o : Option Value} {t : List (Option Value)} (hd : decode cc pc = .ok (.astore 5, 2)) (hn : 5 < nL) (k : Z w G (pc + 2) (a0 :: a1 :: a2 :: a3 :: a4 :: some (.ref x) :: t) st) : Z w G pc (a0 :: a1 :: a2 :: a3 :: a4 :: o :: t) (.ref x :: st) := z_asW hC hd hn k
theorem z_ns5 (hC : zCtx l X cc own nL lev bud Z) {a0 : Option Value} {a1 : Option Value} {a2 : Option Value} {a3 : Option Value} {a4 : Option Value} {o : Option Value} {t : List (Option Value)} (hd : decode cc pc = .ok (.astore 5, 2)) (hn : 5 < nL) (k : Z w G (pc + 2) (a0 :: a1 :: a2 :: a3 :: a4 :: some (.null) :: t) st) : Z w G pc (a0 :: a1 :: a2 :: a3 :: a4 :: o :: t) (.null :: st) := z_nsW hC hd hn k
theorem z_dr5 (hC : zCtx l X cc own nL lev bud Z) {a0 : Option Value} {a1 : Option Value} {a2 : Option Value} {a3 : Option Value} {a4 : Option Value} {o : Option Value} {t : List (Option Value)} (k : Z w G pc (a0 :: a1 :: a2 :: a3 :: a4 :: none :: t) st) : Z w G pc (a0 :: a1 :: a2 :: a3 :: a4 :: o :: t) st := z_drop hC 5 k
theorem z_inc5 (hC : zCtx l X cc own nL lev bud Z) {a0 : Option Value} {a1 : Option Value} {a2 : Option Value} {a3 : Option Value} {a4 : Option Value} {n : Nat} {t : List (Option Value)} (hd : decode cc pc = .ok (.iinc 5 1, 3)) (hn : 5 < nL) (k : Z w G (pc + 3) (a0 :: a1 :: a2 :: a3 :: a4 :: some (.int (nI (n + 1))) :: t) st) : Z w G pc (a0 :: a1 :: a2 :: a3 :: a4 :: some (.int (nI n)) :: t) st := z_iinc hC hd rfl (nI_succ n).symm hn k
theorem z_il6 (hC : zCtx l X cc own nL lev bud Z) {a0 : Option Value} {a1 : Option Value} {a2 : Option Value} {a3 : Option Value} {a4 : Option Value} {a5 : Option Value} {x : Int32} {t : List (Option Value)} (hd : decode cc pc = .ok (.iload 6, 2)) (k : Z w G (pc + 2) (a0 :: a1 :: a2 :: a3 :: a4 :: a5 :: some (.int x) :: t) (.int x :: st)) : Z w G pc (a0 :: a1 :: a2 :: a3 :: a4 :: a5 :: some (.int x) :: t) st := z_ilW hC hd rfl k
theorem z_al6 (hC : zCtx l X cc own nL lev bud Z) {a0 : Option Value} {a1 : Option Value} {a2 : Option Value} {a3 : Option Value} {a4 : Option Value} {a5 : Option Value} {x : Nat} {t : List (Option Value)} (hd : decode cc pc = .ok (.aload 6, 2)) (k : Z w G (pc + 2) (a0 :: a1 :: a2 :: a3 :: a4 :: a5 :: some (.ref x) :: t) (.ref x :: st)) : Z w G pc (a0 :: a1 :: a2 :: a3 :: a4 :: a5 :: some (.ref x) :: t) st := z_alW hC hd rfl k
theorem z_nl6 (hC : zCtx l X cc own nL lev bud Z) {a0 : Option Value} {a1 : Option Value} {a2 : Option Value} {a3 : Option Value} {a4 : Option Value} {a5 : Option Value} {t : List (Option Value)} (hd : decode cc pc = .ok (.aload 6, 2)) (k : Z w G (pc + 2) (a0 :: a1 :: a2 :: a3 :: a4 :: a5 :: some .null :: t) (.null :: st)) : Z w G pc (a0 :: a1 :: a2 :: a3 :: a4 :: a5 :: some .null :: t) st := z_nlW hC hd rfl k
theorem z_is6 (hC : zCtx l X cc own nL lev bud Z) {a0 : Option Value} {a1 : Option Value} {a2 : Option Value} {a3 : Option Value} {a4 : Option Value} {a5 : Option Value} {x : Int32} {o : Option Value} {t : List (Option Value)} (hd : decode cc pc = .ok (.istore 6, 2)) (hn : 6 < nL) (k : Z w G (pc + 2) (a0 :: a1 :: a2 :: a3 :: a4 :: a5 :: some (.int x) :: t) st) : Z w G pc (a0 :: a1 :: a2 :: a3 :: a4 :: a5 :: o :: t) (.int x :: st) := z_isW hC hd hn k
theorem z_as6 (hC : zCtx l X cc own nL lev bud Z) {a0 : Option Value} {a1 : Option Value} {a2 : Option Value} {a3 : Option Value} {a4 : Option Value} {a5 : Option Value} {x : Nat} {o : Option Value} {t : List (Option Value)} (hd : decode cc pc = .ok (.astore 6, 2)) (hn : 6 < nL) (k : Z w G (pc + 2) (a0 :: a1 :: a2 :: a3 :: a4 :: a5 :: some (.ref x) :: t) st) : Z w G pc (a0 :: a1 :: a2 :: a3 :: a4 :: a5 :: o :: t) (.ref x :: st) := z_asW hC hd hn k
theorem z_ns6 (hC : zCtx l X cc own nL lev bud Z) {a0 : Option Value} {a1 : Option Value} {a2 : Option Value} {a3 : Option Value} {a4 : Option Value} {a5 : Option Value} {o : Option Value} {t : List (Option Value)} (hd : decode cc pc = .ok (.astore 6, 2)) (hn : 6 < nL) (k : Z w G (pc + 2) (a0 :: a1 :: a2 :: a3 :: a4 :: a5 :: some (.null) :: t) st) : Z w G pc (a0 :: a1 :: a2 :: a3 :: a4 :: a5 :: o :: t) (.null :: st) := z_nsW hC hd hn k
theorem z_dr6 (hC : zCtx l X cc own nL lev bud Z) {a0 : Option Value} {a1 : Option Value} {a2 : Option Value} {a3 : Option Value} {a4 : Option Value} {a5 : Option Value} {o : Option Value} {t : List (Option Value)} (k : Z w G pc (a0 :: a1 :: a2 :: a3 :: a4 :: a5 :: none :: t) st) : Z w G pc (a0 :: a1 :: a2 :: a3 :: a4 :: a5 :: o :: t) st := z_drop hC 6 k
theorem z_inc6 (hC : zCtx l X cc own nL lev bud Z) {a0 : Option Value} {a1 : Option Value} {a2 : Option Value} {a3 : Option Value} {a4 : Option Value} {a5 : Option Value} {n : Nat} {t : List (Option Value)} (hd : decode cc pc = .ok (.iinc 6 1, 3)) (hn : 6 < nL) (k : Z w G (pc + 3) (a0 :: a1 :: a2 :: a3 :: a4 :: a5 :: some (.int (nI (n + 1))) :: t) st) : Z w G pc (a0 :: a1 :: a2 :: a3 :: a4 :: a5 :: some (.int (nI n)) :: t) st := z_iinc hC hd rfl (nI_succ n).symm hn k
theorem z_il7 (hC : zCtx l X cc own nL lev bud Z) {a0 : Option Value} {a1 : Option Value} {a2 : Option Value} {a3 : Option Value} {a4 : Option Value} {a5 : Option Value} {a6 : Option Value} {x : Int32} {t : List (Option Value)} (hd : decode cc pc = .ok (.iload 7, 2)) (k : Z w G (pc + 2) (a0 :: a1 :: a2 :: a3 :: a4 :: a5 :: a6 :: some (.int x) :: t) (.int x :: st)) : Z w G pc (a0 :: a1 :: a2 :: a3 :: a4 :: a5 :: a6 :: some (.int x) :: t) st := z_ilW hC hd rfl k
theorem z_al7 (hC : zCtx l X cc own nL lev bud Z) {a0 : Option Value} {a1 : Option Value} {a2 : Option Value} {a3 : Option Value} {a4 : Option Value} {a5 : Option Value} {a6 : Option Value} {x : Nat} {t : List (Option Value)} (hd : decode cc pc = .ok (.aload 7, 2)) (k : Z w G (pc + 2) (a0 :: a1 :: a2 :: a3 :: a4 :: a5 :: a6 :: some (.ref x) :: t) (.ref x :: st)) : Z w G pc (a0 :: a1 :: a2 :: a3 :: a4 :: a5 :: a6 :: some (.ref x) :: t) st := z_alW hC hd rfl k
theorem z_nl7 (hC : zCtx l X cc own nL lev bud Z) {a0 : Option Value} {a1 : Option Value} {a2 : Option Value} {a3 : Option Value} {a4 : Option Value} {a5 : Option Value} {a6 : Option Value} {t : List (Option Value)} (hd : decode cc pc = .ok (.aload 7, 2)) (k : Z w G (pc + 2) (a0 :: a1 :: a2 :: a3 :: a4 :: a5 :: a6 :: some .null :: t) (.null :: st)) : Z w G pc (a0 :: a1 :: a2 :: a3 :: a4 :: a5 :: a6 :: some .null :: t) st := z_nlW hC hd rfl k
theorem z_is7 (hC : zCtx l X cc own nL lev bud Z) {a0 : Option Value} {a1 : Option Value} {a2 : Option Value} {a3 : Option Value} {a4 : Option Value} {a5 : Option Value} {a6 : Option Value} {x : Int32} {o : Option Value} {t : List (Option Value)} (hd : decode cc pc = .ok (.istore 7, 2)) (hn : 7 < nL) (k : Z w G (pc + 2) (a0 :: a1 :: a2 :: a3 :: a4 :: a5 :: a6 :: some (.int x) :: t) st) : Z w G pc (a0 :: a1 :: a2 :: a3 :: a4 :: a5 :: a6 :: o :: t) (.int x :: st) := z_isW hC hd hn k
theorem z_as7 (hC : zCtx l X cc own nL lev bud Z) {a0 : Option Value} {a1 : Option Value} {a2 : Option Value} {a3 : Option Value} {a4 : Option Value} {a5 : Option Value} {a6 : Option Value} {x : Nat} {o : Option Value} {t : List (Option Value)} (hd : decode cc pc = .ok (.astore 7, 2)) (hn : 7 < nL) (k : Z w G (pc + 2) (a0 :: a1 :: a2 :: a3 :: a4 :: a5 :: a6 :: some (.ref x) :: t) st) : Z w G pc (a0 :: a1 :: a2 :: a3 :: a4 :: a5 :: a6 :: o :: t) (.ref x :: st) := z_asW hC hd hn k
theorem z_ns7 (hC : zCtx l X cc own nL lev bud Z) {a0 : Option Value} {a1 : Option Value} {a2 : Option Value} {a3 : Option Value} {a4 : Option Value} {a5 : Option Value} {a6 : Option Value} {o : Option Value} {t : List (Option Value)} (hd : decode cc pc = .ok (.astore 7, 2)) (hn : 7 < nL) (k : Z w G (pc + 2) (a0 :: a1 :: a2 :: a3 :: a4 :: a5 :: a6 :: some (.null) :: t) st) : Z w G pc (a0 :: a1 :: a2 :: a3 :: a4 :: a5 :: a6 :: o :: t) (.null :: st) := z_nsW hC hd hn k
theorem z_dr7 (hC : zCtx l X cc own nL lev bud Z) {a0 : Option Value} {a1 : Option Value} {a2 : Option Value} {a3 : Option Value} {a4 : Option Value} {a5 : Option Value} {a6 : Option Value} {o : Option Value} {t : List (Option Value)} (k : Z w G pc (a0 :: a1 :: a2 :: a3 :: a4 :: a5 :: a6 :: none :: t) st) : Z w G pc (a0 :: a1 :: a2 :: a3 :: a4 :: a5 :: a6 :: o :: t) st := z_drop hC 7 k
theorem z_inc7 (hC : zCtx l X cc own nL lev bud Z) {a0 : Option Value} {a1 : Option Value} {a2 : Option Value} {a3 : Option Value} {a4 : Option Value} {a5 : Option Value} {a6 : Option Value} {n : Nat} {t : List (Option Value)} (hd : decode cc pc = .ok (.iinc 7 1, 3)) (hn : 7 < nL) (k : Z w G (pc + 3) (a0 :: a1 :: a2 :: a3 :: a4 :: a5 :: a6 :: some (.int (nI (n + 1))) :: t) st) : Z w G pc (a0 :: a1 :: a2 :: a3 :: a4 :: a5 :: a6 :: some (.int (nI n)) :: t) st := z_iinc hC hd rfl (nI_succ n).symm hn k
theorem z_il8 (hC : zCtx l X cc own nL lev bud Z) {a0 : Option Value} {a1 : Option Value} {a2 : Option Value} {a3 : Option Value} {a4 : Option Value} {a5 : Option Value} {a6 : Option Value} {a7 : Option Value} {x : Int32} {t : List (Option Value)} (hd : decode cc pc = .ok (.iload 8, 2)) (k : Z w G (pc + 2) (a0 :: a1 :: a2 :: a3 :: a4 :: a5 :: a6 :: a7 :: some (.int x) :: t) (.int x :: st)) : Z w G pc (a0 :: a1 :: a2 :: a3 :: a4 :: a5 :: a6 :: a7 :: some (.int x) :: t) st := z_ilW hC hd rfl k
theorem z_al8 (hC : zCtx l X cc own nL lev bud Z) {a0 : Option Value} {a1 : Option Value} {a2 : Option Value} {a3 : Option Value} {a4 : Option Value} {a5 : Option Value} {a6 : Option Value} {a7 : Option Value} {x : Nat} {t : List (Option Value)} (hd : decode cc pc = .ok (.aload 8, 2)) (k : Z w G (pc + 2) (a0 :: a1 :: a2 :: a3 :: a4 :: a5 :: a6 :: a7 :: some (.ref x) :: t) (.ref x :: st)) : Z w G pc (a0 :: a1 :: a2 :: a3 :: a4 :: a5 :: a6 :: a7 :: some (.ref x) :: t) st := z_alW hC hd rfl k
theorem z_nl8 (hC : zCtx l X cc own nL lev bud Z) {a0 : Option Value} {a1 : Option Value} {a2 : Option Value} {a3 : Option Value} {a4 : Option Value} {a5 : Option Value} {a6 : Option Value} {a7 : Option Value} {t : List (Option Value)} (hd : decode cc pc = .ok (.aload 8, 2)) (k : Z w G (pc + 2) (a0 :: a1 :: a2 :: a3 :: a4 :: a5 :: a6 :: a7 :: some .null :: t) (.null :: st)) : Z w G pc (a0 :: a1 :: a2 :: a3 :: a4 :: a5 :: a6 :: a7 :: some .null :: t) st := z_nlW hC hd rfl k
theorem z_is8 (hC : zCtx l X cc own nL lev bud Z) {a0 : Option Value} {a1 : Option Value} {a2 : Option Value} {a3 : Option Value} {a4 : Option Value} {a5 : Option Value} {a6 : Option Value} {a7 : Option Value} {x : Int32} {o : Option Value} {t : List (Option Value)} (hd : decode cc pc = .ok (.istore 8, 2)) (hn : 8 < nL) (k : Z w G (pc + 2) (a0 :: a1 :: a2 :: a3 :: a4 :: a5 :: a6 :: a7 :: some (.int x) :: t) st) : Z w G pc (a0 :: a1 :: a2 :: a3 :: a4 :: a5 :: a6 :: a7 :: o :: t) (.int x :: st) := z_isW hC hd hn k
theorem z_as8 (hC : zCtx l X cc own nL lev bud Z) {a0 : Option Value} {a1 : Option Value} {a2 : Option Value} {a3 : Option Value} {a4 : Option Value} {a5 : Option Value} {a6 : Option Value} {a7 : Option Value} {x : Nat} {o : Option Value} {t : List (Option Value)} (hd : decode cc pc = .ok (.astore 8, 2)) (hn : 8 < nL) (k : Z w G (pc + 2) (a0 :: a1 :: a2 :: a3 :: a4 :: a5 :: a6 :: a7 :: some (.ref x) :: t) st) : Z w G pc (a0 :: a1 :: a2 :: a3 :: a4 :: a5 :: a6 :: a7 :: o :: t) (.ref x :: st) := z_asW hC hd hn k
theorem z_ns8 (hC : zCtx l X cc own nL lev bud Z) {a0 : Option Value} {a1 : Option Value} {a2 : Option Value} {a3 : Option Value} {a4 : Option Value} {a5 : Option Value} {a6 : Option Value} {a7 : Option Value} {o : Option Value} {t : List (Option Value)} (hd : decode cc pc = .ok (.astore 8, 2)) (hn : 8 < nL) (k : Z w G (pc + 2) (a0 :: a1 :: a2 :: a3 :: a4 :: a5 :: a6 :: a7 :: some (.null) :: t) st) : Z w G pc (a0 :: a1 :: a2 :: a3 :: a4 :: a5 :: a6 :: a7 :: o :: t) (.null :: st) := z_nsW hC hd hn k
theorem z_dr8 (hC : zCtx l X cc own nL lev bud Z) {a0 : Option Value} {a1 : Option Value} {a2 : Option Value} {a3 : Option Value} {a4 : Option Value} {a5 : Option Value} {a6 : Option Value} {a7 : Option Value} {o : Option Value} {t : List (Option Value)} (k : Z w G pc (a0 :: a1 :: a2 :: a3 :: a4 :: a5 :: a6 :: a7 :: none :: t) st) : Z w G pc (a0 :: a1 :: a2 :: a3 :: a4 :: a5 :: a6 :: a7 :: o :: t) st := z_drop hC 8 k
theorem z_inc8 (hC : zCtx l X cc own nL lev bud Z) {a0 : Option Value} {a1 : Option Value} {a2 : Option Value} {a3 : Option Value} {a4 : Option Value} {a5 : Option Value} {a6 : Option Value} {a7 : Option Value} {n : Nat} {t : List (Option Value)} (hd : decode cc pc = .ok (.iinc 8 1, 3)) (hn : 8 < nL) (k : Z w G (pc + 3) (a0 :: a1 :: a2 :: a3 :: a4 :: a5 :: a6 :: a7 :: some (.int (nI (n + 1))) :: t) st) : Z w G pc (a0 :: a1 :: a2 :: a3 :: a4 :: a5 :: a6 :: a7 :: some (.int (nI n)) :: t) st := z_iinc hC hd rfl (nI_succ n).symm hn k
theorem z_iadd (hC : zCtx l X cc own nL lev bud Z) {x y : Int32} (hd : decode cc pc = .ok (.iadd, 1)) (k : Z w G (pc + 1) lv (.int (x + y) :: st)) : Z w G pc lv (.int y :: .int x :: st) := by
  obtain ⟨p, e, R, s, m, args, below, meth, c, c0, s0, Q, A, H0, rfl, hx, hb, hml, hown, hts, hSt, hA, hl1, hl2, hl3, hl4⟩ := hC
  exact fun H locs ls hP hD hS hl => lv_iadd hx hb hd (k H locs ls hP hD hS hl)
theorem z_isub (hC : zCtx l X cc own nL lev bud Z) {x y : Int32} (hd : decode cc pc = .ok (.isub, 1)) (k : Z w G (pc + 1) lv (.int (x - y) :: st)) : Z w G pc lv (.int y :: .int x :: st) := by
  obtain ⟨p, e, R, s, m, args, below, meth, c, c0, s0, Q, A, H0, rfl, hx, hb, hml, hown, hts, hSt, hA, hl1, hl2, hl3, hl4⟩ := hC
  exact fun H locs ls hP hD hS hl => lv_isub hx hb hd (k H locs ls hP hD hS hl)
theorem z_imul (hC : zCtx l X cc own nL lev bud Z) {x y : Int32} (hd : decode cc pc = .ok (.imul, 1)) (k : Z w G (pc + 1) lv (.int (x * y) :: st)) : Z w G pc lv (.int y :: .int x :: st) := by
  obtain ⟨p, e, R, s, m, args, below, meth, c, c0, s0, Q, A, H0, rfl, hx, hb, hml, hown, hts, hSt, hA, hl1, hl2, hl3, hl4⟩ := hC
  exact fun H locs ls hP hD hS hl => lv_imul hx hb hd (k H locs ls hP hD hS hl)
theorem z_iand (hC : zCtx l X cc own nL lev bud Z) {x y : Int32} (hd : decode cc pc = .ok (.iand, 1)) (k : Z w G (pc + 1) lv (.int (x &&& y) :: st)) : Z w G pc lv (.int y :: .int x :: st) := by
  obtain ⟨p, e, R, s, m, args, below, meth, c, c0, s0, Q, A, H0, rfl, hx, hb, hml, hown, hts, hSt, hA, hl1, hl2, hl3, hl4⟩ := hC
  exact fun H locs ls hP hD hS hl => lv_iand hx hb hd (k H locs ls hP hD hS hl)
theorem z_ior (hC : zCtx l X cc own nL lev bud Z) {x y : Int32} (hd : decode cc pc = .ok (.ior, 1)) (k : Z w G (pc + 1) lv (.int (x ||| y) :: st)) : Z w G pc lv (.int y :: .int x :: st) := by
  obtain ⟨p, e, R, s, m, args, below, meth, c, c0, s0, Q, A, H0, rfl, hx, hb, hml, hown, hts, hSt, hA, hl1, hl2, hl3, hl4⟩ := hC
  exact fun H locs ls hP hD hS hl => lv_ior hx hb hd (k H locs ls hP hD hS hl)
theorem z_ixor (hC : zCtx l X cc own nL lev bud Z) {x y : Int32} (hd : decode cc pc = .ok (.ixor, 1)) (k : Z w G (pc + 1) lv (.int (x ^^^ y) :: st)) : Z w G pc lv (.int y :: .int x :: st) := by
  obtain ⟨p, e, R, s, m, args, below, meth, c, c0, s0, Q, A, H0, rfl, hx, hb, hml, hown, hts, hSt, hA, hl1, hl2, hl3, hl4⟩ := hC
  exact fun H locs ls hP hD hS hl => lv_ixor hx hb hd (k H locs ls hP hD hS hl)
theorem z_ishl (hC : zCtx l X cc own nL lev bud Z) {x y : Int32} (hd : decode cc pc = .ok (.ishl, 1)) (k : Z w G (pc + 1) lv (.int (x <<< (y &&& 31)) :: st)) : Z w G pc lv (.int y :: .int x :: st) := by
  obtain ⟨p, e, R, s, m, args, below, meth, c, c0, s0, Q, A, H0, rfl, hx, hb, hml, hown, hts, hSt, hA, hl1, hl2, hl3, hl4⟩ := hC
  exact fun H locs ls hP hD hS hl => lv_ishl hx hb hd (k H locs ls hP hD hS hl)
theorem z_ishr (hC : zCtx l X cc own nL lev bud Z) {x y : Int32} (hd : decode cc pc = .ok (.ishr, 1)) (k : Z w G (pc + 1) lv (.int (x >>> (y &&& 31)) :: st)) : Z w G pc lv (.int y :: .int x :: st) := by
  obtain ⟨p, e, R, s, m, args, below, meth, c, c0, s0, Q, A, H0, rfl, hx, hb, hml, hown, hts, hSt, hA, hl1, hl2, hl3, hl4⟩ := hC
  exact fun H locs ls hP hD hS hl => lv_ishr hx hb hd (k H locs ls hP hD hS hl)
theorem z_iushr (hC : zCtx l X cc own nL lev bud Z) {x y v : Int32} (hd : decode cc pc = .ok (.iushr, 1)) (hv : (x.toUInt32 >>> (y.toUInt32 &&& Int32.toUInt32 31)).toInt32 = v) (k : Z w G (pc + 1) lv (.int v :: st)) : Z w G pc lv (.int y :: .int x :: st) := by
  obtain ⟨p, e, R, s, m, args, below, meth, c, c0, s0, Q, A, H0, rfl, hx, hb, hml, hown, hts, hSt, hA, hl1, hl2, hl3, hl4⟩ := hC
  exact fun H locs ls hP hD hS hl => lv_iushr hx hb hd hv (k H locs ls hP hD hS hl)
theorem z_idiv (hC : zCtx l X cc own nL lev bud Z) {x y : Int32} (hd : decode cc pc = .ok (.idiv, 1)) (hne : ¬ y = 0) (k : Z w G (pc + 1) lv (.int (x / y) :: st)) : Z w G pc lv (.int y :: .int x :: st) := by
  obtain ⟨p, e, R, s, m, args, below, meth, c, c0, s0, Q, A, H0, rfl, hx, hb, hml, hown, hts, hSt, hA, hl1, hl2, hl3, hl4⟩ := hC
  exact fun H locs ls hP hD hS hl => lv_idiv hx hb hd hne (k H locs ls hP hD hS hl)
theorem z_irem (hC : zCtx l X cc own nL lev bud Z) {x y : Int32} (hd : decode cc pc = .ok (.irem, 1)) (hne : ¬ y = 0) (k : Z w G (pc + 1) lv (.int (x - x / y * y) :: st)) : Z w G pc lv (.int y :: .int x :: st) := by
  obtain ⟨p, e, R, s, m, args, below, meth, c, c0, s0, Q, A, H0, rfl, hx, hb, hml, hown, hts, hSt, hA, hl1, hl2, hl3, hl4⟩ := hC
  exact fun H locs ls hP hD hS hl => lv_irem hx hb hd hne (k H locs ls hP hD hS hl)
theorem z_iaddN (hC : zCtx l X cc own nL lev bud Z) {x y : Nat} (hd : decode cc pc = .ok (.iadd, 1)) (k : Z w G (pc + 1) lv (.int (nI (x + y)) :: st)) : Z w G pc lv (.int (nI y) :: .int (nI x) :: st) := z_iadd hC hd (by rw [nI_add]; exact k)
theorem z_imulN (hC : zCtx l X cc own nL lev bud Z) {x y : Nat} (hd : decode cc pc = .ok (.imul, 1)) (k : Z w G (pc + 1) lv (.int (nI (x * y)) :: st)) : Z w G pc lv (.int (nI y) :: .int (nI x) :: st) := z_imul hC hd (by rw [pk_mul]; exact k)
theorem z_isubN (hC : zCtx l X cc own nL lev bud Z) {x y : Nat} (hd : decode cc pc = .ok (.isub, 1)) (h : y ≤ x) (k : Z w G (pc + 1) lv (.int (nI (x - y)) :: st)) : Z w G pc lv (.int (nI y) :: .int (nI x) :: st) := z_isub hC hd (by rw [pk_sub h]; exact k)
theorem z_iremN (hC : zCtx l X cc own nL lev bud Z) {x y : Nat} (hd : decode cc pc = .ok (.irem, 1)) (hx : x < 2 ^ 31) (h0 : 0 < y) (hy : y < 2 ^ 31) (k : Z w G (pc + 1) lv (.int (nI (x % y)) :: st)) : Z w G pc lv (.int (nI y) :: .int (nI x) :: st) := z_irem hC hd (nI_ne0 h0 hy) (by rw [pk_rem hx h0 hy]; exact k)
theorem z_idivN (hC : zCtx l X cc own nL lev bud Z) {x y : Nat} (hd : decode cc pc = .ok (.idiv, 1)) (hx : x < 2 ^ 31) (h0 : 0 < y) (hy : y < 2 ^ 31) (k : Z w G (pc + 1) lv (.int (nI (x / y)) :: st)) : Z w G pc lv (.int (nI y) :: .int (nI x) :: st) := z_idiv hC hd (nI_ne0 h0 hy) (by rw [pk_div hx h0 hy]; exact k)
theorem z_top {Z : zZ} {x y : Int32} (h : x = y) (k : Z w G pc lv (.int y :: st)) : Z w G pc lv (.int x :: st) := h ▸ k
theorem z_i2l (hC : zCtx l X cc own nL lev bud Z) {x : Int32} {v : Int64} (hd : decode cc pc = .ok (.i2l, 1)) (hv : x.toInt64 = v) (k : Z w G (pc + 1) lv (.long v :: st)) : Z w G pc lv (.int x :: st) := by
  obtain ⟨p, e, R, s, m, args, below, meth, c, c0, s0, Q, A, H0, rfl, hx, hb, hml, hown, hts, hSt, hA, hl1, hl2, hl3, hl4⟩ := hC
  exact fun H locs ls hP hD hS hl => lv_i2l hx hb hd hv (k H locs ls hP hD hS hl)
theorem z_ladd (hC : zCtx l X cc own nL lev bud Z) {x y : Int64} (hd : decode cc pc = .ok (.ladd, 1)) (k : Z w G (pc + 1) lv (.long (x + y) :: st)) : Z w G pc lv (.long y :: .long x :: st) := by
  obtain ⟨p, e, R, s, m, args, below, meth, c, c0, s0, Q, A, H0, rfl, hx, hb, hml, hown, hts, hSt, hA, hl1, hl2, hl3, hl4⟩ := hC
  exact fun H locs ls hP hD hS hl => lv_ladd hx hb hd (k H locs ls hP hD hS hl)
theorem z_lcmp (hC : zCtx l X cc own nL lev bud Z) {x y : Int64} (hd : decode cc pc = .ok (.lcmp, 1)) (k : Z w G (pc + 1) lv (.int (lg_cmp x y) :: st)) : Z w G pc lv (.long y :: .long x :: st) := by
  obtain ⟨p, e, R, s, m, args, below, meth, c, c0, s0, Q, A, H0, rfl, hx, hb, hml, hown, hts, hSt, hA, hl1, hl2, hl3, hl4⟩ := hC
  exact fun H locs ls hP hD hS hl => W.lcmp hx hb hd (k H locs ls hP hD hS hl)
theorem z_dup (hC : zCtx l X cc own nL lev bud Z) {v : Value} (hd : decode cc pc = .ok (.dup, 1)) (hv : v.category = 1) (k : Z w G (pc + 1) lv (v :: v :: st)) : Z w G pc lv (v :: st) := by
  obtain ⟨p, e, R, s, m, args, below, meth, c, c0, s0, Q, A, H0, rfl, hx, hb, hml, hown, hts, hSt, hA, hl1, hl2, hl3, hl4⟩ := hC
  exact fun H locs ls hP hD hS hl => lv_dup hx hb hd hv (k H locs ls hP hD hS hl)
theorem z_dup2 (hC : zCtx l X cc own nL lev bud Z) {v u : Value} (hd : decode cc pc = .ok (.dup2, 1)) (hv : v.category = 1) (hu : u.category = 1) (k : Z w G (pc + 1) lv (v :: u :: v :: u :: st)) : Z w G pc lv (v :: u :: st) := by
  obtain ⟨p, e, R, s, m, args, below, meth, c, c0, s0, Q, A, H0, rfl, hx, hb, hml, hown, hts, hSt, hA, hl1, hl2, hl3, hl4⟩ := hC
  exact fun H locs ls hP hD hS hl => lv_dup2_11 hx hb hd hv hu (k H locs ls hP hD hS hl)
theorem z_goto (hC : zCtx l X cc own nL lev bud Z) {off : Int} (tgt : Nat) (hd : decode cc pc = .ok (.goto off, 3)) (ht : (pc : Int) + off = (tgt : Int)) (k : Z w G tgt lv st) : Z w G pc lv st := by
  obtain ⟨p, e, R, s, m, args, below, meth, c, c0, s0, Q, A, H0, rfl, hx, hb, hml, hown, hts, hSt, hA, hl1, hl2, hl3, hl4⟩ := hC
  exact fun H locs ls hP hD hS hl => lv_goto hx hb hd ht (k H locs ls hP hD hS hl)
theorem z_if_eq (hC : zCtx l X cc own nL lev bud Z) {x : Int32} {off : Int} (tgt : Nat) (hd : decode cc pc = .ok (.ifCond .eq off, 3)) (ht : (pc : Int) + off = (tgt : Int)) (kt : x = 0 → Z w G tgt lv st) (kf : ¬ x = 0 → Z w G (pc + 3) lv st) : Z w G pc lv (.int x :: st) := by
  obtain ⟨p, e, R, s, m, args, below, meth, c, c0, s0, Q, A, H0, rfl, hx, hb, hml, hown, hts, hSt, hA, hl1, hl2, hl3, hl4⟩ := hC
  exact fun H locs ls hP hD hS hl => lv_if_eq hx hb hd ht (fun h => kt h H locs ls hP hD hS hl) (fun h => kf h H locs ls hP hD hS hl)
theorem z_icmp_eq (hC : zCtx l X cc own nL lev bud Z) {x y : Int32} {off : Int} (tgt : Nat) (hd : decode cc pc = .ok (.if_icmp .eq off, 3)) (ht : (pc : Int) + off = (tgt : Int)) (kt : x = y → Z w G tgt lv st) (kf : ¬ x = y → Z w G (pc + 3) lv st) : Z w G pc lv (.int y :: .int x :: st) := by
  obtain ⟨p, e, R, s, m, args, below, meth, c, c0, s0, Q, A, H0, rfl, hx, hb, hml, hown, hts, hSt, hA, hl1, hl2, hl3, hl4⟩ := hC
  exact fun H locs ls hP hD hS hl => lv_icmp_eq hx hb hd ht (fun h => kt h H locs ls hP hD hS hl) (fun h => kf h H locs ls hP hD hS hl)
theorem z_if_ne (hC : zCtx l X cc own nL lev bud Z) {x : Int32} {off : Int} (tgt : Nat) (hd : decode cc pc = .ok (.ifCond .ne off, 3)) (ht : (pc : Int) + off = (tgt : Int)) (kt : ¬ x = 0 → Z w G tgt lv st) (kf : x = 0 → Z w G (pc + 3) lv st) : Z w G pc lv (.int x :: st) := by
  obtain ⟨p, e, R, s, m, args, below, meth, c, c0, s0, Q, A, H0, rfl, hx, hb, hml, hown, hts, hSt, hA, hl1, hl2, hl3, hl4⟩ := hC
  exact fun H locs ls hP hD hS hl => lv_if_ne hx hb hd ht (fun h => kt h H locs ls hP hD hS hl) (fun h => kf h H locs ls hP hD hS hl)
theorem z_icmp_ne (hC : zCtx l X cc own nL lev bud Z) {x y : Int32} {off : Int} (tgt : Nat) (hd : decode cc pc = .ok (.if_icmp .ne off, 3)) (ht : (pc : Int) + off = (tgt : Int)) (kt : ¬ x = y → Z w G tgt lv st) (kf : x = y → Z w G (pc + 3) lv st) : Z w G pc lv (.int y :: .int x :: st) := by
  obtain ⟨p, e, R, s, m, args, below, meth, c, c0, s0, Q, A, H0, rfl, hx, hb, hml, hown, hts, hSt, hA, hl1, hl2, hl3, hl4⟩ := hC
  exact fun H locs ls hP hD hS hl => lv_icmp_ne hx hb hd ht (fun h => kt h H locs ls hP hD hS hl) (fun h => kf h H locs ls hP hD hS hl)
theorem z_if_lt (hC : zCtx l X cc own nL lev bud Z) {x : Int32} {off : Int} (tgt : Nat) (hd : decode cc pc = .ok (.ifCond .lt off, 3)) (ht : (pc : Int) + off = (tgt : Int)) (kt : x < 0 → Z w G tgt lv st) (kf : ¬ x < 0 → Z w G (pc + 3) lv st) : Z w G pc lv (.int x :: st) := by
  obtain ⟨p, e, R, s, m, args, below, meth, c, c0, s0, Q, A, H0, rfl, hx, hb, hml, hown, hts, hSt, hA, hl1, hl2, hl3, hl4⟩ := hC
  exact fun H locs ls hP hD hS hl => lv_if_lt hx hb hd ht (fun h => kt h H locs ls hP hD hS hl) (fun h => kf h H locs ls hP hD hS hl)
theorem z_icmp_lt (hC : zCtx l X cc own nL lev bud Z) {x y : Int32} {off : Int} (tgt : Nat) (hd : decode cc pc = .ok (.if_icmp .lt off, 3)) (ht : (pc : Int) + off = (tgt : Int)) (kt : x < y → Z w G tgt lv st) (kf : ¬ x < y → Z w G (pc + 3) lv st) : Z w G pc lv (.int y :: .int x :: st) := by
  obtain ⟨p, e, R, s, m, args, below, meth, c, c0, s0, Q, A, H0, rfl, hx, hb, hml, hown, hts, hSt, hA, hl1, hl2, hl3, hl4⟩ := hC
  exact fun H locs ls hP hD hS hl => lv_icmp_lt hx hb hd ht (fun h => kt h H locs ls hP hD hS hl) (fun h => kf h H locs ls hP hD hS hl)
theorem z_if_ge (hC : zCtx l X cc own nL lev bud Z) {x : Int32} {off : Int} (tgt : Nat) (hd : decode cc pc = .ok (.ifCond .ge off, 3)) (ht : (pc : Int) + off = (tgt : Int)) (kt : 0 ≤ x → Z w G tgt lv st) (kf : ¬ 0 ≤ x → Z w G (pc + 3) lv st) : Z w G pc lv (.int x :: st) := by
  obtain ⟨p, e, R, s, m, args, below, meth, c, c0, s0, Q, A, H0, rfl, hx, hb, hml, hown, hts, hSt, hA, hl1, hl2, hl3, hl4⟩ := hC
  exact fun H locs ls hP hD hS hl => lv_if_ge hx hb hd ht (fun h => kt h H locs ls hP hD hS hl) (fun h => kf h H locs ls hP hD hS hl)
theorem z_icmp_ge (hC : zCtx l X cc own nL lev bud Z) {x y : Int32} {off : Int} (tgt : Nat) (hd : decode cc pc = .ok (.if_icmp .ge off, 3)) (ht : (pc : Int) + off = (tgt : Int)) (kt : y ≤ x → Z w G tgt lv st) (kf : ¬ y ≤ x → Z w G (pc + 3) lv st) : Z w G pc lv (.int y :: .int x :: st) := by
  obtain ⟨p, e, R, s, m, args, below, meth, c, c0, s0, Q, A, H0, rfl, hx, hb, hml, hown, hts, hSt, hA, hl1, hl2, hl3, hl4⟩ := hC
  exact fun H locs ls hP hD hS hl => lv_icmp_ge hx hb hd ht (fun h => kt h H locs ls hP hD hS hl) (fun h => kf h H locs ls hP hD hS hl)
theorem z_if_gt (hC : zCtx l X cc own nL lev bud Z) {x : Int32} {off : Int} (tgt : Nat) (hd : decode cc pc = .ok (.ifCond .gt off, 3)) (ht : (pc : Int) + off = (tgt : Int)) (kt : 0 < x → Z w G tgt lv st) (kf : ¬ 0 < x → Z w G (pc + 3) lv st) : Z w G pc lv (.int x :: st) := by
  obtain ⟨p, e, R, s, m, args, below, meth, c, c0, s0, Q, A, H0, rfl, hx, hb, hml, hown, hts, hSt, hA, hl1, hl2, hl3, hl4⟩ := hC
  exact fun H locs ls hP hD hS hl => lv_if_gt hx hb hd ht (fun h => kt h H locs ls hP hD hS hl) (fun h => kf h H locs ls hP hD hS hl)
theorem z_icmp_gt (hC : zCtx l X cc own nL lev bud Z) {x y : Int32} {off : Int} (tgt : Nat) (hd : decode cc pc = .ok (.if_icmp .gt off, 3)) (ht : (pc : Int) + off = (tgt : Int)) (kt : y < x → Z w G tgt lv st) (kf : ¬ y < x → Z w G (pc + 3) lv st) : Z w G pc lv (.int y :: .int x :: st) := by
  obtain ⟨p, e, R, s, m, args, below, meth, c, c0, s0, Q, A, H0, rfl, hx, hb, hml, hown, hts, hSt, hA, hl1, hl2, hl3, hl4⟩ := hC
  exact fun H locs ls hP hD hS hl => lv_icmp_gt hx hb hd ht (fun h => kt h H locs ls hP hD hS hl) (fun h => kf h H locs ls hP hD hS hl)
theorem z_if_le (hC : zCtx l X cc own nL lev bud Z) {x : Int32} {off : Int} (tgt : Nat) (hd : decode cc pc = .ok (.ifCond .le off, 3)) (ht : (pc : Int) + off = (tgt : Int)) (kt : x ≤ 0 → Z w G tgt lv st) (kf : ¬ x ≤ 0 → Z w G (pc + 3) lv st) : Z w G pc lv (.int x :: st) := by
  obtain ⟨p, e, R, s, m, args, below, meth, c, c0, s0, Q, A, H0, rfl, hx, hb, hml, hown, hts, hSt, hA, hl1, hl2, hl3, hl4⟩ := hC
  exact fun H locs ls hP hD hS hl => lv_if_le hx hb hd ht (fun h => kt h H locs ls hP hD hS hl) (fun h => kf h H locs ls hP hD hS hl)
theorem z_icmp_le (hC : zCtx l X cc own nL lev bud Z) {x y : Int32} {off : Int} (tgt : Nat) (hd : decode cc pc = .ok (.if_icmp .le off, 3)) (ht : (pc : Int) + off = (tgt : Int)) (kt : x ≤ y → Z w G tgt lv st) (kf : ¬ x ≤ y → Z w G (pc + 3) lv st) : Z w G pc lv (.int y :: .int x :: st) := by
  obtain ⟨p, e, R, s, m, args, below, meth, c, c0, s0, Q, A, H0, rfl, hx, hb, hml, hown, hts, hSt, hA, hl1, hl2, hl3, hl4⟩ := hC
  exact fun H locs ls hP hD hS hl => lv_icmp_le hx hb hd ht (fun h => kt h H locs ls hP hD hS hl) (fun h => kf h H locs ls hP hD hS hl)
theorem z_ifnull (hC : zCtx l X cc own nL lev bud Z) {x : Nat} {off : Int} (hd : decode cc pc = .ok (.ifnull off, 3)) (k : Z w G (pc + 3) lv st) : Z w G pc lv (.ref x :: st) := by
  obtain ⟨p, e, R, s, m, args, below, meth, c, c0, s0, Q, A, H0, rfl, hx, hb, hml, hown, hts, hSt, hA, hl1, hl2, hl3, hl4⟩ := hC
  exact fun H locs ls hP hD hS hl => lv_ifnull hx hb hd (k H locs ls hP hD hS hl)
theorem z_ifnonnullN (hC : zCtx l X cc own nL lev bud Z) {off : Int} (hd : decode cc pc = .ok (.ifnonnull off, 3)) (k : Z w G (pc + 3) lv st) : Z w G pc lv (.null :: st) := by
  obtain ⟨p, e, R, s, m, args, below, meth, c, c0, s0, Q, A, H0, rfl, hx, hb, hml, hown, hts, hSt, hA, hl1, hl2, hl3, hl4⟩ := hC
  exact fun H locs ls hP hD hS hl => lv_ifnonnullN hx hb hd (k H locs ls hP hD hS hl)
theorem z_ifnonnull (hC : zCtx l X cc own nL lev bud Z) {x : Nat} {off : Int} (tgt : Nat) (hd : decode cc pc = .ok (.ifnonnull off, 3)) (ht : (pc : Int) + off = (tgt : Int)) (k : Z w G tgt lv st) : Z w G pc lv (.ref x :: st) := by
  obtain ⟨p, e, R, s, m, args, below, meth, c, c0, s0, Q, A, H0, rfl, hx, hb, hml, hown, hts, hSt, hA, hl1, hl2, hl3, hl4⟩ := hC
  exact fun H locs ls hP hD hS hl => lv_ifnonnull hx hb hd ht (k H locs ls hP hD hS hl)
theorem z_ifnullN (hC : zCtx l X cc own nL lev bud Z) {off : Int} (tgt : Nat) (hd : decode cc pc = .ok (.ifnull off, 3)) (ht : (pc : Int) + off = (tgt : Int)) (k : Z w G tgt lv st) : Z w G pc lv (.null :: st) := by
  obtain ⟨p, e, R, s, m, args, below, meth, c, c0, s0, Q, A, H0, rfl, hx, hb, hml, hown, hts, hSt, hA, hl1, hl2, hl3, hl4⟩ := hC
  exact fun H locs ls hP hD hS hl => lv_ifnullN hx hb hd ht (k H locs ls hP hD hS hl)
theorem z_tabOut (hC : zCtx l X cc own nL lev bud Z) {dflt lo hi : Int} {offs : Array Int} {len : Nat} {x : Int32} (tgt : Nat) (hd : decode cc pc = .ok (.tableswitch dflt lo hi offs, len)) (h : x.toInt < lo ∨ hi < x.toInt) (ht : (pc : Int) + dflt = (tgt : Int)) (k : Z w G tgt lv st) : Z w G pc lv (.int x :: st) := by
  obtain ⟨p, e, R, s, m, args, below, meth, c, c0, s0, Q, A, H0, rfl, hx, hb, hml, hown, hts, hSt, hA, hl1, hl2, hl3, hl4⟩ := hC
  exact fun H locs ls hP hD hS hl => lv_tableOut hx hb hd h ht (k H locs ls hP hD hS hl)
theorem z_tabIn (hC : zCtx l X cc own nL lev bud Z) {dflt lo hi : Int} {offs : Array Int} {len : Nat} {x : Int32} {off : Int} (tgt : Nat) (hd : decode cc pc = .ok (.tableswitch dflt lo hi offs, len)) (h1 : ¬ x.toInt < lo) (h2 : ¬ hi < x.toInt) (ho : offs[(x.toInt - lo).toNat]? = some off) (ht : (pc : Int) + off = (tgt : Int)) (k : Z w G tgt lv st) : Z w G pc lv (.int x :: st) := by
  obtain ⟨p, e, R, s, m, args, below, meth, c, c0, s0, Q, A, H0, rfl, hx, hb, hml, hown, hts, hSt, hA, hl1, hl2, hl3, hl4⟩ := hC
  exact fun H locs ls hP hD hS hl => lv_tableIn hx hb hd h1 h2 ho ht (k H locs ls hP hD hS hl)
theorem z_look (hC : zCtx l X cc own nL lev bud Z) {dflt : Int} {ps : Array (Int × Int)} {len : Nat} {x : Int32} {off : Int} (tgt : Nat) (hd : decode cc pc = .ok (.lookupswitch dflt ps, len)) (hp : (ps.toList.zip (ps.toList.drop 1)).all (fun (a, next) => a.1 < next.1) = true) (ho : Op.lookupswitch.offset ps.toList dflt x.toInt = off) (ht : (pc : Int) + off = (tgt : Int)) (k : Z w G tgt lv st) : Z w G pc lv (.int x :: st) := by
  obtain ⟨p, e, R, s, m, args, below, meth, c, c0, s0, Q, A, H0, rfl, hx, hb, hml, hown, hts, hSt, hA, hl1, hl2, hl3, hl4⟩ := hC
  exact fun H locs ls hP hD hS hl => lv_lookup hx hb hd hp ho ht (k H locs ls hP hD hS hl)
theorem z_ldcw (hC : zCtx l X cc own nL lev bud Z) {idx : Nat} {v : Int32} (hc : Cond.constant own idx v ∈ zall) (hd : decode cc pc = .ok (.ldc_w idx, 3)) (k : Z w G (pc + 3) lv (.int v :: st)) : Z w G pc lv st := by
  obtain ⟨p, e, R, s, m, args, below, meth, c, c0, s0, Q, A, H0, rfl, hx, hb, hml, hown, hts, hSt, hA, hl1, hl2, hl3, hl4⟩ := hC
  exact fun H locs ls hP hD hS hl => lv_ldcw hx hb hown (hts _ hc) hd (k H locs ls hP hD hS hl)
theorem z_ldc2 (hC : zCtx l X cc own nL lev bud Z) {idx : Nat} {v : Int64} (hc : Cond.constantLong own idx v ∈ zall) (hd : decode cc pc = .ok (.ldc2_w idx, 3)) (k : Z w G (pc + 3) lv (.long v :: st)) : Z w G pc lv st := by
  obtain ⟨p, e, R, s, m, args, below, meth, c, c0, s0, Q, A, H0, rfl, hx, hb, hml, hown, hts, hSt, hA, hl1, hl2, hl3, hl4⟩ := hC
  exact fun H locs ls hP hD hS hl => lv_ldc2 hx hb hown (hts _ hc) hd (k H locs ls hP hD hS hl)
theorem z_get (hC : zCtx l X cc own nL lev bud Z) {k i ci f idx N : Nat} {C : String} {T : u_T} {fs : List Value} {v : Value} (hm : (k, i) ∈ zix G) (hct : z_ct X G k i = .inr (ci, fs)) (hc : zcl[ci]? = some (C, T, N)) (hin : ∀ w ∈ u_ws C T N, w ∈ zall) (hf : f < N) (hlk : Cond.fieldLink own idx (T f).1 (T f).2.1 (T f).2.2.1 ∈ zall) (hv : fs[f]? = some v) (hd : decode cc pc = .ok (.getfield idx, 3)) (kk : Z w G (pc + 3) lv (v :: st)) : Z w G pc lv (.ref (za G k i) :: st) := by
  obtain ⟨p, e, R, s, m, args, below, meth, c, c0, s0, Q, A, H0, rfl, hx, hb, hml, hown, hts, hSt, hA, hl1, hl2, hl3, hl4⟩ := hC
  intro H locs ls hP hD hS hl
  obtain ⟨q0, -, hq⟩ := z_pl (X := X) hm
  rw [hct] at hq
  exact va_get hx hb hts hin hown hSt.1 hP q0 hq hc f hf (hts _ hlk) (fun _ h => h) hv hd (kk H locs ls hP hD hS hl)
theorem z_getN (hC : zCtx l X cc own nL lev bud Z) {k i ci f idx N : Nat} {C : String} {T : u_T} {fs : List Value} {v : Value} {host : String} (hm : (k, i) ∈ zix G) (hct : z_ct X G k i = .inr (ci, fs)) (hc : zcl[ci]? = some (C, T, N)) (hin : ∀ w ∈ u_ws C T N, w ∈ zall) (hf : f < N) (hlk : (own, idx, (T f).1, (T f).2.1, (T f).2.2.1, host) ∈ zNF) (hv : fs[f]? = some v) (hd : decode cc pc = .ok (.getfield idx, 3)) (kk : Z w G (pc + 3) lv (v :: st)) : Z w G pc lv (.ref (za G k i) :: st) := by
  obtain ⟨p, e, R, s, m, args, below, meth, c, c0, s0, Q, A, H0, rfl, hx, hb, hml, hown, hts, hSt, hA, hl1, hl2, hl3, hl4⟩ := hC
  intro H locs ls hP hD hS hl
  obtain ⟨q0, -, hq⟩ := z_pl (X := X) hm
  rw [hct] at hq
  exact va_getN hx hb hts hin hown hSt.1 hP q0 hq hc f hf (va_Nw.use rfl (hSt.2.1 _ hlk)) (fun _ h => h) hv hd (kk H locs ls hP hD hS hl)
theorem z_put (hC : zCtx l X cc own nL lev bud Z) {k i ci f idx N : Nat} {C : String} {T : u_T} {fs : List Value} {v : Value} {G2 : zG} {ty0 : Nat → FieldType} {ty : FieldType} (hm : (k, i) ∈ zix G) (hct : z_ct X G k i = .inr (ci, fs)) (hc : zcl[ci]? = some (C, T, N)) (hin : ∀ w ∈ u_ws C T N, w ∈ zall) (hty : ∀ k, k < N → parseFieldDescriptor (T k).2.2.1 = some (ty0 k)) (hnm : ∀ a, a < N → ∀ b, b < N → a ≠ b → (T a).2.1 ≠ (T b).2.1) (hf : f < N) (hlk : Cond.fieldLink own idx (T f).1 (T f).2.1 (T f).2.2.1 ∈ zall) (hfin : (T f).2.2.2 = false) (hpd : parseFieldDescriptor (T f).2.2.1 = some ty) (hn : narrow ty v = v) (hfit : fits ty v = true) (hlen : f < fs.length) (hix : zix G2 = zix G) (had : za G2 = za G) (he : z_ct X G2 k i = .inr (ci, fs.set f v)) (ho : ∀ k' i', (k', i') ∈ zix G → ¬ (k' = k ∧ i' = i) → z_ct X G2 k' i' = z_ct X G k' i') (hd : decode cc pc = .ok (.putfield idx, 3)) (kk : Z w G2 (pc + 3) lv st) : Z w G pc lv (v :: .ref (za G k i) :: st) := by
  obtain ⟨p, e, R, s, m, args, below, meth, c, c0, s0, Q, A, H0, rfl, hx, hb, hml, hown, hts, hSt, hA, hl1, hl2, hl3, hl4⟩ := hC
  intro H locs ls hP hD hS hl
  obtain ⟨q0, hq0, hq⟩ := z_pl (X := X) hm
  rw [hct] at hq
  have hset := z_set hD hq0 hix had he ho
  exact va_put hx hb hts hin ty0 hty hnm hown hSt.1 hP hD hS q0 hq hc f hf (hts _ hlk) (fun _ h => h) hfin hpd hn hfit hlen hd (fun H1 locs1 hP1 hD1 hS1 => kk H1 locs1 ls (hset ▸ hP1) (hset ▸ hD1) hS1 hl)
theorem z_putN (hC : zCtx l X cc own nL lev bud Z) {k i ci f idx N : Nat} {C : String} {T : u_T} {fs : List Value} {v : Value} {G2 : zG} {ty0 : Nat → FieldType} {ty : FieldType} {host : String} (hm : (k, i) ∈ zix G) (hct : z_ct X G k i = .inr (ci, fs)) (hc : zcl[ci]? = some (C, T, N)) (hin : ∀ w ∈ u_ws C T N, w ∈ zall) (hty : ∀ k, k < N → parseFieldDescriptor (T k).2.2.1 = some (ty0 k)) (hnm : ∀ a, a < N → ∀ b, b < N → a ≠ b → (T a).2.1 ≠ (T b).2.1) (hf : f < N) (hlk : (own, idx, (T f).1, (T f).2.1, (T f).2.2.1, host) ∈ zNF) (hfin : (T f).2.2.2 = false) (hpd : parseFieldDescriptor (T f).2.2.1 = some ty) (hn : narrow ty v = v) (hfit : fits ty v = true) (hlen : f < fs.length) (hix : zix G2 = zix G) (had : za G2 = za G) (he : z_ct X G2 k i = .inr (ci, fs.set f v)) (ho : ∀ k' i', (k', i') ∈ zix G → ¬ (k' = k ∧ i' = i) → z_ct X G2 k' i' = z_ct X G k' i') (hd : decode cc pc = .ok (.putfield idx, 3)) (kk : Z w G2 (pc + 3) lv st) : Z w G pc lv (v :: .ref (za G k i) :: st) := by
  obtain ⟨p, e, R, s, m, args, below, meth, c, c0, s0, Q, A, H0, rfl, hx, hb, hml, hown, hts, hSt, hA, hl1, hl2, hl3, hl4⟩ := hC
  intro H locs ls hP hD hS hl
  obtain ⟨q0, hq0, hq⟩ := z_pl (X := X) hm
  rw [hct] at hq
  have hset := z_set hD hq0 hix had he ho
  exact va_putN hx hb hts hin ty0 hty hnm hown hSt.1 hP hD hS q0 hq hc f hf (va_Nw.use rfl (hSt.2.1 _ hlk)) (fun _ h => h) hfin hpd hn hfit hlen hd (fun H1 locs1 hP1 hD1 hS1 => kk H1 locs1 ls (hset ▸ hP1) (hset ▸ hD1) hS1 hl)
theorem z_iald (hC : zCtx l X cc own nL lev bud Z) {k i n : Nat} {f : Nat → Int32} (hm : (k, i) ∈ zix G) (hct : z_ct X G k i = .inl (X.2 0, n, .inl f)) {j : Nat} (hj : j < n) (hn : n < 2 ^ 31) (hd : decode cc pc = .ok (.iaload, 1)) (kk : Z w G (pc + 1) lv (.int (f j) :: st)) : Z w G pc lv (.int (nI j) :: .ref (za G k i) :: st) := by
  obtain ⟨p, e, R, s, m, args, below, meth, c, c0, s0, Q, A, H0, rfl, hx, hb, hml, hown, hts, hSt, hA, hl1, hl2, hl3, hl4⟩ := hC
  intro H locs ls hP hD hS hl
  obtain ⟨q0, -, hq⟩ := z_pl (X := X) hm
  rw [hct] at hq
  refine va_iald hx hb hSt.1 hP q0 0 hq rfl (vp_in_nI hj hn) hd ?_
  rw [nI_clamp (by omega)]
  exact kk H locs ls hP hD hS hl
theorem z_zald (hC : zCtx l X cc own nL lev bud Z) {k i n : Nat} {f : Nat → Int32} (hm : (k, i) ∈ zix G) (hct : z_ct X G k i = .inl (X.2 1, n, .inl f)) {j : Nat} (hj : j < n) (hn : n < 2 ^ 31) (hd : decode cc pc = .ok (.baload, 1)) (kk : Z w G (pc + 1) lv (.int (f j) :: st)) : Z w G pc lv (.int (nI j) :: .ref (za G k i) :: st) := by
  obtain ⟨p, e, R, s, m, args, below, meth, c, c0, s0, Q, A, H0, rfl, hx, hb, hml, hown, hts, hSt, hA, hl1, hl2, hl3, hl4⟩ := hC
  intro H locs ls hP hD hS hl
  obtain ⟨q0, -, hq⟩ := z_pl (X := X) hm
  rw [hct] at hq
  refine va_zald hx hb hSt.1 hP q0 1 hq rfl (vp_in_nI hj hn) hd ?_
  rw [nI_clamp (by omega)]
  exact kk H locs ls hP hD hS hl
theorem z_iast (hC : zCtx l X cc own nL lev bud Z) {k i n : Nat} {f : Nat → Int32} (hm : (k, i) ∈ zix G) (hct : z_ct X G k i = .inl (X.2 0, n, .inl f)) {j : Nat} {x : Int32} (hj : j < n) (hn : n < 2 ^ 31) (hcs : ∀ f2 : Nat → Int32, z_ct X (zuA G k i f2) k i = .inl (X.2 0, n, .inl f2)) (hd : decode cc pc = .ok (.iastore, 1)) (kk : Z w (zuA G k i (upd f j (x))) (pc + 1) lv st) : Z w G pc lv (.int x :: .int (nI j) :: .ref (za G k i) :: st) := by
  obtain ⟨p, e, R, s, m, args, below, meth, c, c0, s0, Q, A, H0, rfl, hx, hb, hml, hown, hts, hSt, hA, hl1, hl2, hl3, hl4⟩ := hC
  intro H locs ls hP hD hS hl
  obtain ⟨q0, hq0, hq⟩ := z_pl (X := X) hm
  rw [hct] at hq
  refine va_iast hx hb hSt.1 hP hD hS q0 0 hq rfl (vp_in_nI hj hn) hd (fun H1 locs1 hP1 hD1 hS1 => ?_)
  rw [nI_clamp (by omega)] at hP1 hD1
  have hset := z_set (G' := zuA G k i (upd f j (x))) hD hq0 rfl rfl (hcs _) (fun k1 i1 _ => z_ct_uA X G k i _ k1 i1)
  exact kk H1 locs1 ls (hset ▸ hP1) (hset ▸ hD1) hS1 hl
theorem z_zast (hC : zCtx l X cc own nL lev bud Z) {k i n : Nat} {f : Nat → Int32} (hm : (k, i) ∈ zix G) (hct : z_ct X G k i = .inl (X.2 1, n, .inl f)) {j : Nat} {x : Int32} (hj : j < n) (hn : n < 2 ^ 31) (hcs : ∀ f2 : Nat → Int32, z_ct X (zuA G k i f2) k i = .inl (X.2 1, n, .inl f2)) (hd : decode cc pc = .ok (.bastore, 1)) (kk : Z w (zuA G k i (upd f j (vp_nar .boolean x))) (pc + 1) lv st) : Z w G pc lv (.int x :: .int (nI j) :: .ref (za G k i) :: st) := by
  obtain ⟨p, e, R, s, m, args, below, meth, c, c0, s0, Q, A, H0, rfl, hx, hb, hml, hown, hts, hSt, hA, hl1, hl2, hl3, hl4⟩ := hC
  intro H locs ls hP hD hS hl
  obtain ⟨q0, hq0, hq⟩ := z_pl (X := X) hm
  rw [hct] at hq
  refine va_zast hx hb hSt.1 hP hD hS q0 1 hq rfl (vp_in_nI hj hn) hd (fun H1 locs1 hP1 hD1 hS1 => ?_)
  rw [nI_clamp (by omega)] at hP1 hD1
  have hset := z_set (G' := zuA G k i (upd f j (vp_nar .boolean x))) hD hq0 rfl rfl (hcs _) (fun k1 i1 _ => z_ct_uA X G k i _ k1 i1)
  exact kk H1 locs1 ls (hset ▸ hP1) (hset ▸ hD1) hS1 hl
theorem z_aald (hC : zCtx l X cc own nL lev bud Z) {k i n t0 : Nat} {C : String} {f : Nat → Option Nat} {a : Nat} (hm : (k, i) ∈ zix G) (hct : z_ct X G k i = .inl (X.2 t0, n, .inr (.inr (.inr (.inr f))))) (ht : (z_tys X)[t0]? = some (X.2 t0, .object C)) {j : Nat} (hj : j < n) (hn : n < 2 ^ 31) (hf : f j = some a) (hd : decode cc pc = .ok (.aaload, 1)) (kk : Z w G (pc + 1) lv (.ref a :: st)) : Z w G pc lv (.int (nI j) :: .ref (za G k i) :: st) := by
  obtain ⟨p, e, R, s, m, args, below, meth, c, c0, s0, Q, A, H0, rfl, hx, hb, hml, hown, hts, hSt, hA, hl1, hl2, hl3, hl4⟩ := hC
  intro H locs ls hP hD hS hl
  obtain ⟨q0, -, hq⟩ := z_pl (X := X) hm
  rw [hct] at hq
  refine va_aldq hx hb hSt.1 hP q0 t0 hq ht (vp_in_nI hj hn) hd ?_
  rw [nI_clamp (by omega), hf]
  exact kk H locs ls hP hD hS hl
theorem z_alen (hC : zCtx l X cc own nL lev bud Z) {k i n t0 : Nat} {x : vp_A} {ty : FieldType} (hm : (k, i) ∈ zix G) (hct : z_ct X G k i = .inl (X.2 t0, x)) (ht : (z_tys X)[t0]? = some (X.2 t0, ty)) (hn : x.1 = n) (hd : decode cc pc = .ok (.arraylength, 1)) (kk : Z w G (pc + 1) lv (.int (nI n) :: st)) : Z w G pc lv (.ref (za G k i) :: st) := by
  obtain ⟨p, e, R, s, m, args, below, meth, c, c0, s0, Q, A, H0, rfl, hx, hb, hml, hown, hts, hSt, hA, hl1, hl2, hl3, hl4⟩ := hC
  intro H locs ls hP hD hS hl
  obtain ⟨q0, -, hq⟩ := z_pl (X := X) hm
  rw [hct] at hq
  exact va_alen hx hb hSt.1 hP q0 t0 hq ht (by rw [hn]; rfl) hd (kk H locs ls hP hD hS hl)
set_option maxHeartbeats 1000000 in
theorem z_callV (hC : zCtx l X cc own nL lev bud Z) {y : MethodName} {b : ByteArray} {nLc lev2 bud2 n idx : Nat} {ret : Option FieldType} {As : List Value} {P : Option Value → zG → Prop} {r : Nat} (hM : zC l y b nLc ret lev2 bud2 X (.ref r :: As) G P) (hm : zM y b nLc ret n) (hlv : lev2 + 1 ≤ lev) (hnl : nLc ≤ 21) (hbd : w + bud2 ≤ bud) (hst : (st.map fun v => v.category).sum ≤ 8) (hlen : As.length = n) (hi : zIV y) (ho : zO X G r y.cls) (hk : Cond.methodLink own idx y ∈ zall) (hd : decode cc pc = .ok (.invokevirtual idx, 3)) (kk : ∀ (v : Option Value) (G' : zG), P v G' → Z (w + bud2) G' (pc + 3) lv (v.toList ++ st)) : Z w G pc lv (As.reverse ++ .ref r :: st) := by
  obtain ⟨p, e, R, s, m, args, below, meth, c, c0, s0, Q, A, H0, rfl, hx, hb, hml, hown, hts, hSt, hA, hl1, hl2, hl3, hl4⟩ := hC
  intro H locs ls hP hD hS hl
  have hsub : ∀ q, va_A (z_ls X G) H.size q → A q := by
    rintro q (⟨k, e, hk⟩ | hq)
    · exact hD.2 k _ hk
    · exact hA q (Nat.le_trans hS.1 hq)
  have hG : GoodIn zall (Cond.code y b nLc ret :: zall) := by
    intro x hx
    rcases List.mem_cons.mp hx with rfl | hx
    · exact ⟨hm.1, zall_good hm.1⟩
    · exact ⟨hx, zall_good hx⟩
  have hR : (zRm lev2 bud2).frames + 1 ≤ R.frames ∧ 8 + (nLc + 11) + (zRm lev2 bud2).locals ≤ R.locals := by
    constructor <;> simp only [zRm] <;> omega
  have hbl : FrameBlind (zPre X (.ref r :: As) G H.size) := fun a U g mk h => ⟨h.1, h.2.1, h.2.2.1, h.2.2.2.1, zS.same (u := U) (U := U.calling g mk a) rfl h.2.2.2.2⟩
  have hpr : ∀ U : State, U.heap = H → s.WarmedH U.vm → zPre X (.ref r :: As) G H.size ((.ref r :: As)).toArray U := fun U hU hW => ⟨rfl, by rw [hU], by rw [hU]; exact hP, hD.weaken (fun _ _ _ _ => trivial), hSt.warm hW⟩
  obtain ⟨k0, i0, ci, fs, q, hm0, rfl, hct, hc, hqc⟩ := ho
  obtain ⟨q0, -, hq⟩ := z_pl (X := X) hm0
  rw [hct] at hq
  have cw : CallW R s args own y.cls idx y b nLc ret (Cond.code y b nLc ret :: zall) (zRm lev2 bud2) bud2 (4 * bud2) n := ⟨callB_of n hts hG rfl rfl rfl (hts _ hi.2.2) (hts _ hk) hm.2 hR, hts _ hi.1, hts _ hi.2.1⟩
  refine zj_after (va_runV ⟨hx, hb, hml, hown, hts⟩ (hM H.size) cw ⟨hbl, (by rw [← hqc]; exact va_recv hSt.1 hP hc hq), hpr⟩ rfl hlen hl.1 rfl (lv_room hst) hd ⟨by omega, by omega⟩) hS hsub hsub (fun v G' H1 locs1 hp hP1 hD1 hS1 => ?_)
  have h5 := kk v G' hp H1 locs1 ls hP1 hD1 hS1 hl
  rw [show c0 + w + bud2 = c0 + (w + bud2) by omega, show s0 + 4 * w + 4 * bud2 = s0 + 4 * (w + bud2) by omega]
  exact h5
set_option maxHeartbeats 1000000 in
theorem z_callVN (hC : zCtx l X cc own nL lev bud Z) {y : MethodName} {b : ByteArray} {nLc lev2 bud2 n idx : Nat} {ret : Option FieldType} {As : List Value} {P : Option Value → zG → Prop} {r : Nat} {host : String} (hM : zC l y b nLc ret lev2 bud2 X (.ref r :: As) G P) (hm : zM y b nLc ret n) (hlv : lev2 + 1 ≤ lev) (hnl : nLc ≤ 21) (hbd : w + bud2 ≤ bud) (hst : (st.map fun v => v.category).sum ≤ 8) (hlen : As.length = n) (hi : zIV y) (ho : zO X G r y.cls) (hk : (own, idx, y, host) ∈ zNM) (hd : decode cc pc = .ok (.invokevirtual idx, 3)) (kk : ∀ (v : Option Value) (G' : zG), P v G' → Z (w + bud2) G' (pc + 3) lv (v.toList ++ st)) : Z w G pc lv (As.reverse ++ .ref r :: st) := by
  obtain ⟨p, e, R, s, m, args, below, meth, c, c0, s0, Q, A, H0, rfl, hx, hb, hml, hown, hts, hSt, hA, hl1, hl2, hl3, hl4⟩ := hC
  intro H locs ls hP hD hS hl
  have hsub : ∀ q, va_A (z_ls X G) H.size q → A q := by
    rintro q (⟨k, e, hk⟩ | hq)
    · exact hD.2 k _ hk
    · exact hA q (Nat.le_trans hS.1 hq)
  have hG : GoodIn zall (Cond.code y b nLc ret :: zall) := by
    intro x hx
    rcases List.mem_cons.mp hx with rfl | hx
    · exact ⟨hm.1, zall_good hm.1⟩
    · exact ⟨hx, zall_good hx⟩
  have hR : (zRm lev2 bud2).frames + 1 ≤ R.frames ∧ 8 + (nLc + 11) + (zRm lev2 bud2).locals ≤ R.locals := by
    constructor <;> simp only [zRm] <;> omega
  have hbl : FrameBlind (zPre X (.ref r :: As) G H.size) := fun a U g mk h => ⟨h.1, h.2.1, h.2.2.1, h.2.2.2.1, zS.same (u := U) (U := U.calling g mk a) rfl h.2.2.2.2⟩
  have hpr : ∀ U : State, U.heap = H → s.WarmedH U.vm → zPre X (.ref r :: As) G H.size ((.ref r :: As)).toArray U := fun U hU hW => ⟨rfl, by rw [hU], by rw [hU]; exact hP, hD.weaken (fun _ _ _ _ => trivial), hSt.warm hW⟩
  obtain ⟨k0, i0, ci, fs, q, hm0, rfl, hct, hc, hqc⟩ := ho
  obtain ⟨q0, -, hq⟩ := z_pl (X := X) hm0
  rw [hct] at hq
  have cw := va_cnB (args := args) (own := own) (host := host) (index := idx) (rm := zRm lev2 bud2) (mc := bud2) (ms := 4 * bud2) n hts hG rfl rfl rfl (hSt.2.2 _ hk) (hts _ hi.2.2) hm.2 hR
  refine zj_after (va_runVN ⟨hx, hb, hml, hown, hts⟩ (hM H.size) ⟨cw, hts _ hi.1, hts _ hi.2.1⟩ ⟨hbl, (by rw [← hqc]; exact va_recv hSt.1 hP hc hq), hpr⟩ rfl hlen hl.1 rfl (lv_room hst) hd ⟨by omega, by omega⟩) hS hsub hsub (fun v G' H1 locs1 hp hP1 hD1 hS1 => ?_)
  have h5 := kk v G' hp H1 locs1 ls hP1 hD1 hS1 hl
  rw [show c0 + w + bud2 = c0 + (w + bud2) by omega, show s0 + 4 * w + 4 * bud2 = s0 + 4 * (w + bud2) by omega]
  exact h5
set_option maxHeartbeats 1000000 in
theorem z_callS (hC : zCtx l X cc own nL lev bud Z) {y : MethodName} {b : ByteArray} {nLc lev2 bud2 n idx : Nat} {ret : Option FieldType} {As : List Value} {P : Option Value → zG → Prop} (hM : zC l y b nLc ret lev2 bud2 X As G P) (hm : zM y b nLc ret n) (hlv : lev2 + 1 ≤ lev) (hnl : nLc ≤ 21) (hbd : w + bud2 ≤ bud) (hst : (st.map fun v => v.category).sum ≤ 8) (hlen : As.length = n) (hi : zIS y) (hk : Cond.methodLink own idx y ∈ zall) (hd : decode cc pc = .ok (.invokestatic idx, 3)) (kk : ∀ (v : Option Value) (G' : zG), P v G' → Z (w + bud2) G' (pc + 3) lv (v.toList ++ st)) : Z w G pc lv (As.reverse ++ st) := by
  obtain ⟨p, e, R, s, m, args, below, meth, c, c0, s0, Q, A, H0, rfl, hx, hb, hml, hown, hts, hSt, hA, hl1, hl2, hl3, hl4⟩ := hC
  intro H locs ls hP hD hS hl
  have hsub : ∀ q, va_A (z_ls X G) H.size q → A q := by
    rintro q (⟨k, e, hk⟩ | hq)
    · exact hD.2 k _ hk
    · exact hA q (Nat.le_trans hS.1 hq)
  have hG : GoodIn zall (Cond.code y b nLc ret :: zall) := by
    intro x hx
    rcases List.mem_cons.mp hx with rfl | hx
    · exact ⟨hm.1, zall_good hm.1⟩
    · exact ⟨hx, zall_good hx⟩
  have hR : (zRm lev2 bud2).frames + 1 ≤ R.frames ∧ 8 + (nLc + 11) + (zRm lev2 bud2).locals ≤ R.locals := by
    constructor <;> simp only [zRm] <;> omega
  have hbl : FrameBlind (zPre X As G H.size) := fun a U g mk h => ⟨h.1, h.2.1, h.2.2.1, h.2.2.2.1, zS.same (u := U) (U := U.calling g mk a) rfl h.2.2.2.2⟩
  have hpr : ∀ U : State, U.heap = H → s.WarmedH U.vm → zPre X As G H.size (As).toArray U := fun U hU hW => ⟨rfl, by rw [hU], by rw [hU]; exact hP, hD.weaken (fun _ _ _ _ => trivial), hSt.warm hW⟩
  have cw : CallB R s args own idx y b nLc ret (Cond.code y b nLc ret :: zall) (zRm lev2 bud2) bud2 (4 * bud2) n := callB_of n hts hG rfl rfl rfl (hts _ hi.2) (hts _ hk) hm.2 hR
  refine zj_after (va_runS ⟨hx, hb, hml, hown, hts⟩ (hM H.size) ⟨cw, hts _ hi.1⟩ ⟨hbl, hpr⟩ rfl hlen hl.1 rfl (lv_room hst) hd ⟨by omega, by omega⟩) hS hsub hsub (fun v G' H1 locs1 hp hP1 hD1 hS1 => ?_)
  have h5 := kk v G' hp H1 locs1 ls hP1 hD1 hS1 hl
  rw [show c0 + w + bud2 = c0 + (w + bud2) by omega, show s0 + 4 * w + 4 * bud2 = s0 + 4 * (w + bud2) by omega]
  exact h5
set_option maxHeartbeats 1000000 in
theorem z_callSN (hC : zCtx l X cc own nL lev bud Z) {y : MethodName} {b : ByteArray} {nLc lev2 bud2 n idx : Nat} {ret : Option FieldType} {As : List Value} {P : Option Value → zG → Prop} {host : String} (hM : zC l y b nLc ret lev2 bud2 X As G P) (hm : zM y b nLc ret n) (hlv : lev2 + 1 ≤ lev) (hnl : nLc ≤ 21) (hbd : w + bud2 ≤ bud) (hst : (st.map fun v => v.category).sum ≤ 8) (hlen : As.length = n) (hi : zIS y) (hk : (own, idx, y, host) ∈ zNM) (hd : decode cc pc = .ok (.invokestatic idx, 3)) (kk : ∀ (v : Option Value) (G' : zG), P v G' → Z (w + bud2) G' (pc + 3) lv (v.toList ++ st)) : Z w G pc lv (As.reverse ++ st) := by
  obtain ⟨p, e, R, s, m, args, below, meth, c, c0, s0, Q, A, H0, rfl, hx, hb, hml, hown, hts, hSt, hA, hl1, hl2, hl3, hl4⟩ := hC
  intro H locs ls hP hD hS hl
  have hsub : ∀ q, va_A (z_ls X G) H.size q → A q := by
    rintro q (⟨k, e, hk⟩ | hq)
    · exact hD.2 k _ hk
    · exact hA q (Nat.le_trans hS.1 hq)
  have hG : GoodIn zall (Cond.code y b nLc ret :: zall) := by
    intro x hx
    rcases List.mem_cons.mp hx with rfl | hx
    · exact ⟨hm.1, zall_good hm.1⟩
    · exact ⟨hx, zall_good hx⟩
  have hR : (zRm lev2 bud2).frames + 1 ≤ R.frames ∧ 8 + (nLc + 11) + (zRm lev2 bud2).locals ≤ R.locals := by
    constructor <;> simp only [zRm] <;> omega
  have hbl : FrameBlind (zPre X As G H.size) := fun a U g mk h => ⟨h.1, h.2.1, h.2.2.1, h.2.2.2.1, zS.same (u := U) (U := U.calling g mk a) rfl h.2.2.2.2⟩
  have hpr : ∀ U : State, U.heap = H → s.WarmedH U.vm → zPre X As G H.size (As).toArray U := fun U hU hW => ⟨rfl, by rw [hU], by rw [hU]; exact hP, hD.weaken (fun _ _ _ _ => trivial), hSt.warm hW⟩
  have cw := va_cnB (args := args) (own := own) (host := host) (index := idx) (rm := zRm lev2 bud2) (mc := bud2) (ms := 4 * bud2) n hts hG rfl rfl rfl (hSt.2.2 _ hk) (hts _ hi.2) hm.2 hR
  refine zj_after (va_runSN ⟨hx, hb, hml, hown, hts⟩ (hM H.size) ⟨cw, hts _ hi.1, trivial⟩ ⟨hbl, hpr⟩ rfl hlen hl.1 rfl (lv_room hst) hd ⟨by omega, by omega⟩) hS hsub hsub (fun v G' H1 locs1 hp hP1 hD1 hS1 => ?_)
  have h5 := kk v G' hp H1 locs1 ls hP1 hD1 hS1 hl
  rw [show c0 + w + bud2 = c0 + (w + bud2) by omega, show s0 + 4 * w + 4 * bud2 = s0 + 4 * (w + bud2) by omega]
  exact h5
def zPi (P : Int32 → zG → Prop) : Option Value → zG → Prop := fun v G => ∃ r, v = some (.int r) ∧ P r G
def zPa (P : Value → zG → Prop) : Option Value → zG → Prop := fun v G => ∃ r, v = some r ∧ P r G
def zPv (P : zG → Prop) : Option Value → zG → Prop := fun v G => v = none ∧ P G
def zPl (P : Int64 → zG → Prop) : Option Value → zG → Prop := fun v G => ∃ r, v = some (.long r) ∧ P r G
theorem z_cVi0 (hC : zCtx l X cc own nL lev bud Z) {y : MethodName} {b : ByteArray} {nLc lev2 bud2 idx : Nat} {ret : Option FieldType} {P : Int32 → zG → Prop} {r : Nat} (hM : zC l y b nLc ret lev2 bud2 X [.ref r] G (zPi P)) (hm : zM y b nLc ret 0) (hi : zIV y) (ho : zO X G r y.cls) (hk : Cond.methodLink own idx y ∈ zall) (hlv : lev2 + 1 ≤ lev) (hnl : nLc ≤ 21) (hbd : w + bud2 ≤ bud) (hst : (st.map fun v => v.category).sum ≤ 8) (hd : decode cc pc = .ok (.invokevirtual idx, 3)) (kk : ∀ (r2 : Int32) (G' : zG), P r2 G' → Z (w + bud2) G' (pc + 3) lv (.int r2 :: st)) : Z w G pc lv (.ref r :: st) :=
  z_callV hC (As := []) hM hm hlv hnl hbd hst rfl hi ho hk hd (by rintro _ G2 ⟨r2, rfl, h⟩; exact kk r2 G2 h)
theorem z_cVl0 (hC : zCtx l X cc own nL lev bud Z) {y : MethodName} {b : ByteArray} {nLc lev2 bud2 idx : Nat} {ret : Option FieldType} {P : Int64 → zG → Prop} {r : Nat} (hM : zC l y b nLc ret lev2 bud2 X [.ref r] G (zPl P)) (hm : zM y b nLc ret 0) (hi : zIV y) (ho : zO X G r y.cls) (hk : Cond.methodLink own idx y ∈ zall) (hlv : lev2 + 1 ≤ lev) (hnl : nLc ≤ 21) (hbd : w + bud2 ≤ bud) (hst : (st.map fun v => v.category).sum ≤ 8) (hd : decode cc pc = .ok (.invokevirtual idx, 3)) (kk : ∀ (r2 : Int64) (G' : zG), P r2 G' → Z (w + bud2) G' (pc + 3) lv (.long r2 :: st)) : Z w G pc lv (.ref r :: st) :=
  z_callV hC (As := []) hM hm hlv hnl hbd hst rfl hi ho hk hd (by rintro _ G2 ⟨r2, rfl, h⟩; exact kk r2 G2 h)
theorem z_cVi1 (hC : zCtx l X cc own nL lev bud Z) {y : MethodName} {b : ByteArray} {nLc lev2 bud2 idx : Nat} {ret : Option FieldType} {P : Int32 → zG → Prop} {r : Nat} {u0 : Value} (hM : zC l y b nLc ret lev2 bud2 X [.ref r, u0] G (zPi P)) (hm : zM y b nLc ret 1) (hi : zIV y) (ho : zO X G r y.cls) (hk : Cond.methodLink own idx y ∈ zall) (hlv : lev2 + 1 ≤ lev) (hnl : nLc ≤ 21) (hbd : w + bud2 ≤ bud) (hst : (st.map fun v => v.category).sum ≤ 8) (hd : decode cc pc = .ok (.invokevirtual idx, 3)) (kk : ∀ (r2 : Int32) (G' : zG), P r2 G' → Z (w + bud2) G' (pc + 3) lv (.int r2 :: st)) : Z w G pc lv (u0 :: .ref r :: st) :=
  z_callV hC (As := [u0]) hM hm hlv hnl hbd hst rfl hi ho hk hd (by rintro _ G2 ⟨r2, rfl, h⟩; exact kk r2 G2 h)
theorem z_cVa1 (hC : zCtx l X cc own nL lev bud Z) {y : MethodName} {b : ByteArray} {nLc lev2 bud2 idx : Nat} {ret : Option FieldType} {P : Value → zG → Prop} {r : Nat} {u0 : Value} (hM : zC l y b nLc ret lev2 bud2 X [.ref r, u0] G (zPa P)) (hm : zM y b nLc ret 1) (hi : zIV y) (ho : zO X G r y.cls) (hk : Cond.methodLink own idx y ∈ zall) (hlv : lev2 + 1 ≤ lev) (hnl : nLc ≤ 21) (hbd : w + bud2 ≤ bud) (hst : (st.map fun v => v.category).sum ≤ 8) (hd : decode cc pc = .ok (.invokevirtual idx, 3)) (kk : ∀ (r2 : Value) (G' : zG), P r2 G' → Z (w + bud2) G' (pc + 3) lv (r2 :: st)) : Z w G pc lv (u0 :: .ref r :: st) :=
  z_callV hC (As := [u0]) hM hm hlv hnl hbd hst rfl hi ho hk hd (by rintro _ G2 ⟨r2, rfl, h⟩; exact kk r2 G2 h)
theorem z_cVi2 (hC : zCtx l X cc own nL lev bud Z) {y : MethodName} {b : ByteArray} {nLc lev2 bud2 idx : Nat} {ret : Option FieldType} {P : Int32 → zG → Prop} {r : Nat} {u0 u1 : Value} (hM : zC l y b nLc ret lev2 bud2 X [.ref r, u0, u1] G (zPi P)) (hm : zM y b nLc ret 2) (hi : zIV y) (ho : zO X G r y.cls) (hk : Cond.methodLink own idx y ∈ zall) (hlv : lev2 + 1 ≤ lev) (hnl : nLc ≤ 21) (hbd : w + bud2 ≤ bud) (hst : (st.map fun v => v.category).sum ≤ 8) (hd : decode cc pc = .ok (.invokevirtual idx, 3)) (kk : ∀ (r2 : Int32) (G' : zG), P r2 G' → Z (w + bud2) G' (pc + 3) lv (.int r2 :: st)) : Z w G pc lv (u1 :: u0 :: .ref r :: st) :=
  z_callV hC (As := [u0, u1]) hM hm hlv hnl hbd hst rfl hi ho hk hd (by rintro _ G2 ⟨r2, rfl, h⟩; exact kk r2 G2 h)
theorem z_cVv2 (hC : zCtx l X cc own nL lev bud Z) {y : MethodName} {b : ByteArray} {nLc lev2 bud2 idx : Nat} {ret : Option FieldType} {P : zG → Prop} {r : Nat} {u0 u1 : Value} (hM : zC l y b nLc ret lev2 bud2 X [.ref r, u0, u1] G (zPv P)) (hm : zM y b nLc ret 2) (hi : zIV y) (ho : zO X G r y.cls) (hk : Cond.methodLink own idx y ∈ zall) (hlv : lev2 + 1 ≤ lev) (hnl : nLc ≤ 21) (hbd : w + bud2 ≤ bud) (hst : (st.map fun v => v.category).sum ≤ 8) (hd : decode cc pc = .ok (.invokevirtual idx, 3)) (kk : ∀ (G' : zG), P G' → Z (w + bud2) G' (pc + 3) lv (st)) : Z w G pc lv (u1 :: u0 :: .ref r :: st) :=
  z_callV hC (As := [u0, u1]) hM hm hlv hnl hbd hst rfl hi ho hk hd (by rintro _ G2 ⟨rfl, h⟩; exact kk G2 h)
theorem z_cVi3 (hC : zCtx l X cc own nL lev bud Z) {y : MethodName} {b : ByteArray} {nLc lev2 bud2 idx : Nat} {ret : Option FieldType} {P : Int32 → zG → Prop} {r : Nat} {u0 u1 u2 : Value} (hM : zC l y b nLc ret lev2 bud2 X [.ref r, u0, u1, u2] G (zPi P)) (hm : zM y b nLc ret 3) (hi : zIV y) (ho : zO X G r y.cls) (hk : Cond.methodLink own idx y ∈ zall) (hlv : lev2 + 1 ≤ lev) (hnl : nLc ≤ 21) (hbd : w + bud2 ≤ bud) (hst : (st.map fun v => v.category).sum ≤ 8) (hd : decode cc pc = .ok (.invokevirtual idx, 3)) (kk : ∀ (r2 : Int32) (G' : zG), P r2 G' → Z (w + bud2) G' (pc + 3) lv (.int r2 :: st)) : Z w G pc lv (u2 :: u1 :: u0 :: .ref r :: st) :=
  z_callV hC (As := [u0, u1, u2]) hM hm hlv hnl hbd hst rfl hi ho hk hd (by rintro _ G2 ⟨r2, rfl, h⟩; exact kk r2 G2 h)
theorem z_cVi4 (hC : zCtx l X cc own nL lev bud Z) {y : MethodName} {b : ByteArray} {nLc lev2 bud2 idx : Nat} {ret : Option FieldType} {P : Int32 → zG → Prop} {r : Nat} {u0 u1 u2 u3 : Value} (hM : zC l y b nLc ret lev2 bud2 X [.ref r, u0, u1, u2, u3] G (zPi P)) (hm : zM y b nLc ret 4) (hi : zIV y) (ho : zO X G r y.cls) (hk : Cond.methodLink own idx y ∈ zall) (hlv : lev2 + 1 ≤ lev) (hnl : nLc ≤ 21) (hbd : w + bud2 ≤ bud) (hst : (st.map fun v => v.category).sum ≤ 8) (hd : decode cc pc = .ok (.invokevirtual idx, 3)) (kk : ∀ (r2 : Int32) (G' : zG), P r2 G' → Z (w + bud2) G' (pc + 3) lv (.int r2 :: st)) : Z w G pc lv (u3 :: u2 :: u1 :: u0 :: .ref r :: st) :=
  z_callV hC (As := [u0, u1, u2, u3]) hM hm hlv hnl hbd hst rfl hi ho hk hd (by rintro _ G2 ⟨r2, rfl, h⟩; exact kk r2 G2 h)
theorem z_cVi5 (hC : zCtx l X cc own nL lev bud Z) {y : MethodName} {b : ByteArray} {nLc lev2 bud2 idx : Nat} {ret : Option FieldType} {P : Int32 → zG → Prop} {r : Nat} {u0 u1 u2 u3 u4 : Value} (hM : zC l y b nLc ret lev2 bud2 X [.ref r, u0, u1, u2, u3, u4] G (zPi P)) (hm : zM y b nLc ret 5) (hi : zIV y) (ho : zO X G r y.cls) (hk : Cond.methodLink own idx y ∈ zall) (hlv : lev2 + 1 ≤ lev) (hnl : nLc ≤ 21) (hbd : w + bud2 ≤ bud) (hst : (st.map fun v => v.category).sum ≤ 8) (hd : decode cc pc = .ok (.invokevirtual idx, 3)) (kk : ∀ (r2 : Int32) (G' : zG), P r2 G' → Z (w + bud2) G' (pc + 3) lv (.int r2 :: st)) : Z w G pc lv (u4 :: u3 :: u2 :: u1 :: u0 :: .ref r :: st) :=
  z_callV hC (As := [u0, u1, u2, u3, u4]) hM hm hlv hnl hbd hst rfl hi ho hk hd (by rintro _ G2 ⟨r2, rfl, h⟩; exact kk r2 G2 h)
theorem z_cVi6 (hC : zCtx l X cc own nL lev bud Z) {y : MethodName} {b : ByteArray} {nLc lev2 bud2 idx : Nat} {ret : Option FieldType} {P : Int32 → zG → Prop} {r : Nat} {u0 u1 u2 u3 u4 u5 : Value} (hM : zC l y b nLc ret lev2 bud2 X [.ref r, u0, u1, u2, u3, u4, u5] G (zPi P)) (hm : zM y b nLc ret 6) (hi : zIV y) (ho : zO X G r y.cls) (hk : Cond.methodLink own idx y ∈ zall) (hlv : lev2 + 1 ≤ lev) (hnl : nLc ≤ 21) (hbd : w + bud2 ≤ bud) (hst : (st.map fun v => v.category).sum ≤ 8) (hd : decode cc pc = .ok (.invokevirtual idx, 3)) (kk : ∀ (r2 : Int32) (G' : zG), P r2 G' → Z (w + bud2) G' (pc + 3) lv (.int r2 :: st)) : Z w G pc lv (u5 :: u4 :: u3 :: u2 :: u1 :: u0 :: .ref r :: st) :=
  z_callV hC (As := [u0, u1, u2, u3, u4, u5]) hM hm hlv hnl hbd hst rfl hi ho hk hd (by rintro _ G2 ⟨r2, rfl, h⟩; exact kk r2 G2 h)
theorem z_cVNi0 (hC : zCtx l X cc own nL lev bud Z) {y : MethodName} {b : ByteArray} {nLc lev2 bud2 idx : Nat} {ret : Option FieldType} {P : Int32 → zG → Prop} {r : Nat} {host : String} (hM : zC l y b nLc ret lev2 bud2 X [.ref r] G (zPi P)) (hm : zM y b nLc ret 0) (hi : zIV y) (ho : zO X G r y.cls) (hk : (own, idx, y, host) ∈ zNM) (hlv : lev2 + 1 ≤ lev) (hnl : nLc ≤ 21) (hbd : w + bud2 ≤ bud) (hst : (st.map fun v => v.category).sum ≤ 8) (hd : decode cc pc = .ok (.invokevirtual idx, 3)) (kk : ∀ (r2 : Int32) (G' : zG), P r2 G' → Z (w + bud2) G' (pc + 3) lv (.int r2 :: st)) : Z w G pc lv (.ref r :: st) :=
  z_callVN hC (As := []) hM hm hlv hnl hbd hst rfl hi ho hk hd (by rintro _ G2 ⟨r2, rfl, h⟩; exact kk r2 G2 h)
theorem z_cVNl0 (hC : zCtx l X cc own nL lev bud Z) {y : MethodName} {b : ByteArray} {nLc lev2 bud2 idx : Nat} {ret : Option FieldType} {P : Int64 → zG → Prop} {r : Nat} {host : String} (hM : zC l y b nLc ret lev2 bud2 X [.ref r] G (zPl P)) (hm : zM y b nLc ret 0) (hi : zIV y) (ho : zO X G r y.cls) (hk : (own, idx, y, host) ∈ zNM) (hlv : lev2 + 1 ≤ lev) (hnl : nLc ≤ 21) (hbd : w + bud2 ≤ bud) (hst : (st.map fun v => v.category).sum ≤ 8) (hd : decode cc pc = .ok (.invokevirtual idx, 3)) (kk : ∀ (r2 : Int64) (G' : zG), P r2 G' → Z (w + bud2) G' (pc + 3) lv (.long r2 :: st)) : Z w G pc lv (.ref r :: st) :=
  z_callVN hC (As := []) hM hm hlv hnl hbd hst rfl hi ho hk hd (by rintro _ G2 ⟨r2, rfl, h⟩; exact kk r2 G2 h)
theorem z_cVNi1 (hC : zCtx l X cc own nL lev bud Z) {y : MethodName} {b : ByteArray} {nLc lev2 bud2 idx : Nat} {ret : Option FieldType} {P : Int32 → zG → Prop} {r : Nat} {host : String} {u0 : Value} (hM : zC l y b nLc ret lev2 bud2 X [.ref r, u0] G (zPi P)) (hm : zM y b nLc ret 1) (hi : zIV y) (ho : zO X G r y.cls) (hk : (own, idx, y, host) ∈ zNM) (hlv : lev2 + 1 ≤ lev) (hnl : nLc ≤ 21) (hbd : w + bud2 ≤ bud) (hst : (st.map fun v => v.category).sum ≤ 8) (hd : decode cc pc = .ok (.invokevirtual idx, 3)) (kk : ∀ (r2 : Int32) (G' : zG), P r2 G' → Z (w + bud2) G' (pc + 3) lv (.int r2 :: st)) : Z w G pc lv (u0 :: .ref r :: st) :=
  z_callVN hC (As := [u0]) hM hm hlv hnl hbd hst rfl hi ho hk hd (by rintro _ G2 ⟨r2, rfl, h⟩; exact kk r2 G2 h)
theorem z_cVNa1 (hC : zCtx l X cc own nL lev bud Z) {y : MethodName} {b : ByteArray} {nLc lev2 bud2 idx : Nat} {ret : Option FieldType} {P : Value → zG → Prop} {r : Nat} {host : String} {u0 : Value} (hM : zC l y b nLc ret lev2 bud2 X [.ref r, u0] G (zPa P)) (hm : zM y b nLc ret 1) (hi : zIV y) (ho : zO X G r y.cls) (hk : (own, idx, y, host) ∈ zNM) (hlv : lev2 + 1 ≤ lev) (hnl : nLc ≤ 21) (hbd : w + bud2 ≤ bud) (hst : (st.map fun v => v.category).sum ≤ 8) (hd : decode cc pc = .ok (.invokevirtual idx, 3)) (kk : ∀ (r2 : Value) (G' : zG), P r2 G' → Z (w + bud2) G' (pc + 3) lv (r2 :: st)) : Z w G pc lv (u0 :: .ref r :: st) :=
  z_callVN hC (As := [u0]) hM hm hlv hnl hbd hst rfl hi ho hk hd (by rintro _ G2 ⟨r2, rfl, h⟩; exact kk r2 G2 h)
theorem z_cVNi2 (hC : zCtx l X cc own nL lev bud Z) {y : MethodName} {b : ByteArray} {nLc lev2 bud2 idx : Nat} {ret : Option FieldType} {P : Int32 → zG → Prop} {r : Nat} {host : String} {u0 u1 : Value} (hM : zC l y b nLc ret lev2 bud2 X [.ref r, u0, u1] G (zPi P)) (hm : zM y b nLc ret 2) (hi : zIV y) (ho : zO X G r y.cls) (hk : (own, idx, y, host) ∈ zNM) (hlv : lev2 + 1 ≤ lev) (hnl : nLc ≤ 21) (hbd : w + bud2 ≤ bud) (hst : (st.map fun v => v.category).sum ≤ 8) (hd : decode cc pc = .ok (.invokevirtual idx, 3)) (kk : ∀ (r2 : Int32) (G' : zG), P r2 G' → Z (w + bud2) G' (pc + 3) lv (.int r2 :: st)) : Z w G pc lv (u1 :: u0 :: .ref r :: st) :=
  z_callVN hC (As := [u0, u1]) hM hm hlv hnl hbd hst rfl hi ho hk hd (by rintro _ G2 ⟨r2, rfl, h⟩; exact kk r2 G2 h)
theorem z_cVNv2 (hC : zCtx l X cc own nL lev bud Z) {y : MethodName} {b : ByteArray} {nLc lev2 bud2 idx : Nat} {ret : Option FieldType} {P : zG → Prop} {r : Nat} {host : String} {u0 u1 : Value} (hM : zC l y b nLc ret lev2 bud2 X [.ref r, u0, u1] G (zPv P)) (hm : zM y b nLc ret 2) (hi : zIV y) (ho : zO X G r y.cls) (hk : (own, idx, y, host) ∈ zNM) (hlv : lev2 + 1 ≤ lev) (hnl : nLc ≤ 21) (hbd : w + bud2 ≤ bud) (hst : (st.map fun v => v.category).sum ≤ 8) (hd : decode cc pc = .ok (.invokevirtual idx, 3)) (kk : ∀ (G' : zG), P G' → Z (w + bud2) G' (pc + 3) lv (st)) : Z w G pc lv (u1 :: u0 :: .ref r :: st) :=
  z_callVN hC (As := [u0, u1]) hM hm hlv hnl hbd hst rfl hi ho hk hd (by rintro _ G2 ⟨rfl, h⟩; exact kk G2 h)
theorem z_cVNi3 (hC : zCtx l X cc own nL lev bud Z) {y : MethodName} {b : ByteArray} {nLc lev2 bud2 idx : Nat} {ret : Option FieldType} {P : Int32 → zG → Prop} {r : Nat} {host : String} {u0 u1 u2 : Value} (hM : zC l y b nLc ret lev2 bud2 X [.ref r, u0, u1, u2] G (zPi P)) (hm : zM y b nLc ret 3) (hi : zIV y) (ho : zO X G r y.cls) (hk : (own, idx, y, host) ∈ zNM) (hlv : lev2 + 1 ≤ lev) (hnl : nLc ≤ 21) (hbd : w + bud2 ≤ bud) (hst : (st.map fun v => v.category).sum ≤ 8) (hd : decode cc pc = .ok (.invokevirtual idx, 3)) (kk : ∀ (r2 : Int32) (G' : zG), P r2 G' → Z (w + bud2) G' (pc + 3) lv (.int r2 :: st)) : Z w G pc lv (u2 :: u1 :: u0 :: .ref r :: st) :=
  z_callVN hC (As := [u0, u1, u2]) hM hm hlv hnl hbd hst rfl hi ho hk hd (by rintro _ G2 ⟨r2, rfl, h⟩; exact kk r2 G2 h)
theorem z_cVNi4 (hC : zCtx l X cc own nL lev bud Z) {y : MethodName} {b : ByteArray} {nLc lev2 bud2 idx : Nat} {ret : Option FieldType} {P : Int32 → zG → Prop} {r : Nat} {host : String} {u0 u1 u2 u3 : Value} (hM : zC l y b nLc ret lev2 bud2 X [.ref r, u0, u1, u2, u3] G (zPi P)) (hm : zM y b nLc ret 4) (hi : zIV y) (ho : zO X G r y.cls) (hk : (own, idx, y, host) ∈ zNM) (hlv : lev2 + 1 ≤ lev) (hnl : nLc ≤ 21) (hbd : w + bud2 ≤ bud) (hst : (st.map fun v => v.category).sum ≤ 8) (hd : decode cc pc = .ok (.invokevirtual idx, 3)) (kk : ∀ (r2 : Int32) (G' : zG), P r2 G' → Z (w + bud2) G' (pc + 3) lv (.int r2 :: st)) : Z w G pc lv (u3 :: u2 :: u1 :: u0 :: .ref r :: st) :=
  z_callVN hC (As := [u0, u1, u2, u3]) hM hm hlv hnl hbd hst rfl hi ho hk hd (by rintro _ G2 ⟨r2, rfl, h⟩; exact kk r2 G2 h)
theorem z_cVNv4 (hC : zCtx l X cc own nL lev bud Z) {y : MethodName} {b : ByteArray} {nLc lev2 bud2 idx : Nat} {ret : Option FieldType} {P : zG → Prop} {r : Nat} {host : String} {u0 u1 u2 u3 : Value} (hM : zC l y b nLc ret lev2 bud2 X [.ref r, u0, u1, u2, u3] G (zPv P)) (hm : zM y b nLc ret 4) (hi : zIV y) (ho : zO X G r y.cls) (hk : (own, idx, y, host) ∈ zNM) (hlv : lev2 + 1 ≤ lev) (hnl : nLc ≤ 21) (hbd : w + bud2 ≤ bud) (hst : (st.map fun v => v.category).sum ≤ 8) (hd : decode cc pc = .ok (.invokevirtual idx, 3)) (kk : ∀ (G' : zG), P G' → Z (w + bud2) G' (pc + 3) lv (st)) : Z w G pc lv (u3 :: u2 :: u1 :: u0 :: .ref r :: st) :=
  z_callVN hC (As := [u0, u1, u2, u3]) hM hm hlv hnl hbd hst rfl hi ho hk hd (by rintro _ G2 ⟨rfl, h⟩; exact kk G2 h)
theorem z_cVNi5 (hC : zCtx l X cc own nL lev bud Z) {y : MethodName} {b : ByteArray} {nLc lev2 bud2 idx : Nat} {ret : Option FieldType} {P : Int32 → zG → Prop} {r : Nat} {host : String} {u0 u1 u2 u3 u4 : Value} (hM : zC l y b nLc ret lev2 bud2 X [.ref r, u0, u1, u2, u3, u4] G (zPi P)) (hm : zM y b nLc ret 5) (hi : zIV y) (ho : zO X G r y.cls) (hk : (own, idx, y, host) ∈ zNM) (hlv : lev2 + 1 ≤ lev) (hnl : nLc ≤ 21) (hbd : w + bud2 ≤ bud) (hst : (st.map fun v => v.category).sum ≤ 8) (hd : decode cc pc = .ok (.invokevirtual idx, 3)) (kk : ∀ (r2 : Int32) (G' : zG), P r2 G' → Z (w + bud2) G' (pc + 3) lv (.int r2 :: st)) : Z w G pc lv (u4 :: u3 :: u2 :: u1 :: u0 :: .ref r :: st) :=
  z_callVN hC (As := [u0, u1, u2, u3, u4]) hM hm hlv hnl hbd hst rfl hi ho hk hd (by rintro _ G2 ⟨r2, rfl, h⟩; exact kk r2 G2 h)
theorem z_cVNi6 (hC : zCtx l X cc own nL lev bud Z) {y : MethodName} {b : ByteArray} {nLc lev2 bud2 idx : Nat} {ret : Option FieldType} {P : Int32 → zG → Prop} {r : Nat} {host : String} {u0 u1 u2 u3 u4 u5 : Value} (hM : zC l y b nLc ret lev2 bud2 X [.ref r, u0, u1, u2, u3, u4, u5] G (zPi P)) (hm : zM y b nLc ret 6) (hi : zIV y) (ho : zO X G r y.cls) (hk : (own, idx, y, host) ∈ zNM) (hlv : lev2 + 1 ≤ lev) (hnl : nLc ≤ 21) (hbd : w + bud2 ≤ bud) (hst : (st.map fun v => v.category).sum ≤ 8) (hd : decode cc pc = .ok (.invokevirtual idx, 3)) (kk : ∀ (r2 : Int32) (G' : zG), P r2 G' → Z (w + bud2) G' (pc + 3) lv (.int r2 :: st)) : Z w G pc lv (u5 :: u4 :: u3 :: u2 :: u1 :: u0 :: .ref r :: st) :=
  z_callVN hC (As := [u0, u1, u2, u3, u4, u5]) hM hm hlv hnl hbd hst rfl hi ho hk hd (by rintro _ G2 ⟨r2, rfl, h⟩; exact kk r2 G2 h)
theorem z_cSi0 (hC : zCtx l X cc own nL lev bud Z) {y : MethodName} {b : ByteArray} {nLc lev2 bud2 idx : Nat} {ret : Option FieldType} {P : Int32 → zG → Prop} (hM : zC l y b nLc ret lev2 bud2 X [] G (zPi P)) (hm : zM y b nLc ret 0) (hi : zIS y) (hk : Cond.methodLink own idx y ∈ zall) (hlv : lev2 + 1 ≤ lev) (hnl : nLc ≤ 21) (hbd : w + bud2 ≤ bud) (hst : (st.map fun v => v.category).sum ≤ 8) (hd : decode cc pc = .ok (.invokestatic idx, 3)) (kk : ∀ (r2 : Int32) (G' : zG), P r2 G' → Z (w + bud2) G' (pc + 3) lv (.int r2 :: st)) : Z w G pc lv (st) :=
  z_callS hC (As := []) hM hm hlv hnl hbd hst rfl hi hk hd (by rintro _ G2 ⟨r2, rfl, h⟩; exact kk r2 G2 h)
theorem z_cSl0 (hC : zCtx l X cc own nL lev bud Z) {y : MethodName} {b : ByteArray} {nLc lev2 bud2 idx : Nat} {ret : Option FieldType} {P : Int64 → zG → Prop} (hM : zC l y b nLc ret lev2 bud2 X [] G (zPl P)) (hm : zM y b nLc ret 0) (hi : zIS y) (hk : Cond.methodLink own idx y ∈ zall) (hlv : lev2 + 1 ≤ lev) (hnl : nLc ≤ 21) (hbd : w + bud2 ≤ bud) (hst : (st.map fun v => v.category).sum ≤ 8) (hd : decode cc pc = .ok (.invokestatic idx, 3)) (kk : ∀ (r2 : Int64) (G' : zG), P r2 G' → Z (w + bud2) G' (pc + 3) lv (.long r2 :: st)) : Z w G pc lv (st) :=
  z_callS hC (As := []) hM hm hlv hnl hbd hst rfl hi hk hd (by rintro _ G2 ⟨r2, rfl, h⟩; exact kk r2 G2 h)
theorem z_cSi1 (hC : zCtx l X cc own nL lev bud Z) {y : MethodName} {b : ByteArray} {nLc lev2 bud2 idx : Nat} {ret : Option FieldType} {P : Int32 → zG → Prop} {u0 : Value} (hM : zC l y b nLc ret lev2 bud2 X [u0] G (zPi P)) (hm : zM y b nLc ret 1) (hi : zIS y) (hk : Cond.methodLink own idx y ∈ zall) (hlv : lev2 + 1 ≤ lev) (hnl : nLc ≤ 21) (hbd : w + bud2 ≤ bud) (hst : (st.map fun v => v.category).sum ≤ 8) (hd : decode cc pc = .ok (.invokestatic idx, 3)) (kk : ∀ (r2 : Int32) (G' : zG), P r2 G' → Z (w + bud2) G' (pc + 3) lv (.int r2 :: st)) : Z w G pc lv (u0 :: st) :=
  z_callS hC (As := [u0]) hM hm hlv hnl hbd hst rfl hi hk hd (by rintro _ G2 ⟨r2, rfl, h⟩; exact kk r2 G2 h)
theorem z_cSa1 (hC : zCtx l X cc own nL lev bud Z) {y : MethodName} {b : ByteArray} {nLc lev2 bud2 idx : Nat} {ret : Option FieldType} {P : Value → zG → Prop} {u0 : Value} (hM : zC l y b nLc ret lev2 bud2 X [u0] G (zPa P)) (hm : zM y b nLc ret 1) (hi : zIS y) (hk : Cond.methodLink own idx y ∈ zall) (hlv : lev2 + 1 ≤ lev) (hnl : nLc ≤ 21) (hbd : w + bud2 ≤ bud) (hst : (st.map fun v => v.category).sum ≤ 8) (hd : decode cc pc = .ok (.invokestatic idx, 3)) (kk : ∀ (r2 : Value) (G' : zG), P r2 G' → Z (w + bud2) G' (pc + 3) lv (r2 :: st)) : Z w G pc lv (u0 :: st) :=
  z_callS hC (As := [u0]) hM hm hlv hnl hbd hst rfl hi hk hd (by rintro _ G2 ⟨r2, rfl, h⟩; exact kk r2 G2 h)
theorem z_cSi2 (hC : zCtx l X cc own nL lev bud Z) {y : MethodName} {b : ByteArray} {nLc lev2 bud2 idx : Nat} {ret : Option FieldType} {P : Int32 → zG → Prop} {u0 u1 : Value} (hM : zC l y b nLc ret lev2 bud2 X [u0, u1] G (zPi P)) (hm : zM y b nLc ret 2) (hi : zIS y) (hk : Cond.methodLink own idx y ∈ zall) (hlv : lev2 + 1 ≤ lev) (hnl : nLc ≤ 21) (hbd : w + bud2 ≤ bud) (hst : (st.map fun v => v.category).sum ≤ 8) (hd : decode cc pc = .ok (.invokestatic idx, 3)) (kk : ∀ (r2 : Int32) (G' : zG), P r2 G' → Z (w + bud2) G' (pc + 3) lv (.int r2 :: st)) : Z w G pc lv (u1 :: u0 :: st) :=
  z_callS hC (As := [u0, u1]) hM hm hlv hnl hbd hst rfl hi hk hd (by rintro _ G2 ⟨r2, rfl, h⟩; exact kk r2 G2 h)
theorem z_cSi3 (hC : zCtx l X cc own nL lev bud Z) {y : MethodName} {b : ByteArray} {nLc lev2 bud2 idx : Nat} {ret : Option FieldType} {P : Int32 → zG → Prop} {u0 u1 u2 : Value} (hM : zC l y b nLc ret lev2 bud2 X [u0, u1, u2] G (zPi P)) (hm : zM y b nLc ret 3) (hi : zIS y) (hk : Cond.methodLink own idx y ∈ zall) (hlv : lev2 + 1 ≤ lev) (hnl : nLc ≤ 21) (hbd : w + bud2 ≤ bud) (hst : (st.map fun v => v.category).sum ≤ 8) (hd : decode cc pc = .ok (.invokestatic idx, 3)) (kk : ∀ (r2 : Int32) (G' : zG), P r2 G' → Z (w + bud2) G' (pc + 3) lv (.int r2 :: st)) : Z w G pc lv (u2 :: u1 :: u0 :: st) :=
  z_callS hC (As := [u0, u1, u2]) hM hm hlv hnl hbd hst rfl hi hk hd (by rintro _ G2 ⟨r2, rfl, h⟩; exact kk r2 G2 h)
theorem z_cSi4 (hC : zCtx l X cc own nL lev bud Z) {y : MethodName} {b : ByteArray} {nLc lev2 bud2 idx : Nat} {ret : Option FieldType} {P : Int32 → zG → Prop} {u0 u1 u2 u3 : Value} (hM : zC l y b nLc ret lev2 bud2 X [u0, u1, u2, u3] G (zPi P)) (hm : zM y b nLc ret 4) (hi : zIS y) (hk : Cond.methodLink own idx y ∈ zall) (hlv : lev2 + 1 ≤ lev) (hnl : nLc ≤ 21) (hbd : w + bud2 ≤ bud) (hst : (st.map fun v => v.category).sum ≤ 8) (hd : decode cc pc = .ok (.invokestatic idx, 3)) (kk : ∀ (r2 : Int32) (G' : zG), P r2 G' → Z (w + bud2) G' (pc + 3) lv (.int r2 :: st)) : Z w G pc lv (u3 :: u2 :: u1 :: u0 :: st) :=
  z_callS hC (As := [u0, u1, u2, u3]) hM hm hlv hnl hbd hst rfl hi hk hd (by rintro _ G2 ⟨r2, rfl, h⟩; exact kk r2 G2 h)
theorem z_cSi5 (hC : zCtx l X cc own nL lev bud Z) {y : MethodName} {b : ByteArray} {nLc lev2 bud2 idx : Nat} {ret : Option FieldType} {P : Int32 → zG → Prop} {u0 u1 u2 u3 u4 : Value} (hM : zC l y b nLc ret lev2 bud2 X [u0, u1, u2, u3, u4] G (zPi P)) (hm : zM y b nLc ret 5) (hi : zIS y) (hk : Cond.methodLink own idx y ∈ zall) (hlv : lev2 + 1 ≤ lev) (hnl : nLc ≤ 21) (hbd : w + bud2 ≤ bud) (hst : (st.map fun v => v.category).sum ≤ 8) (hd : decode cc pc = .ok (.invokestatic idx, 3)) (kk : ∀ (r2 : Int32) (G' : zG), P r2 G' → Z (w + bud2) G' (pc + 3) lv (.int r2 :: st)) : Z w G pc lv (u4 :: u3 :: u2 :: u1 :: u0 :: st) :=
  z_callS hC (As := [u0, u1, u2, u3, u4]) hM hm hlv hnl hbd hst rfl hi hk hd (by rintro _ G2 ⟨r2, rfl, h⟩; exact kk r2 G2 h)
theorem z_cSi6 (hC : zCtx l X cc own nL lev bud Z) {y : MethodName} {b : ByteArray} {nLc lev2 bud2 idx : Nat} {ret : Option FieldType} {P : Int32 → zG → Prop} {u0 u1 u2 u3 u4 u5 : Value} (hM : zC l y b nLc ret lev2 bud2 X [u0, u1, u2, u3, u4, u5] G (zPi P)) (hm : zM y b nLc ret 6) (hi : zIS y) (hk : Cond.methodLink own idx y ∈ zall) (hlv : lev2 + 1 ≤ lev) (hnl : nLc ≤ 21) (hbd : w + bud2 ≤ bud) (hst : (st.map fun v => v.category).sum ≤ 8) (hd : decode cc pc = .ok (.invokestatic idx, 3)) (kk : ∀ (r2 : Int32) (G' : zG), P r2 G' → Z (w + bud2) G' (pc + 3) lv (.int r2 :: st)) : Z w G pc lv (u5 :: u4 :: u3 :: u2 :: u1 :: u0 :: st) :=
  z_callS hC (As := [u0, u1, u2, u3, u4, u5]) hM hm hlv hnl hbd hst rfl hi hk hd (by rintro _ G2 ⟨r2, rfl, h⟩; exact kk r2 G2 h)
theorem z_cSNi0 (hC : zCtx l X cc own nL lev bud Z) {y : MethodName} {b : ByteArray} {nLc lev2 bud2 idx : Nat} {ret : Option FieldType} {P : Int32 → zG → Prop} {host : String} (hM : zC l y b nLc ret lev2 bud2 X [] G (zPi P)) (hm : zM y b nLc ret 0) (hi : zIS y) (hk : (own, idx, y, host) ∈ zNM) (hlv : lev2 + 1 ≤ lev) (hnl : nLc ≤ 21) (hbd : w + bud2 ≤ bud) (hst : (st.map fun v => v.category).sum ≤ 8) (hd : decode cc pc = .ok (.invokestatic idx, 3)) (kk : ∀ (r2 : Int32) (G' : zG), P r2 G' → Z (w + bud2) G' (pc + 3) lv (.int r2 :: st)) : Z w G pc lv (st) :=
  z_callSN hC (As := []) hM hm hlv hnl hbd hst rfl hi hk hd (by rintro _ G2 ⟨r2, rfl, h⟩; exact kk r2 G2 h)
theorem z_cSNl0 (hC : zCtx l X cc own nL lev bud Z) {y : MethodName} {b : ByteArray} {nLc lev2 bud2 idx : Nat} {ret : Option FieldType} {P : Int64 → zG → Prop} {host : String} (hM : zC l y b nLc ret lev2 bud2 X [] G (zPl P)) (hm : zM y b nLc ret 0) (hi : zIS y) (hk : (own, idx, y, host) ∈ zNM) (hlv : lev2 + 1 ≤ lev) (hnl : nLc ≤ 21) (hbd : w + bud2 ≤ bud) (hst : (st.map fun v => v.category).sum ≤ 8) (hd : decode cc pc = .ok (.invokestatic idx, 3)) (kk : ∀ (r2 : Int64) (G' : zG), P r2 G' → Z (w + bud2) G' (pc + 3) lv (.long r2 :: st)) : Z w G pc lv (st) :=
  z_callSN hC (As := []) hM hm hlv hnl hbd hst rfl hi hk hd (by rintro _ G2 ⟨r2, rfl, h⟩; exact kk r2 G2 h)
theorem z_cSNi1 (hC : zCtx l X cc own nL lev bud Z) {y : MethodName} {b : ByteArray} {nLc lev2 bud2 idx : Nat} {ret : Option FieldType} {P : Int32 → zG → Prop} {host : String} {u0 : Value} (hM : zC l y b nLc ret lev2 bud2 X [u0] G (zPi P)) (hm : zM y b nLc ret 1) (hi : zIS y) (hk : (own, idx, y, host) ∈ zNM) (hlv : lev2 + 1 ≤ lev) (hnl : nLc ≤ 21) (hbd : w + bud2 ≤ bud) (hst : (st.map fun v => v.category).sum ≤ 8) (hd : decode cc pc = .ok (.invokestatic idx, 3)) (kk : ∀ (r2 : Int32) (G' : zG), P r2 G' → Z (w + bud2) G' (pc + 3) lv (.int r2 :: st)) : Z w G pc lv (u0 :: st) :=
  z_callSN hC (As := [u0]) hM hm hlv hnl hbd hst rfl hi hk hd (by rintro _ G2 ⟨r2, rfl, h⟩; exact kk r2 G2 h)
theorem z_cSNa1 (hC : zCtx l X cc own nL lev bud Z) {y : MethodName} {b : ByteArray} {nLc lev2 bud2 idx : Nat} {ret : Option FieldType} {P : Value → zG → Prop} {host : String} {u0 : Value} (hM : zC l y b nLc ret lev2 bud2 X [u0] G (zPa P)) (hm : zM y b nLc ret 1) (hi : zIS y) (hk : (own, idx, y, host) ∈ zNM) (hlv : lev2 + 1 ≤ lev) (hnl : nLc ≤ 21) (hbd : w + bud2 ≤ bud) (hst : (st.map fun v => v.category).sum ≤ 8) (hd : decode cc pc = .ok (.invokestatic idx, 3)) (kk : ∀ (r2 : Value) (G' : zG), P r2 G' → Z (w + bud2) G' (pc + 3) lv (r2 :: st)) : Z w G pc lv (u0 :: st) :=
  z_callSN hC (As := [u0]) hM hm hlv hnl hbd hst rfl hi hk hd (by rintro _ G2 ⟨r2, rfl, h⟩; exact kk r2 G2 h)
theorem z_cSNi2 (hC : zCtx l X cc own nL lev bud Z) {y : MethodName} {b : ByteArray} {nLc lev2 bud2 idx : Nat} {ret : Option FieldType} {P : Int32 → zG → Prop} {host : String} {u0 u1 : Value} (hM : zC l y b nLc ret lev2 bud2 X [u0, u1] G (zPi P)) (hm : zM y b nLc ret 2) (hi : zIS y) (hk : (own, idx, y, host) ∈ zNM) (hlv : lev2 + 1 ≤ lev) (hnl : nLc ≤ 21) (hbd : w + bud2 ≤ bud) (hst : (st.map fun v => v.category).sum ≤ 8) (hd : decode cc pc = .ok (.invokestatic idx, 3)) (kk : ∀ (r2 : Int32) (G' : zG), P r2 G' → Z (w + bud2) G' (pc + 3) lv (.int r2 :: st)) : Z w G pc lv (u1 :: u0 :: st) :=
  z_callSN hC (As := [u0, u1]) hM hm hlv hnl hbd hst rfl hi hk hd (by rintro _ G2 ⟨r2, rfl, h⟩; exact kk r2 G2 h)
theorem z_cSNi3 (hC : zCtx l X cc own nL lev bud Z) {y : MethodName} {b : ByteArray} {nLc lev2 bud2 idx : Nat} {ret : Option FieldType} {P : Int32 → zG → Prop} {host : String} {u0 u1 u2 : Value} (hM : zC l y b nLc ret lev2 bud2 X [u0, u1, u2] G (zPi P)) (hm : zM y b nLc ret 3) (hi : zIS y) (hk : (own, idx, y, host) ∈ zNM) (hlv : lev2 + 1 ≤ lev) (hnl : nLc ≤ 21) (hbd : w + bud2 ≤ bud) (hst : (st.map fun v => v.category).sum ≤ 8) (hd : decode cc pc = .ok (.invokestatic idx, 3)) (kk : ∀ (r2 : Int32) (G' : zG), P r2 G' → Z (w + bud2) G' (pc + 3) lv (.int r2 :: st)) : Z w G pc lv (u2 :: u1 :: u0 :: st) :=
  z_callSN hC (As := [u0, u1, u2]) hM hm hlv hnl hbd hst rfl hi hk hd (by rintro _ G2 ⟨r2, rfl, h⟩; exact kk r2 G2 h)
theorem z_cSNi4 (hC : zCtx l X cc own nL lev bud Z) {y : MethodName} {b : ByteArray} {nLc lev2 bud2 idx : Nat} {ret : Option FieldType} {P : Int32 → zG → Prop} {host : String} {u0 u1 u2 u3 : Value} (hM : zC l y b nLc ret lev2 bud2 X [u0, u1, u2, u3] G (zPi P)) (hm : zM y b nLc ret 4) (hi : zIS y) (hk : (own, idx, y, host) ∈ zNM) (hlv : lev2 + 1 ≤ lev) (hnl : nLc ≤ 21) (hbd : w + bud2 ≤ bud) (hst : (st.map fun v => v.category).sum ≤ 8) (hd : decode cc pc = .ok (.invokestatic idx, 3)) (kk : ∀ (r2 : Int32) (G' : zG), P r2 G' → Z (w + bud2) G' (pc + 3) lv (.int r2 :: st)) : Z w G pc lv (u3 :: u2 :: u1 :: u0 :: st) :=
  z_callSN hC (As := [u0, u1, u2, u3]) hM hm hlv hnl hbd hst rfl hi hk hd (by rintro _ G2 ⟨r2, rfl, h⟩; exact kk r2 G2 h)
theorem z_cSNi5 (hC : zCtx l X cc own nL lev bud Z) {y : MethodName} {b : ByteArray} {nLc lev2 bud2 idx : Nat} {ret : Option FieldType} {P : Int32 → zG → Prop} {host : String} {u0 u1 u2 u3 u4 : Value} (hM : zC l y b nLc ret lev2 bud2 X [u0, u1, u2, u3, u4] G (zPi P)) (hm : zM y b nLc ret 5) (hi : zIS y) (hk : (own, idx, y, host) ∈ zNM) (hlv : lev2 + 1 ≤ lev) (hnl : nLc ≤ 21) (hbd : w + bud2 ≤ bud) (hst : (st.map fun v => v.category).sum ≤ 8) (hd : decode cc pc = .ok (.invokestatic idx, 3)) (kk : ∀ (r2 : Int32) (G' : zG), P r2 G' → Z (w + bud2) G' (pc + 3) lv (.int r2 :: st)) : Z w G pc lv (u4 :: u3 :: u2 :: u1 :: u0 :: st) :=
  z_callSN hC (As := [u0, u1, u2, u3, u4]) hM hm hlv hnl hbd hst rfl hi hk hd (by rintro _ G2 ⟨r2, rfl, h⟩; exact kk r2 G2 h)
theorem z_cSNi6 (hC : zCtx l X cc own nL lev bud Z) {y : MethodName} {b : ByteArray} {nLc lev2 bud2 idx : Nat} {ret : Option FieldType} {P : Int32 → zG → Prop} {host : String} {u0 u1 u2 u3 u4 u5 : Value} (hM : zC l y b nLc ret lev2 bud2 X [u0, u1, u2, u3, u4, u5] G (zPi P)) (hm : zM y b nLc ret 6) (hi : zIS y) (hk : (own, idx, y, host) ∈ zNM) (hlv : lev2 + 1 ≤ lev) (hnl : nLc ≤ 21) (hbd : w + bud2 ≤ bud) (hst : (st.map fun v => v.category).sum ≤ 8) (hd : decode cc pc = .ok (.invokestatic idx, 3)) (kk : ∀ (r2 : Int32) (G' : zG), P r2 G' → Z (w + bud2) G' (pc + 3) lv (.int r2 :: st)) : Z w G pc lv (u5 :: u4 :: u3 :: u2 :: u1 :: u0 :: st) :=
  z_callSN hC (As := [u0, u1, u2, u3, u4, u5]) hM hm hlv hnl hbd hst rfl hi hk hd (by rintro _ G2 ⟨r2, rfl, h⟩; exact kk r2 G2 h)
end ZR

/-! class and reference side by side: the relation, and the calls whose answers agree -/
def eO (x y : Int32) (m : Nat) : Prop := (x = -9 ∧ y = nI 0) ∨ ∃ k, k < m ∧ x = nI k ∧ y = nI (k + 1)
def rA (G : zG) : Prop := ∀ f j, f < 8 → j < 40 → eO (zg G 5 f j) (zg G 21 0 (40 * f + j)) 10
def rG (G : zG) : Prop := ∀ h, h < 6 → zg G 22 0 h = zg G 7 h 4 ∧ zg G 23 0 h = zg G 10 h 6 ∧ zg G 31 0 h = zg G 7 h 3 ∧ zg G 43 0 h = zg G 7 h 5 ∧ ∃ k, k ≤ 1000 ∧ zg G 7 h 5 = nI k
/-- statement s of house h: class and reference hold the same, and the class's ends are what it comes to -/
def rSt (G : zG) (h s : Nat) : Prop := zg G 28 0 (12 * h + s) = zg G 15 h s ∧ (∃ t, t < 256 ∧ zg G 15 h s = nI t) ∧ zg G 24 0 (12 * h + s) = zg G 11 h s ∧
  ((zg G 11 h s = nI 0 ∧ ∃ f, f < 8 ∧ zg G 25 0 (12 * h + s) = nI f ∧ ∀ v, v < 8 → zg G 16 h (s * 8 + v) = nI (f * 8 + v)) ∨
   (zg G 11 h s = nI 1 ∧ ∃ f d, f < s ∧ d < 8 ∧ zg G 12 h s = nI f ∧ zg G 25 0 (12 * h + s) = nI f ∧ zg G 14 h s = nI d ∧ zg G 27 0 (12 * h + s) = nI d ∧ ∀ v, v < 8 → zg G 16 h (s * 8 + v) = zg G 16 h (f * 8 + (v + d) % 8)) ∨
   (zg G 11 h s = nI 2 ∧ ∃ f g d, f < s ∧ g < s ∧ 1 ≤ d ∧ d < 8 ∧ zg G 12 h s = nI f ∧ zg G 25 0 (12 * h + s) = nI f ∧ zg G 13 h s = nI g ∧ zg G 26 0 (12 * h + s) = nI g ∧ zg G 14 h s = nI d ∧ zg G 27 0 (12 * h + s) = nI d ∧ ∀ v, v < 8 → zg G 16 h (s * 8 + v) = zg G 16 h ((if v < d then f else g) * 8 + v)))
def rT (G : zG) : Prop := ∀ h, h < 6 → ∀ s, s < xSz G h → rSt G h s
def rC (G : zG) : Prop := (∀ h f d, h < 6 → f < 8 → d < 40 → zg G 29 0 (320 * h + 40 * f + d) = zg G 8 h (f * 40 + d)) ∧ (∀ h m, h < 6 → m < 100 → zg G 30 0 (100 * h + m) = zg G 9 h m) ∧ (∀ h, h < 6 → zg G 7 h 3 = 0 → ∀ f d, f < 8 → d < 40 → zg G 8 h (f * 40 + d) = 0)
def rU (G : zG) (rc : Nat) : Prop := ∀ q, q < rc → zg G 34 0 q = zg G 17 q 0 ∧ zg G 35 0 q = zg G 17 q 1 ∧ zg G 36 0 q = zg G 17 q 2 ∧ zg G 37 0 q = zg G 17 q 3 ∧ ∃ t, t < 256 ∧ zg G 17 q 1 = nI t
def rP (G : zG) : Prop := ∀ f h, f < 8 → h < 6 → eO (zg G 6 f h) (zg G 39 0 (6 * f + h)) 40
def rS (G : zG) : Prop := ∀ f, f < 8 → zg G 40 0 f = zg G 4 f 2 ∧ zg G 41 0 f = zg G 4 f 3 ∧ zg G 42 0 f = zg G 4 f 4 ∧ (∃ k, k ≤ 1000 ∧ zg G 4 f 4 = nI k) ∧ (zg G 4 f 2 = -9 ∨ ∃ k, k ≤ 40 ∧ zg G 4 f 2 = nI k)
def zR (G : zG) (vc rc td : Nat) : Prop := xI G vc rc td ∧ mI G vc rc td ∧ rA G ∧ rG G ∧ rT G ∧ rC G ∧ rU G rc ∧ rP G ∧ rS G ∧ zg G 20 0 12 = zg G 0 0 6 ∧ zt G 1 = zt G 0
theorem zR_mSc {G : zG} {vc rc td : Nat} {p q sn ls : Nat → Int32} {x : Int32} {ak : Int64} (h : zR G vc rc td) : zR (mSc G p q sn ls x ak) vc rc td := h
theorem zin_zv {x : Int32} {n : Nat} (h : zin x n = true) : ∃ a, a < n ∧ x = nI a ∧ x.toNatClampNeg = a := by
  unfold zin at h
  have h1 := of_decide_eq_true h
  have h0 : ¬ x < 0 := fun q => by
    have := Int32.lt_iff_toInt_lt.mp q
    rw [z0_toInt] at this
    omega
  obtain ⟨j, hj, rfl⟩ := nI_of h0
  rw [nI_toInt hj] at h1
  exact ⟨j, by omega, rfl, nI_clamp hj⟩
theorem nI_inj {a b : Nat} (ha : a < 2 ^ 31) (hb : b < 2 ^ 31) (h : nI a = nI b) : a = b := (nI_eq ha hb).mp h
theorem n9 {a : Nat} (ha : a < 2 ^ 31) : ¬ nI a = (-9 : Int32) := by
  intro h
  have h1 := congrArg Int32.toInt h
  rw [nI_toInt ha] at h1
  have h2 : (-9 : Int32).toInt = -9 := by decide +kernel
  rw [h2] at h1
  omega
theorem eO_eq {x y x' y' : Int32} {m : Nat} (hm : m < 2 ^ 30) (h : eO x y m) (h' : eO x' y' m) : (x = x') ↔ (y = y') := by
  rcases h with ⟨rfl, rfl⟩ | ⟨k, hk, rfl, rfl⟩ <;> rcases h' with ⟨rfl, rfl⟩ | ⟨k', hk', rfl, rfl⟩
  · exact ⟨fun _ => rfl, fun _ => rfl⟩
  · exact ⟨fun h => absurd h.symm (n9 (by omega)), fun h => by have := nI_inj (by omega) (by omega) h; omega⟩
  · exact ⟨fun h => absurd h (n9 (by omega)), fun h => by have := nI_inj (by omega) (by omega) h; omega⟩
  · exact ⟨fun h => by rw [nI_inj (by omega) (by omega) h], fun h => by have := nI_inj (by omega) (by omega) h; rw [show k = k' by omega]⟩
theorem eO_shown {x y : Int32} {m : Nat} (hm : m < 2 ^ 30) (h : eO x y m) : mShown y = x := by
  rcases h with ⟨rfl, rfl⟩ | ⟨k, hk, rfl, rfl⟩
  · exact if_pos nI_0
  · unfold mShown
    rw [if_neg (nI_ne0 (by omega) (by omega)), pk_sub (by omega)]
    rfl
theorem eO_hide {m : Nat} {x : Int32} (hx : x = -9 ∨ zin x m = true) (hm : m < 2 ^ 30) : eO x (mHide x) m := by
  rcases hx with rfl | hx
  · exact Or.inl ⟨rfl, if_pos rfl⟩
  · obtain ⟨a, ha, rfl, -⟩ := zin_zv hx
    refine Or.inr ⟨a, ha, rfl, ?_⟩
    unfold mHide
    rw [if_neg (n9 (by omega)), nI_add]
theorem bo_mDf {c c' : Nat → Bool} : ∀ {n : Nat}, (∀ a, a < n → c a = c' a) → bo c n = mDf c' n
  | 0, _ => rfl
  | n + 1, h => by
    have e := bo_mDf (c := c) (c' := c') (n := n) (fun a ha => h a (by omega))
    have e2 := h n (by omega)
    cases hc : c n with
    | true => rw [bo_t hc, mDf_t (by rw [← e2]; exact hc), e]
    | false => rw [bo_f hc, mDf_f (by rw [← e2]; exact hc), e, nI_0, or0]
theorem e_dif {G : zG} {f v u : Nat} (h : rA G) (hf : f < 8) (hv : v < 5) (hu : u < 5) : xDif G f v u = mDif G f v u := by
  unfold xDif mDif
  refine bo_mDf (fun a ha => ?_)
  have e1 := h f (v * 8 + a) hf (by omega)
  have e2 := h f (u * 8 + a) hf (by omega)
  rw [show 40 * f + (v * 8 + a) = 40 * f + 8 * v + a by omega] at e1
  rw [show 40 * f + (u * 8 + a) = 40 * f + 8 * u + a by omega] at e2
  exact decide_eq_decide.mpr (not_congr (eO_eq (by decide) e1 e2))
theorem e_differ {G : zG} {vc rc td : Nat} (h : zR G vc rc td) (a b c : Int32) : xaDiffer G vc a b c = maDiffer G vc a b c := by
  obtain ⟨⟨-, v1, v5, -⟩, hm, hA, -⟩ := h
  unfold xaDiffer maDiffer
  by_cases ho : xoDiffer vc a b c = true
  · rw [if_pos ho, if_pos ho]
    unfold xoDiffer at ho
    simp only [Bool.and_eq_true] at ho
    obtain ⟨a', ha, -, ea⟩ := zin_zv ho.1
    obtain ⟨b', hb, -, eb⟩ := zin_zv ho.2.1
    obtain ⟨c', hc, -, ec⟩ := zin_zv ho.2.2
    rw [ea, eb, ec]
    exact e_dif hA ha (by omega) (by omega)
  · rw [if_neg ho, if_neg ho]
theorem e_answer {G : zG} {vc rc td : Nat} (h : zR G vc rc td) (a b c d : Int32) : xaAnswer G vc a b c d = maAnswer (xsAnswer G vc a b c d) vc a b c d ∧ zR (msAnswer (xsAnswer G vc a b c d) vc a b c d) vc rc td := by
  by_cases ho : xoAnswer vc a b c d = true
  · have e1 : xsAnswer G vc a b c d = zu G 5 a.toNatClampNeg (b.toNatClampNeg * 8 + c.toNatClampNeg) d := if_pos ho
    rw [e1]
    have e2 : maAnswer (zu G 5 a.toNatClampNeg (b.toNatClampNeg * 8 + c.toNatClampNeg) d) vc a b c d = mShown (zg G 21 0 (40 * a.toNatClampNeg + 8 * b.toNatClampNeg + c.toNatClampNeg)) := if_pos ho
    have e3 : msAnswer (zu G 5 a.toNatClampNeg (b.toNatClampNeg * 8 + c.toNatClampNeg) d) vc a b c d = zu (zu G 5 a.toNatClampNeg (b.toNatClampNeg * 8 + c.toNatClampNeg) d) 21 0 (40 * a.toNatClampNeg + 8 * b.toNatClampNeg + c.toNatClampNeg) (mHide d) := if_pos ho
    have e4 : xaAnswer G vc a b c d = zg G 5 a.toNatClampNeg (b.toNatClampNeg * 8 + c.toNatClampNeg) := if_pos ho
    rw [e2, e3, e4]
    unfold xoAnswer at ho
    simp only [Bool.and_eq_true, Bool.or_eq_true, decide_eq_true_eq] at ho
    obtain ⟨a', ha, -, ea⟩ := zin_zv ho.1
    obtain ⟨b', hb, -, eb⟩ := zin_zv ho.2.1
    obtain ⟨c', hc, -, ec⟩ := zin_zv ho.2.2.1
    obtain ⟨hX, hM, hA, hG, hT, hC, hU, hP, hS, hz, ht⟩ := h
    have v5 := hX.2.2.1
    rw [ea, eb, ec]
    refine ⟨?_, hX, hM, ?_, hG, hT, hC, hU, hP, hS, hz, ht⟩
    · have := hA a' (b' * 8 + c') ha (by omega)
      rw [show 40 * a' + (b' * 8 + c') = 40 * a' + 8 * b' + c' by omega] at this
      exact (eO_shown (by decide) this).symm
    · intro f j hf hj
      have h0 := hA f j hf hj
      rw [zg_zu, zg_zu, zg_zu, zg_zu]
      by_cases hfj : f = a' ∧ j = b' * 8 + c'
      · obtain ⟨rfl, rfl⟩ := hfj
        rw [if_neg (by omega), if_pos ⟨rfl, rfl, rfl⟩, if_pos ⟨rfl, rfl, by omega⟩]
        exact eO_hide ho.2.2.2 (by decide)
      · rw [if_neg (by omega), if_neg (by omega), if_neg (by omega), if_neg (by omega)]
        exact h0
  · have e1 : xsAnswer G vc a b c d = G := if_neg ho
    rw [e1]
    have e3 : msAnswer G vc a b c d = G := if_neg ho
    rw [e3]
    exact ⟨(if_neg ho).trans (if_neg ho).symm, h⟩

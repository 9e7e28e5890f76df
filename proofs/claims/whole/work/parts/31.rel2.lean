/-! calls whose answers agree, continued -/
def zRR (G : zG) : Prop := ∃ vc rc td, zR G vc rc td
theorem n9lt {a : Nat} (ha : a < 2 ^ 31) : (-9 : Int32) < nI a := by
  rw [Int32.lt_iff_toInt_lt, nI_toInt ha, show (-9 : Int32).toInt = -9 by decide +kernel]
  omega
theorem n9nlt {a : Nat} (ha : a < 2 ^ 31) : ¬ nI a < (-9 : Int32) := fun h => absurd (Int32.lt_trans h (n9lt ha)) (Int32.lt_irrefl (a := nI a))
theorem eO_lt {x y x' y' : Int32} {m : Nat} (hm : m < 2 ^ 30) (h : eO x y m) (h' : eO x' y' m) : x < x' ↔ y < y' := by
  rcases h with ⟨rfl, rfl⟩ | ⟨k, hk, rfl, rfl⟩ <;> rcases h' with ⟨rfl, rfl⟩ | ⟨k', hk', rfl, rfl⟩
  · exact ⟨fun h => absurd h (Int32.lt_irrefl), fun h => absurd h (Int32.lt_irrefl)⟩
  · exact ⟨fun _ => nI_lt (by omega) (by omega), fun _ => n9lt (by omega)⟩
  · exact ⟨fun h => absurd h (n9nlt (by omega)), fun h => absurd h (nI_nlt (by omega) (by omega))⟩
  · rw [nI_ltI (by omega) (by omega), nI_ltI (by omega) (by omega)]
    omega
theorem eO_max {p q : Nat → Int32} {m : Nat} (hm : m < 2 ^ 30) : ∀ {n : Nat}, (∀ j, j < n → eO (p j) (q j) m) → eO (mxP p n) (mMx q n) m
  | 0, _ => Or.inl ⟨rfl, rfl⟩
  | n + 1, h => by
    have e := eO_max hm (n := n) (fun j hj => h j (by omega))
    have e2 := h n (by omega)
    have e3 := eO_lt hm e e2
    by_cases hl : mxP p n < p n
    · rw [mMx_f (Int32.not_le.mpr (e3.mp hl)), show mxP p (n + 1) = p n from if_pos hl]
      exact e2
    · rw [mMx_t (Int32.not_lt.mp (fun h => hl (e3.mpr h))), show mxP p (n + 1) = mxP p n from if_neg hl]
      exact e
theorem e_lat {G : zG} {f : Nat} (h : rP G) (hf : f < 8) : mLat G f = xLat G f := eO_shown (by decide) (eO_max (p := zg G 6 f) (q := fun h => zg G 39 0 (6 * f + h)) (by decide) (fun j hj => h f j hf hj))
theorem e_ish {G : zG} {vc rc td f : Nat} (h : zR G vc rc td) (hf : f < 8) : xShut G f (zg G 0 0 5) = mIsh G f := by
  obtain ⟨hX, hM, -, -, -, -, -, -, hS, -⟩ := h
  have e1 := hX.2.2.2.2.2.2.2.1
  have e2 := hM.2.2.2.2.2.1
  unfold xShut mIsh
  rw [(hS f hf).1, e1, e2]
theorem e_silent0 {G : zG} {h : Nat} (hG : rG G) (hh : h < 6) : xSilent G h = mSilent G h := by
  unfold xSilent mSilent
  rw [(hG h hh).2.1, (hG h hh).2.2.1]
theorem ctF_c {c c' : Nat → Bool} : ∀ {n : Nat}, (∀ j, j < n → c j = c' j) → ctF c n = ctF c' n
  | 0, _ => rfl
  | n + 1, h => by
    have e := ctF_c (c := c) (c' := c') (n := n) (fun j hj => h j (by omega))
    have e2 := h n (by omega)
    unfold ctF
    rw [e, e2]
theorem e_silent {G : zG} {vc rc td : Nat} (h : zR G vc rc td) (a : Int32) : xaSilent G a = maSilent G a := by
  unfold xaSilent maSilent
  by_cases ho : zin a 6 = true
  · rw [if_pos ho, if_pos ho]
    obtain ⟨a', ha, -, ea⟩ := zin_zv ho
    rw [ea, e_silent0 h.2.2.2.1 ha]
  · rw [if_neg ho, if_neg ho]
theorem e_told {G : zG} {vc rc td : Nat} (h : zR G vc rc td) (a : Int32) : xaTold G a = maTold G a := by
  have hG := h.2.2.2.1
  have e0 : zg G 0 0 4 = zg G 20 0 0 := h.1.1.trans h.2.1.1.symm
  have e1 : zg G 0 0 5 = zg G 20 0 18 := h.1.2.2.2.2.2.2.2.1.trans h.2.1.2.2.2.2.2.1.symm
  have e2 : zg G 0 0 3 = zg G 20 0 13 := h.1.2.2.2.1.trans h.2.1.2.2.2.1.symm
  have e3 : ctF (fun h => xSilent G h) 6 = ctF (fun h => mSilent G h) 6 := ctF_c (fun j hj => e_silent0 hG hj)
  have e4 : ctF (fun k => xShut G k (zg G 0 0 5)) 8 = ctF (fun k => mIsh G k) 8 := ctF_c (fun j hj => e_ish h hj)
  unfold xaTold maTold
  rw [e3, e4, e0, e1, e2]
theorem smF_c {f g : Nat → Int32} {a : Nat} : ∀ {n : Nat}, (∀ j, j < n → f (a + j) = g (a + j)) → smF f a n = smF g a n
  | 0, _ => rfl
  | n + 1, h => by
    show smF f a n + f (a + n) = smF g a n + g (a + n)
    rw [smF_c (fun j hj => h j (by omega)), h n (by omega)]
theorem e_sum0 {G : zG} {h f a n : Nat} (hC : rC G) (hh : h < 6) (hf : f < 8) (hn : n ≤ 40) : xSum G h f a n = mSum G h f a n := by
  unfold xSum mSum smT
  exact smF_c (fun j hj => (hC.1 h f (a + j) hh hf (by omega)).symm)
theorem smF_0 {f : Nat → Int32} {a : Nat} : ∀ {n : Nat}, (∀ j, j < n → f (a + j) = 0) → smF f a n = 0
  | 0, _ => nI_0
  | n + 1, h => by
    show smF f a n + f (a + n) = 0
    rw [smF_0 (fun j hj => h j (by omega)), h n (by omega)]
    rfl
theorem e_sum1 {G : zG} {h f a n : Nat} (hC : rC G) (hh : h < 6) (hf : f < 8) (hn : n ≤ 40) (hs : xSilent G h = true) : xSum G h f a n = 0 := by
  unfold xSum smT
  have h1 := of_decide_eq_true hs
  exact smF_0 (fun j hj => hC.2.2 h hh h1.2 f (a + j) hf (by omega))
theorem zspan_zv {x y : Int32} (h : zspan x y = true) : ∃ a b : Nat, a ≤ b ∧ b < 40 ∧ x = nI a ∧ y = nI b ∧ x.toNatClampNeg = a ∧ y.toNatClampNeg = b := by
  unfold zspan at h
  have h1 := of_decide_eq_true h
  have hx : ¬ x < 0 := fun q => by
    have := Int32.lt_iff_toInt_lt.mp q
    rw [z0_toInt] at this
    omega
  have hy : ¬ y < 0 := fun q => by
    have := Int32.lt_iff_toInt_lt.mp q
    rw [z0_toInt] at this
    omega
  obtain ⟨a, ha, rfl⟩ := nI_of hx
  obtain ⟨b, hb, rfl⟩ := nI_of hy
  rw [nI_toInt ha, nI_toInt hb] at h1
  exact ⟨a, b, by omega, by omega, rfl, rfl, nI_clamp ha, nI_clamp hb⟩
theorem e_sum {G : zG} {vc rc td : Nat} (h : zR G vc rc td) (a b c d : Int32) : xaSum G a b c d = maSum G a b c d := by
  unfold xaSum maSum
  by_cases ho : xoSum a b c d = true
  · rw [if_pos ho, if_pos ho]
    unfold xoSum at ho
    simp only [Bool.and_eq_true] at ho
    obtain ⟨a', ha, -, ea⟩ := zin_zv ho.1
    obtain ⟨b', hb, -, eb⟩ := zin_zv ho.2.1
    obtain ⟨c', d', hcd, hd, -, -, ec, ed⟩ := zspan_zv ho.2.2
    rw [ea, eb, ec, ed]
    exact e_sum0 h.2.2.2.2.2.1 ha hb (by omega)
  · rw [if_neg ho, if_neg ho]
theorem e_mo {G : zG} {f a b : Nat} {z : Int32} (hG : rG G) (hC : rC G) (hf : f < 8) (hb : b < 40) (e20 : zg G 20 0 12 = zg G 0 0 6) (w : Int32) : ∀ n, n ≤ 6 → xMo G f a b w n + nI (ctF (fun h => xSilent G h) n) * (zg G 0 0 6 * z) = w + mMo G f a b z n
  | 0, _ => by
    show w + nI 0 * (zg G 0 0 6 * z) = w + nI 0
    rw [nI_0]
    simp
  | n + 1, hn => by
    have ih := e_mo (z := z) (a := a) hG hC hf hb e20 w n (by omega)
    show xMo G f a b w n + xSum G n f a (b + 1) + _ = _
    cases hs : xSilent G n with
    | true =>
      rw [e_sum1 hC (by omega) hf (by omega) hs, ctF_t hs, mMo_t (by rw [← e_silent0 hG (by omega)]; exact hs), e20, ← nI_1, Int32.add_mul]
      rw [← Int32.add_assoc w, ← ih]
      simp [Int32.add_assoc]
    | false =>
      rw [ctF_f hs, mMo_f (by rw [← e_silent0 hG (by omega)]; exact hs), e_sum0 hC (by omega) hf (by omega), ← Int32.add_assoc w, ← ih]
      rw [Int32.add_assoc, Int32.add_assoc, Int32.add_comm (mSum G n f a (b + 1))]
theorem e_most {G : zG} {vc rc td : Nat} (h : zR G vc rc td) (a b c : Int32) : xaMost G a b c = maMost G a b c := by
  unfold xaMost maMost
  by_cases ho : xoMost a b c = true
  · rw [if_pos ho, if_pos ho]
    unfold xoMost at ho
    simp only [Bool.and_eq_true] at ho
    obtain ⟨a', ha, -, ea⟩ := zin_zv ho.1
    obtain ⟨b', c', hbc, hc, -, -, eb, ec⟩ := zspan_zv ho.2
    obtain ⟨-, -, -, hG, -, hC, -, -, -, hz, -⟩ := h
    rw [ea, eb, ec]
    have k1 := e_mo (z := c - b + nI 1) (a := b') hG hC ha hc hz (nI (ctF (fun h => xSilent G h) 6) * zg G 0 0 6 * (c - b + nI 1)) 6 (by omega)
    rw [← Int32.mul_assoc, Int32.add_comm (xMo G a' b' c' _ 6)] at k1
    exact (Int32.add_right_inj _).mp k1
  · rw [if_neg ho, if_neg ho]
theorem e_about {G : zG} {vc rc td : Nat} (h : zR G vc rc td) (a b : Int32) : xaAbout G a b = maAbout G a b := by
  unfold xaAbout maAbout
  by_cases ho : zin a 8 = true
  · rw [if_pos ho, if_pos ho]
    obtain ⟨a', ha, -, ea⟩ := zin_zv ho
    rw [ea, e_ish h ha, e_lat h.2.2.2.2.2.2.2.1 ha, ((h.2.2.2.2.2.2.2.2.1) a' ha).1, ((h.2.2.2.2.2.2.2.2.1) a' ha).2.1]
  · rw [if_neg ho, if_neg ho]

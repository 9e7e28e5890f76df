/-! what is left of a rule's marks -/
theorem nI_bv (a : Nat) : (nI a).toBitVec.toNat = a % 2 ^ 32 := BitVec.toNat_ofNat a 32
theorem and_lo {y : Nat} (hy : y < 256) (x : Int32) : ∃ z, z < 256 ∧ nI y &&& x = nI z := by
  refine ⟨y &&& x.toBitVec.toNat, Nat.lt_of_le_of_lt Nat.and_le_left hy, ?_⟩
  have h1 : (y &&& x.toBitVec.toNat) ≤ y := Nat.and_le_left
  apply Int32.toBitVec.inj
  rw [Int32.toBitVec_and]
  apply BitVec.eq_of_toNat_eq
  rw [BitVec.toNat_and, nI_bv, nI_bv, Nat.mod_eq_of_lt (by omega), Nat.mod_eq_of_lt (by omega)]
theorem f_255 : ∀ y, y < 256 → nI y &&& nI 255 = nI y := by decide +kernel
theorem e_lf {G : zG} {vc rc td v u y : Nat} {f : Int32} (h : zR G vc rc td) (hv : v < 5) (hu : u < 5) (hy : y < 256) : ∀ n, n ≤ rc → ∃ k, k < 256 ∧ xLf G f v u (nI y) n = nI k ∧ mLf G f v u (nI y) n = nI k
  | 0, _ => ⟨y, hy, rfl, rfl⟩
  | n + 1, hn => by
    obtain ⟨k, hk, k1, k2⟩ := e_lf h hv hu hy (f := f) n (by omega)
    obtain ⟨u34, u35, -, -, -⟩ := h.2.2.2.2.2.2.1 n (by omega)
    have hr := e_rh h (q := n) (by omega) hv hu
    have s1 : xLf G f v u (nI y) (n + 1) = if zg G 17 n 0 = f then (if xRh G n v u = true then xLf G f v u (nI y) n &&& (zg G 17 n 1 ^^^ (-1)) else xLf G f v u (nI y) n) else xLf G f v u (nI y) n := rfl
    have s2 : mLf G f v u (nI y) (n + 1) = if zg G 34 0 n = f then (if mRh G n v u = true then mLf G f v u (nI y) n &&& (zg G 35 0 n ^^^ (-1)) else mLf G f v u (nI y) n &&& nI 255) else mLf G f v u (nI y) n &&& nI 255 := rfl
    rw [s1, s2, u34, u35, k1, k2, hr, f_255 k hk]
    by_cases q1 : zg G 17 n 0 = f
    · rw [if_pos q1]
      by_cases q2 : mRh G n v u = true
      · rw [if_pos q2]
        obtain ⟨z, hz, e⟩ := and_lo hk (zg G 17 n 1 ^^^ (-1))
        exact ⟨z, hz, e, e⟩
      · rw [if_neg q2]
        exact ⟨k, hk, rfl, rfl⟩
    · rw [if_neg q1]
      exact ⟨k, hk, rfl, rfl⟩
theorem e_left {G : zG} {vc rc td : Nat} (h : zR G vc rc td) (a b c : Int32) : xaLeft G vc rc a b c = maLeft G vc rc a b c := by
  unfold xaLeft maLeft
  by_cases ho : xoHarm vc a b c = true
  · rw [if_pos ho, if_pos ho]
    unfold xoHarm at ho
    simp only [Bool.and_eq_true] at ho
    obtain ⟨a', ha, -, ea⟩ := zin_zv ho.1
    obtain ⟨b', hb, eb0, eb⟩ := zin_zv ho.2.1
    obtain ⟨c', hc, -, ec⟩ := zin_zv ho.2.2
    have v5 := h.1.2.2.1
    obtain ⟨v, hv, ev⟩ := h.1.2.2.2.2.2.2.2.2.2.2.1 a' ha
    have e22 := (h.2.2.2.1 a' ha).1
    obtain ⟨y, hy, y1, y2⟩ := e_used h ha hb
    have hd := e_dif (f := b') (v := v) (u := c') h.2.2.1 hb (by omega) (by omega)
    rw [ea, eb, ec, e22, ev, nI_clamp (by omega), y2, hd]
    have y3 : xUsed G a' b = nI y := by rw [eb0]; exact y1
    rw [y3]
    obtain ⟨z, hz, ez⟩ := and_lo hy (mDif G b' v c')
    rw [ez]
    obtain ⟨k, -, k1, k2⟩ := e_lf h (f := b) (v := v) (u := c') (by omega) (by omega) hz rc (Nat.le_refl _)
    rw [k1, k2]
  · rw [if_neg ho, if_neg ho]

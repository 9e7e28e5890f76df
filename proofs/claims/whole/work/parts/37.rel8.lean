/-! rules that hold and clash; a new version -/
theorem alF_c {c c' : Nat → Bool} : ∀ {n : Nat}, (∀ k, k < n → c k = c' k) → alF c n = alF c' n
  | 0, _ => rfl
  | n + 1, h => by
    show (alF c n && c n) = (alF c' n && c' n)
    rw [alF_c (n := n) (fun k hk => h k (by omega)), h n (by omega)]
theorem and1_01 (x : Int32) : x &&& nI 1 = 0 ∨ x &&& nI 1 = nI 1 := by
  have hn : (x.toBitVec &&& 1#32).toNat = x.toBitVec.toNat % 2 := by
    rw [BitVec.toNat_and]
    exact Nat.and_one_is_mod _
  have h : x.toBitVec &&& 1#32 = 0#32 ∨ x.toBitVec &&& 1#32 = 1#32 := by
    rcases Nat.mod_two_eq_zero_or_one x.toBitVec.toNat with q | q
    · left
      apply BitVec.eq_of_toNat_eq
      rw [hn, q]
      rfl
    · right
      apply BitVec.eq_of_toNat_eq
      rw [hn, q]
      rfl
  rcases h with h | h
  · left
    apply Int32.toBitVec.inj
    rw [Int32.toBitVec_and]
    exact h
  · right
    apply Int32.toBitVec.inj
    rw [Int32.toBitVec_and]
    exact h
theorem and1_iff (x : Int32) : x &&& nI 1 = 0 ↔ ¬ x &&& nI 1 = nI 1 := by
  rcases and1_01 x with h | h
  · rw [h]
    exact ⟨fun _ => fun q => z01 q.symm, fun _ => rfl⟩
  · rw [h]
    exact ⟨fun q => absurd q z01, fun q => absurd rfl q⟩
theorem e_rh {G : zG} {vc rc td q v u : Nat} (h : zR G vc rc td) (hq : q < rc) (hv : v < 5) (hu : u < 5) : xRh G q v u = mRh G q v u := by
  obtain ⟨hX, hM, hA, hG, hT, hC, hU, hP, hS, hz, ht⟩ := h
  obtain ⟨hvc, v1, v5, hrc, r12, hn0, hn1, htd, t39, htx, hgo, hru⟩ := hX
  obtain ⟨f, t, d, hf, ht2, hd, e0, e2, e3⟩ := hru q hq
  obtain ⟨u34, u35, u36, u37, -⟩ := hU q hq
  unfold xRh mRh
  rw [u34, u35, u36, u37, e0, e2, e3, nI_clamp (by omega), nI_clamp (by omega), nI_clamp (by omega)]
  unfold xHeld mHeld
  refine alF_c (fun a ha => ?_)
  have e1 := hA f (v * 8 + a) hf (by omega)
  have e2 := hA t (u * 8 + (a + d) % 8) ht2 (by omega)
  rw [show 40 * f + (v * 8 + a) = 40 * f + 8 * v + a by omega] at e1
  rw [show 40 * t + (u * 8 + (a + d) % 8) = 40 * t + 8 * u + (a + d) % 8 by omega] at e2
  exact decide_eq_decide.mpr (or_congr (and1_iff _) (eO_eq (by decide) e1 e2))
theorem e_holds {G : zG} {vc rc td : Nat} (h : zR G vc rc td) (a b c : Int32) : xaHolds G vc rc a b c = maHolds G vc rc a b c := by
  unfold xaHolds maHolds
  by_cases ho : xoHolds vc rc a b c = true
  · rw [if_pos ho, if_pos ho]
    unfold xoHolds at ho
    simp only [Bool.and_eq_true] at ho
    obtain ⟨a', ha, -, ea⟩ := zin_zv ho.1
    obtain ⟨b', hb, -, eb⟩ := zin_zv ho.2.1
    obtain ⟨c', hc, -, ec⟩ := zin_zv ho.2.2
    have v5 := h.1.2.2.1
    rw [ea, eb, ec, e_rh h ha (by omega) (by omega)]
  · rw [if_neg ho, if_neg ho]
theorem e_clash {G : zG} {vc rc td : Nat} (h : zR G vc rc td) (a b : Int32) : xaClash G rc a b = maClash G rc a b := by
  unfold xaClash maClash
  by_cases ho : xoClash rc a b = true
  · rw [if_pos ho, if_pos ho]
    unfold xoClash at ho
    simp only [Bool.and_eq_true] at ho
    obtain ⟨a', ha, -, ea⟩ := zin_zv ho.1
    obtain ⟨b', hb, -, eb⟩ := zin_zv ho.2
    have hU := h.2.2.2.2.2.2.1
    obtain ⟨p0, p1, p2, p3, -⟩ := hU a' ha
    obtain ⟨q0, q1, q2, q3, -⟩ := hU b' hb
    rw [ea, eb]
    unfold xCl mCl
    rw [p0, p1, p2, p3, q0, q1, q2, q3]
  · rw [if_neg ho, if_neg ho]

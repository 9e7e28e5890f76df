/-! the harm of a house -/
theorem anF_c {c c' : Nat → Bool} : ∀ {n : Nat}, (∀ k, k < n → c k = c' k) → anF c n = anF c' n
  | 0, _ => rfl
  | n + 1, h => by
    show (anF c n || c n) = (anF c' n || c' n)
    rw [anF_c (n := n) (fun k hk => h k (by omega)), h n (by omega)]
theorem e_harm {G : zG} {vc rc td : Nat} (h : zR G vc rc td) (hs : ∀ a', a' < 6 → xSilent G a' = mSilent G a') (a b c : Int32) : xaHarm G vc a b c = maHarm G vc a b c := by
  unfold xaHarm maHarm
  by_cases ho : xoHarm vc a b c = true
  · rw [if_pos ho, if_pos ho]
    unfold xoHarm at ho
    simp only [Bool.and_eq_true] at ho
    obtain ⟨a', ha, -, ea⟩ := zin_zv ho.1
    obtain ⟨b', hb, eb0, eb⟩ := zin_zv ho.2.1
    obtain ⟨c', hc, -, ec⟩ := zin_zv ho.2.2
    have v5 := h.1.2.2.1
    obtain ⟨v, hv, ev⟩ := h.1.2.2.2.2.2.2.2.2.2.2.1 a' ha
    have e22 := (h.2.2.2.1 a' ha).1
    obtain ⟨y, hy, y1, y2⟩ := e_used h ha hb
    have hd := e_dif (f := b') (v := v) (u := c') h.2.2.1 hb (by omega) (by omega)
    obtain ⟨n, hn, e10, ex, em⟩ := e_sz h ha
    have y3 : xUsed G a' b = mUsed G a' b' := by rw [eb0, y1, y2]
    have y4 : mUsed G a' b' = orF (fun s => mSs G a' s b') n := by
      unfold mUsed
      rw [em]
    have y5 : xOnly G a' b (mDif G b' v c') = anF (fun s => decide (¬ mSs G a' s b' = 0 ∧ mSs G a' s b' &&& (mDif G b' v c' ^^^ (-1)) = 0)) n := by
      have e0 : xOnly G a' b (mDif G b' v c') = anF (fun s => decide (¬ xSees G a' s b = 0 ∧ xSees G a' s b &&& (mDif G b' v c' ^^^ (-1)) = 0)) (xSz G a') := rfl
      rw [e0, ex]
      refine anF_c (fun s hs2 => ?_)
      obtain ⟨z, hz, z1, z2⟩ := e_ss h ha (s := s) (by omega) hb
      rw [eb0, z1, z2]
    have y6 := (e_hw (fun s => mSs G a' s b') (mDif G b' v c') n).2
    rw [ea, eb, ec, e22, ev, nI_clamp (by omega), hd, hs a' ha, y3, y4, y5, em, y6]
  · rw [if_neg ho, if_neg ho]
theorem e_trace {G : zG} {vc rc td : Nat} (h : zR G vc rc td) : zt G 0 = zt G 1 := h.2.2.2.2.2.2.2.2.2.2.symm

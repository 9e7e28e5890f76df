/-! the steps of a look, and the look itself -/
theorem nI64 {k : Nat} (hk : k < 2 ^ 31) : (nI k).toInt64 = Int64.ofInt (k : Int) := by
  rw [← Int64.ofInt_int32ToInt, nI_toInt hk]
theorem nI64_add {a b : Nat} (h : a + b < 2 ^ 31) : (nI a).toInt64 + (nI b).toInt64 = (nI (a + b)).toInt64 := by
  rw [nI64 (by omega), nI64 (by omega), nI64 h, ← Int64.ofInt_add]
  exact congrArg Int64.ofInt (by omega)
theorem l0 : (0 : Int64) = (nI 0).toInt64 := by decide +kernel
theorem l1 : (1 : Int64) = (nI 1).toInt64 := by decide +kernel
theorem l10 : (10 : Int64) = (nI 10).toInt64 := by decide +kernel
theorem l100 : (100 : Int64) = (nI 100).toInt64 := by decide +kernel
theorem e_steps {G : zG} {h sz : Nat} (h12 : sz ≤ 12) (hH : ∀ s, s < sz → rSt G h s) : ∀ n s, s < sz → s < n → n ≤ 12 → ∀ t, t < 256 → ∃ k, k + 100 ≤ 200 * 2 ^ n ∧ xSteps G h n s (nI t) = nI k ∧ mSt G h n s (nI t) = (nI k).toInt64
  | 0, _, _, hn, _ => absurd hn (Nat.not_lt_zero _)
  | n + 1, s, hs, hn, h13 => fun t ht => by
    have ih := e_steps h12 hH n
    have hp : 2 ^ (n + 1) = 2 * 2 ^ n := by rw [Nat.pow_succ]; omega
    have hp1 : 1 ≤ 2 ^ n := Nat.one_le_two_pow
    have hp2 : 2 ^ n ≤ 2 ^ 12 := Nat.pow_le_pow_right (by decide) (by omega)
    have hp3 : (2 : Nat) ^ 12 = 4096 := by decide
    rw [hp3] at hp2
    obtain ⟨-, -, e24, hk⟩ := hH s hs
    by_cases t0 : t = 0
    · refine ⟨0, by omega, ?_, ?_⟩
      · rw [t0]
        exact xSteps_a0 G h n s nI_0
      · rw [t0, ← l0, nI_0]
        exact mSt_z G h (n + 1) s
    · have hb : ¬ nI t = 0 := fun w => t0 (nI_inj (by omega) (by decide) (w.trans nI_0.symm))
      rcases hk with ⟨q, f0, hf0, q1, q2⟩ | ⟨q, f0, d, hf0, hd, q1, q2, q3, q4, q5⟩ | ⟨q, f0, g0, d, hf0, hg0, d1, d8, q1, q2, q3, q4, q5, q6, q7⟩
      · refine ⟨1, by omega, xSteps_k0 hb q, ?_⟩
        rw [← l1]
        exact mSt_k0 hb (e24.trans q)
      · obtain ⟨b1, -⟩ := f_turnb t ht d hd
        obtain ⟨k, hk1, hk2, hk3⟩ := ih f0 (by omega) (by omega) (by omega) _ b1
        refine ⟨10 + k, by omega, ?_, ?_⟩
        · rw [xSteps_k1 hb q q1 (by omega), q3, f_turn t ht d hd, hk2, nI_add]
        · rw [mSt_k1 hb (e24.trans q) q2 (by omega), q4, f_turn t ht d hd, hk3, l10, nI64_add (by omega)]
      · obtain ⟨b1, b2, -⟩ := f_lowb t ht d d8
        obtain ⟨c1, c2⟩ := f_low t ht d d8
        obtain ⟨k, hk1, hk2, hk3⟩ := ih f0 (by omega) (by omega) (by omega) _ b1
        obtain ⟨m, hm1, hm2, hm3⟩ := ih g0 (by omega) (by omega) (by omega) _ b2
        refine ⟨100 + k + m, by omega, ?_, ?_⟩
        · rw [xSteps_k2 hb q q1 (by omega) q3 (by omega), q5, c1, c2, hk2, hm2, nI_add, nI_add]
        · rw [mSt_k2 hb (e24.trans q) q2 (by omega) q4 (by omega), q6, c1, c2, hk3, hm3, l100, nI64_add (by omega), nI64_add (by omega), Nat.add_assoc]
theorem mSv_zuT {G : zG} {i h : Nat} {v : Int64} : ∀ {n s f : Nat} {b : Int32}, mSv (zuT G i v) h n s b f = mSv G h n s b f
  | 0, _, _, _ => rfl
  | n + 1, s, f, b => by
    have e : ∀ k j l, zg (zuT G i v) k j l = zg G k j l := fun _ _ _ => rfl
    simp only [mSv, e, mSv_zuT (n := n)]
theorem mSt_zuT {G : zG} {i h : Nat} {v : Int64} : ∀ {n s : Nat} {b : Int32}, mSt (zuT G i v) h n s b = mSt G h n s b
  | 0, _, _ => rfl
  | n + 1, s, b => by
    have e : ∀ k j l, zg (zuT G i v) k j l = zg G k j l := fun _ _ _ => rfl
    simp only [mSt, e, mSt_zuT (n := n)]
theorem e_sees {G : zG} {vc rc td : Nat} (h : zR G vc rc td) (a b c : Int32) : xaSees G a b c = maSees (xsSees G a b c) a b c ∧ zR (msSees (xsSees G a b c) a b c) vc rc td := by
  by_cases hq : zin a 6 = true
  · obtain ⟨a', ha, -, ea⟩ := zin_zv hq
    obtain ⟨n, hn, e10, ex, em⟩ := e_sz h ha
    have oo : ∀ K, mSz K a' = n → moSees K a b c = xoSees G a b c := by
      intro K hk
      unfold moSees xoSees
      rw [ea, hk, ex]
    by_cases ho : xoSees G a b c = true
    · have ho2 := ho
      unfold xoSees at ho2
      rw [ea, ex] at ho2
      simp only [Bool.and_eq_true] at ho2
      obtain ⟨b', hb, eb0, eb⟩ := zin_zv ho2.2.1
      obtain ⟨c', hc, ec0, ec⟩ := zin_zv ho2.2.2
      have hT := h.2.2.2.2.1
      obtain ⟨y, hy, y1, y2⟩ := e_ss h ha (by omega) hc (s := b')
      obtain ⟨e28, ⟨t, ht2, et⟩, -⟩ := hT a' ha b' (by omega)
      obtain ⟨k, hk1, hk2, hk3⟩ := e_steps (h := a') (by omega) (hT a' ha) 12 b' (by omega) (by omega) (by omega) t ht2
      have x1 : xsSees G a b c = zuT G 0 (zt G 0 + (nI k).toInt64) := by
        unfold xsSees
        rw [if_pos ho, ea, eb, et, hk2]
      have x2 : xaSees G a b c = nI y := by
        unfold xaSees
        rw [if_pos ho, ea, eb, ec0, y1]
      rw [x1, x2]
      have h2 : moSees (zuT G 0 (zt G 0 + (nI k).toInt64)) a b c = true := (oo _ em).trans ho
      have x3 : maSees (zuT G 0 (zt G 0 + (nI k).toInt64)) a b c = mSs (zuT G 0 (zt G 0 + (nI k).toInt64)) a' b' c' := by
        unfold maSees
        rw [if_pos h2, ea, eb, ec]
      have x4 : msSees (zuT G 0 (zt G 0 + (nI k).toInt64)) a b c = zuT (zuT G 0 (zt G 0 + (nI k).toInt64)) 1 (zt (zuT G 0 (zt G 0 + (nI k).toInt64)) 1 + mSt (zuT G 0 (zt G 0 + (nI k).toInt64)) a' 12 b' (zg (zuT G 0 (zt G 0 + (nI k).toInt64)) 28 0 (12 * a' + b'))) := by
        unfold msSees
        rw [if_pos h2, ea, eb]
      rw [x3, x4]
      have y3 : mSs (zuT G 0 (zt G 0 + (nI k).toInt64)) a' b' c' = mSs G a' b' c' := by
        unfold mSs
        exact mSv_zuT
      have y4 : mSt (zuT G 0 (zt G 0 + (nI k).toInt64)) a' 12 b' (zg (zuT G 0 (zt G 0 + (nI k).toInt64)) 28 0 (12 * a' + b')) = (nI k).toInt64 := by
        rw [mSt_zuT]
        have e28' : zg (zuT G 0 (zt G 0 + (nI k).toInt64)) 28 0 (12 * a' + b') = nI t := e28.trans et
        rw [e28']
        exact hk3
      rw [y3, y4]
      obtain ⟨hX, hM, hA, hG, hT, hC, hU, hP, hS, hz, ht⟩ := h
      refine ⟨y2.symm, hX, hM, hA, hG, hT, hC, hU, hP, hS, hz, ?_⟩
      show zt G 1 + (nI k).toInt64 = zt G 0 + (nI k).toInt64
      rw [ht]
    · have ho3 : ¬ moSees G a b c = true := by rw [oo G em]; exact ho
      have e1 : xsSees G a b c = G := if_neg ho
      have e3 : msSees G a b c = G := if_neg ho3
      rw [e1, e3]
      exact ⟨(if_neg ho).trans (if_neg ho3).symm, h⟩
  · have ho : ¬ xoSees G a b c = true := fun q => by
      unfold xoSees at q
      simp only [Bool.and_eq_true] at q
      exact hq q.1
    have ho3 : ¬ moSees G a b c = true := fun q => by
      unfold moSees at q
      simp only [Bool.and_eq_true] at q
      exact hq q.1
    have e1 : xsSees G a b c = G := if_neg ho
    have e3 : msSees G a b c = G := if_neg ho3
    rw [e1, e3]
    exact ⟨(if_neg ho).trans (if_neg ho3).symm, h⟩

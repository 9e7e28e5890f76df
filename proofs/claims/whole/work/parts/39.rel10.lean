/-! what a text sees: bits and words -/
def turnN (t d : Nat) : Nat := ((t <<< d) ||| (t >>> (8 - d))) &&& 255
theorem f_turn : ∀ t, t < 256 → ∀ d, d < 8 → xTurn (nI t) (nI d) = nI (turnN t d) := by decide +kernel
theorem f_turnb : ∀ t, t < 256 → ∀ d, d < 8 → turnN t d < 256 ∧ ∀ v, v < 8 → (turnN t d).testBit ((v + d) % 8) = t.testBit v := by decide +kernel
theorem f_low : ∀ t, t < 256 → ∀ d, d < 8 → nI t &&& ((nI 1 <<< (nI d &&& 31)) - nI 1) = nI (t &&& (2 ^ d - 1)) ∧ nI t &&& (((nI 1 <<< (nI d &&& 31)) - nI 1) ^^^ (-1)) = nI (t &&& (256 - 2 ^ d)) := by decide +kernel
theorem f_lowb : ∀ t, t < 256 → ∀ d, d < 8 → (t &&& (2 ^ d - 1)) < 256 ∧ (t &&& (256 - 2 ^ d)) < 256 ∧ ∀ v, v < 8 → (t &&& (2 ^ d - 1)).testBit v = (t.testBit v && decide (v < d)) ∧ (t &&& (256 - 2 ^ d)).testBit v = (t.testBit v && decide (¬ v < d)) := by decide +kernel
theorem f_bit : ∀ t, t < 256 → ∀ n, n < 8 → decide ((nI t >>> (nI n &&& 31)) &&& nI 1 = 0) = !(t.testBit n) := by decide +kernel
theorem f_div : ∀ p, p < 64 → nI p / nI 8 = nI (p / 8) ∧ nI 1 <<< ((nI p - nI p / nI 8 * nI 8) &&& 31) = nI (2 ^ (p % 8)) := by decide +kernel
theorem nI_or (a b : Nat) : nI a ||| nI b = nI (a ||| b) := by
  apply Int32.toBitVec.inj
  rw [Int32.toBitVec_or]
  apply BitVec.eq_of_toNat_eq
  rw [BitVec.toNat_or]
  have e : ∀ a, (nI a).toBitVec.toNat = a % 2 ^ 32 := fun a => BitVec.toNat_ofNat a 32
  rw [e, e, e]
  exact (Nat.or_mod_two_pow).symm
/-- the fold in natural numbers -/
def sbN (p : Nat → Nat) (t f : Nat) : Nat → Nat
  | 0 => 0
  | n + 1 => if t.testBit n = true ∧ p n / 8 = f then sbN p t f n ||| 2 ^ (p n % 8) else sbN p t f n
theorem sbN_s (p : Nat → Nat) (t f n : Nat) : sbN p t f (n + 1) = if t.testBit n = true ∧ p n / 8 = f then sbN p t f n ||| 2 ^ (p n % 8) else sbN p t f n := rfl
theorem sbN_lt {p : Nat → Nat} {t f : Nat} : ∀ n, sbN p t f n < 256
  | 0 => show (0 : Nat) < 256 from by decide
  | n + 1 => by
    rw [sbN_s]
    by_cases h : t.testBit n = true ∧ p n / 8 = f
    · rw [if_pos h]
      exact Nat.or_lt_two_pow (n := 8) (sbN_lt n) (Nat.pow_lt_pow_right (by decide) (Nat.mod_lt _ (by decide)))
    · rw [if_neg h]
      exact sbN_lt n
theorem sbN_bit {p : Nat → Nat} {t f a : Nat} : ∀ {n : Nat}, (sbN p t f n).testBit a = true ↔ ∃ v, v < n ∧ t.testBit v = true ∧ p v / 8 = f ∧ p v % 8 = a
  | 0 => by
    constructor
    · intro h
      have h2 : (0 : Nat).testBit a = true := h
      rw [Nat.zero_testBit] at h2
      exact absurd h2 (by decide)
    · intro h
      obtain ⟨v, hv, -⟩ := h
      exact absurd hv (Nat.not_lt_zero v)
  | n + 1 => by
    have ih := sbN_bit (p := p) (t := t) (f := f) (a := a) (n := n)
    rw [sbN_s]
    by_cases h : t.testBit n = true ∧ p n / 8 = f
    · rw [if_pos h, Nat.testBit_or, Bool.or_eq_true, ih, Nat.testBit_two_pow]
      constructor
      · intro q
        rcases q with ⟨v, hv, q⟩ | q
        · exact ⟨v, by omega, q⟩
        · exact ⟨n, by omega, h.1, h.2, of_decide_eq_true q⟩
      · intro q
        obtain ⟨v, hv, q1, q2, q3⟩ := q
        by_cases e : v = n
        · subst e
          exact Or.inr (decide_eq_true q3)
        · exact Or.inl ⟨v, by omega, q1, q2, q3⟩
    · rw [if_neg h, ih]
      constructor
      · intro q
        obtain ⟨v, hv, q⟩ := q
        exact ⟨v, by omega, q⟩
      · intro q
        obtain ⟨v, hv, q1, q2, q3⟩ := q
        by_cases e : v = n
        · subst e
          exact absurd ⟨q1, q2⟩ h
        · exact ⟨v, by omega, q1, q2, q3⟩
theorem sbN_eq {p : Nat → Nat} {t f y : Nat} (h : ∀ a, y.testBit a = true ↔ ∃ v, v < 8 ∧ t.testBit v = true ∧ p v / 8 = f ∧ p v % 8 = a) : y = sbN p t f 8 := by
  apply Nat.eq_of_testBit_eq
  intro a
  exact Bool.eq_iff_iff.mpr ((h a).trans sbN_bit.symm)
theorem sbX_N {e : Nat → Int32} {p : Nat → Nat} {t f b : Nat} (ht : t < 256) (hf : f < 8) (he : ∀ v, v < 8 → p v < 64 ∧ e (b + v) = nI (p v)) : ∀ n, n ≤ 8 → sbX e (nI t) (nI f) b n = nI (sbN p t f n)
  | 0, _ => rfl
  | n + 1, hn => by
    have ih := sbX_N ht hf he n (by omega)
    have h1 := f_bit t ht n (by omega)
    obtain ⟨hp, ep⟩ := he n (by omega)
    have h2 := f_div (p n) hp
    rw [sbX_s, ep, ih, h2.1]
    rw [sbN_s]
    by_cases hb : t.testBit n = true
    · rw [hb] at h1
      rw [if_neg (of_decide_eq_false h1)]
      by_cases hd : p n / 8 = f
      · rw [hd, if_pos rfl, if_pos ⟨hb, rfl⟩, ← nI_or]
        have h3 := h2.2
        rw [h2.1, hd] at h3
        rw [h3]
      · have hd2 : ¬ nI (p n / 8) = nI f := fun q => hd (nI_inj (by omega) (by omega) q)
        rw [if_neg hd2, if_neg (fun w => hd w.2)]
    · have hb2 : t.testBit n = false := Bool.not_eq_true _ ▸ hb
      rw [hb2] at h1
      rw [if_pos (of_decide_eq_true h1), if_neg (fun w => hb w.1)]
theorem bit_lt8 {t a : Nat} (ht : t < 256) (h : t.testBit a = true) : a < 8 := by
  by_cases q : a < 8
  · exact q
  · have : t < 2 ^ a := Nat.lt_of_lt_of_le (show t < 2 ^ 8 from ht) (Nat.pow_le_pow_right (by decide) (by omega))
    rw [Nat.testBit_lt_two_pow this] at h
    exact absurd h (by decide)
theorem sbN_0 {p : Nat → Nat} {f : Nat} : sbN p 0 f 8 = 0 := by
  symm
  refine sbN_eq (fun a => ?_)
  constructor
  · intro h
    rw [Nat.zero_testBit] at h
    exact absurd h (by decide)
  · intro h
    obtain ⟨v, -, h, -⟩ := h
    rw [Nat.zero_testBit] at h
    exact absurd h (by decide)
theorem e_core {G : zG} {h sz : Nat} (h12 : sz ≤ 12) (hH : ∀ s, s < sz → rSt G h s) : ∀ n s, s < sz → s < n → ∃ p : Nat → Nat, (∀ v, v < 8 → p v < 64 ∧ zg G 16 h (s * 8 + v) = nI (p v)) ∧ ∀ t f, t < 256 → f < 8 → mSv G h n s (nI t) f = nI (sbN p t f 8)
  | 0, _, _, hn => absurd hn (Nat.not_lt_zero _)
  | n + 1, s, hs, hn => by
    have ih := e_core h12 hH n
    obtain ⟨-, -, e24, hk⟩ := hH s hs
    rcases hk with ⟨q, f0, hf0, q1, q2⟩ | ⟨q, f0, d, hf0, hd, q1, q2, q3, q4, q5⟩ | ⟨q, f0, g0, d, hf0, hg0, d1, d8, q1, q2, q3, q4, q5, q6, q7⟩
    · refine ⟨fun v => f0 * 8 + v, fun v hv => ⟨(by omega : f0 * 8 + v < 64), q2 v hv⟩, fun t f ht hf => ?_⟩
      by_cases t0 : t = 0
      · rw [t0, sbN_0, nI_0]
        exact mSv_z G h (n + 1) s f
      · have hb : ¬ nI t = 0 := fun w => t0 (nI_inj (by omega) (by decide) (w.trans nI_0.symm))
        rw [mSv_k0 hb (e24.trans q) q1 (by omega)]
        by_cases e : f0 = f
        · rw [if_pos e]
          refine congrArg nI (sbN_eq (fun a => ⟨fun w => ?_, fun w => ?_⟩))
          · have := bit_lt8 ht w
            exact ⟨a, this, w, by omega, by omega⟩
          · obtain ⟨v, hv, w1, w2, w3⟩ := w
            rw [show a = v by omega]
            exact w1
        · rw [if_neg e, ← nI_0]
          refine congrArg nI (sbN_eq (fun a => ⟨fun w => ?_, fun w => ?_⟩))
          · rw [Nat.zero_testBit] at w
            exact absurd w (by decide)
          · obtain ⟨v, hv, w1, w2, w3⟩ := w
            omega
    · obtain ⟨p0, p1, p2⟩ := ih f0 (by omega) (by omega)
      refine ⟨fun v => p0 ((v + d) % 8), fun v hv => ⟨(p1 _ (by omega)).1, (q5 v hv).trans (p1 _ (by omega)).2⟩, fun t f ht hf => ?_⟩
      by_cases t0 : t = 0
      · rw [t0, sbN_0, nI_0]
        exact mSv_z G h (n + 1) s f
      · have hb : ¬ nI t = 0 := fun w => t0 (nI_inj (by omega) (by decide) (w.trans nI_0.symm))
        obtain ⟨b1, b2⟩ := f_turnb t ht d hd
        rw [mSv_k1 hb (e24.trans q) q2 (by omega), q4, f_turn t ht d hd, p2 _ f b1 hf]
        refine congrArg nI (sbN_eq (fun a => sbN_bit.trans ⟨fun w => ?_, fun w => ?_⟩))
        · obtain ⟨v, hv, w1, w2, w3⟩ := w
          have e : ((v + (8 - d)) % 8 + d) % 8 = v := by omega
          have b3 := b2 ((v + (8 - d)) % 8) (by omega)
          rw [e] at b3
          refine ⟨(v + (8 - d)) % 8, by omega, b3.symm.trans w1, ?_, ?_⟩
          · show p0 (((v + (8 - d)) % 8 + d) % 8) / 8 = f
            rw [e]
            exact w2
          · show p0 (((v + (8 - d)) % 8 + d) % 8) % 8 = a
            rw [e]
            exact w3
        · obtain ⟨v, hv, w1, w2, w3⟩ := w
          exact ⟨(v + d) % 8, by omega, (b2 v hv).trans w1, w2, w3⟩
    · obtain ⟨p0, p1, p2⟩ := ih f0 (by omega) (by omega)
      obtain ⟨r0, r1, r2⟩ := ih g0 (by omega) (by omega)
      refine ⟨fun v => if v < d then p0 v else r0 v, fun v hv => ?_, fun t f ht hf => ?_⟩
      · have := q7 v hv
        by_cases e : v < d
        · rw [if_pos e] at this
          simp only [e, if_true]
          exact ⟨(p1 v hv).1, this.trans (p1 v hv).2⟩
        · rw [if_neg e] at this
          simp only [e, if_false]
          exact ⟨(r1 v hv).1, this.trans (r1 v hv).2⟩
      · by_cases t0 : t = 0
        · rw [t0, sbN_0, nI_0]
          exact mSv_z G h (n + 1) s f
        · have hb : ¬ nI t = 0 := fun w => t0 (nI_inj (by omega) (by decide) (w.trans nI_0.symm))
          obtain ⟨b1, b2, b3⟩ := f_lowb t ht d d8
          obtain ⟨c1, c2⟩ := f_low t ht d d8
          rw [mSv_k2 hb (e24.trans q) q2 (by omega) q4 (by omega), q6, c1, c2, p2 _ f b1 hf, r2 _ f b2 hf, nI_or]
          refine congrArg nI (sbN_eq (fun a => ?_))
          rw [Nat.testBit_or, Bool.or_eq_true, sbN_bit, sbN_bit]
          constructor
          · intro w
            rcases w with ⟨v, hv, w1, w2, w3⟩ | ⟨v, hv, w1, w2, w3⟩
            · rw [(b3 v hv).1, Bool.and_eq_true] at w1
              have e := of_decide_eq_true w1.2
              exact ⟨v, hv, w1.1, by simp only [e, if_true]; exact w2, by simp only [e, if_true]; exact w3⟩
            · rw [(b3 v hv).2, Bool.and_eq_true] at w1
              have e := of_decide_eq_true w1.2
              exact ⟨v, hv, w1.1, by simp only [e, if_false]; exact w2, by simp only [e, if_false]; exact w3⟩
          · intro w
            obtain ⟨v, hv, w1, w2, w3⟩ := w
            by_cases e : v < d
            · simp only [e, if_true] at w2 w3
              exact Or.inl ⟨v, hv, by rw [(b3 v hv).1, w1, decide_eq_true e]; rfl, w2, w3⟩
            · simp only [e, if_false] at w2 w3
              exact Or.inr ⟨v, hv, by rw [(b3 v hv).2, w1, decide_eq_true e]; rfl, w2, w3⟩

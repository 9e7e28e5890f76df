/-! the plan: the class takes each face by itself, the reference looks at all masks -/
def kN (c : Nat → Bool) : Nat → Nat
  | 0 => 0
  | n + 1 => if c n = true then kN c n ||| 2 ^ n else kN c n
theorem kN_s (c : Nat → Bool) (n : Nat) : kN c (n + 1) = if c n = true then kN c n ||| 2 ^ n else kN c n := rfl
theorem kN_lt {c : Nat → Bool} : ∀ n, n ≤ 8 → kN c n < 256
  | 0, _ => show (0 : Nat) < 256 from by decide
  | n + 1, hn => by
    rw [kN_s]
    by_cases h : c n = true
    · rw [if_pos h]
      exact Nat.or_lt_two_pow (n := 8) (kN_lt n (by omega)) (Nat.pow_lt_pow_right (by decide) (by omega))
    · rw [if_neg h]
      exact kN_lt n (by omega)
theorem kN_bit {c : Nat → Bool} {i : Nat} : ∀ n, (kN c n).testBit i = true ↔ i < n ∧ c i = true
  | 0 => by
    constructor
    · intro h
      have h2 : (0 : Nat).testBit i = true := h
      rw [Nat.zero_testBit] at h2
      exact absurd h2 (by decide)
    · intro h
      exact absurd h.1 (Nat.not_lt_zero i)
  | n + 1 => by
    have ih := kN_bit (c := c) (i := i) n
    rw [kN_s]
    by_cases h : c n = true
    · rw [if_pos h, Nat.testBit_or, Bool.or_eq_true, ih, Nat.testBit_two_pow]
      constructor
      · intro q
        rcases q with q | q
        · exact ⟨by omega, q.2⟩
        · have e := of_decide_eq_true q
          subst e
          exact ⟨by omega, h⟩
      · intro q
        by_cases e : n = i
        · exact Or.inr (decide_eq_true e)
        · exact Or.inl ⟨by omega, q.2⟩
    · rw [if_neg h, ih]
      constructor
      · intro q
        exact ⟨by omega, q.2⟩
      · intro q
        by_cases e : i = n
        · subst e
          exact absurd q.2 h
        · exact ⟨by omega, q.2⟩
theorem f_shl : ∀ n, n < 8 → nI 1 <<< (nI n &&& 31) = nI (2 ^ n) := by decide +kernel
theorem f_bit1 : ∀ t, t < 256 → ∀ n, n < 8 → decide ((nI t >>> (nI n &&& 31)) &&& nI 1 = nI 1) = t.testBit n := by decide +kernel
theorem bo_kN {c : Nat → Bool} : ∀ n, n ≤ 8 → bo c n = nI (kN c n)
  | 0, _ => rfl
  | n + 1, hn => by
    have ih := bo_kN (c := c) n (by omega)
    cases hc : c n with
    | true => rw [bo_t hc, ih, f_shl n (by omega), nI_or, kN_s, if_pos hc]
    | false => rw [bo_f hc, ih, kN_s, if_neg (by rw [hc]; decide)]
theorem mMust_kN {G : zG} {td : Nat} : ∀ n, n ≤ 8 → mMust G td n = nI (kN (fun i => decide (¬ mLat G i ≤ nI td)) n)
  | 0, _ => rfl
  | n + 1, hn => by
    have ih := mMust_kN (G := G) (td := td) n (by omega)
    rw [kN_s]
    by_cases hc : mLat G n ≤ nI td
    · rw [mMust_t hc, ih, nI_or, Nat.or_zero, if_neg (fun w => (of_decide_eq_true w : ¬ mLat G n ≤ nI td) hc)]
    · rw [mMust_f hc, ih, f_shl n (by omega), nI_or, if_pos (decide_eq_true hc)]
def cN (g l : Nat → Nat) (k : Nat) : Nat → Nat
  | 0 => 0
  | n + 1 => cN g l k n + (if k.testBit n = true then g n else l n)
theorem cN_s (g l : Nat → Nat) (k n : Nat) : cN g l k (n + 1) = cN g l k n + (if k.testBit n = true then g n else l n) := rfl
theorem cN_le {g l : Nat → Nat} {k : Nat} (hg : ∀ i, i < 8 → g i ≤ 1000) (hl : ∀ i, i < 8 → l i ≤ 6000) : ∀ n, n ≤ 8 → cN g l k n ≤ 6000 * n
  | 0, _ => Nat.le_refl _
  | n + 1, hn => by
    have ih := cN_le (k := k) hg hl n (by omega)
    have h1 := hg n (by omega)
    have h2 := hl n (by omega)
    rw [cN_s]
    by_cases q : k.testBit n = true
    · rw [if_pos q]
      omega
    · rw [if_neg q]
      omega
theorem mCoL_N {a b : Nat → Int32} {g l : Nat → Nat} {k : Nat} (ha : ∀ i, i < 8 → a i = nI (g i)) (hb : ∀ i, i < 8 → b i = nI (l i)) (hk : k < 256) : ∀ n, n ≤ 8 → mCoL a b (nI k) n = nI (cN g l k n)
  | 0, _ => rfl
  | n + 1, hn => by
    have ih := mCoL_N ha hb hk n (by omega)
    have s : mCoL a b (nI k) (n + 1) = mCoL a b (nI k) n + (if (nI k >>> (nI n &&& 31)) &&& nI 1 = nI 1 then a n else b n) := rfl
    have hbit := f_bit1 k hk n (by omega)
    rw [s, ih, cN_s]
    by_cases q : k.testBit n = true
    · rw [q] at hbit
      rw [if_pos (of_decide_eq_true hbit), if_pos q, ha n (by omega), nI_add]
    · have q2 : k.testBit n = false := Bool.not_eq_true _ ▸ q
      rw [q2] at hbit
      rw [if_neg (of_decide_eq_false hbit), if_neg q, hb n (by omega), nI_add]
theorem cN_opt {g l : Nat → Nat} {K m k : Nat} (hK : ∀ i, i < 8 → (K.testBit i = true ↔ m.testBit i = true ∨ g i < l i)) (hk : ∀ i, m.testBit i = true → k.testBit i = true) : ∀ n, n ≤ 8 → cN g l K n ≤ cN g l k n ∧ (cN g l K n = cN g l k n → ∀ i, i < n → K.testBit i = true → k.testBit i = true)
  | 0, _ => ⟨Nat.le_refl _, fun _ i hi => absurd hi (Nat.not_lt_zero i)⟩
  | n + 1, hn => by
    obtain ⟨i1, i2⟩ := cN_opt hK hk n (by omega)
    have hb := hK n (by omega)
    rw [cN_s, cN_s]
    by_cases kb : K.testBit n = true
    · rw [if_pos kb]
      by_cases kk : k.testBit n = true
      · rw [if_pos kk]
        refine ⟨by omega, fun e i hi w => ?_⟩
        by_cases q : i = n
        · rw [q]
          exact kk
        · exact i2 (by omega) i (by omega) w
      · rw [if_neg kk]
        have hlt : g n < l n := by
          rcases hb.mp kb with w | w
          · exact absurd (hk n w) kk
          · exact w
        exact ⟨by omega, fun e => absurd e (by omega)⟩
    · rw [if_neg kb]
      have hge : l n ≤ g n := by
        by_cases w : g n < l n
        · exact absurd (hb.mpr (Or.inr w)) kb
        · omega
      by_cases kk : k.testBit n = true
      · rw [if_pos kk]
        refine ⟨by omega, fun e i hi w => ?_⟩
        by_cases q : i = n
        · rw [q]
          exact kk
        · exact i2 (by omega) i (by omega) w
      · rw [if_neg kk]
        refine ⟨by omega, fun e i hi w => ?_⟩
        by_cases q : i = n
        · rw [q] at w
          exact absurd w kb
        · exact i2 (by omega) i (by omega) w
theorem sub_le {K k : Nat} (h256 : K < 256) (h : ∀ i, i < 8 → K.testBit i = true → k.testBit i = true) : K ≤ k := by
  have e : K &&& k = K := by
    apply Nat.eq_of_testBit_eq
    intro i
    rw [Nat.testBit_and]
    cases hb : K.testBit i with
    | true => rw [h i (bit_lt8 h256 hb) hb]; rfl
    | false => exact Bool.false_and _
  have h2 : K &&& k ≤ k := Nat.and_le_right
  omega
theorem nI_and {a b : Nat} (ha : a < 256) (hb : b < 256) : nI a &&& nI b = nI (a &&& b) := by
  have h1 : (a &&& b) ≤ a := Nat.and_le_left
  apply Int32.toBitVec.inj
  rw [Int32.toBitVec_and]
  apply BitVec.eq_of_toNat_eq
  rw [BitVec.toNat_and, nI_bv, nI_bv, nI_bv, Nat.mod_eq_of_lt (by omega), Nat.mod_eq_of_lt (by omega), Nat.mod_eq_of_lt (by omega)]
theorem mBst_K {G : zG} {c : Nat → Nat} {K m : Nat} (hc : ∀ k, k < 256 → mCst G (nI k) = nI (c k)) (bd : ∀ k, k < 256 → c k < 2 ^ 31) (hm : m < 256) (h256 : K < 256) (hKm : K &&& m = m) (hop : ∀ k, k < 256 → k &&& m = m → c K ≤ c k ∧ (c K = c k → K ≤ k)) : ∀ n, n ≤ 256 → (K < n → mBst G (nI m) n = nI K) ∧ (n ≤ K → mBst G (nI m) n = -1 ∨ ∃ k, k < n ∧ k &&& m = m ∧ mBst G (nI m) n = nI k)
  | 0, _ => ⟨fun h => absurd h (Nat.not_lt_zero K), fun _ => Or.inl rfl⟩
  | n + 1, hn => by
    obtain ⟨i1, i2⟩ := mBst_K hc bd hm h256 hKm hop n (by omega)
    have hn0 : ∀ j, j < 256 → ¬ nI j < 0 := fun j hj => by
      rw [← nI_0, nI_ltI (by omega) (by decide)]
      omega
    have m1 : (-1 : Int32) < 0 := by decide
    have hle : ∀ j k, j < 256 → k < 256 → (mCst G (nI j) ≤ mCst G (nI k) ↔ c j ≤ c k) := fun j k hj hk => by
      rw [hc j hj, hc k hk, nI_leI (bd j hj) (bd k hk)]
    by_cases s : n &&& m = m
    · have s' : nI n &&& nI m = nI m := by rw [nI_and (by omega) hm, s]
      refine ⟨fun hK => ?_, fun hK => ?_⟩
      · by_cases e : K < n
        · have e1 := i1 e
          have := (hop n (by omega) s).1
          rw [mBst_2 s' (by rw [e1]; exact hn0 K h256) (by rw [e1]; exact (hle K n h256 (by omega)).mpr this), e1]
        · have e0 : K = n := by omega
          rcases i2 (by omega) with e1 | ⟨k, hk, e2, e1⟩
          · rw [mBst_1 s' (by rw [e1]; exact m1), e0]
          · have h3 := hop k (by omega) e2
            have h4 : ¬ c k ≤ c n := fun w => by
              rw [e0] at h3
              have := h3.2 (by omega)
              omega
            rw [mBst_3 s' (by rw [e1]; exact hn0 k (by omega)) (by rw [e1]; exact fun w => h4 ((hle k n (by omega) (by omega)).mp w)), e0]
      · right
        rcases i2 (by omega) with e1 | ⟨k, hk, e2, e1⟩
        · exact ⟨n, by omega, s, mBst_1 s' (by rw [e1]; exact m1)⟩
        · by_cases q : mCst G (mBst G (nI m) n) ≤ mCst G (nI n)
          · exact ⟨k, by omega, e2, (mBst_2 s' (by rw [e1]; exact hn0 k (by omega)) q).trans e1⟩
          · exact ⟨n, by omega, s, mBst_3 s' (by rw [e1]; exact hn0 k (by omega)) q⟩
    · have s' : ¬ nI n &&& nI m = nI m := fun w => by
        rw [nI_and (by omega) hm] at w
        have h1 : (n &&& m) ≤ m := Nat.and_le_right
        exact s (nI_inj (by omega) (by omega) w)
      rw [mBst_0 s']
      refine ⟨fun hK => ?_, fun hK => ?_⟩
      · by_cases e : K = n
        · rw [e] at hKm
          exact absurd hKm s
        · exact i1 (by omega)
      · rcases i2 (by omega) with e1 | ⟨k, hk, e2, e1⟩
        · exact Or.inl e1
        · exact Or.inr ⟨k, by omega, e2, e1⟩
theorem e_hr {G : zG} {vc rc td f : Nat} (h : zR G vc rc td) (hf : f < 8) : ∀ n, n ≤ 6 → ∃ m, m ≤ 1000 * n ∧ xHrs G (nI f) n = nI m ∧ mHr G f n = nI m
  | 0, _ => ⟨0, Nat.le_refl _, rfl, rfl⟩
  | n + 1, hn => by
    obtain ⟨m, hm, m1, m2⟩ := e_hr h hf n (by omega)
    obtain ⟨y, -, e1, e2⟩ := e_used h (h := n) (by omega) hf
    obtain ⟨-, -, -, e43, k, hk, ek⟩ := h.2.2.2.1 n (by omega)
    by_cases q : nI y = 0
    · refine ⟨m, by omega, ?_, ?_⟩
      · rw [xHrs_t (e1.trans q), m1]
      · rw [mHr_t (e2.trans q), m2, nI_add, Nat.add_zero]
    · refine ⟨m + k, by omega, ?_, ?_⟩
      · rw [xHrs_f (fun w => q (e1.symm.trans w)), m1, ek, nI_add]
      · rw [mHr_f (fun w => q (e2.symm.trans w)), m2, e43, ek, nI_add]
theorem xPc_N {G : zG} {g l : Nat → Nat} {K : Nat} (hg : ∀ i, i < 8 → zg G 4 i 4 = nI (g i)) (hl : ∀ i, i < 8 → xHrs G (nI i) 6 = nI (l i)) (hK : ∀ i, i < 8 → K.testBit i = xPk G i) : ∀ n, n ≤ 8 → xPc G n = nI (cN g l K n)
  | 0, _ => rfl
  | n + 1, hn => by
    have ih := xPc_N hg hl hK n (by omega)
    have hb := hK n (by omega)
    rw [cN_s]
    cases hc : xPk G n with
    | true => rw [xPc_t hc, ih, hg n (by omega), nI_add, if_pos (hb.trans hc)]
    | false => rw [xPc_f hc, ih, hl n (by omega), nI_add, if_neg (by rw [hb, hc]; decide)]
theorem lat_iff {x : Int32} {td : Nat} (h : td ≤ 39) : nI td + nI 1 ≤ x ↔ ¬ x ≤ nI td := by
  rw [nI_add, Int32.le_iff_toInt_le, Int32.le_iff_toInt_le, nI_toInt (by omega), nI_toInt (by omega)]
  omega
theorem e_plan {G : zG} {vc rc td : Nat} (h : zR G vc rc td) (a : Int32) : xaPlan G a = maPlan G td a := by
  have hS := h.2.2.2.2.2.2.2.2.1
  have hP := h.2.2.2.2.2.2.2.1
  have h5 := h.1.2.2.2.2.2.2.2.1
  have htd := h.1.2.2.2.2.2.2.2.2.1
  have hg : ∀ i, i < 8 → (zg G 4 i 4).toNatClampNeg ≤ 1000 ∧ zg G 4 i 4 = nI (zg G 4 i 4).toNatClampNeg ∧ zg G 42 0 i = nI (zg G 4 i 4).toNatClampNeg := fun i hi => by
    obtain ⟨-, -, s42, ⟨k, hk, ek⟩, -⟩ := hS i hi
    rw [s42, ek, nI_clamp (by omega)]
    exact ⟨hk, rfl, rfl⟩
  have hl : ∀ i, i < 8 → (xHrs G (nI i) 6).toNatClampNeg ≤ 6000 ∧ xHrs G (nI i) 6 = nI (xHrs G (nI i) 6).toNatClampNeg ∧ mHr G i 6 = nI (xHrs G (nI i) 6).toNatClampNeg := fun i hi => by
    obtain ⟨m, hm, m1, m2⟩ := e_hr h hi 6 (Nat.le_refl 6)
    rw [m1, m2, nI_clamp (by omega)]
    exact ⟨by omega, rfl, rfl⟩
  obtain ⟨g, eg⟩ : ∃ g, (fun i => (zg G 4 i 4).toNatClampNeg) = g := ⟨_, rfl⟩
  obtain ⟨l, el⟩ : ∃ l, (fun i => (xHrs G (nI i) 6).toNatClampNeg) = l := ⟨_, rfl⟩
  have eg' : ∀ i, (zg G 4 i 4).toNatClampNeg = g i := fun i => congrFun eg i
  have el' : ∀ i, (xHrs G (nI i) 6).toNatClampNeg = l i := fun i => congrFun el i
  have hg1 : ∀ i, i < 8 → g i ≤ 1000 := fun i hi => by rw [← eg']; exact (hg i hi).1
  have hg2 : ∀ i, i < 8 → zg G 4 i 4 = nI (g i) := fun i hi => by rw [← eg']; exact (hg i hi).2.1
  have hg3 : ∀ i, i < 8 → zg G 42 0 i = nI (g i) := fun i hi => by rw [← eg']; exact (hg i hi).2.2
  have hl1 : ∀ i, i < 8 → l i ≤ 6000 := fun i hi => by rw [← el']; exact (hl i hi).1
  have hl2 : ∀ i, i < 8 → xHrs G (nI i) 6 = nI (l i) := fun i hi => by rw [← el']; exact (hl i hi).2.1
  have hl3 : ∀ i, i < 8 → mHr G i 6 = nI (l i) := fun i hi => by rw [← el']; exact (hl i hi).2.2
  have hpk : ∀ i, i < 8 → (xPk G i = true ↔ ¬ mLat G i ≤ nI td ∨ g i < l i) := fun i hi => by
    have h1 : xPk G i = decide (zg G 0 0 5 + nI 1 ≤ xLat G i ∨ zg G 4 i 4 < xHrs G (nI i) 6) := rfl
    have b1 := hg1 i hi
    have b2 := hl1 i hi
    rw [h1, decide_eq_true_iff, h5, ← e_lat hP hi, lat_iff htd, hg2 i hi, hl2 i hi, nI_ltI (by omega) (by omega)]
  have m256 : kN (fun i => decide (¬ mLat G i ≤ nI td)) 8 < 256 := kN_lt 8 (Nat.le_refl 8)
  have K256 : kN (fun i => xPk G i) 8 < 256 := kN_lt 8 (Nat.le_refl 8)
  have hK : ∀ i, i < 8 → ((kN (fun i => xPk G i) 8).testBit i = true ↔ (kN (fun i => decide (¬ mLat G i ≤ nI td)) 8).testBit i = true ∨ g i < l i) := fun i hi => by
    rw [kN_bit, kN_bit, hpk i hi, decide_eq_true_iff]
    exact ⟨fun w => w.2.elim (fun q => Or.inl ⟨hi, q⟩) Or.inr, fun w => ⟨hi, w.elim (fun q => Or.inl q.2) Or.inr⟩⟩
  have hKb : ∀ i, i < 8 → (kN (fun i => xPk G i) 8).testBit i = xPk G i := fun i hi => by
    refine Bool.eq_iff_iff.mpr ?_
    rw [kN_bit]
    exact ⟨fun w => w.2, fun w => ⟨hi, w⟩⟩
  have em := mMust_kN (G := G) (td := td) 8 (Nat.le_refl 8)
  have ek := bo_kN (c := fun i => xPk G i) 8 (Nat.le_refl 8)
  have ec := xPc_N hg2 hl2 hKb 8 (Nat.le_refl 8)
  obtain ⟨K, eK⟩ : ∃ K, kN (fun i => xPk G i) 8 = K := ⟨_, rfl⟩
  obtain ⟨m, eM⟩ : ∃ m, kN (fun i => decide (¬ mLat G i ≤ nI td)) 8 = m := ⟨_, rfl⟩
  rw [eK] at K256 hK hKb ek ec
  rw [eM] at m256 hK em
  have hcs : ∀ k, k < 256 → mCst G (nI k) = nI (cN g l k 8) := fun k hk => mCoL_N hg3 hl3 hk 8 (Nat.le_refl 8)
  have hbd : ∀ k, k < 256 → cN g l k 8 < 2 ^ 31 := fun k _ => Nat.lt_of_le_of_lt (cN_le hg1 hl1 8 (Nat.le_refl 8)) (by decide)
  have hKm : K &&& m = m := by
    apply Nat.eq_of_testBit_eq
    intro i
    rw [Nat.testBit_and]
    cases hb : m.testBit i with
    | true => rw [(hK i (bit_lt8 m256 hb)).mpr (Or.inl hb)]; rfl
    | false => exact Bool.and_false _
  have hop : ∀ k, k < 256 → k &&& m = m → cN g l K 8 ≤ cN g l k 8 ∧ (cN g l K 8 = cN g l k 8 → K ≤ k) := fun k _ e => by
    have hk : ∀ i, m.testBit i = true → k.testBit i = true := fun i w => by
      rw [← e, Nat.testBit_and, Bool.and_eq_true] at w
      exact w.1
    have := cN_opt hK hk 8 (Nat.le_refl 8)
    exact ⟨this.1, fun w => sub_le K256 (this.2 w)⟩
  have hbest : mBst G (mMust G td 8) 256 = nI K := by
    rw [em]
    exact (mBst_K hcs hbd m256 K256 hKm hop 256 (Nat.le_refl 256)).1 K256
  unfold xaPlan maPlan
  rw [hbest, hcs K K256, ek, ec]
  by_cases ho : zin a 2 = true
  · obtain ⟨a', ha, ea, -⟩ := zin_zv ho
    rw [if_pos ho]
    have h2 : a' = 0 ∨ a' = 1 := by omega
    rcases h2 with e | e
    · rw [ea, e, if_pos nI_0, if_pos nI_0]
    · rw [ea, e, if_neg z01, if_pos rfl, if_neg z01]
  · rw [if_neg ho]
    have n0 : ¬ a = 0 := fun w => ho (by rw [w]; decide +kernel)
    have n1 : ¬ a = nI 1 := fun w => ho (by rw [w]; decide +kernel)
    rw [if_neg n0, if_neg n1]

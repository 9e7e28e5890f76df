/-! pure words for the reference's walk over a text, its scratch rows put aside -/
def alB (c : Nat → Bool) (n : Nat) (z : Int32) : Prop := (alF c n = true ∧ z = nI 1) ∨ (alF c n = false ∧ z = nI 0)
theorem alB_k {c : Nat → Bool} {n : Nat} {z : Int32} (hc : c n = true) (h : alB c n z) : alB c (n + 1) z := by
  have e : alF c (n + 1) = alF c n := by
    show (alF c n && c n) = _
    rw [hc, Bool.and_true]
  unfold alB at h ⊢
  rw [e]
  exact h
theorem alB_f {c : Nat → Bool} {n : Nat} (hc : c n = false) : alB c (n + 1) (nI 0) := by
  refine Or.inr ⟨?_, rfl⟩
  show (alF c n && c n) = false
  rw [hc, Bool.and_false]
theorem alB_z {c : Nat → Bool} {n : Nat} {z : Int32} (h : alB c n z) (hz : z = 0) : alB c (n + 1) (nI 0) := by
  refine Or.inr ⟨?_, rfl⟩
  rcases h with ⟨h1, h2⟩ | ⟨h1, h2⟩
  · exact absurd (h2.symm.trans hz) z01
  · show (alF c n && c n) = false
    rw [h1, Bool.false_and]
theorem alB_t {c : Nat → Bool} {n : Nat} {z : Int32} (h : alB c n z) (hz : ¬ z = 0) (hc : c n = true) : alB c (n + 1) (nI 1) := by
  refine Or.inl ⟨?_, rfl⟩
  rcases h with ⟨h1, h2⟩ | ⟨h1, h2⟩
  · show (alF c n && c n) = true
    rw [h1, hc]
    rfl
  · exact absurd h2 (fun q => hz (q.trans nI_0))
def mSc (G : zG) (p q sn ls : Nat → Int32) (x : Int32) (ak : Int64) : zG := (fun k i => if k = 45 ∧ i = 0 then p else if k = 46 ∧ i = 0 then q else if k = 47 ∧ i = 0 then sn else if k = 50 ∧ i = 0 then ls else if k = 20 ∧ i = 0 then upd (zg G 20 0) 29 x else G.1 k i, (fun j => if j = 2 then ak else G.2.1 j), G.2.2)
theorem mSc_self (G : zG) : mSc G (zg G 45 0) (zg G 46 0) (zg G 47 0) (zg G 50 0) (zg G 20 0 29) (zt G 2) = G := by
  refine Prod.ext ?_ (Prod.ext ?_ rfl)
  · funext k i
    show (if k = 45 ∧ i = 0 then zg G 45 0 else if k = 46 ∧ i = 0 then zg G 46 0 else if k = 47 ∧ i = 0 then zg G 47 0 else if k = 50 ∧ i = 0 then zg G 50 0 else if k = 20 ∧ i = 0 then upd (zg G 20 0) 29 (zg G 20 0 29) else G.1 k i) = G.1 k i
    by_cases h1 : k = 45 ∧ i = 0
    · rw [if_pos h1, h1.1, h1.2]; rfl
    · rw [if_neg h1]
      by_cases h2 : k = 46 ∧ i = 0
      · rw [if_pos h2, h2.1, h2.2]; rfl
      · rw [if_neg h2]
        by_cases h3 : k = 47 ∧ i = 0
        · rw [if_pos h3, h3.1, h3.2]; rfl
        · rw [if_neg h3]
          by_cases h4 : k = 50 ∧ i = 0
          · rw [if_pos h4, h4.1, h4.2]; rfl
          · rw [if_neg h4]
            by_cases h5 : k = 20 ∧ i = 0
            · rw [if_pos h5, h5.1, h5.2]
              funext j
              unfold upd
              by_cases hj : j = 29
              · rw [if_pos hj, hj]; rfl
              · rw [if_neg hj]; rfl
            · rw [if_neg h5]
  · funext j
    show (if j = 2 then zt G 2 else G.2.1 j) = G.2.1 j
    by_cases hj : j = 2
    · rw [if_pos hj, hj]; rfl
    · rw [if_neg hj]
theorem mSc_p (G : zG) (p q sn ls : Nat → Int32) (x : Int32) (ak : Int64) (j : Nat) (v : Int32) : zu (mSc G p q sn ls x ak) 45 0 j v = mSc G (upd p j v) q sn ls x ak := by
  refine Prod.ext ?_ rfl
  funext k i
  show (if k = 45 ∧ i = 0 then upd p j v else (mSc G p q sn ls x ak).1 k i) = (mSc G (upd p j v) q sn ls x ak).1 k i
  by_cases h : k = 45 ∧ i = 0
  · rw [if_pos h, h.1, h.2]; rfl
  · rw [if_neg h]
    show (if k = 45 ∧ i = 0 then p else _) = (if k = 45 ∧ i = 0 then upd p j v else _)
    rw [if_neg h, if_neg h]
theorem mSc_q (G : zG) (p q sn ls : Nat → Int32) (x : Int32) (ak : Int64) (j : Nat) (v : Int32) : zu (mSc G p q sn ls x ak) 46 0 j v = mSc G p (upd q j v) sn ls x ak := by
  refine Prod.ext ?_ rfl
  funext k i
  show (if k = 46 ∧ i = 0 then upd q j v else (mSc G p q sn ls x ak).1 k i) = (mSc G p (upd q j v) sn ls x ak).1 k i
  by_cases h : k = 46 ∧ i = 0
  · rw [if_pos h, h.1, h.2]; rfl
  · rw [if_neg h]
    show (if k = 45 ∧ i = 0 then p else if k = 46 ∧ i = 0 then q else _) = (if k = 45 ∧ i = 0 then p else if k = 46 ∧ i = 0 then upd q j v else _)
    rw [if_neg h, if_neg h]
theorem mSc_s (G : zG) (p q sn ls : Nat → Int32) (x : Int32) (ak : Int64) (j : Nat) (v : Int32) : zu (mSc G p q sn ls x ak) 47 0 j v = mSc G p q (upd sn j v) ls x ak := by
  refine Prod.ext ?_ rfl
  funext k i
  show (if k = 47 ∧ i = 0 then upd sn j v else (mSc G p q sn ls x ak).1 k i) = (mSc G p q (upd sn j v) ls x ak).1 k i
  by_cases h : k = 47 ∧ i = 0
  · rw [if_pos h, h.1, h.2]; rfl
  · rw [if_neg h]
    show (if k = 45 ∧ i = 0 then p else if k = 46 ∧ i = 0 then q else if k = 47 ∧ i = 0 then sn else _) = (if k = 45 ∧ i = 0 then p else if k = 46 ∧ i = 0 then q else if k = 47 ∧ i = 0 then upd sn j v else _)
    rw [if_neg h, if_neg h]
theorem mSc_l (G : zG) (p q sn ls : Nat → Int32) (x : Int32) (ak : Int64) (j : Nat) (v : Int32) : zu (mSc G p q sn ls x ak) 50 0 j v = mSc G p q sn (upd ls j v) x ak := by
  refine Prod.ext ?_ rfl
  funext k i
  show (if k = 50 ∧ i = 0 then upd ls j v else (mSc G p q sn ls x ak).1 k i) = (mSc G p q sn (upd ls j v) x ak).1 k i
  by_cases h : k = 50 ∧ i = 0
  · rw [if_pos h, h.1, h.2]; rfl
  · rw [if_neg h]
    show (if k = 45 ∧ i = 0 then p else if k = 46 ∧ i = 0 then q else if k = 47 ∧ i = 0 then sn else if k = 50 ∧ i = 0 then ls else _) = (if k = 45 ∧ i = 0 then p else if k = 46 ∧ i = 0 then q else if k = 47 ∧ i = 0 then sn else if k = 50 ∧ i = 0 then upd ls j v else _)
    rw [if_neg h, if_neg h]
theorem upd_upd (f : Nat → Int32) (j : Nat) (v w : Int32) : upd (upd f j v) j w = upd f j w := by
  funext i
  unfold upd
  by_cases h : i = j
  · rw [if_pos h, if_pos h]
  · rw [if_neg h, if_neg h, if_neg h]
theorem mSc_x (G : zG) (p q sn ls : Nat → Int32) (x : Int32) (ak : Int64) (v : Int32) : zu (mSc G p q sn ls x ak) 20 0 29 v = mSc G p q sn ls v ak := by
  refine Prod.ext ?_ rfl
  funext k i
  show (if k = 20 ∧ i = 0 then upd (upd (zg G 20 0) 29 x) 29 v else (mSc G p q sn ls x ak).1 k i) = (mSc G p q sn ls v ak).1 k i
  by_cases h : k = 20 ∧ i = 0
  · rw [if_pos h, h.1, h.2, upd_upd]; rfl
  · rw [if_neg h]
    show (if k = 45 ∧ i = 0 then p else if k = 46 ∧ i = 0 then q else if k = 47 ∧ i = 0 then sn else if k = 50 ∧ i = 0 then ls else if k = 20 ∧ i = 0 then _ else _) = (if k = 45 ∧ i = 0 then p else if k = 46 ∧ i = 0 then q else if k = 47 ∧ i = 0 then sn else if k = 50 ∧ i = 0 then ls else if k = 20 ∧ i = 0 then _ else _)
    rw [if_neg h, if_neg h]
theorem mSc_a (G : zG) (p q sn ls : Nat → Int32) (x : Int32) (ak v : Int64) : zuT (mSc G p q sn ls x ak) 2 v = mSc G p q sn ls x v := by
  refine Prod.ext rfl (Prod.ext ?_ rfl)
  funext j
  show (if j = 2 then v else if j = 2 then ak else G.2.1 j) = if j = 2 then v else G.2.1 j
  by_cases h : j = 2
  · rw [if_pos h, if_pos h]
  · rw [if_neg h, if_neg h, if_neg h]
theorem mSc_t (G : zG) (p q sn ls : Nat → Int32) (x : Int32) (ak : Int64) : zt (mSc G p q sn ls x ak) 2 = ak := rfl
theorem mSc_mSc (G : zG) (p q sn ls p' q' sn' ls' : Nat → Int32) (x x' : Int32) (ak ak' : Int64) : mSc (mSc G p q sn ls x ak) p' q' sn' ls' x' ak' = mSc G p' q' sn' ls' x' ak' := by
  refine Prod.ext ?_ (Prod.ext ?_ rfl)
  · funext k i
    show (if k = 45 ∧ i = 0 then p' else if k = 46 ∧ i = 0 then q' else if k = 47 ∧ i = 0 then sn' else if k = 50 ∧ i = 0 then ls' else if k = 20 ∧ i = 0 then upd (upd (zg G 20 0) 29 x) 29 x' else (if k = 45 ∧ i = 0 then p else if k = 46 ∧ i = 0 then q else if k = 47 ∧ i = 0 then sn else if k = 50 ∧ i = 0 then ls else if k = 20 ∧ i = 0 then upd (zg G 20 0) 29 x else G.1 k i)) = (if k = 45 ∧ i = 0 then p' else if k = 46 ∧ i = 0 then q' else if k = 47 ∧ i = 0 then sn' else if k = 50 ∧ i = 0 then ls' else if k = 20 ∧ i = 0 then upd (zg G 20 0) 29 x' else G.1 k i)
    by_cases h1 : k = 45 ∧ i = 0
    · rw [if_pos h1, if_pos h1]
    · by_cases h2 : k = 46 ∧ i = 0
      · simp only [if_neg h1, if_pos h2]
      · by_cases h3 : k = 47 ∧ i = 0
        · simp only [if_neg h1, if_neg h2, if_pos h3]
        · by_cases h4 : k = 50 ∧ i = 0
          · simp only [if_neg h1, if_neg h2, if_neg h3, if_pos h4]
          · by_cases h5 : k = 20 ∧ i = 0
            · simp only [if_neg h1, if_neg h2, if_neg h3, if_neg h4, if_pos h5, upd_upd]
            · simp only [if_neg h1, if_neg h2, if_neg h3, if_neg h4, if_neg h5]
  · funext j
    show (if j = 2 then ak' else if j = 2 then ak else G.2.1 j) = if j = 2 then ak' else G.2.1 j
    by_cases h : j = 2
    · rw [if_pos h, if_pos h]
    · rw [if_neg h, if_neg h, if_neg h]
def zzF (f : Nat → Int32) (n : Nat) : Nat → Int32 := fun j => if j < n then nI 0 else f j
theorem zzF_0 (f : Nat → Int32) : zzF f 0 = f := rfl
theorem zzF_s (f : Nat → Int32) (n : Nat) : upd (zzF f n) n (nI 0) = zzF f (n + 1) := by
  funext j
  unfold upd zzF
  by_cases h : j = n
  · rw [if_pos h, if_pos (by omega)]
  · rw [if_neg h]
    by_cases h2 : j < n
    · rw [if_pos h2, if_pos (by omega)]
    · rw [if_neg h2, if_neg (by omega)]
/-- what statement s of house h, asked with the bits b, sees of a face -/
def mSv (G : zG) (h : Nat) : Nat → Nat → Int32 → Nat → Int32
  | 0, _, _, _ => 0
  | n + 1, s, b, j => if b = 0 then 0 else if zg G 24 0 (12 * h + s) = 0 then (if (zg G 25 0 (12 * h + s)).toNatClampNeg = j then b else 0)
    else if zg G 24 0 (12 * h + s) = nI 1 then mSv G h n (zg G 25 0 (12 * h + s)).toNatClampNeg (xTurn b (zg G 27 0 (12 * h + s))) j
    else mSv G h n (zg G 25 0 (12 * h + s)).toNatClampNeg (b &&& ((nI 1 <<< (zg G 27 0 (12 * h + s) &&& 31)) - nI 1)) j ||| mSv G h n (zg G 26 0 (12 * h + s)).toNatClampNeg (b &&& (((nI 1 <<< (zg G 27 0 (12 * h + s) &&& 31)) - nI 1) ^^^ (-1))) j
def mSt (G : zG) (h : Nat) : Nat → Nat → Int32 → Int64
  | 0, _, _ => 0
  | n + 1, s, b => if b = 0 then 0 else if zg G 24 0 (12 * h + s) = 0 then 1
    else if zg G 24 0 (12 * h + s) = nI 1 then 10 + mSt G h n (zg G 25 0 (12 * h + s)).toNatClampNeg (xTurn b (zg G 27 0 (12 * h + s)))
    else 100 + (mSt G h n (zg G 25 0 (12 * h + s)).toNatClampNeg (b &&& ((nI 1 <<< (zg G 27 0 (12 * h + s) &&& 31)) - nI 1)) + mSt G h n (zg G 26 0 (12 * h + s)).toNatClampNeg (b &&& (((nI 1 <<< (zg G 27 0 (12 * h + s) &&& 31)) - nI 1) ^^^ (-1))))
theorem mSv_z (G : zG) (h n s : Nat) (j : Nat) : mSv G h n s 0 j = 0 := by
  cases n with
  | zero => rfl
  | succ n => exact if_pos rfl
theorem mSt_z (G : zG) (h n s : Nat) : mSt G h n s 0 = 0 := by
  cases n with
  | zero => rfl
  | succ n => exact if_pos rfl
theorem mSv_k0 {G : zG} {h n s f : Nat} {b : Int32} (hb : ¬ b = 0) (hk : zg G 24 0 (12 * h + s) = nI 0) (ef : zg G 25 0 (12 * h + s) = nI f) (hf : f < 2 ^ 31) (j : Nat) : mSv G h (n + 1) s b j = if f = j then b else 0 := by
  unfold mSv
  rw [if_neg hb, if_pos (by rw [hk]; rfl), ef, nI_clamp hf]
theorem mSt_k0 {G : zG} {h n s : Nat} {b : Int32} (hb : ¬ b = 0) (hk : zg G 24 0 (12 * h + s) = nI 0) : mSt G h (n + 1) s b = 1 := by
  unfold mSt
  rw [if_neg hb, if_pos (by rw [hk]; rfl)]
theorem mSv_k1 {G : zG} {h n s f : Nat} {b : Int32} (hb : ¬ b = 0) (hk : zg G 24 0 (12 * h + s) = nI 1) (ef : zg G 25 0 (12 * h + s) = nI f) (hf : f < 2 ^ 31) (j : Nat) : mSv G h (n + 1) s b j = mSv G h n f (xTurn b (zg G 27 0 (12 * h + s))) j := by
  show (if b = 0 then 0 else if zg G 24 0 (12 * h + s) = 0 then _ else if zg G 24 0 (12 * h + s) = nI 1 then mSv G h n (zg G 25 0 (12 * h + s)).toNatClampNeg _ j else _) = _
  rw [if_neg hb, if_neg (by rw [hk]; exact z01), if_pos hk, ef, nI_clamp hf]
theorem mSt_k1 {G : zG} {h n s f : Nat} {b : Int32} (hb : ¬ b = 0) (hk : zg G 24 0 (12 * h + s) = nI 1) (ef : zg G 25 0 (12 * h + s) = nI f) (hf : f < 2 ^ 31) : mSt G h (n + 1) s b = 10 + mSt G h n f (xTurn b (zg G 27 0 (12 * h + s))) := by
  show (if b = 0 then 0 else if zg G 24 0 (12 * h + s) = 0 then _ else if zg G 24 0 (12 * h + s) = nI 1 then 10 + mSt G h n (zg G 25 0 (12 * h + s)).toNatClampNeg _ else _) = _
  rw [if_neg hb, if_neg (by rw [hk]; exact z01), if_pos hk, ef, nI_clamp hf]
theorem mSv_k2 {G : zG} {h n s f g : Nat} {b : Int32} (hb : ¬ b = 0) (hk : zg G 24 0 (12 * h + s) = nI 2) (ef : zg G 25 0 (12 * h + s) = nI f) (hf : f < 2 ^ 31) (eg : zg G 26 0 (12 * h + s) = nI g) (hg : g < 2 ^ 31) (j : Nat) : mSv G h (n + 1) s b j = mSv G h n f (b &&& ((nI 1 <<< (zg G 27 0 (12 * h + s) &&& 31)) - nI 1)) j ||| mSv G h n g (b &&& (((nI 1 <<< (zg G 27 0 (12 * h + s) &&& 31)) - nI 1) ^^^ (-1))) j := by
  show (if b = 0 then 0 else if zg G 24 0 (12 * h + s) = 0 then _ else if zg G 24 0 (12 * h + s) = nI 1 then _ else mSv G h n (zg G 25 0 (12 * h + s)).toNatClampNeg _ j ||| mSv G h n (zg G 26 0 (12 * h + s)).toNatClampNeg _ j) = _
  rw [if_neg hb, if_neg (by rw [hk]; exact z02), if_neg (by rw [hk]; exact z12), ef, nI_clamp hf, eg, nI_clamp hg]
theorem mSt_k2 {G : zG} {h n s f g : Nat} {b : Int32} (hb : ¬ b = 0) (hk : zg G 24 0 (12 * h + s) = nI 2) (ef : zg G 25 0 (12 * h + s) = nI f) (hf : f < 2 ^ 31) (eg : zg G 26 0 (12 * h + s) = nI g) (hg : g < 2 ^ 31) : mSt G h (n + 1) s b = 100 + (mSt G h n f (b &&& ((nI 1 <<< (zg G 27 0 (12 * h + s) &&& 31)) - nI 1)) + mSt G h n g (b &&& (((nI 1 <<< (zg G 27 0 (12 * h + s) &&& 31)) - nI 1) ^^^ (-1)))) := by
  show (if b = 0 then 0 else if zg G 24 0 (12 * h + s) = 0 then _ else if zg G 24 0 (12 * h + s) = nI 1 then _ else 100 + (mSt G h n (zg G 25 0 (12 * h + s)).toNatClampNeg _ + mSt G h n (zg G 26 0 (12 * h + s)).toNatClampNeg _)) = _
  rw [if_neg hb, if_neg (by rw [hk]; exact z02), if_neg (by rw [hk]; exact z12), ef, nI_clamp hf, eg, nI_clamp hg]
theorem or0 (x : Int32) : x ||| 0 = x := by simp
theorem or0l (x : Int32) : 0 ||| x = x := by simp
theorem fo_k0 {G : zG} {h n s f : Nat} {b : Int32} (sn : Nat → Int32) (hb : ¬ b = 0) (hk : zg G 24 0 (12 * h + s) = nI 0) (ef : zg G 25 0 (12 * h + s) = nI f) (hf : f < 2 ^ 31) : (fun j => sn j ||| mSv G h (n + 1) s b j) = upd sn f (sn f ||| b) := by
  funext j
  rw [mSv_k0 hb hk ef hf]
  unfold upd
  by_cases hj : j = f
  · rw [if_pos hj.symm, if_pos hj, hj]
  · rw [if_neg (Ne.symm hj), if_neg hj, or0]
theorem fo_z (G : zG) (h n s : Nat) (sn : Nat → Int32) : (fun j => sn j ||| mSv G h n s 0 j) = sn := by
  funext j
  rw [mSv_z, or0]
theorem upd_at (f : Nat → Int32) (j : Nat) (v : Int32) : upd f j v j = v := if_pos rfl
theorem upd_ne (f : Nat → Int32) (j : Nat) (v : Int32) {i : Nat} (h : i ≠ j) : upd f j v i = f i := if_neg h

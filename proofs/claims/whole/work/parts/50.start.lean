/-! the start: a new object and a new reference -/
def yg (k : Nat) : Nat → Int32 := match k with
  | 0 => fun j => match j with
    | 4 => nI 1
    | 6 => nI 100
    | _ => nI 0
  | 4 => fun j => match j with
    | 2 => -9
    | _ => nI 0
  | 5 => lsF (fun _ => 0) (fun _ => (-9)) 40
  | 6 => lsF (fun _ => 0) (fun _ => (-9)) 6
  | 7 => fun _ => nI 0
  | 10 => fun _ => nI 0
  | 20 => fun j => match j with
    | 0 => nI 1
    | 12 => nI 100
    | 18 => nI 0
    | _ => 0
  | 40 => upd (upd (upd (upd (upd (upd (upd (upd (fun _ => 0) 0 (-9)) 1 (-9)) 2 (-9)) 3 (-9)) 4 (-9)) 5 (-9)) 6 (-9)) 7 (-9)
  | _ => fun _ => 0
def yG (A : Nat → Nat → Nat) : zG := (fun k _ => yg k, fun _ => 0, fun _ => 0, A)
theorem yg_40 : ∀ f, f < 8 → yg 40 f = -9 := by decide +kernel
theorem zR_yG (A : Nat → Nat → Nat) : zR (yG A) 1 0 0 := by
  refine ⟨⟨rfl, by decide, by decide, rfl, by decide, rfl, rfl, rfl, by decide, fun h hh => ⟨0, by decide, rfl, fun s hs => absurd hs (Nat.not_lt_zero s)⟩, fun h hh => ⟨0, by decide, rfl⟩, fun q hq => absurd hq (Nat.not_lt_zero q)⟩,
    ⟨rfl, by decide, by decide, nI_0.symm, by decide, rfl, by decide, fun h hh => ⟨0, by decide, nI_0.symm, fun s hs => absurd hs (Nat.not_lt_zero s)⟩, fun h hh => ⟨0, by decide, nI_0.symm⟩, fun q hq => absurd hq (Nat.not_lt_zero q)⟩,
    ?_, ?_, ?_, ?_, fun q hq => absurd hq (Nat.not_lt_zero q), ?_, ?_, rfl, rfl⟩
  · intro f j hf hj
    exact Or.inl ⟨if_pos hj, nI_0.symm⟩
  · intro h hh
    exact ⟨nI_0.symm, nI_0.symm, nI_0.symm, nI_0.symm, 0, by decide, rfl⟩
  · intro h hh s hs
    have e : xSz (yG A) h = 0 := nI_clamp (by decide)
    rw [e] at hs
    exact absurd hs (Nat.not_lt_zero s)
  · exact ⟨fun h f d _ _ _ => rfl, fun h m _ _ => rfl, fun h _ _ f d _ _ => rfl⟩
  · intro f h hf hh
    exact Or.inl ⟨if_pos hh, nI_0.symm⟩
  · intro f hf
    exact ⟨yg_40 f hf, nI_0.symm, nI_0.symm, ⟨0, by decide, rfl⟩, Or.inl rfl⟩
theorem yDs_e {X : zX} {A B : Nat → Nat → Nat} (h4 : A 4 = B 4) (h5 : A 5 = B 5) (h6 : A 6 = B 6) : ∀ n, yDs X A n = yDs X B n
  | 0 => rfl
  | n + 1 => by
    show yDs X A n ++ yDl X (A 4 n) (A 5 n) (A 6 n) = yDs X B n ++ yDl X (B 4 n) (B 5 n) (B 6 n)
    rw [yDs_e h4 h5 h6 n, h4, h5, h6]
theorem yHs_e {X : zX} {A B : Nat → Nat → Nat} (h7 : A 7 = B 7) (h8 : A 8 = B 8) (h9 : A 9 = B 9) (h10 : A 10 = B 10) (h11 : A 11 = B 11) (h12 : A 12 = B 12) (h13 : A 13 = B 13) (h14 : A 14 = B 14) (h15 : A 15 = B 15) (h16 : A 16 = B 16) : ∀ n, yHs X A n = yHs X B n
  | 0 => rfl
  | n + 1 => by
    show yHs X A n ++ yHl X (A 7 n) (A 8 n) (A 9 n) (A 10 n) (A 11 n) (A 12 n) (A 13 n) (A 14 n) (A 15 n) (A 16 n) = yHs X B n ++ yHl X (B 7 n) (B 8 n) (B 9 n) (B 10 n) (B 11 n) (B 12 n) (B 13 n) (B 14 n) (B 15 n) (B 16 n)
    rw [yHs_e h7 h8 h9 h10 h11 h12 h13 h14 h15 h16 n, h7, h8, h9, h10, h11, h12, h13, h14, h15, h16]
def yA (A : Nat → Nat → Nat) (a m q1 q2 q3 q4 q5 q6 q7 q8 q9 q10 q11 q12 q13 q14 q15 q16 q17 q18 q19 q20 q21 q22 q23 q24 : Nat) : Nat → Nat → Nat := fun k i => match k with
    | 0 => a
    | 20 => m
    | 21 => q1
    | 22 => q2
    | 23 => q3
    | 24 => q4
    | 25 => q5
    | 26 => q6
    | 27 => q7
    | 28 => q8
    | 29 => q9
    | 30 => q10
    | 31 => q11
    | 34 => q12
    | 35 => q13
    | 36 => q14
    | 37 => q15
    | 39 => q16
    | 40 => q17
    | 41 => q18
    | 42 => q19
    | 43 => q20
    | 45 => q21
    | 46 => q22
    | 47 => q23
    | 50 => q24
    | k2 => A k2 i
set_option maxRecDepth 100000 in
set_option maxHeartbeats 4000000 in
theorem y_start (X : zX) (A : Nat → Nat → Nat) (a m q1 q2 q3 q4 q5 q6 q7 q8 q9 q10 q11 q12 q13 q14 q15 q16 q17 q18 q19 q20 q21 q22 q23 q24 : Nat) : yWC X a A ++ ([(m, .inr (5, [.int (nI 1), .ref q1, .ref q2, .ref q3, .ref q4, .ref q5, .ref q6, .ref q7, .ref q8, .ref q9, .ref q10, .ref q11, .int (nI 100), .int 0, .ref q12, .ref q13, .ref q14, .ref q15, .int (nI 0), .ref q16, .ref q17, .ref q18, .ref q19, .ref q20, .long 0, .ref q21, .ref q22, .ref q23, .long 0, .int 0, .ref q24])), (q1, .inl (X.2 0, 320, .inl (fun _ => 0))), (q2, .inl (X.2 0, 6, .inl (fun _ => 0))), (q3, .inl (X.2 0, 6, .inl (fun _ => 0))), (q4, .inl (X.2 0, 72, .inl (fun _ => 0))), (q5, .inl (X.2 0, 72, .inl (fun _ => 0))), (q6, .inl (X.2 0, 72, .inl (fun _ => 0))), (q7, .inl (X.2 0, 72, .inl (fun _ => 0))), (q8, .inl (X.2 0, 72, .inl (fun _ => 0))), (q9, .inl (X.2 0, 1920, .inl (fun _ => 0))), (q10, .inl (X.2 1, 600, .inl (fun _ => 0))), (q11, .inl (X.2 1, 6, .inl (fun _ => 0))), (q12, .inl (X.2 0, 12, .inl (fun _ => 0))), (q13, .inl (X.2 0, 12, .inl (fun _ => 0))), (q14, .inl (X.2 0, 12, .inl (fun _ => 0))), (q15, .inl (X.2 0, 12, .inl (fun _ => 0))), (q16, .inl (X.2 0, 48, .inl (fun _ => 0))), (q17, .inl (X.2 0, 8, .inl (upd (upd (upd (upd (upd (upd (upd (upd (fun _ => 0) 0 (-9)) 1 (-9)) 2 (-9)) 3 (-9)) 4 (-9)) 5 (-9)) 6 (-9)) 7 (-9)))), (q18, .inl (X.2 0, 8, .inl (fun _ => 0))), (q19, .inl (X.2 0, 8, .inl (fun _ => 0))), (q20, .inl (X.2 0, 6, .inl (fun _ => 0))), (q21, .inl (X.2 0, 64, .inl (fun _ => 0))), (q22, .inl (X.2 0, 64, .inl (fun _ => 0))), (q23, .inl (X.2 0, 8, .inl (fun _ => 0))), (q24, .inl (X.2 0, 8, .inl (fun _ => 0)))] : va_W) = z_ls X (yG (yA A a m q1 q2 q3 q4 q5 q6 q7 q8 q9 q10 q11 q12 q13 q14 q15 q16 q17 q18 q19 q20 q21 q22 q23 q24)) := by
  unfold yWC
  rw [yDs_e (A := A) (B := yA A a m q1 q2 q3 q4 q5 q6 q7 q8 q9 q10 q11 q12 q13 q14 q15 q16 q17 q18 q19 q20 q21 q22 q23 q24) rfl rfl rfl, yHs_e (A := A) (B := yA A a m q1 q2 q3 q4 q5 q6 q7 q8 q9 q10 q11 q12 q13 q14 q15 q16 q17 q18 q19 q20 q21 q22 q23 q24) rfl rfl rfl rfl rfl rfl rfl rfl rfl rfl]
  have e3 : (fun _ => none : Nat → Option Nat) = fun j => if j < 0 then some (yA A a m q1 q2 q3 q4 q5 q6 q7 q8 q9 q10 q11 q12 q13 q14 q15 q16 q17 q18 q19 q20 q21 q22 q23 q24 17 j) else none := yr_0 _
  rw [e3]
  rfl

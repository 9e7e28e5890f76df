/-! the class's own constructor: eight doors, six houses -/
def yDl (X : zX) (p q r : Nat) : va_W := [(p, .inr (0, [.ref q, .ref r, .int (-9), .int (nI 0), .int (nI 0)])), (q, .inl (X.2 0, 40, .inl (lsF (fun _ => 0) (fun _ => (-9)) 40))), (r, .inl (X.2 0, 6, .inl (lsF (fun _ => 0) (fun _ => (-9)) 6)))]
def yHl (X : zX) (p7 p8 p9 p10 p11 p12 p13 p14 p15 p16 : Nat) : va_W := [(p7, .inr (1, [.ref p10, .ref p8, .ref p9, .int (nI 0), .int (nI 0), .int (nI 0)])), (p8, .inl (X.2 0, 320, .inl (fun _ => 0))), (p9, .inl (X.2 1, 100, .inl (fun _ => 0))), (p10, .inr (3, [.ref p11, .ref p12, .ref p13, .ref p14, .ref p15, .ref p16, .int (nI 0)])), (p11, .inl (X.2 0, 12, .inl (fun _ => 0))), (p12, .inl (X.2 0, 12, .inl (fun _ => 0))), (p13, .inl (X.2 0, 12, .inl (fun _ => 0))), (p14, .inl (X.2 0, 12, .inl (fun _ => 0))), (p15, .inl (X.2 0, 12, .inl (fun _ => 0))), (p16, .inl (X.2 0, 96, .inl (fun _ => 0)))]
def yDs (X : zX) (A : Nat → Nat → Nat) : Nat → va_W
  | 0 => []
  | n + 1 => yDs X A n ++ yDl X (A 4 n) (A 5 n) (A 6 n)
def yHs (X : zX) (A : Nat → Nat → Nat) : Nat → va_W
  | 0 => []
  | n + 1 => yHs X A n ++ yHl X (A 7 n) (A 8 n) (A 9 n) (A 10 n) (A 11 n) (A 12 n) (A 13 n) (A 14 n) (A 15 n) (A 16 n)
theorem yDs_c {X : zX} {A B : Nat → Nat → Nat} : ∀ {n : Nat}, (∀ i, i < n → ∀ k, 4 ≤ k → k < 7 → A k i = B k i) → yDs X A n = yDs X B n
  | 0, _ => rfl
  | n + 1, h => by
    show yDs X A n ++ yDl X (A 4 n) (A 5 n) (A 6 n) = yDs X B n ++ yDl X (B 4 n) (B 5 n) (B 6 n)
    rw [yDs_c (fun i hi => h i (by omega)), h n (by omega) 4 (by omega) (by omega), h n (by omega) 5 (by omega) (by omega), h n (by omega) 6 (by omega) (by omega)]
theorem yHs_c {X : zX} {A B : Nat → Nat → Nat} : ∀ {n : Nat}, (∀ i, i < n → ∀ k, 7 ≤ k → A k i = B k i) → yHs X A n = yHs X B n
  | 0, _ => rfl
  | n + 1, h => by
    show yHs X A n ++ yHl X (A 7 n) (A 8 n) (A 9 n) (A 10 n) (A 11 n) (A 12 n) (A 13 n) (A 14 n) (A 15 n) (A 16 n) = yHs X B n ++ yHl X (B 7 n) (B 8 n) (B 9 n) (B 10 n) (B 11 n) (B 12 n) (B 13 n) (B 14 n) (B 15 n) (B 16 n)
    rw [yHs_c (fun i hi => h i (by omega)), h n (by omega) 7 (by omega), h n (by omega) 8 (by omega), h n (by omega) 9 (by omega), h n (by omega) 10 (by omega), h n (by omega) 11 (by omega), h n (by omega) 12 (by omega), h n (by omega) 13 (by omega), h n (by omega) 14 (by omega), h n (by omega) 15 (by omega), h n (by omega) 16 (by omega)]
theorem yr_0 (f : Nat → Nat) : (fun _ => none : Nat → Option Nat) = fun j => if j < 0 then some (f j) else none := by
  funext j
  rw [if_neg (Nat.not_lt_zero j)]
theorem yr_s (f : Nat → Nat) (n q : Nat) : va_up (fun j => if j < n then some (f j) else none) n (some q) = fun j => if j < n + 1 then some (va_up f n q j) else none := by
  funext j
  by_cases h : j = n
  · subst h
    rw [va_up_self, va_up_self, if_pos (by omega)]
  · rw [va_up_ne _ _ h, va_up_ne _ _ h]
    by_cases h2 : j < n
    · rw [if_pos h2, if_pos (by omega)]
    · rw [if_neg h2, if_neg (by omega)]
def yWC (X : zX) (a : Nat) (A : Nat → Nat → Nat) : va_W := ([(a, .inr (4, [.ref (A 1 0), .ref (A 2 0), .ref (A 3 0), .int (nI 0), .int (nI 1), .int (nI 0), .int (nI 100), .long 0])), ((A 1 0), .inl (X.2 2, 8, .inr (.inr (.inr (.inr (fun j => if j < 8 then some (A 4 j) else none)))))), ((A 2 0), .inl (X.2 3, 6, .inr (.inr (.inr (.inr (fun j => if j < 6 then some (A 7 j) else none)))))), ((A 3 0), .inl (X.2 4, 12, .inr (.inr (.inr (.inr (fun _ => none))))))] ++ yDs X A 8) ++ yHs X A 6
set_option maxRecDepth 20000 in
set_option maxHeartbeats 4000000 in
theorem c_X4_init (l : Launch) (X : zX) (a : Nat) : yC l yX4_init cX4_init 2 3 1100 X true [.ref a] [(a, .inr (4, yfX4))] (fun wl => ∃ A : Nat → Nat → Nat, wl = yWC X a A) := by
  refine yC_of true (fun _ => rfl) zpn_X4 (zcat rfl) (Nat.le_of_ble_eq_true rfl) (fun Y hC hE => ?_)
  refine y_alN hC dX4_init_0 rfl rfl ?_
  refine y_obj hC yob_X4 (by omega) (by decide) dX4_init_1 ?_
  refine y_alN hC dX4_init_4 rfl rfl ?_
  refine y_bipush hC dX4_init_5 zb_8 ?_
  refine y_newq_X0 hC 2 zcc_X4_9 (by decide) (by decide) (by decide) (by omega) dX4_init_7 rfl (fun qd => ?_)
  refine y_eq (wl2 := [(a, .inr (4, [.null, .null, .null, .int 0, .int 0, .int 0, .int 0, .long 0])), (qd, .inl (X.2 2, 8, .inr (.inr (.inr (.inr (fun _ => none))))))]) rfl ?_
  refine y_putF (f := 0) (ty := .array (.object "WhoCalls$Door")) hC 0 rfl rfl zu_X4 tyX4_ok nmX4 (by decide) zf_X4_11 rfl rfl rfl (by decide +kernel) rfl rfl (Nat.le_of_ble_eq_true rfl) dX4_init_10 ?_
  refine y_eq (wl2 := [(a, .inr (4, [.ref qd, .null, .null, .int 0, .int 0, .int 0, .int 0, .long 0])), (qd, .inl (X.2 2, 8, .inr (.inr (.inr (.inr (fun _ => none))))))]) rfl ?_
  refine y_alN hC dX4_init_13 rfl rfl ?_
  refine y_bipush hC dX4_init_14 zb_6 ?_
  refine y_newq_X1 hC 2 zcc_X4_15 (by decide) (by decide) (by decide) (by omega) dX4_init_16 rfl (fun qh => ?_)
  refine y_eq (wl2 := [(a, .inr (4, [.ref qd, .null, .null, .int 0, .int 0, .int 0, .int 0, .long 0])), (qd, .inl (X.2 2, 8, .inr (.inr (.inr (.inr (fun _ => none)))))), (qh, .inl (X.2 3, 6, .inr (.inr (.inr (.inr (fun _ => none))))))]) rfl ?_
  refine y_putF (f := 1) (ty := .array (.object "WhoCalls$House")) hC 0 rfl rfl zu_X4 tyX4_ok nmX4 (by decide) zf_X4_17 rfl rfl rfl (by decide +kernel) rfl rfl (Nat.le_of_ble_eq_true rfl) dX4_init_19 ?_
  refine y_eq (wl2 := [(a, .inr (4, [.ref qd, .ref qh, .null, .int 0, .int 0, .int 0, .int 0, .long 0])), (qd, .inl (X.2 2, 8, .inr (.inr (.inr (.inr (fun _ => none)))))), (qh, .inl (X.2 3, 6, .inr (.inr (.inr (.inr (fun _ => none))))))]) rfl ?_
  refine y_alN hC dX4_init_22 rfl rfl ?_
  refine y_bipush hC dX4_init_23 zb_12 ?_
  refine y_newq_X2 hC 3 zcc_X4_21 (by decide) (by decide) (by decide) (by omega) dX4_init_25 rfl (fun qr => ?_)
  refine y_eq (wl2 := [(a, .inr (4, [.ref qd, .ref qh, .null, .int 0, .int 0, .int 0, .int 0, .long 0])), (qd, .inl (X.2 2, 8, .inr (.inr (.inr (.inr (fun _ => none)))))), (qh, .inl (X.2 3, 6, .inr (.inr (.inr (.inr (fun _ => none)))))), (qr, .inl (X.2 4, 12, .inr (.inr (.inr (.inr (fun _ => none))))))]) rfl ?_
  refine y_putF (f := 2) (ty := .array (.object "WhoCalls$Rule")) hC 0 rfl rfl zu_X4 tyX4_ok nmX4 (by decide) zf_X4_23 rfl rfl rfl (by decide +kernel) rfl rfl (Nat.le_of_ble_eq_true rfl) dX4_init_28 ?_
  refine y_eq (wl2 := [(a, .inr (4, [.ref qd, .ref qh, .ref qr, .int 0, .int 0, .int 0, .int 0, .long 0])), (qd, .inl (X.2 2, 8, .inr (.inr (.inr (.inr (fun _ => none)))))), (qh, .inl (X.2 3, 6, .inr (.inr (.inr (.inr (fun _ => none)))))), (qr, .inl (X.2 4, 12, .inr (.inr (.inr (.inr (fun _ => none))))))]) rfl ?_
  refine y_alN hC dX4_init_31 rfl rfl ?_
  refine y_iconst hC dX4_init_32 zi_0 ?_
  refine y_put (f := 3) (ty := .int) hC 0 rfl rfl zu_X4 tyX4_ok nmX4 (by decide) zf_X4_27 rfl (by decide +kernel) rfl rfl (Nat.le_of_ble_eq_true rfl) dX4_init_33 ?_
  refine y_eq (wl2 := [(a, .inr (4, [.ref qd, .ref qh, .ref qr, .int (nI 0), .int 0, .int 0, .int 0, .long 0])), (qd, .inl (X.2 2, 8, .inr (.inr (.inr (.inr (fun _ => none)))))), (qh, .inl (X.2 3, 6, .inr (.inr (.inr (.inr (fun _ => none)))))), (qr, .inl (X.2 4, 12, .inr (.inr (.inr (.inr (fun _ => none))))))]) rfl ?_
  refine y_alN hC dX4_init_36 rfl rfl ?_
  refine y_iconst hC dX4_init_37 zi_1 ?_
  refine y_put (f := 4) (ty := .int) hC 0 rfl rfl zu_X4 tyX4_ok nmX4 (by decide) zf_X4_31 rfl (by decide +kernel) rfl rfl (Nat.le_of_ble_eq_true rfl) dX4_init_38 ?_
  refine y_eq (wl2 := [(a, .inr (4, [.ref qd, .ref qh, .ref qr, .int (nI 0), .int (nI 1), .int 0, .int 0, .long 0])), (qd, .inl (X.2 2, 8, .inr (.inr (.inr (.inr (fun _ => none)))))), (qh, .inl (X.2 3, 6, .inr (.inr (.inr (.inr (fun _ => none)))))), (qr, .inl (X.2 4, 12, .inr (.inr (.inr (.inr (fun _ => none))))))]) rfl ?_
  refine y_alN hC dX4_init_41 rfl rfl ?_
  refine y_iconst hC dX4_init_42 zi_0 ?_
  refine y_put (f := 5) (ty := .int) hC 0 rfl rfl zu_X4 tyX4_ok nmX4 (by decide) zf_X4_34 rfl (by decide +kernel) rfl rfl (Nat.le_of_ble_eq_true rfl) dX4_init_43 ?_
  refine y_eq (wl2 := [(a, .inr (4, [.ref qd, .ref qh, .ref qr, .int (nI 0), .int (nI 1), .int (nI 0), .int 0, .long 0])), (qd, .inl (X.2 2, 8, .inr (.inr (.inr (.inr (fun _ => none)))))), (qh, .inl (X.2 3, 6, .inr (.inr (.inr (.inr (fun _ => none)))))), (qr, .inl (X.2 4, 12, .inr (.inr (.inr (.inr (fun _ => none))))))]) rfl ?_
  refine y_alN hC dX4_init_46 rfl rfl ?_
  refine y_bipush hC dX4_init_47 zb_100 ?_
  refine y_put (f := 6) (ty := .int) hC 0 rfl rfl zu_X4 tyX4_ok nmX4 (by decide) zf_X4_37 rfl (by decide +kernel) rfl rfl (Nat.le_of_ble_eq_true rfl) dX4_init_49 ?_
  refine y_eq (wl2 := [(a, .inr (4, [.ref qd, .ref qh, .ref qr, .int (nI 0), .int (nI 1), .int (nI 0), .int (nI 100), .long 0])), (qd, .inl (X.2 2, 8, .inr (.inr (.inr (.inr (fun _ => none)))))), (qh, .inl (X.2 3, 6, .inr (.inr (.inr (.inr (fun _ => none)))))), (qr, .inl (X.2 4, 12, .inr (.inr (.inr (.inr (fun _ => none))))))]) rfl ?_
  refine y_alN hC dX4_init_52 rfl rfl ?_
  refine y_lconst hC dX4_init_53 zl_0 ?_
  refine y_put (f := 7) (ty := .long) hC 0 rfl rfl zu_X4 tyX4_ok nmX4 (by decide) zf_X4_40 rfl (by decide +kernel) rfl rfl (Nat.le_of_ble_eq_true rfl) dX4_init_54 ?_
  refine y_eq (wl2 := [(a, .inr (4, [.ref qd, .ref qh, .ref qr, .int (nI 0), .int (nI 1), .int (nI 0), .int (nI 100), .long 0])), (qd, .inl (X.2 2, 8, .inr (.inr (.inr (.inr (fun _ => none)))))), (qh, .inl (X.2 3, 6, .inr (.inr (.inr (.inr (fun _ => none)))))), (qr, .inl (X.2 4, 12, .inr (.inr (.inr (.inr (fun _ => none))))))]) rfl ?_
  refine y_iconst hC dX4_init_57 zi_0 ?_
  refine y_isN hC dX4_init_58 rfl (by decide) ?_
  have loop1 := z_loop (N := 8) (fun n => ∀ A : Nat → Nat → Nat, Y (7 + 14 * n) ([(a, .inr (4, [.ref qd, .ref qh, .ref qr, .int (nI 0), .int (nI 1), .int (nI 0), .int (nI 100), .long 0])), (qd, .inl (X.2 2, 8, .inr (.inr (.inr (.inr (fun j => if j < n then some (A 4 j) else none)))))), (qh, .inl (X.2 3, 6, .inr (.inr (.inr (.inr (fun _ => none)))))), (qr, .inl (X.2 4, 12, .inr (.inr (.inr (.inr (fun _ => none))))))] ++ yDs X A n) 59 [some (.ref a), some (.int (nI n))] []) ?_ ?_ 0 (Nat.zero_le 8)
  · refine y_eq ?_ (loop1 (fun _ _ => 0))
    exact congrArg (fun g : Nat → Option Nat => ([(a, .inr (4, [.ref qd, .ref qh, .ref qr, .int (nI 0), .int (nI 1), .int (nI 0), .int (nI 100), .long 0])), (qd, .inl (X.2 2, 8, .inr (.inr (.inr (.inr (g)))))), (qh, .inl (X.2 3, 6, .inr (.inr (.inr (.inr (fun _ => none)))))), (qr, .inl (X.2 4, 12, .inr (.inr (.inr (.inr (fun _ => none))))))] : va_W)) (yr_0 (fun _ => 0))
  · intro A
    refine y_ilN hC dX4_init_59 rfl rfl ?_
    refine y_bipush hC dX4_init_60 zb_8 ?_
    refine y_icmp_ge hC 84 dX4_init_62 rfl (fun _ => ?_) (fun h => absurd (Int32.le_refl _) h)
    refine y_iconst hC dX4_init_84 zi_0 ?_
    refine y_isN hC dX4_init_85 rfl (by decide) ?_
    have loop2 := z_loop (N := 6) (fun n => ∀ B : Nat → Nat → Nat, Y (119 + 162 * n) (([(a, .inr (4, [.ref qd, .ref qh, .ref qr, .int (nI 0), .int (nI 1), .int (nI 0), .int (nI 100), .long 0])), (qd, .inl (X.2 2, 8, .inr (.inr (.inr (.inr (fun j => if j < 8 then some (A 4 j) else none)))))), (qh, .inl (X.2 3, 6, .inr (.inr (.inr (.inr (fun j => if j < n then some (B 7 j) else none)))))), (qr, .inl (X.2 4, 12, .inr (.inr (.inr (.inr (fun _ => none))))))] ++ yDs X A 8) ++ yHs X B n) 86 [some (.ref a), some (.int (nI n))] []) ?_ ?_ 0 (Nat.zero_le 6)
    · refine y_eq ?_ (loop2 (fun _ _ => 0))
      have e0 : (([(a, .inr (4, [.ref qd, .ref qh, .ref qr, .int (nI 0), .int (nI 1), .int (nI 0), .int (nI 100), .long 0])), (qd, .inl (X.2 2, 8, .inr (.inr (.inr (.inr (fun j => if j < 8 then some (A 4 j) else none)))))), (qh, .inl (X.2 3, 6, .inr (.inr (.inr (.inr (fun _ => none)))))), (qr, .inl (X.2 4, 12, .inr (.inr (.inr (.inr (fun _ => none))))))] ++ yDs X A 8) ++ [] : va_W) = ([(a, .inr (4, [.ref qd, .ref qh, .ref qr, .int (nI 0), .int (nI 1), .int (nI 0), .int (nI 100), .long 0])), (qd, .inl (X.2 2, 8, .inr (.inr (.inr (.inr (fun j => if j < 8 then some (A 4 j) else none)))))), (qh, .inl (X.2 3, 6, .inr (.inr (.inr (.inr (fun j => if j < 0 then some ((fun _ _ => 0 : Nat → Nat → Nat) 7 j) else none)))))), (qr, .inl (X.2 4, 12, .inr (.inr (.inr (.inr (fun _ => none))))))] ++ yDs X A 8) ++ [] := congrArg (fun g : Nat → Option Nat => ((([(a, .inr (4, [.ref qd, .ref qh, .ref qr, .int (nI 0), .int (nI 1), .int (nI 0), .int (nI 100), .long 0])), (qd, .inl (X.2 2, 8, .inr (.inr (.inr (.inr (fun j => if j < 8 then some (A 4 j) else none)))))), (qh, .inl (X.2 3, 6, .inr (.inr (.inr (.inr (g)))))), (qr, .inl (X.2 4, 12, .inr (.inr (.inr (.inr (fun _ => none))))))]) ++ yDs X A 8) ++ [] : va_W)) (yr_0 (fun _ => 0))
      rw [List.append_nil] at e0
      exact e0
    · intro B
      refine y_ilN hC dX4_init_86 rfl rfl ?_
      refine y_bipush hC dX4_init_87 zb_6 ?_
      refine y_icmp_ge hC 111 dX4_init_89 rfl (fun _ => ?_) (fun h => absurd (Int32.le_refl _) h)
      refine hE _ _ 111 _ (by omega) dX4_init_111 ⟨fun k i => if k = 0 then a else if k = 1 then qd else if k = 2 then qh else if k = 3 then qr else if k < 7 then A k i else B k i, ?_⟩
      unfold yWC
      rw [yDs_c (A := A) (B := fun k i => if k = 0 then a else if k = 1 then qd else if k = 2 then qh else if k = 3 then qr else if k < 7 then A k i else B k i) ?_, yHs_c (A := B) (B := fun k i => if k = 0 then a else if k = 1 then qd else if k = 2 then qh else if k = 3 then qr else if k < 7 then A k i else B k i) ?_]
      · rfl
      · intro i hi k hk
        show B k i = if k = 0 then a else if k = 1 then qd else if k = 2 then qh else if k = 3 then qr else if k < 7 then A k i else B k i
        rw [if_neg (by omega), if_neg (by omega), if_neg (by omega), if_neg (by omega), if_neg (by omega)]
      · intro i hi k hk hk2
        show A k i = if k = 0 then a else if k = 1 then qd else if k = 2 then qh else if k = 3 then qr else if k < 7 then A k i else B k i
        rw [if_neg (by omega), if_neg (by omega), if_neg (by omega), if_neg (by omega), if_pos hk2]
    · intro n hn ih B
      refine y_ilN hC dX4_init_86 rfl rfl ?_
      refine y_bipush hC dX4_init_87 zb_6 ?_
      refine y_icmp_ge hC 111 dX4_init_89 rfl (fun h => absurd h (nI_ge hn (by decide))) (fun _ => ?_)
      refine y_alN hC dX4_init_92 rfl rfl ?_
      refine y_get (f := 1) hC 0 rfl rfl zu_X4 (by decide) zf_X4_17 rfl dX4_init_93 ?_
      refine y_ilN hC dX4_init_96 rfl rfl ?_
      refine y_new (ci := 1) hC 2 (fs := yfX1) rfl zu_X1 tyX1_ok zcc_X4_15 zins_X1 zini_X1 yfX1_ok (by decide) (by decide) (by omega) dX4_init_97 (fun q => ?_)
      refine y_dup hC dX4_init_100 rfl ?_
      refine y_callIN (w := 119 + 162 * n + 2) hC (As := []) (r := q) (st := [.ref q, .int (nI n), .ref qh]) (wr := ([(a, .inr (4, [.ref qd, .ref qh, .ref qr, .int (nI 0), .int (nI 1), .int (nI 0), .int (nI 100), .long 0])), (qd, .inl (X.2 2, 8, .inr (.inr (.inr (.inr (fun j => if j < 8 then some (A 4 j) else none)))))), (qh, .inl (X.2 3, 6, .inr (.inr (.inr (.inr (fun j => if j < n then some (B 7 j) else none)))))), (qr, .inl (X.2 4, 12, .inr (.inr (.inr (.inr (fun _ => none))))))] ++ yDs X A 8) ++ yHs X B n) (wc := [(q, .inr (1, yfX1))]) (c_X1_init l X q) zm_X1_init (by omega) (by decide) (by omega) (Nat.le_of_ble_eq_true rfl) rfl (fun h => absurd h (by decide)) zi_X1_init zkn_X4_45 dX4_init_101 (fun wl2 h => ?_)
      obtain ⟨q1, q2, q3, q4, q5, q6, q7, q8, q9, rfl⟩ := h
      obtain ⟨qk, hqk⟩ := List.getElem?_of_mem (List.mem_append_right (([(a, .inr (4, [.ref qd, .ref qh, .ref qr, .int (nI 0), .int (nI 1), .int (nI 0), .int (nI 100), .long 0])), (qd, .inl (X.2 2, 8, .inr (.inr (.inr (.inr (fun j => if j < 8 then some (A 4 j) else none)))))), (qh, .inl (X.2 3, 6, .inr (.inr (.inr (.inr (fun j => if j < n then some (B 7 j) else none)))))), (qr, .inl (X.2 4, 12, .inr (.inr (.inr (.inr (fun _ => none))))))] ++ yDs X A 8) ++ yHs X B n) (List.mem_cons_self (a := (q, (.inr (1, [.ref q1, .ref q8, .ref q9, .int (nI 0), .int (nI 0), .int (nI 0)]) : va_E))) (l := (yHl X q q8 q9 q1 q2 q3 q4 q5 q6 q7).drop 1)))
      refine y_aast hC 2 3 qk rfl rfl hqk rfl hn (by decide) dX4_init_104 ?_
      refine y_iinc hC dX4_init_105 rfl (nI_succ n).symm (by decide) ?_
      refine y_goto hC 86 dX4_init_108 rfl ?_
      refine y_widen hC (w2 := 119 + 162 * (n + 1)) (by omega) ?_
      obtain ⟨B2, hB2⟩ : ∃ B2 : Nat → Nat → Nat, B2 = fun k i => if i = n then (if k = 7 then q else if k = 8 then q8 else if k = 9 then q9 else if k = 10 then q1 else if k = 11 then q2 else if k = 12 then q3 else if k = 13 then q4 else if k = 14 then q5 else if k = 15 then q6 else if k = 16 then q7 else B k i) else B k i := ⟨_, rfl⟩
      have b7 : B2 7 n = q := by rw [hB2]; exact if_pos rfl
      have b8 : B2 8 n = q8 := by rw [hB2]; exact if_pos rfl
      have b9 : B2 9 n = q9 := by rw [hB2]; exact if_pos rfl
      have b10 : B2 10 n = q1 := by rw [hB2]; exact if_pos rfl
      have b11 : B2 11 n = q2 := by rw [hB2]; exact if_pos rfl
      have b12 : B2 12 n = q3 := by rw [hB2]; exact if_pos rfl
      have b13 : B2 13 n = q4 := by rw [hB2]; exact if_pos rfl
      have b14 : B2 14 n = q5 := by rw [hB2]; exact if_pos rfl
      have b15 : B2 15 n = q6 := by rw [hB2]; exact if_pos rfl
      have b16 : B2 16 n = q7 := by rw [hB2]; exact if_pos rfl
      have e1 : yHs X B2 (n + 1) = yHs X B n ++ yHl X q q8 q9 q1 q2 q3 q4 q5 q6 q7 := by
        show yHs X B2 n ++ yHl X (B2 7 n) (B2 8 n) (B2 9 n) (B2 10 n) (B2 11 n) (B2 12 n) (B2 13 n) (B2 14 n) (B2 15 n) (B2 16 n) = _
        rw [b7, b8, b9, b10, b11, b12, b13, b14, b15, b16, yHs_c (A := B2) (B := B) (fun i hi k _ => by rw [hB2]; exact if_neg (by omega))]
      have e2 : va_up (fun j => if j < n then some (B 7 j) else none) n (some q) = fun j => if j < n + 1 then some (B2 7 j) else none := by
        rw [hB2]
        exact yr_s (B 7) n q
      refine y_eq ?_ (ih B2)
      rw [e1, ← e2]
      exact List.append_assoc ([(a, .inr (4, [.ref qd, .ref qh, .ref qr, .int (nI 0), .int (nI 1), .int (nI 0), .int (nI 100), .long 0])), (qd, .inl (X.2 2, 8, .inr (.inr (.inr (.inr (fun j => if j < 8 then some (A 4 j) else none)))))), (qh, .inl (X.2 3, 6, .inr (.inr (.inr (.inr (va_up (fun j => if j < n then some (B 7 j) else none) n (some q))))))), (qr, .inl (X.2 4, 12, .inr (.inr (.inr (.inr (fun _ => none))))))] ++ yDs X A 8) (yHs X B n) (yHl X q q8 q9 q1 q2 q3 q4 q5 q6 q7)
  · intro n hn ih A
    refine y_ilN hC dX4_init_59 rfl rfl ?_
    refine y_bipush hC dX4_init_60 zb_8 ?_
    refine y_icmp_ge hC 84 dX4_init_62 rfl (fun h => absurd h (nI_ge hn (by decide))) (fun _ => ?_)
    refine y_alN hC dX4_init_65 rfl rfl ?_
    refine y_get (f := 0) hC 0 rfl rfl zu_X4 (by decide) zf_X4_11 rfl dX4_init_66 ?_
    refine y_ilN hC dX4_init_69 rfl rfl ?_
    refine y_new (ci := 0) hC 2 (fs := yfX0) rfl zu_X0 tyX0_ok zcc_X4_9 zins_X0 zini_X0 yfX0_ok (by decide) (by decide) (by omega) dX4_init_70 (fun q => ?_)
    refine y_dup hC dX4_init_73 rfl ?_
    refine y_callIN (w := 7 + 14 * n + 2) hC (As := []) (r := q) (st := [.ref q, .int (nI n), .ref qd]) (wr := [(a, .inr (4, [.ref qd, .ref qh, .ref qr, .int (nI 0), .int (nI 1), .int (nI 0), .int (nI 100), .long 0])), (qd, .inl (X.2 2, 8, .inr (.inr (.inr (.inr (fun j => if j < n then some (A 4 j) else none)))))), (qh, .inl (X.2 3, 6, .inr (.inr (.inr (.inr (fun _ => none)))))), (qr, .inl (X.2 4, 12, .inr (.inr (.inr (.inr (fun _ => none))))))] ++ yDs X A n) (wc := [(q, .inr (0, yfX0))]) (c_X0_init l X q) zm_X0_init (by omega) (by decide) (by omega) (Nat.le_of_ble_eq_true rfl) rfl (fun h => absurd h (by decide)) zi_X0_init zkn_X4_44 dX4_init_74 (fun wl2 h => ?_)
    obtain ⟨q1, q2, rfl⟩ := h
    obtain ⟨qk, hqk⟩ := List.getElem?_of_mem (List.mem_append_right ([(a, .inr (4, [.ref qd, .ref qh, .ref qr, .int (nI 0), .int (nI 1), .int (nI 0), .int (nI 100), .long 0])), (qd, .inl (X.2 2, 8, .inr (.inr (.inr (.inr (fun j => if j < n then some (A 4 j) else none)))))), (qh, .inl (X.2 3, 6, .inr (.inr (.inr (.inr (fun _ => none)))))), (qr, .inl (X.2 4, 12, .inr (.inr (.inr (.inr (fun _ => none))))))] ++ yDs X A n) (List.mem_cons_self (a := (q, (.inr (0, [.ref q1, .ref q2, .int (-9), .int (nI 0), .int (nI 0)]) : va_E))) (l := (yDl X q q1 q2).drop 1)))
    refine y_aast hC 1 2 qk rfl rfl hqk rfl hn (by decide) dX4_init_77 ?_
    refine y_iinc hC dX4_init_78 rfl (nI_succ n).symm (by decide) ?_
    refine y_goto hC 59 dX4_init_81 rfl ?_
    refine y_widen hC (w2 := 7 + 14 * (n + 1)) (by omega) ?_
    obtain ⟨A2, hA2⟩ : ∃ A2 : Nat → Nat → Nat, A2 = fun k i => if i = n then (if k = 4 then q else if k = 5 then q1 else if k = 6 then q2 else A k i) else A k i := ⟨_, rfl⟩
    have b4 : A2 4 n = q := by rw [hA2]; exact if_pos rfl
    have b5 : A2 5 n = q1 := by rw [hA2]; exact if_pos rfl
    have b6 : A2 6 n = q2 := by rw [hA2]; exact if_pos rfl
    have e1 : yDs X A2 (n + 1) = yDs X A n ++ yDl X q q1 q2 := by
      show yDs X A2 n ++ yDl X (A2 4 n) (A2 5 n) (A2 6 n) = _
      rw [b4, b5, b6, yDs_c (A := A2) (B := A) (fun i hi k _ _ => by rw [hA2]; exact if_neg (by omega))]
    have e2 : va_up (fun j => if j < n then some (A 4 j) else none) n (some q) = fun j => if j < n + 1 then some (A2 4 j) else none := by
      rw [hA2]
      exact yr_s (A 4) n q
    refine y_eq ?_ (ih A2)
    rw [e1, ← e2]
    exact List.append_assoc [(a, .inr (4, [.ref qd, .ref qh, .ref qr, .int (nI 0), .int (nI 1), .int (nI 0), .int (nI 100), .long 0])), (qd, .inl (X.2 2, 8, .inr (.inr (.inr (.inr (va_up (fun j => if j < n then some (A 4 j) else none) n (some q))))))), (qh, .inl (X.2 3, 6, .inr (.inr (.inr (.inr (fun _ => none)))))), (qr, .inl (X.2 4, 12, .inr (.inr (.inr (.inr (fun _ => none))))))] (yDs X A n) (yDl X q q1 q2)

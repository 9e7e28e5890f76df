/-! the law's loop -/
section LL
variable {l : Launch} {X : zX} {bud : Nat} {Z : zZ} {b L : Nat} {xs : Nat → Int32}
def lSlen (b L : Nat) (Z : zZ) : Prop := ∀ (w : Nat) (G : zG) (pc : Nat) (lv : List (Option Value)) (st : List Value), decode cL_law pc = .ok (.arraylength, 1) → Z w G (pc + 1) lv (.int (nI L) :: st) → Z w G pc lv (.ref b :: st)
def lEnd (bud : Nat) (Z : zZ) : Prop := ∀ (w : Nat) (G : zG) (pc : Nat) (lv : List (Option Value)), w ≤ bud → decode cL_law pc = .ok (.ireturn, 1) → Z w G pc lv [.int 1]
theorem lLt : ∀ L, L < 6 → nI L - nI 6 < 0 := by decide +kernel
theorem zi_6 : Int32.ofInt 6 = nI 6 := by decide +kernel
set_option maxHeartbeats 4000000 in
theorem w_loop (hC : zCtx l X cL_law RL 4 20 bud Z) (hS : lSld b L xs Z) (hN : lSlen b L Z) (hE : lEnd bud Z) (hL : L ≤ 3072) (hb : 4000 ≤ bud) : ∀ (n i w : Nat) (G : zG), i ≤ L → L + 1 ≤ i + n → w ≤ i → zRR G → Z w G 18 [some (.ref b), some (.ref (za G 0 0)), some (.ref (za G 20 0)), some (.int (nI i))] []
  | 0, i, w, G, h1, h2, _, _ => by omega
  | n + 1, i, w, G, hi, hn, hw, hR => by
    have ih := w_loop hC hS hN hE hL hb n
    obtain ⟨vc, rc, td, h⟩ := hR
    refine z_il3 hC dL_law_18 ?_
    refine z_al0 hC dL_law_19 ?_
    refine hN _ _ _ _ _ dL_law_20 ?_
    refine z_bipush hC dL_law_21 zb_6 ?_
    refine z_isub hC dL_law_23 ?_
    by_cases h6 : i + 6 ≤ L
    · refine z_top (pk_sub (by omega) : nI L - nI 6 = nI (L - 6)) ?_
      refine z_icmp_gt hC 1322 dL_law_24 rfl (fun hx => ?_) (fun _ => ?_)
      · rw [nI_ltI (by omega) (by omega)] at hx
        omega
      · refine z_al0 hC dL_law_27 ?_
        refine z_il3 hC dL_law_28 ?_
        refine hS _ _ _ _ _ i (by omega) dL_law_29 ?_
        refine z_bipush hC dL_law_30 zb_31 ?_
        refine z_iand hC dL_law_32 ?_
        obtain ⟨z, hz, ez⟩ := and31 (xs i)
        refine z_top ez ?_
        have kk : lKK b i bud w G Z := by
          intro w2 K hw1 hw2 hK hA
          refine z_iinc hC dL_law_1316 rfl (show nI i + Int32.ofInt 6 = nI (i + 6) by rw [zi_6, nI_add]) (by decide) ?_
          refine z_goto hC 18 dL_law_1319 rfl ?_
          have key := ih (i + 6) w2 K (by omega) (by omega) (by omega) hK
          rw [hA.1, hA.2] at key
          exact key
        have hc : z = 0 ∨ z = 1 ∨ z = 2 ∨ z = 3 ∨ z = 4 ∨ z = 5 ∨ z = 6 ∨ z = 7 ∨ z = 8 ∨ z = 9 ∨ z = 10 ∨ z = 11 ∨ z = 12 ∨ z = 13 ∨ z = 14 ∨ z = 15 ∨ z = 16 ∨ z = 17 ∨ z = 18 ∨ z = 19 ∨ z = 20 ∨ z = 21 ∨ z = 22 ∨ z = 23 ∨ z = 24 ∨ z = 25 ∨ z = 26 ∨ z = 27 ∨ z = 28 ∨ z = 29 ∨ z = 30 ∨ z = 31 := by omega
        rcases hc with rfl | rfl | rfl | rfl | rfl | rfl | rfl | rfl | rfl | rfl | rfl | rfl | rfl | rfl | rfl | rfl | rfl | rfl | rfl | rfl | rfl | rfl | rfl | rfl | rfl | rfl | rfl | rfl | rfl | rfl | rfl | rfl
        · refine z_tabIn (off := 139) hC 172 dL_law_33 (by decide +kernel) (by decide +kernel) (by decide +kernel) rfl ?_
          exact w_version hC hS h6 (by omega) h kk
        · refine z_tabIn (off := 152) hC 185 dL_law_33 (by decide +kernel) (by decide +kernel) (by decide +kernel) rfl ?_
          exact w_answer hC hS h6 (by omega) h kk
        · refine z_tabIn (off := 205) hC 238 dL_law_33 (by decide +kernel) (by decide +kernel) (by decide +kernel) rfl ?_
          exact w_differ hC hS h6 (by omega) h kk
        · refine z_tabIn (off := 248) hC 281 dL_law_33 (by decide +kernel) (by decide +kernel) (by decide +kernel) rfl ?_
          exact w_goes hC hS h6 (by omega) h kk
        · refine z_tabIn (off := 281) hC 314 dL_law_33 (by decide +kernel) (by decide +kernel) (by decide +kernel) rfl ?_
          exact w_call hC hS h6 (by omega) h kk
        · refine z_tabIn (off := 324) hC 357 dL_law_33 (by decide +kernel) (by decide +kernel) (by decide +kernel) rfl ?_
          exact w_wrap hC hS h6 (by omega) h kk
        · refine z_tabIn (off := 377) hC 410 dL_law_33 (by decide +kernel) (by decide +kernel) (by decide +kernel) rfl ?_
          exact w_split hC hS h6 (by omega) h kk
        · refine z_tabIn (off := 440) hC 473 dL_law_33 (by decide +kernel) (by decide +kernel) (by decide +kernel) rfl ?_
          exact w_clear hC hS h6 (by omega) h kk
        · refine z_tabIn (off := 463) hC 496 dL_law_33 (by decide +kernel) (by decide +kernel) (by decide +kernel) rfl ?_
          exact w_sees hC hS h6 (by omega) h kk
        · refine z_tabIn (off := 506) hC 539 dL_law_33 (by decide +kernel) (by decide +kernel) (by decide +kernel) rfl ?_
          exact w_uses hC hS h6 (by omega) h kk
        · refine z_tabIn (off := 539) hC 572 dL_law_33 (by decide +kernel) (by decide +kernel) (by decide +kernel) rfl ?_
          exact w_shape hC hS h6 (by omega) h kk
        · refine z_tabIn (off := 572) hC 605 dL_law_33 (by decide +kernel) (by decide +kernel) (by decide +kernel) rfl ?_
          exact w_count hC hS h6 (by omega) h kk
        · refine z_tabIn (off := 635) hC 668 dL_law_33 (by decide +kernel) (by decide +kernel) (by decide +kernel) rfl ?_
          exact w_sum hC hS h6 (by omega) h kk
        · refine z_tabIn (off := 688) hC 721 dL_law_33 (by decide +kernel) (by decide +kernel) (by decide +kernel) rfl ?_
          exact w_silent hC hS h6 (by omega) h kk
        · refine z_tabIn (off := 711) hC 744 dL_law_33 (by decide +kernel) (by decide +kernel) (by decide +kernel) rfl ?_
          exact w_most hC hS h6 (by omega) h kk
        · refine z_tabIn (off := 754) hC 787 dL_law_33 (by decide +kernel) (by decide +kernel) (by decide +kernel) rfl ?_
          exact w_harm hC hS h6 (by omega) h kk
        · refine z_tabIn (off := 797) hC 830 dL_law_33 (by decide +kernel) (by decide +kernel) (by decide +kernel) rfl ?_
          exact w_rule hC hS h6 (by omega) h kk
        · refine z_tabIn (off := 850) hC 883 dL_law_33 (by decide +kernel) (by decide +kernel) (by decide +kernel) rfl ?_
          exact w_holds hC hS h6 (by omega) h kk
        · refine z_tabIn (off := 893) hC 926 dL_law_33 (by decide +kernel) (by decide +kernel) (by decide +kernel) rfl ?_
          exact w_clash hC hS h6 (by omega) h kk
        · refine z_tabIn (off := 926) hC 959 dL_law_33 (by decide +kernel) (by decide +kernel) (by decide +kernel) rfl ?_
          exact w_left hC hS h6 (by omega) h kk
        · refine z_tabIn (off := 969) hC 1002 dL_law_33 (by decide +kernel) (by decide +kernel) (by decide +kernel) rfl ?_
          exact w_days hC hS h6 (by omega) h kk
        · refine z_tabIn (off := 992) hC 1025 dL_law_33 (by decide +kernel) (by decide +kernel) (by decide +kernel) rfl ?_
          exact w_promise hC hS h6 (by omega) h kk
        · refine z_tabIn (off := 1035) hC 1068 dL_law_33 (by decide +kernel) (by decide +kernel) (by decide +kernel) rfl ?_
          exact w_shut hC hS h6 (by omega) h kk
        · refine z_tabIn (off := 1068) hC 1101 dL_law_33 (by decide +kernel) (by decide +kernel) (by decide +kernel) rfl ?_
          exact w_open hC hS h6 (by omega) h kk
        · refine z_tabIn (off := 1091) hC 1124 dL_law_33 (by decide +kernel) (by decide +kernel) (by decide +kernel) rfl ?_
          exact w_about hC hS h6 (by omega) h kk
        · refine z_tabIn (off := 1124) hC 1157 dL_law_33 (by decide +kernel) (by decide +kernel) (by decide +kernel) rfl ?_
          exact w_harmed hC hS h6 (by omega) h kk
        · refine z_tabIn (off := 1157) hC 1190 dL_law_33 (by decide +kernel) (by decide +kernel) (by decide +kernel) rfl ?_
          exact w_ready hC hS h6 (by omega) h kk
        · refine z_tabIn (off := 1180) hC 1213 dL_law_33 (by decide +kernel) (by decide +kernel) (by decide +kernel) rfl ?_
          exact w_set hC hS h6 (by omega) h kk
        · refine z_tabIn (off := 1223) hC 1256 dL_law_33 (by decide +kernel) (by decide +kernel) (by decide +kernel) rfl ?_
          exact w_plan hC hS h6 (by omega) h kk
        · refine z_tabIn (off := 1246) hC 1279 dL_law_33 (by decide +kernel) (by decide +kernel) (by decide +kernel) rfl ?_
          exact w_told hC hS h6 (by omega) h kk
        · refine z_tabIn (off := 1269) hC 1302 dL_law_33 (by decide +kernel) (by decide +kernel) (by decide +kernel) rfl ?_
          exact w_trace hC hS h6 (by omega) h kk
        · refine z_tabOut hC 1316 dL_law_33 (Or.inr (by decide +kernel)) rfl ?_
          exact kk w G (Nat.le_refl w) (by omega) ⟨vc, rc, td, h⟩ ⟨rfl, rfl⟩
    · refine z_icmp_gt hC 1322 dL_law_24 rfl (fun _ => ?_) (fun hx => ?_)
      · refine z_iconst hC dL_law_1322 (by decide : Int32.ofInt 1 = 1) ?_
        exact hE _ _ 1323 _ (by omega) dL_law_1323
      · refine absurd ?_ hx
        by_cases h7 : 6 ≤ L
        · rw [pk_sub h7, nI_ltI (by omega) (by omega)]
          omega
        · exact Int32.lt_of_lt_of_le (lLt L (by omega)) (nI_pos' (by omega))
end LL

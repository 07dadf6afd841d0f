/-! what the law asks of a bench: each answer is as it should be -/
def rm_L_bench : Room := { frames := 7, cells := 500, slots := 3000, locals := 155 }
theorem mi_L_bench : kM yL_bench wsL_bench cL_bench 8 (some .boolean) 1 := ⟨⟨_, rfl⟩, by decide, by decide, by decide +kernel⟩
theorem in_step {u : BS} : f_isInStep u = true ↔ (¬ f_going u < 2 ∧ ¬ u 10 0 < f_greatestDistance u) := by
  unfold f_isInStep
  by_cases h1 : f_going u < 2
  · rw [if_pos h1]; exact ⟨fun h => (by cases h), fun h => absurd h1 h.1⟩
  · rw [if_neg h1]
    by_cases h2 : u 10 0 < f_greatestDistance u
    · rw [if_pos h2]; exact ⟨fun h => (by cases h), fun h => absurd h2 h.2⟩
    · rw [if_neg h2]; exact ⟨fun _ => ⟨h1, h2⟩, fun _ => rfl⟩
section BEN
variable {p : Program} {l : Launch} {e : Env} {s : State} {m : MethodId} {args : Array Value} {below : List Frame} {meth : Method} {c : Code} {dC : Nat → ClassId} {dI : Nat → Nat → Nat} {A0 : Nat → Prop}
  {cI cZ cO : ClassId} {A : Nat → Nat} {Qq : Nat → Nat → Nat} {fl : Nat → Int32} {un ut u0 u1 : BS} {sv : SS} {x r : BS} {n : Nat} {H : Heap} {locs : List Loc} {ls : Array Slot} {cells slots : Nat}
set_option maxRecDepth 100000 in
theorem bench_597 (C : RC p l m c cL_bench 8 s args wsL_bench (dC, dI) cI cZ cO A0) (hr : meth.sig.returnType = some .boolean) (hlk : meth.locks = false) (hG : GI n un) (hb9 : (un 11 0).toInt ≤ 100000)  (hc1 : cells ≤ 480) (hc2 : slots ≤ 2880) (hY : DY (dC, dI) (XW cI cZ cO A Qq fl un ut u0 u1 sv x r) A0 s H locs) (hl : lv_has ls 8 [(1, .int (nI n)), (2, .int (nI (cnt (rowU un) n))), (3, .int (s32 (un 4) n)), (4, .int (s32 (un 2) n)), (5, .int (1 : Int32)), (0, .ref (A 0))]) : W p l e rm_L_bench s m args below meth c H locs cells slots (MQ below (kQw (some (.int (bI true))) (dC, dI) vwCl (XW cI cZ cO A Qq fl un ut u0 u1 sv x r) A0) args s 500 3000 A0) (F0 m 597 ls []) := by
  obtain ⟨hx, hb, hml, hown, hts⟩ := id C.1
  have hn := GI_n hG
  have hs9 := (G_springs hG n (Nat.le_refl n)).1
  have hs8 := (G_springs hG n (Nat.le_refl n)).2
  have e0 : (0 : Int32).toInt = 0 := by decide
  have h11 := GI_13 hG
  refine lv_aload_n hx hb dL_bench_597 rfl (lv_at hl 5 rfl) ?_
  refine lv_iconst (v := (2 : Int32)) hx hb dL_bench_598 (by decide) ?_
  refine rd_count (cou2) gL_bench_X4_count C hY hl.1 ⟨Nat.le_of_ble_eq_true rfl, Nat.le_of_ble_eq_true rfl⟩ ⟨by show _ ≤ (500 : Nat); omega, by show _ ≤ (3000 : Nat); omega⟩ (Nat.le_of_ble_eq_true rfl) dL_bench_599 (fun H locs hY => ?_)
  refine lv_if_ne (tgt := 617) hx hb dL_bench_602 (by decide) (fun h0 => ?_) (fun h0 => ?_)
  · have h1 : ¬ un 11 0 ≤ 0 := fun z => h0 (Int32.toInt_inj.mp (by have := ti_le.mp z; omega))
    have hsh : f_shareTogether un = FP.ddiv (FP.i2d (un 13 0)) (FP.i2d (un 11 0)) := by
      unfold f_shareTogether
      rw [if_neg h1]
    refine lv_aload_n hx hb dL_bench_617 rfl (lv_at hl 5 rfl) ?_
    refine rd_share gL_bench_X4_togetherShare C hY hl.1 ⟨Nat.le_of_ble_eq_true rfl, Nat.le_of_ble_eq_true rfl⟩ ⟨by show _ ≤ (500 : Nat); omega, by show _ ≤ (3000 : Nat); omega⟩ (Nat.le_of_ble_eq_true rfl) dL_bench_618 ?_
    refine lv_aload_n hx hb dL_bench_621 rfl (lv_at hl 5 rfl) ?_
    refine lv_bipush (v := (10 : Int32)) hx hb dL_bench_622 (by decide) ?_
    refine rd_count (cou10) gL_bench_X4_count C hY hl.1 ⟨Nat.le_of_ble_eq_true rfl, Nat.le_of_ble_eq_true rfl⟩ ⟨by show _ ≤ (500 : Nat); omega, by show _ ≤ (3000 : Nat); omega⟩ (Nat.le_of_ble_eq_true rfl) dL_bench_624 (fun H locs hY => ?_)
    refine lv_i2d hx hb dL_bench_627 ?_
    refine lv_aload_n hx hb dL_bench_628 rfl (lv_at hl 5 rfl) ?_
    refine lv_iconst (v := (2 : Int32)) hx hb dL_bench_629 (by decide) ?_
    refine rd_count (cou2) gL_bench_X4_count C hY hl.1 ⟨Nat.le_of_ble_eq_true rfl, Nat.le_of_ble_eq_true rfl⟩ ⟨by show _ ≤ (500 : Nat); omega, by show _ ≤ (3000 : Nat); omega⟩ (Nat.le_of_ble_eq_true rfl) dL_bench_630 (fun H locs hY => ?_)
    refine lv_i2d hx hb dL_bench_633 ?_
    refine lv_ddiv hx hb dL_bench_634 (fp_share h0) ?_
    rw [hsh]
    refine lv_dcmp hx hb dL_bench_635 ?_
    refine lv_if_ne (tgt := 648) hx hb dL_bench_636 (by decide) (fun q => absurd (fp_self0 (fp_share h0) _) q) (fun _ => ?_)
    refine lv_iload hx hb dL_bench_639 (lv_at hl 3 rfl) ?_
    refine lv_if_lt (tgt := 648) hx hb dL_bench_641 (by decide) (fun q => absurd q (fun z => by have := ti_lt.mp z; omega)) (fun _ => ?_)
    refine lv_iconst (v := (1 : Int32)) hx hb dL_bench_644 (by decide) ?_
    refine lv_goto (tgt := 649) hx hb dL_bench_645 (by decide) ?_
    refine W.widen (k := 500) (n := 3000) (by omega) (by omega) ?_
    exact kw_z (r := true) (x := true) hx hb hr hlk hY.1 hY.2.2 dL_bench_649 rfl rfl rfl
  · have hsh : f_shareTogether un = FP.dconst0 := by
      unfold f_shareTogether
      rw [if_pos (by rw [h0]; decide)]
    refine lv_aload_n hx hb dL_bench_605 rfl (lv_at hl 5 rfl) ?_
    refine rd_share gL_bench_X4_togetherShare C hY hl.1 ⟨Nat.le_of_ble_eq_true rfl, Nat.le_of_ble_eq_true rfl⟩ ⟨by show _ ≤ (500 : Nat); omega, by show _ ≤ (3000 : Nat); omega⟩ (Nat.le_of_ble_eq_true rfl) dL_bench_606 ?_
    rw [hsh]
    refine lv_dconst0 hx hb dL_bench_609 ?_
    refine lv_dcmp hx hb dL_bench_610 ?_
    refine lv_if_ne (tgt := 648) hx hb dL_bench_611 (by decide) (fun q => absurd (fp_self0 n64_0 _) q) (fun _ => ?_)
    refine lv_goto (tgt := 639) hx hb dL_bench_614 (by decide) ?_
    refine lv_iload hx hb dL_bench_639 (lv_at hl 3 rfl) ?_
    refine lv_if_lt (tgt := 648) hx hb dL_bench_641 (by decide) (fun q => absurd q (fun z => by have := ti_lt.mp z; omega)) (fun _ => ?_)
    refine lv_iconst (v := (1 : Int32)) hx hb dL_bench_644 (by decide) ?_
    refine lv_goto (tgt := 649) hx hb dL_bench_645 (by decide) ?_
    refine W.widen (k := 500) (n := 3000) (by omega) (by omega) ?_
    exact kw_z (r := true) (x := true) hx hb hr hlk hY.1 hY.2.2 dL_bench_649 rfl rfl rfl
set_option maxRecDepth 100000 in
theorem bench_543 (C : RC p l m c cL_bench 8 s args wsL_bench (dC, dI) cI cZ cO A0) (hr : meth.sig.returnType = some .boolean) (hlk : meth.locks = false) (hG : GI n un) (hb9 : (un 11 0).toInt ≤ 100000)  (hc1 : cells ≤ 475) (hc2 : slots ≤ 2850) (hY : DY (dC, dI) (XW cI cZ cO A Qq fl un ut u0 u1 sv x r) A0 s H locs) (hl : lv_has ls 8 [(1, .int (nI n)), (2, .int (nI (cnt (rowU un) n))), (3, .int (s32 (un 4) n)), (4, .int (s32 (un 2) n)), (5, .int (1 : Int32)), (0, .ref (A 0))]) : W p l e rm_L_bench s m args below meth c H locs cells slots (MQ below (kQw (some (.int (bI true))) (dC, dI) vwCl (XW cI cZ cO A Qq fl un ut u0 u1 sv x r) A0) args s 500 3000 A0) (F0 m 543 ls []) := by
  obtain ⟨hx, hb, hml, hown, hts⟩ := id C.1
  have hn := GI_n hG
  have hg := G_going hG
  have hcn := cnt_le (f := rowU un) n
  refine lv_iconst (v := (1 : Int32)) hx hb dL_bench_543 (by decide) ?_
  refine lv_goto (tgt := 548) hx hb dL_bench_544 (by decide) ?_
  refine lv_istore (lv' := [(5, .int (1 : Int32)), (1, .int (nI n)), (2, .int (nI (cnt (rowU un) n))), (3, .int (s32 (un 4) n)), (4, .int (s32 (un 2) n)), (0, .ref (A 0))]) hx hb dL_bench_548 hl (by decide) rfl (fun ls hl => ?_)
  refine lv_iload hx hb dL_bench_550 (lv_at hl 0 rfl) ?_
  refine lv_if_eq (tgt := 648) hx hb dL_bench_552 (by decide) (fun q => absurd q (by decide)) (fun _ => ?_)
  by_cases hs : f_isInStep un = true
  · have c8 : f_Xcount fl un ut u0 u1 sv x r (8 : Int32) = .ok (1 : Int32) := by rw [cou8, if_pos hs]
    obtain ⟨h1, h2⟩ := in_step.mp hs
    have h3 : 2 ≤ cnt (rowU un) n := by
      rw [hg, show (2 : Int32) = nI 2 from rfl] at h1
      rcases Nat.lt_or_ge (cnt (rowU un) n) 2 with q | q
      · exact absurd (nI_lt q (by omega)) h1
      · exact q
    refine lv_aload_n hx hb dL_bench_555 rfl (lv_at hl 5 rfl) ?_
    refine lv_bipush (v := (8 : Int32)) hx hb dL_bench_556 (by decide) ?_
    refine rd_count (c8) gL_bench_X4_count C hY hl.1 ⟨Nat.le_of_ble_eq_true rfl, Nat.le_of_ble_eq_true rfl⟩ ⟨by show _ ≤ (500 : Nat); omega, by show _ ≤ (3000 : Nat); omega⟩ (Nat.le_of_ble_eq_true rfl) dL_bench_558 (fun H locs hY => ?_)
    refine lv_iconst (v := (1 : Int32)) hx hb dL_bench_561 (by decide) ?_
    refine lv_icmp_ne (tgt := 569) hx hb dL_bench_562 (by decide) (fun q => absurd (rfl) q) (fun _ => ?_)
    refine lv_iconst (v := (1 : Int32)) hx hb dL_bench_565 (by decide) ?_
    refine lv_goto (tgt := 570) hx hb dL_bench_566 (by decide) ?_
    refine lv_iload_n hx hb dL_bench_570 rfl (lv_at hl 2 rfl) ?_
    refine lv_iconst (v := (1 : Int32)) hx hb dL_bench_571 (by decide) ?_
    refine lv_icmp_le (tgt := 593) hx hb dL_bench_572 (by decide) (fun q => absurd q (nI_ge (a := 1) (by omega) (by omega))) (fun _ => ?_)
    refine lv_aload_n hx hb dL_bench_575 rfl (lv_at hl 5 rfl) ?_
    refine lv_bipush (v := (9 : Int32)) hx hb dL_bench_576 (by decide) ?_
    refine rd_count (cou9) gL_bench_X4_count C hY hl.1 ⟨Nat.le_of_ble_eq_true rfl, Nat.le_of_ble_eq_true rfl⟩ ⟨by show _ ≤ (500 : Nat); omega, by show _ ≤ (3000 : Nat); omega⟩ (Nat.le_of_ble_eq_true rfl) dL_bench_578 (fun H locs hY => ?_)
    refine lv_aload_n hx hb dL_bench_581 rfl (lv_at hl 5 rfl) ?_
    refine lv_iconst (v := (2 : Int32)) hx hb dL_bench_582 (by decide) ?_
    refine rd_setting (set2) gL_bench_X4_setting C hY hl.1 ⟨Nat.le_of_ble_eq_true rfl, Nat.le_of_ble_eq_true rfl⟩ ⟨by show _ ≤ (500 : Nat); omega, by show _ ≤ (3000 : Nat); omega⟩ (Nat.le_of_ble_eq_true rfl) dL_bench_583 (fun H locs hY => ?_)
    refine lv_icmp_gt (tgt := 593) hx hb dL_bench_586 (by decide) (fun q => absurd q (h2)) (fun _ => ?_)
    refine lv_iconst (v := (1 : Int32)) hx hb dL_bench_589 (by decide) ?_
    refine lv_goto (tgt := 594) hx hb dL_bench_590 (by decide) ?_
    refine lv_icmp_ne (tgt := 648) hx hb dL_bench_594 (by decide) (fun q => absurd (rfl) q) (fun _ => ?_)
    exact bench_597 C hr hlk hG hb9 (by omega) (by omega) hY (lv_sub hl [1, 2, 3, 4, 0, 5] rfl)
  · have c8 : f_Xcount fl un ut u0 u1 sv x r (8 : Int32) = .ok (0 : Int32) := by rw [cou8, if_neg hs]
    refine lv_aload_n hx hb dL_bench_555 rfl (lv_at hl 5 rfl) ?_
    refine lv_bipush (v := (8 : Int32)) hx hb dL_bench_556 (by decide) ?_
    refine rd_count (c8) gL_bench_X4_count C hY hl.1 ⟨Nat.le_of_ble_eq_true rfl, Nat.le_of_ble_eq_true rfl⟩ ⟨by show _ ≤ (500 : Nat); omega, by show _ ≤ (3000 : Nat); omega⟩ (Nat.le_of_ble_eq_true rfl) dL_bench_558 (fun H locs hY => ?_)
    refine lv_iconst (v := (1 : Int32)) hx hb dL_bench_561 (by decide) ?_
    refine lv_icmp_ne (tgt := 569) hx hb dL_bench_562 (by decide) (fun _ => ?_) (fun q => absurd q (by decide))
    refine lv_iconst (v := (0 : Int32)) hx hb dL_bench_569 (by decide) ?_
    refine lv_iload_n hx hb dL_bench_570 rfl (lv_at hl 2 rfl) ?_
    refine lv_iconst (v := (1 : Int32)) hx hb dL_bench_571 (by decide) ?_
    refine lv_icmp_le (tgt := 593) hx hb dL_bench_572 (by decide) (fun h1 => ?_) (fun h1 => ?_)
    · refine lv_iconst (v := (0 : Int32)) hx hb dL_bench_593 (by decide) ?_
      refine lv_icmp_ne (tgt := 648) hx hb dL_bench_594 (by decide) (fun q => absurd (rfl) q) (fun _ => ?_)
      exact bench_597 C hr hlk hG hb9 (by omega) (by omega) hY (lv_sub hl [1, 2, 3, 4, 0, 5] rfl)
    · have h2 : un 10 0 < f_greatestDistance un := by
        by_cases h9 : un 10 0 < f_greatestDistance un
        · exact h9
        · refine absurd (in_step.mpr ⟨fun z => h1 ?_, h9⟩) hs
          rw [hg, show (2 : Int32) = nI 2 from rfl] at z
          rcases Nat.lt_or_ge (cnt (rowU un) n) 2 with q | q
          · exact nI_le (a := cnt (rowU un) n) (b := 1) (by omega) (by omega)
          · exact absurd z (nI_nlt q (by omega))
      refine lv_aload_n hx hb dL_bench_575 rfl (lv_at hl 5 rfl) ?_
      refine lv_bipush (v := (9 : Int32)) hx hb dL_bench_576 (by decide) ?_
      refine rd_count (cou9) gL_bench_X4_count C hY hl.1 ⟨Nat.le_of_ble_eq_true rfl, Nat.le_of_ble_eq_true rfl⟩ ⟨by show _ ≤ (500 : Nat); omega, by show _ ≤ (3000 : Nat); omega⟩ (Nat.le_of_ble_eq_true rfl) dL_bench_578 (fun H locs hY => ?_)
      refine lv_aload_n hx hb dL_bench_581 rfl (lv_at hl 5 rfl) ?_
      refine lv_iconst (v := (2 : Int32)) hx hb dL_bench_582 (by decide) ?_
      refine rd_setting (set2) gL_bench_X4_setting C hY hl.1 ⟨Nat.le_of_ble_eq_true rfl, Nat.le_of_ble_eq_true rfl⟩ ⟨by show _ ≤ (500 : Nat); omega, by show _ ≤ (3000 : Nat); omega⟩ (Nat.le_of_ble_eq_true rfl) dL_bench_583 (fun H locs hY => ?_)
      refine lv_icmp_gt (tgt := 593) hx hb dL_bench_586 (by decide) (fun _ => ?_) (fun q => absurd (h2) q)
      refine lv_iconst (v := (0 : Int32)) hx hb dL_bench_593 (by decide) ?_
      refine lv_icmp_ne (tgt := 648) hx hb dL_bench_594 (by decide) (fun q => absurd (rfl) q) (fun _ => ?_)
      exact bench_597 C hr hlk hG hb9 (by omega) (by omega) hY (lv_sub hl [1, 2, 3, 4, 0, 5] rfl)
set_option maxRecDepth 100000 in
theorem bench_444 (C : RC p l m c cL_bench 8 s args wsL_bench (dC, dI) cI cZ cO A0) (hr : meth.sig.returnType = some .boolean) (hlk : meth.locks = false) (hG : GI n un) (hb9 : (un 11 0).toInt ≤ 100000)  (hc1 : cells ≤ 460) (hc2 : slots ≤ 2760) (hY : DY (dC, dI) (XW cI cZ cO A Qq fl un ut u0 u1 sv x r) A0 s H locs) (hl : lv_has ls 8 [(1, .int (nI n)), (2, .int (nI (cnt (rowU un) n))), (3, .int (s32 (un 4) n)), (4, .int (s32 (un 2) n)), (5, .int (1 : Int32)), (0, .ref (A 0))]) : W p l e rm_L_bench s m args below meth c H locs cells slots (MQ below (kQw (some (.int (bI true))) (dC, dI) vwCl (XW cI cZ cO A Qq fl un ut u0 u1 sv x r) A0) args s 500 3000 A0) (F0 m 444 ls []) := by
  obtain ⟨hx, hb, hml, hown, hts⟩ := id C.1
  have hn := GI_n hG
  have hg := G_going hG
  have hcn := cnt_le (f := rowU un) n
  have ht := G_ticks hG hb9 (Nat.le_refl n)
  refine lv_aload_n hx hb dL_bench_444 rfl (lv_at hl 5 rfl) ?_
  refine lv_iconst (v := bI false) hx hb dL_bench_445 rfl ?_
  refine rd_far gL_bench_X4_farthest C hY hl.1 ⟨Nat.le_of_ble_eq_true rfl, Nat.le_of_ble_eq_true rfl⟩ ⟨by show _ ≤ (500 : Nat); omega, by show _ ≤ (3000 : Nat); omega⟩ (Nat.le_of_ble_eq_true rfl) dL_bench_446 ?_
  refine lv_istore (lv' := [(6, .int (f_farthestOfGoing un false)), (1, .int (nI n)), (2, .int (nI (cnt (rowU un) n))), (3, .int (s32 (un 4) n)), (4, .int (s32 (un 2) n)), (5, .int (1 : Int32)), (0, .ref (A 0))]) hx hb dL_bench_449 hl (by decide) rfl (fun ls hl => ?_)
  refine lv_aload_n hx hb dL_bench_451 rfl (lv_at hl 6 rfl) ?_
  refine lv_iconst (v := bI true) hx hb dL_bench_452 rfl ?_
  refine rd_far gL_bench_X4_farthest C hY hl.1 ⟨Nat.le_of_ble_eq_true rfl, Nat.le_of_ble_eq_true rfl⟩ ⟨by show _ ≤ (500 : Nat); omega, by show _ ≤ (3000 : Nat); omega⟩ (Nat.le_of_ble_eq_true rfl) dL_bench_453 ?_
  refine lv_istore (lv' := [(7, .int (f_farthestOfGoing un true)), (6, .int (f_farthestOfGoing un false)), (1, .int (nI n)), (2, .int (nI (cnt (rowU un) n))), (3, .int (s32 (un 4) n)), (4, .int (s32 (un 2) n)), (5, .int (1 : Int32)), (0, .ref (A 0))]) hx hb dL_bench_456 hl (by decide) rfl (fun ls hl => ?_)
  refine lv_iload hx hb dL_bench_458 (lv_at hl 6 rfl) ?_
  refine lv_if_eq (tgt := 547) hx hb dL_bench_460 (by decide) (fun q => absurd q (by decide)) (fun _ => ?_)
  refine lv_iload_n hx hb dL_bench_463 rfl (lv_at hl 3 rfl) ?_
  refine lv_aload_n hx hb dL_bench_464 rfl (lv_at hl 7 rfl) ?_
  refine lv_iconst (v := (1 : Int32)) hx hb dL_bench_465 (by decide) ?_
  refine rd_count (cou1) gL_bench_X4_count C hY hl.1 ⟨Nat.le_of_ble_eq_true rfl, Nat.le_of_ble_eq_true rfl⟩ ⟨by show _ ≤ (500 : Nat); omega, by show _ ≤ (3000 : Nat); omega⟩ (Nat.le_of_ble_eq_true rfl) dL_bench_466 (fun H locs hY => ?_)
  refine lv_icmp_ne (tgt := 547) hx hb dL_bench_469 (by decide) (fun q => absurd (hg.symm) q) (fun _ => ?_)
  refine lv_iload_n hx hb dL_bench_472 rfl (lv_at hl 4 rfl) ?_
  refine lv_aload_n hx hb dL_bench_473 rfl (lv_at hl 7 rfl) ?_
  refine lv_iconst (v := (3 : Int32)) hx hb dL_bench_474 (by decide) ?_
  refine rd_count (cou3) gL_bench_X4_count C hY hl.1 ⟨Nat.le_of_ble_eq_true rfl, Nat.le_of_ble_eq_true rfl⟩ ⟨by show _ ≤ (500 : Nat); omega, by show _ ≤ (3000 : Nat); omega⟩ (Nat.le_of_ble_eq_true rfl) dL_bench_475 (fun H locs hY => ?_)
  refine lv_icmp_gt (tgt := 547) hx hb dL_bench_478 (by decide) (fun q => absurd q (fun z => by have := ti_lt.mp z; omega)) (fun _ => ?_)
  refine lv_iload_n hx hb dL_bench_481 rfl (lv_at hl 3 rfl) ?_
  refine lv_iconst (v := (2 : Int32)) hx hb dL_bench_482 (by decide) ?_
  refine lv_icmp_ge (tgt := 519) hx hb dL_bench_483 (by decide) (fun h1 => ?_) (fun h1 => ?_)
  · have h2 : 2 ≤ cnt (rowU un) n := by
      rcases Nat.lt_or_ge (cnt (rowU un) n) 2 with q | q
      · exact absurd h1 (nI_ge (b := 2) q (by omega))
      · exact q
    obtain ⟨a9, b9, hab, hbn, ea, eb, eg⟩ := (G_far hG).2 h2
    rw [ea, eb] at hl
    refine lv_iload hx hb dL_bench_519 (lv_at hl 1 rfl) ?_
    refine lv_iload hx hb dL_bench_521 (lv_at hl 0 rfl) ?_
    refine lv_icmp_ge (tgt := 547) hx hb dL_bench_523 (by decide) (fun q => absurd q (nI_ge hab (by omega))) (fun _ => ?_)
    refine lv_aload_n hx hb dL_bench_526 rfl (lv_at hl 7 rfl) ?_
    refine lv_iload hx hb dL_bench_527 (lv_at hl 1 rfl) ?_
    refine lv_iload hx hb dL_bench_529 (lv_at hl 0 rfl) ?_
    refine rd_apart (apa (by omega) (by omega) (by omega) (G_has hG (by omega)) (G_has hG hbn)) gL_bench_X4_apart C hY hl.1 ⟨Nat.le_of_ble_eq_true rfl, Nat.le_of_ble_eq_true rfl⟩ ⟨by show _ ≤ (500 : Nat); omega, by show _ ≤ (3000 : Nat); omega⟩ (Nat.le_of_ble_eq_true rfl) dL_bench_531 (fun H locs hY => ?_)
    refine lv_aload_n hx hb dL_bench_534 rfl (lv_at hl 7 rfl) ?_
    refine lv_bipush (v := (9 : Int32)) hx hb dL_bench_535 (by decide) ?_
    refine rd_count (cou9) gL_bench_X4_count C hY hl.1 ⟨Nat.le_of_ble_eq_true rfl, Nat.le_of_ble_eq_true rfl⟩ ⟨by show _ ≤ (500 : Nat); omega, by show _ ≤ (3000 : Nat); omega⟩ (Nat.le_of_ble_eq_true rfl) dL_bench_537 (fun H locs hY => ?_)
    refine lv_icmp_ne (tgt := 547) hx hb dL_bench_540 (by decide) (fun q => absurd (eg.symm) q) (fun _ => ?_)
    exact bench_543 C hr hlk hG hb9 (by omega) (by omega) hY (lv_sub hl [2, 3, 4, 5, 6, 7] rfl)
  · have h2 : cnt (rowU un) n < 2 := by
      rcases Nat.lt_or_ge (cnt (rowU un) n) 2 with q | q
      · exact q
      · exact absurd (nI_le (a := 2) q (by omega)) h1
    obtain ⟨ea, eb, eg, es⟩ := (G_far hG).1 h2
    rw [ea, eb] at hl
    have c8 : f_Xcount fl un ut u0 u1 sv x r (8 : Int32) = .ok (0 : Int32) := by rw [cou8, es, if_neg Bool.false_ne_true]
    refine lv_iload hx hb dL_bench_486 (lv_at hl 1 rfl) ?_
    refine lv_iconst (v := ((-1) : Int32)) hx hb dL_bench_488 (by decide) ?_
    refine lv_icmp_ne (tgt := 547) hx hb dL_bench_489 (by decide) (fun q => absurd (rfl) q) (fun _ => ?_)
    refine lv_iload hx hb dL_bench_492 (lv_at hl 0 rfl) ?_
    refine lv_iconst (v := ((-1) : Int32)) hx hb dL_bench_494 (by decide) ?_
    refine lv_icmp_ne (tgt := 547) hx hb dL_bench_495 (by decide) (fun q => absurd (rfl) q) (fun _ => ?_)
    refine lv_aload_n hx hb dL_bench_498 rfl (lv_at hl 7 rfl) ?_
    refine lv_bipush (v := (9 : Int32)) hx hb dL_bench_499 (by decide) ?_
    refine rd_count (cou9) gL_bench_X4_count C hY hl.1 ⟨Nat.le_of_ble_eq_true rfl, Nat.le_of_ble_eq_true rfl⟩ ⟨by show _ ≤ (500 : Nat); omega, by show _ ≤ (3000 : Nat); omega⟩ (Nat.le_of_ble_eq_true rfl) dL_bench_501 (fun H locs hY => ?_)
    refine lv_if_ne (tgt := 547) hx hb dL_bench_504 (by decide) (fun q => absurd (eg) q) (fun _ => ?_)
    refine lv_aload_n hx hb dL_bench_507 rfl (lv_at hl 7 rfl) ?_
    refine lv_bipush (v := (8 : Int32)) hx hb dL_bench_508 (by decide) ?_
    refine rd_count (c8) gL_bench_X4_count C hY hl.1 ⟨Nat.le_of_ble_eq_true rfl, Nat.le_of_ble_eq_true rfl⟩ ⟨by show _ ≤ (500 : Nat); omega, by show _ ≤ (3000 : Nat); omega⟩ (Nat.le_of_ble_eq_true rfl) dL_bench_510 (fun H locs hY => ?_)
    refine lv_if_ne (tgt := 547) hx hb dL_bench_513 (by decide) (fun q => absurd (rfl) q) (fun _ => ?_)
    refine lv_goto (tgt := 543) hx hb dL_bench_516 (by decide) ?_
    exact bench_543 C hr hlk hG hb9 (by omega) (by omega) hY (lv_sub hl [2, 3, 4, 5, 6, 7] rfl)
set_option maxRecDepth 100000 in
theorem bench_384 (C : RC p l m c cL_bench 8 s args wsL_bench (dC, dI) cI cZ cO A0) (hr : meth.sig.returnType = some .boolean) (hlk : meth.locks = false) (hG : GI n un) (hb9 : (un 11 0).toInt ≤ 100000) {k q C1 S1 : Nat} (hk : k < n) (hq : q < k) (hC1 : C1 ≤ 460) (hS1 : S1 ≤ 2760) (kk : ∀ (cells slots : Nat) (H : Heap) (locs : List Loc) (ls : Array Slot), cells ≤ C1 → slots ≤ S1 → DY (dC, dI) (XW cI cZ cO A Qq fl un ut u0 u1 sv x r) A0 s H locs → lv_has ls 8 [(7, .int (nI (q + 1))), (6, .int (nI k)), (1, .int (nI n)), (2, .int (nI (cnt (rowU un) (k + 1)))), (3, .int (s32 (un 4) (k + 1))), (4, .int (s32 (un 2) (k + 1))), (5, .int (1 : Int32)), (0, .ref (A 0))] → W p l e rm_L_bench s m args below meth c H locs cells slots (MQ below (kQw (some (.int (bI true))) (dC, dI) vwCl (XW cI cZ cO A Qq fl un ut u0 u1 sv x r) A0) args s 500 3000 A0) (F0 m 291 ls [])) (hc1 : cells + 3 ≤ C1) (hc2 : slots + 18 ≤ S1) (hY : DY (dC, dI) (XW cI cZ cO A Qq fl un ut u0 u1 sv x r) A0 s H locs) (hl : lv_has ls 8 [(7, .int (nI q)), (6, .int (nI k)), (1, .int (nI n)), (2, .int (nI (cnt (rowU un) (k + 1)))), (3, .int (s32 (un 4) (k + 1))), (4, .int (s32 (un 2) (k + 1))), (5, .int (1 : Int32)), (0, .ref (A 0))]) : W p l e rm_L_bench s m args below meth c H locs cells slots (MQ below (kQw (some (.int (bI true))) (dC, dI) vwCl (XW cI cZ cO A Qq fl un ut u0 u1 sv x r) A0) args s 500 3000 A0) (F0 m 384 ls []) := by
  obtain ⟨hx, hb, hml, hown, hts⟩ := id C.1
  have hn := GI_n hG
  have hqn : q < n := by omega
  obtain ⟨eq1, hp1⟩ := ph_e hG hqn
  obtain ⟨ek1, hp2⟩ := ph_e hG hk
  have a1 : f_Xarm fl un ut u0 u1 sv x r (nI q) (1 : Int32) = .ok (nI (ph un q)) := by rw [arm1 (by omega) (G_has hG hqn), eq1]
  have a2 : f_Xarm fl un ut u0 u1 sv x r (nI k) (1 : Int32) = .ok (nI (ph un k)) := by rw [arm1 (by omega) (G_has hG hk), ek1]
  have a3 : f_Xapart fl un ut u0 u1 sv x r (nI q) (nI k) = .ok (nI (apN (ph un q) (ph un k))) := by rw [apa (by omega) (by omega) (by omega) (G_has hG hqn) (G_has hG hk), dst hG hqn hk]
  have hz := apN_0 hp1 hp2
  have hd := apN_le hp1 hp2
  refine lv_aload_n hx hb dL_bench_384 rfl (lv_at hl 7 rfl) ?_
  refine lv_iload hx hb dL_bench_385 (lv_at hl 0 rfl) ?_
  refine lv_iconst (v := (1 : Int32)) hx hb dL_bench_387 (by decide) ?_
  refine rd_arm (a1) gL_bench_X4_arm C hY hl.1 ⟨Nat.le_of_ble_eq_true rfl, Nat.le_of_ble_eq_true rfl⟩ ⟨by show _ ≤ (500 : Nat); omega, by show _ ≤ (3000 : Nat); omega⟩ (Nat.le_of_ble_eq_true rfl) dL_bench_388 (fun H locs hY => ?_)
  refine lv_aload_n hx hb dL_bench_391 rfl (lv_at hl 7 rfl) ?_
  refine lv_iload hx hb dL_bench_392 (lv_at hl 1 rfl) ?_
  refine lv_iconst (v := (1 : Int32)) hx hb dL_bench_394 (by decide) ?_
  refine rd_arm (a2) gL_bench_X4_arm C hY hl.1 ⟨Nat.le_of_ble_eq_true rfl, Nat.le_of_ble_eq_true rfl⟩ ⟨by show _ ≤ (500 : Nat); omega, by show _ ≤ (3000 : Nat); omega⟩ (Nat.le_of_ble_eq_true rfl) dL_bench_395 (fun H locs hY => ?_)
  refine lv_icmp_ne (tgt := 405) hx hb dL_bench_398 (by decide) (fun h1 => ?_) (fun h1 => ?_)
  · have h2 : ¬ apN (ph un q) (ph un k) = 0 := fun z => h1 (by rw [hz.mp z])
    refine lv_iconst (v := (0 : Int32)) hx hb dL_bench_405 (by decide) ?_
    refine lv_aload_n hx hb dL_bench_406 rfl (lv_at hl 7 rfl) ?_
    refine lv_iload hx hb dL_bench_407 (lv_at hl 0 rfl) ?_
    refine lv_iload hx hb dL_bench_409 (lv_at hl 1 rfl) ?_
    refine rd_apart (a3) gL_bench_X4_apart C hY hl.1 ⟨Nat.le_of_ble_eq_true rfl, Nat.le_of_ble_eq_true rfl⟩ ⟨by show _ ≤ (500 : Nat); omega, by show _ ≤ (3000 : Nat); omega⟩ (Nat.le_of_ble_eq_true rfl) dL_bench_411 (fun H locs hY => ?_)
    refine lv_if_ne (tgt := 421) hx hb dL_bench_414 (by decide) (fun _ => ?_) (fun q => absurd q (nI_ne0 (by omega) (by omega)))
    refine lv_iconst (v := (0 : Int32)) hx hb dL_bench_421 (by decide) ?_
    refine lv_icmp_ne (tgt := 429) hx hb dL_bench_422 (by decide) (fun q => absurd (rfl) q) (fun _ => ?_)
    refine lv_iconst (v := (1 : Int32)) hx hb dL_bench_425 (by decide) ?_
    refine lv_goto (tgt := 430) hx hb dL_bench_426 (by decide) ?_
    refine lv_istore (lv' := [(5, .int (1 : Int32)), (7, .int (nI q)), (6, .int (nI k)), (1, .int (nI n)), (2, .int (nI (cnt (rowU un) (k + 1)))), (3, .int (s32 (un 4) (k + 1))), (4, .int (s32 (un 2) (k + 1))), (0, .ref (A 0))]) hx hb dL_bench_430 hl (by decide) rfl (fun ls hl => ?_)
    refine lv_iinc (v := (nI (q + 1))) (lv' := [(7, .int (nI (q + 1))), (5, .int (1 : Int32)), (6, .int (nI k)), (1, .int (nI n)), (2, .int (nI (cnt (rowU un) (k + 1)))), (3, .int (s32 (un 4) (k + 1))), (4, .int (s32 (un 2) (k + 1))), (0, .ref (A 0))]) hx hb dL_bench_432 hl (k := 1) rfl (nI_add q 1) (by decide) rfl (fun ls hl => ?_)
    refine lv_goto (tgt := 291) hx hb dL_bench_435 (by decide) ?_
    exact kk _ _ H locs ls (by omega) (by omega) hY (lv_sub hl [0, 2, 3, 4, 5, 6, 1, 7] rfl)
  · have h2 : apN (ph un q) (ph un k) = 0 := hz.mpr ((nI_eq (by omega) (by omega)).mp h1)
    refine lv_iconst (v := (1 : Int32)) hx hb dL_bench_401 (by decide) ?_
    refine lv_goto (tgt := 406) hx hb dL_bench_402 (by decide) ?_
    refine lv_aload_n hx hb dL_bench_406 rfl (lv_at hl 7 rfl) ?_
    refine lv_iload hx hb dL_bench_407 (lv_at hl 0 rfl) ?_
    refine lv_iload hx hb dL_bench_409 (lv_at hl 1 rfl) ?_
    refine rd_apart (a3) gL_bench_X4_apart C hY hl.1 ⟨Nat.le_of_ble_eq_true rfl, Nat.le_of_ble_eq_true rfl⟩ ⟨by show _ ≤ (500 : Nat); omega, by show _ ≤ (3000 : Nat); omega⟩ (Nat.le_of_ble_eq_true rfl) dL_bench_411 (fun H locs hY => ?_)
    refine lv_if_ne (tgt := 421) hx hb dL_bench_414 (by decide) (fun q => absurd (by rw [h2]; rfl) q) (fun _ => ?_)
    refine lv_iconst (v := (1 : Int32)) hx hb dL_bench_417 (by decide) ?_
    refine lv_goto (tgt := 422) hx hb dL_bench_418 (by decide) ?_
    refine lv_icmp_ne (tgt := 429) hx hb dL_bench_422 (by decide) (fun q => absurd (rfl) q) (fun _ => ?_)
    refine lv_iconst (v := (1 : Int32)) hx hb dL_bench_425 (by decide) ?_
    refine lv_goto (tgt := 430) hx hb dL_bench_426 (by decide) ?_
    refine lv_istore (lv' := [(5, .int (1 : Int32)), (7, .int (nI q)), (6, .int (nI k)), (1, .int (nI n)), (2, .int (nI (cnt (rowU un) (k + 1)))), (3, .int (s32 (un 4) (k + 1))), (4, .int (s32 (un 2) (k + 1))), (0, .ref (A 0))]) hx hb dL_bench_430 hl (by decide) rfl (fun ls hl => ?_)
    refine lv_iinc (v := (nI (q + 1))) (lv' := [(7, .int (nI (q + 1))), (5, .int (1 : Int32)), (6, .int (nI k)), (1, .int (nI n)), (2, .int (nI (cnt (rowU un) (k + 1)))), (3, .int (s32 (un 4) (k + 1))), (4, .int (s32 (un 2) (k + 1))), (0, .ref (A 0))]) hx hb dL_bench_432 hl (k := 1) rfl (nI_add q 1) (by decide) rfl (fun ls hl => ?_)
    refine lv_goto (tgt := 291) hx hb dL_bench_435 (by decide) ?_
    exact kk _ _ H locs ls (by omega) (by omega) hY (lv_sub hl [0, 2, 3, 4, 5, 6, 1, 7] rfl)
set_option maxRecDepth 100000 in
theorem bench_303 (C : RC p l m c cL_bench 8 s args wsL_bench (dC, dI) cI cZ cO A0) (hr : meth.sig.returnType = some .boolean) (hlk : meth.locks = false) (hG : GI n un) (hb9 : (un 11 0).toInt ≤ 100000) {k q C1 S1 : Nat} (hk : k < n) (hq : q < k) (hC1 : C1 ≤ 460) (hS1 : S1 ≤ 2760) (kk : ∀ (cells slots : Nat) (H : Heap) (locs : List Loc) (ls : Array Slot), cells ≤ C1 → slots ≤ S1 → DY (dC, dI) (XW cI cZ cO A Qq fl un ut u0 u1 sv x r) A0 s H locs → lv_has ls 8 [(7, .int (nI (q + 1))), (6, .int (nI k)), (1, .int (nI n)), (2, .int (nI (cnt (rowU un) (k + 1)))), (3, .int (s32 (un 4) (k + 1))), (4, .int (s32 (un 2) (k + 1))), (5, .int (1 : Int32)), (0, .ref (A 0))] → W p l e rm_L_bench s m args below meth c H locs cells slots (MQ below (kQw (some (.int (bI true))) (dC, dI) vwCl (XW cI cZ cO A Qq fl un ut u0 u1 sv x r) A0) args s 500 3000 A0) (F0 m 291 ls [])) (hc1 : cells + 11 ≤ C1) (hc2 : slots + 66 ≤ S1) (hY : DY (dC, dI) (XW cI cZ cO A Qq fl un ut u0 u1 sv x r) A0 s H locs) (hl : lv_has ls 8 [(7, .int (nI q)), (6, .int (nI k)), (1, .int (nI n)), (2, .int (nI (cnt (rowU un) (k + 1)))), (3, .int (s32 (un 4) (k + 1))), (4, .int (s32 (un 2) (k + 1))), (5, .int (1 : Int32)), (0, .ref (A 0))]) : W p l e rm_L_bench s m args below meth c H locs cells slots (MQ below (kQw (some (.int (bI true))) (dC, dI) vwCl (XW cI cZ cO A Qq fl un ut u0 u1 sv x r) A0) args s 500 3000 A0) (F0 m 303 ls []) := by
  obtain ⟨hx, hb, hml, hown, hts⟩ := id C.1
  have hn := GI_n hG
  have hqn : q < n := by omega
  obtain ⟨eq1, hp1⟩ := ph_e hG hqn
  obtain ⟨ek1, hp2⟩ := ph_e hG hk
  have a3 : f_Xapart fl un ut u0 u1 sv x r (nI q) (nI k) = .ok (nI (apN (ph un q) (ph un k))) := by rw [apa (by omega) (by omega) (by omega) (G_has hG hqn) (G_has hG hk), dst hG hqn hk]
  have a4 : f_Xapart fl un ut u0 u1 sv x r (nI k) (nI q) = .ok (nI (apN (ph un q) (ph un k))) := by rw [apa (by omega) (by omega) (by omega) (G_has hG hk) (G_has hG hqn), dst hG hk hqn, apN_sym]
  have hd := apN_le hp1 hp2
  obtain ⟨D, hD, eD, hmx⟩ := G_max hG
  have hmx2 := hmx q k trivial hq hk
  generalize hdd : apN (ph un q) (ph un k) = d9 at a3 a4 hd hmx2
  have c9 : f_Xcount fl un ut u0 u1 sv x r (9 : Int32) = .ok (nI D) := by rw [cou9, eD]
  refine lv_aload_n hx hb dL_bench_303 rfl (lv_at hl 7 rfl) ?_
  refine lv_iload hx hb dL_bench_304 (lv_at hl 0 rfl) ?_
  refine lv_iload hx hb dL_bench_306 (lv_at hl 1 rfl) ?_
  refine rd_apart (a3) gL_bench_X4_apart C hY hl.1 ⟨Nat.le_of_ble_eq_true rfl, Nat.le_of_ble_eq_true rfl⟩ ⟨by show _ ≤ (500 : Nat); omega, by show _ ≤ (3000 : Nat); omega⟩ (Nat.le_of_ble_eq_true rfl) dL_bench_308 (fun H locs hY => ?_)
  refine lv_aload_n hx hb dL_bench_311 rfl (lv_at hl 7 rfl) ?_
  refine lv_iload hx hb dL_bench_312 (lv_at hl 1 rfl) ?_
  refine lv_iload hx hb dL_bench_314 (lv_at hl 0 rfl) ?_
  refine rd_apart (a4) gL_bench_X4_apart C hY hl.1 ⟨Nat.le_of_ble_eq_true rfl, Nat.le_of_ble_eq_true rfl⟩ ⟨by show _ ≤ (500 : Nat); omega, by show _ ≤ (3000 : Nat); omega⟩ (Nat.le_of_ble_eq_true rfl) dL_bench_316 (fun H locs hY => ?_)
  refine lv_icmp_ne (tgt := 429) hx hb dL_bench_319 (by decide) (fun q => absurd (rfl) q) (fun _ => ?_)
  refine lv_aload_n hx hb dL_bench_322 rfl (lv_at hl 7 rfl) ?_
  refine lv_iload hx hb dL_bench_323 (lv_at hl 0 rfl) ?_
  refine lv_iload hx hb dL_bench_325 (lv_at hl 1 rfl) ?_
  refine rd_apart (a3) gL_bench_X4_apart C hY hl.1 ⟨Nat.le_of_ble_eq_true rfl, Nat.le_of_ble_eq_true rfl⟩ ⟨by show _ ≤ (500 : Nat); omega, by show _ ≤ (3000 : Nat); omega⟩ (Nat.le_of_ble_eq_true rfl) dL_bench_327 (fun H locs hY => ?_)
  refine lv_if_lt (tgt := 429) hx hb dL_bench_330 (by decide) (fun q => absurd q (nI_pos (by omega))) (fun _ => ?_)
  refine lv_aload_n hx hb dL_bench_333 rfl (lv_at hl 7 rfl) ?_
  refine lv_iload hx hb dL_bench_334 (lv_at hl 0 rfl) ?_
  refine lv_iload hx hb dL_bench_336 (lv_at hl 1 rfl) ?_
  refine rd_apart (a3) gL_bench_X4_apart C hY hl.1 ⟨Nat.le_of_ble_eq_true rfl, Nat.le_of_ble_eq_true rfl⟩ ⟨by show _ ≤ (500 : Nat); omega, by show _ ≤ (3000 : Nat); omega⟩ (Nat.le_of_ble_eq_true rfl) dL_bench_338 (fun H locs hY => ?_)
  refine lv_sipush (v := (1800 : Int32)) hx hb dL_bench_341 (by decide) ?_
  refine lv_icmp_gt (tgt := 429) hx hb dL_bench_344 (by decide) (fun q => absurd q (nI_nlt (a := 1800) hd (by omega))) (fun _ => ?_)
  by_cases gq : f_goes un (nI q) = true
  · have a5 : f_Xarm fl un ut u0 u1 sv x r (nI q) (4 : Int32) = .ok (1 : Int32) := by rw [arm4 (by omega) (G_has hG hqn), if_pos gq]
    refine lv_aload_n hx hb dL_bench_347 rfl (lv_at hl 7 rfl) ?_
    refine lv_iload hx hb dL_bench_348 (lv_at hl 0 rfl) ?_
    refine lv_iconst (v := (4 : Int32)) hx hb dL_bench_350 (by decide) ?_
    refine rd_arm (a5) gL_bench_X4_arm C hY hl.1 ⟨Nat.le_of_ble_eq_true rfl, Nat.le_of_ble_eq_true rfl⟩ ⟨by show _ ≤ (500 : Nat); omega, by show _ ≤ (3000 : Nat); omega⟩ (Nat.le_of_ble_eq_true rfl) dL_bench_351 (fun H locs hY => ?_)
    refine lv_if_eq (tgt := 384) hx hb dL_bench_354 (by decide) (fun q => absurd q (by decide)) (fun _ => ?_)
    by_cases gk : f_goes un (nI k) = true
    · have a6 : f_Xarm fl un ut u0 u1 sv x r (nI k) (4 : Int32) = .ok (1 : Int32) := by rw [arm4 (by omega) (G_has hG hk), if_pos gk]
      refine lv_aload_n hx hb dL_bench_357 rfl (lv_at hl 7 rfl) ?_
      refine lv_iload hx hb dL_bench_358 (lv_at hl 1 rfl) ?_
      refine lv_iconst (v := (4 : Int32)) hx hb dL_bench_360 (by decide) ?_
      refine rd_arm (a6) gL_bench_X4_arm C hY hl.1 ⟨Nat.le_of_ble_eq_true rfl, Nat.le_of_ble_eq_true rfl⟩ ⟨by show _ ≤ (500 : Nat); omega, by show _ ≤ (3000 : Nat); omega⟩ (Nat.le_of_ble_eq_true rfl) dL_bench_361 (fun H locs hY => ?_)
      refine lv_if_eq (tgt := 384) hx hb dL_bench_364 (by decide) (fun q => absurd q (by decide)) (fun _ => ?_)
      refine lv_aload_n hx hb dL_bench_367 rfl (lv_at hl 7 rfl) ?_
      refine lv_iload hx hb dL_bench_368 (lv_at hl 0 rfl) ?_
      refine lv_iload hx hb dL_bench_370 (lv_at hl 1 rfl) ?_
      refine rd_apart (a3) gL_bench_X4_apart C hY hl.1 ⟨Nat.le_of_ble_eq_true rfl, Nat.le_of_ble_eq_true rfl⟩ ⟨by show _ ≤ (500 : Nat); omega, by show _ ≤ (3000 : Nat); omega⟩ (Nat.le_of_ble_eq_true rfl) dL_bench_372 (fun H locs hY => ?_)
      refine lv_aload_n hx hb dL_bench_375 rfl (lv_at hl 7 rfl) ?_
      refine lv_bipush (v := (9 : Int32)) hx hb dL_bench_376 (by decide) ?_
      refine rd_count (c9) gL_bench_X4_count C hY hl.1 ⟨Nat.le_of_ble_eq_true rfl, Nat.le_of_ble_eq_true rfl⟩ ⟨by show _ ≤ (500 : Nat); omega, by show _ ≤ (3000 : Nat); omega⟩ (Nat.le_of_ble_eq_true rfl) dL_bench_378 (fun H locs hY => ?_)
      refine lv_icmp_gt (tgt := 429) hx hb dL_bench_381 (by decide) (fun q => absurd q (nI_nlt (hmx2 gq gk) (by omega))) (fun _ => ?_)
      exact bench_384 C hr hlk hG hb9 hk hq hC1 hS1 kk (by omega) (by omega) hY hl
    · have a6 : f_Xarm fl un ut u0 u1 sv x r (nI k) (4 : Int32) = .ok (0 : Int32) := by rw [arm4 (by omega) (G_has hG hk), if_neg gk]
      refine lv_aload_n hx hb dL_bench_357 rfl (lv_at hl 7 rfl) ?_
      refine lv_iload hx hb dL_bench_358 (lv_at hl 1 rfl) ?_
      refine lv_iconst (v := (4 : Int32)) hx hb dL_bench_360 (by decide) ?_
      refine rd_arm (a6) gL_bench_X4_arm C hY hl.1 ⟨Nat.le_of_ble_eq_true rfl, Nat.le_of_ble_eq_true rfl⟩ ⟨by show _ ≤ (500 : Nat); omega, by show _ ≤ (3000 : Nat); omega⟩ (Nat.le_of_ble_eq_true rfl) dL_bench_361 (fun H locs hY => ?_)
      refine lv_if_eq (tgt := 384) hx hb dL_bench_364 (by decide) (fun _ => ?_) (fun q => absurd (rfl) q)
      exact bench_384 C hr hlk hG hb9 hk hq hC1 hS1 kk (by omega) (by omega) hY hl
  · have a5 : f_Xarm fl un ut u0 u1 sv x r (nI q) (4 : Int32) = .ok (0 : Int32) := by rw [arm4 (by omega) (G_has hG hqn), if_neg gq]
    refine lv_aload_n hx hb dL_bench_347 rfl (lv_at hl 7 rfl) ?_
    refine lv_iload hx hb dL_bench_348 (lv_at hl 0 rfl) ?_
    refine lv_iconst (v := (4 : Int32)) hx hb dL_bench_350 (by decide) ?_
    refine rd_arm (a5) gL_bench_X4_arm C hY hl.1 ⟨Nat.le_of_ble_eq_true rfl, Nat.le_of_ble_eq_true rfl⟩ ⟨by show _ ≤ (500 : Nat); omega, by show _ ≤ (3000 : Nat); omega⟩ (Nat.le_of_ble_eq_true rfl) dL_bench_351 (fun H locs hY => ?_)
    refine lv_if_eq (tgt := 384) hx hb dL_bench_354 (by decide) (fun _ => ?_) (fun q => absurd (rfl) q)
    exact bench_384 C hr hlk hG hb9 hk hq hC1 hS1 kk (by omega) (by omega) hY hl
set_option maxRecDepth 100000 in
theorem bench_291 (C : RC p l m c cL_bench 8 s args wsL_bench (dC, dI) cI cZ cO A0) (hr : meth.sig.returnType = some .boolean) (hlk : meth.locks = false) (hG : GI n un) (hb9 : (un 11 0).toInt ≤ 100000) {k C1 S1 : Nat} (hk : k < n) (hC1 : C1 ≤ 460) (hS1 : S1 ≤ 2760) (kk : ∀ (cells slots : Nat) (H : Heap) (locs : List Loc) (ls : Array Slot), cells ≤ C1 → slots ≤ S1 → DY (dC, dI) (XW cI cZ cO A Qq fl un ut u0 u1 sv x r) A0 s H locs → lv_has ls 8 [(6, .int (nI k)), (1, .int (nI n)), (2, .int (nI (cnt (rowU un) (k + 1)))), (3, .int (s32 (un 4) (k + 1))), (4, .int (s32 (un 2) (k + 1))), (5, .int (1 : Int32)), (0, .ref (A 0))] → W p l e rm_L_bench s m args below meth c H locs cells slots (MQ below (kQw (some (.int (bI true))) (dC, dI) vwCl (XW cI cZ cO A Qq fl un ut u0 u1 sv x r) A0) args s 500 3000 A0) (F0 m 438 ls [])) : ∀ (d q cells slots : Nat) (H : Heap) (locs : List Loc) (ls : Array Slot), q + d = k → cells + 11 * d ≤ C1 → slots + 66 * d ≤ S1 → DY (dC, dI) (XW cI cZ cO A Qq fl un ut u0 u1 sv x r) A0 s H locs → lv_has ls 8 [(7, .int (nI q)), (6, .int (nI k)), (1, .int (nI n)), (2, .int (nI (cnt (rowU un) (k + 1)))), (3, .int (s32 (un 4) (k + 1))), (4, .int (s32 (un 2) (k + 1))), (5, .int (1 : Int32)), (0, .ref (A 0))] → W p l e rm_L_bench s m args below meth c H locs cells slots (MQ below (kQw (some (.int (bI true))) (dC, dI) vwCl (XW cI cZ cO A Qq fl un ut u0 u1 sv x r) A0) args s 500 3000 A0) (F0 m 291 ls [])
  | d, q, cells, slots, H, locs, ls => fun hd hc1 hc2 hY hl => by
    obtain ⟨hx, hb, hml, hown, hts⟩ := id C.1
    have hn := GI_n hG
    refine lv_iload hx hb dL_bench_291 (lv_at hl 0 rfl) ?_
    refine lv_iload hx hb dL_bench_293 (lv_at hl 1 rfl) ?_
    refine lv_icmp_ge (tgt := 438) hx hb dL_bench_295 (by decide) (fun h1 => ?_) (fun h1 => ?_)
    · exact kk _ _ H locs ls (by omega) (by omega) hY (lv_sub hl [1, 2, 3, 4, 5, 6, 7] rfl)
    · have hq : q < k := by
        rcases Nat.lt_or_ge q k with z | z
        · exact z
        · exact absurd (nI_le z (by omega)) h1
      refine lv_iload hx hb dL_bench_298 (lv_at hl 6 rfl) ?_
      refine lv_if_eq (tgt := 438) hx hb dL_bench_300 (by decide) (fun q => absurd q (by decide)) (fun _ => ?_)
      match d, hd, hc1, hc2 with
      | 0, hd, _, _ => omega
      | d + 1, hd, hc1, hc2 =>
        exact bench_303 C hr hlk hG hb9 hk hq (C1 := C1 - 11 * d) (S1 := S1 - 66 * d) (by omega) (by omega) (fun cells slots H locs ls h1 h2 hY hl => bench_291 C hr hlk hG hb9 hk hC1 hS1 kk d (q + 1) cells slots H locs ls (by omega) (by omega) (by omega) hY hl) (by omega) (by omega) hY hl
termination_by d => d
set_option maxRecDepth 100000 in
theorem bench_231 (C : RC p l m c cL_bench 8 s args wsL_bench (dC, dI) cI cZ cO A0) (hr : meth.sig.returnType = some .boolean) (hlk : meth.locks = false) (hG : GI n un) (hb9 : (un 11 0).toInt ≤ 100000) {k C1 S1 : Nat} (hk : k < n) (hC1 : C1 ≤ 460) (hS1 : S1 ≤ 2760) (kk : ∀ (cells slots : Nat) (H : Heap) (locs : List Loc) (ls : Array Slot), cells ≤ C1 → slots ≤ S1 → DY (dC, dI) (XW cI cZ cO A Qq fl un ut u0 u1 sv x r) A0 s H locs → lv_has ls 8 [(6, .int (nI (k + 1))), (1, .int (nI n)), (2, .int (nI (cnt (rowU un) (k + 1)))), (3, .int (s32 (un 4) (k + 1))), (4, .int (s32 (un 2) (k + 1))), (5, .int (1 : Int32)), (0, .ref (A 0))] → W p l e rm_L_bench s m args below meth c H locs cells slots (MQ below (kQw (some (.int (bI true))) (dC, dI) vwCl (XW cI cZ cO A Qq fl un ut u0 u1 sv x r) A0) args s 500 3000 A0) (F0 m 96 ls [])) (hc1 : cells + 4 + 11 * k ≤ C1) (hc2 : slots + 24 + 66 * k ≤ S1) (hY : DY (dC, dI) (XW cI cZ cO A Qq fl un ut u0 u1 sv x r) A0 s H locs) (hl : lv_has ls 8 [(6, .int (nI k)), (1, .int (nI n)), (2, .int (nI (cnt (rowU un) (k + 1)))), (3, .int (s32 (un 4) (k + 1))), (4, .int (s32 (un 2) (k + 1))), (5, .int (1 : Int32)), (0, .ref (A 0))]) : W p l e rm_L_bench s m args below meth c H locs cells slots (MQ below (kQw (some (.int (bI true))) (dC, dI) vwCl (XW cI cZ cO A Qq fl un ut u0 u1 sv x r) A0) args s 500 3000 A0) (F0 m 231 ls []) := by
  obtain ⟨hx, hb, hml, hown, hts⟩ := id C.1
  have hn := GI_n hG
  have hsw := G_sw hG hk
  have e0 : (0 : Int32).toInt = 0 := by decide
  have e2 : (2000 : Int32).toInt = 2000 := by decide
  refine lv_aload_n hx hb dL_bench_231 rfl (lv_at hl 6 rfl) ?_
  refine lv_iload hx hb dL_bench_232 (lv_at hl 0 rfl) ?_
  refine lv_bipush (v := (6 : Int32)) hx hb dL_bench_234 (by decide) ?_
  refine rd_arm (arm6 (by omega) (G_has hG hk)) gL_bench_X4_arm C hY hl.1 ⟨Nat.le_of_ble_eq_true rfl, Nat.le_of_ble_eq_true rfl⟩ ⟨by show _ ≤ (500 : Nat); omega, by show _ ≤ (3000 : Nat); omega⟩ (Nat.le_of_ble_eq_true rfl) dL_bench_236 (fun H locs hY => ?_)
  refine lv_if_lt (tgt := 285) hx hb dL_bench_239 (by decide) (fun q => absurd q (fun z => by have := ti_lt.mp z; omega)) (fun _ => ?_)
  refine lv_aload_n hx hb dL_bench_242 rfl (lv_at hl 6 rfl) ?_
  refine lv_iload hx hb dL_bench_243 (lv_at hl 0 rfl) ?_
  refine lv_bipush (v := (6 : Int32)) hx hb dL_bench_245 (by decide) ?_
  refine rd_arm (arm6 (by omega) (G_has hG hk)) gL_bench_X4_arm C hY hl.1 ⟨Nat.le_of_ble_eq_true rfl, Nat.le_of_ble_eq_true rfl⟩ ⟨by show _ ≤ (500 : Nat); omega, by show _ ≤ (3000 : Nat); omega⟩ (Nat.le_of_ble_eq_true rfl) dL_bench_247 (fun H locs hY => ?_)
  refine lv_sipush (v := (2000 : Int32)) hx hb dL_bench_250 (by decide) ?_
  refine lv_icmp_gt (tgt := 285) hx hb dL_bench_253 (by decide) (fun q => absurd q (fun z => by have := ti_lt.mp z; omega)) (fun _ => ?_)
  refine lv_aload_n hx hb dL_bench_256 rfl (lv_at hl 6 rfl) ?_
  refine lv_iload hx hb dL_bench_257 (lv_at hl 0 rfl) ?_
  refine lv_bipush (v := (7 : Int32)) hx hb dL_bench_259 (by decide) ?_
  refine rd_arm (arm7 (by omega) (G_has hG hk)) gL_bench_X4_arm C hY hl.1 ⟨Nat.le_of_ble_eq_true rfl, Nat.le_of_ble_eq_true rfl⟩ ⟨by show _ ≤ (500 : Nat); omega, by show _ ≤ (3000 : Nat); omega⟩ (Nat.le_of_ble_eq_true rfl) dL_bench_261 (fun H locs hY => ?_)
  refine lv_if_lt (tgt := 285) hx hb dL_bench_264 (by decide) (fun q => absurd q (fun z => by have := ti_lt.mp z; omega)) (fun _ => ?_)
  refine lv_aload_n hx hb dL_bench_267 rfl (lv_at hl 6 rfl) ?_
  refine lv_iload hx hb dL_bench_268 (lv_at hl 0 rfl) ?_
  refine lv_bipush (v := (7 : Int32)) hx hb dL_bench_270 (by decide) ?_
  refine rd_arm (arm7 (by omega) (G_has hG hk)) gL_bench_X4_arm C hY hl.1 ⟨Nat.le_of_ble_eq_true rfl, Nat.le_of_ble_eq_true rfl⟩ ⟨by show _ ≤ (500 : Nat); omega, by show _ ≤ (3000 : Nat); omega⟩ (Nat.le_of_ble_eq_true rfl) dL_bench_272 (fun H locs hY => ?_)
  refine lv_sipush (v := (2000 : Int32)) hx hb dL_bench_275 (by decide) ?_
  refine lv_icmp_gt (tgt := 285) hx hb dL_bench_278 (by decide) (fun q => absurd q (fun z => by have := ti_lt.mp z; omega)) (fun _ => ?_)
  refine lv_iconst (v := (1 : Int32)) hx hb dL_bench_281 (by decide) ?_
  refine lv_goto (tgt := 286) hx hb dL_bench_282 (by decide) ?_
  refine lv_istore (lv' := [(5, .int (1 : Int32)), (6, .int (nI k)), (1, .int (nI n)), (2, .int (nI (cnt (rowU un) (k + 1)))), (3, .int (s32 (un 4) (k + 1))), (4, .int (s32 (un 2) (k + 1))), (0, .ref (A 0))]) hx hb dL_bench_286 hl (by decide) rfl (fun ls hl => ?_)
  refine lv_iconst (v := (nI 0)) hx hb dL_bench_288 rfl ?_
  refine lv_istore (lv' := [(7, .int (nI 0)), (5, .int (1 : Int32)), (6, .int (nI k)), (1, .int (nI n)), (2, .int (nI (cnt (rowU un) (k + 1)))), (3, .int (s32 (un 4) (k + 1))), (4, .int (s32 (un 2) (k + 1))), (0, .ref (A 0))]) hx hb dL_bench_289 hl (by decide) rfl (fun ls hl => ?_)
  refine bench_291 C hr hlk hG hb9 hk hC1 hS1 (fun cells slots H locs ls h1 h2 hY hl => ?_) k 0 _ _ H locs ls (by omega) (by omega) (by omega) hY (lv_sub hl [0, 2, 3, 4, 5, 6, 1, 7] rfl)
  refine lv_iinc (v := (nI (k + 1))) (lv' := [(6, .int (nI (k + 1))), (1, .int (nI n)), (2, .int (nI (cnt (rowU un) (k + 1)))), (3, .int (s32 (un 4) (k + 1))), (4, .int (s32 (un 2) (k + 1))), (5, .int (1 : Int32)), (0, .ref (A 0))]) hx hb dL_bench_438 hl (k := 0) rfl (nI_add k 1) (by decide) rfl (fun ls hl => ?_)
  refine lv_goto (tgt := 96) hx hb dL_bench_441 (by decide) ?_
  exact kk _ _ H locs ls h1 h2 hY (lv_sub hl [0, 1, 2, 3, 4, 5, 6] rfl)
set_option maxRecDepth 100000 in
theorem bench_102 (C : RC p l m c cL_bench 8 s args wsL_bench (dC, dI) cI cZ cO A0) (hr : meth.sig.returnType = some .boolean) (hlk : meth.locks = false) (hG : GI n un) (hb9 : (un 11 0).toInt ≤ 100000) {k C1 S1 : Nat} (hk : k < n) (hC1 : C1 ≤ 460) (hS1 : S1 ≤ 2760) (kk : ∀ (cells slots : Nat) (H : Heap) (locs : List Loc) (ls : Array Slot), cells ≤ C1 → slots ≤ S1 → DY (dC, dI) (XW cI cZ cO A Qq fl un ut u0 u1 sv x r) A0 s H locs → lv_has ls 8 [(6, .int (nI (k + 1))), (1, .int (nI n)), (2, .int (nI (cnt (rowU un) (k + 1)))), (3, .int (s32 (un 4) (k + 1))), (4, .int (s32 (un 2) (k + 1))), (5, .int (1 : Int32)), (0, .ref (A 0))] → W p l e rm_L_bench s m args below meth c H locs cells slots (MQ below (kQw (some (.int (bI true))) (dC, dI) vwCl (XW cI cZ cO A Qq fl un ut u0 u1 sv x r) A0) args s 500 3000 A0) (F0 m 96 ls [])) (hc1 : cells + 15 + 11 * k ≤ C1) (hc2 : slots + 90 + 66 * k ≤ S1) (hY : DY (dC, dI) (XW cI cZ cO A Qq fl un ut u0 u1 sv x r) A0 s H locs) (hl : lv_has ls 8 [(6, .int (nI k)), (1, .int (nI n)), (2, .int (nI (cnt (rowU un) k))), (3, .int (s32 (un 4) k)), (4, .int (s32 (un 2) k)), (5, .int (1 : Int32)), (0, .ref (A 0))]) : W p l e rm_L_bench s m args below meth c H locs cells slots (MQ below (kQw (some (.int (bI true))) (dC, dI) vwCl (XW cI cZ cO A Qq fl un ut u0 u1 sv x r) A0) args s 500 3000 A0) (F0 m 102 ls []) := by
  obtain ⟨hx, hb, hml, hown, hts⟩ := id C.1
  have hn := GI_n hG
  have hbt := G_beat hG hk
  obtain ⟨ek1, hp2⟩ := ph_e hG hk
  have hgi := G_goes_is hG hk
  have a1 : f_Xarm fl un ut u0 u1 sv x r (nI k) (1 : Int32) = .ok (nI (ph un k)) := by rw [arm1 (by omega) (G_has hG hk), ek1]
  have e40 : (40 : Int32).toInt = 40 := by decide
  have e208 : (208 : Int32).toInt = 208 := by decide
  refine lv_iload hx hb dL_bench_102 (lv_at hl 5 rfl) ?_
  refine lv_if_eq (tgt := 444) hx hb dL_bench_104 (by decide) (fun q => absurd q (by decide)) (fun _ => ?_)
  refine lv_iload_n hx hb dL_bench_107 rfl (lv_at hl 2 rfl) ?_
  refine lv_aload_n hx hb dL_bench_108 rfl (lv_at hl 6 rfl) ?_
  refine lv_iload hx hb dL_bench_109 (lv_at hl 0 rfl) ?_
  refine lv_iconst (v := (4 : Int32)) hx hb dL_bench_111 (by decide) ?_
  refine rd_arm (arm4 (by omega) (G_has hG hk)) gL_bench_X4_arm C hY hl.1 ⟨Nat.le_of_ble_eq_true rfl, Nat.le_of_ble_eq_true rfl⟩ ⟨by show _ ≤ (500 : Nat); omega, by show _ ≤ (3000 : Nat); omega⟩ (Nat.le_of_ble_eq_true rfl) dL_bench_112 (fun H locs hY => ?_)
  refine lv_iadd hx hb dL_bench_115 ?_
  rw [G_cnt hG hk]
  refine lv_istore_n (lv' := [(2, .int (nI (cnt (rowU un) (k + 1)))), (6, .int (nI k)), (1, .int (nI n)), (3, .int (s32 (un 4) k)), (4, .int (s32 (un 2) k)), (5, .int (1 : Int32)), (0, .ref (A 0))]) hx hb dL_bench_116 rfl hl (by decide) rfl (fun ls hl => ?_)
  refine lv_iload_n hx hb dL_bench_117 rfl (lv_at hl 3 rfl) ?_
  refine lv_aload_n hx hb dL_bench_118 rfl (lv_at hl 6 rfl) ?_
  refine lv_iload hx hb dL_bench_119 (lv_at hl 1 rfl) ?_
  refine lv_iconst (v := (5 : Int32)) hx hb dL_bench_121 (by decide) ?_
  refine rd_arm (arm5 (by omega) (G_has hG hk)) gL_bench_X4_arm C hY hl.1 ⟨Nat.le_of_ble_eq_true rfl, Nat.le_of_ble_eq_true rfl⟩ ⟨by show _ ≤ (500 : Nat); omega, by show _ ≤ (3000 : Nat); omega⟩ (Nat.le_of_ble_eq_true rfl) dL_bench_122 (fun H locs hY => ?_)
  refine lv_iadd hx hb dL_bench_125 ?_
  refine lv_istore_n (lv' := [(3, .int (s32 (un 4) (k + 1))), (2, .int (nI (cnt (rowU un) (k + 1)))), (6, .int (nI k)), (1, .int (nI n)), (4, .int (s32 (un 2) k)), (5, .int (1 : Int32)), (0, .ref (A 0))]) hx hb dL_bench_126 rfl hl (by decide) rfl (fun ls hl => ?_)
  refine lv_iload hx hb dL_bench_127 (lv_at hl 4 rfl) ?_
  refine lv_aload_n hx hb dL_bench_129 rfl (lv_at hl 6 rfl) ?_
  refine lv_iload hx hb dL_bench_130 (lv_at hl 2 rfl) ?_
  refine lv_iconst (v := (2 : Int32)) hx hb dL_bench_132 (by decide) ?_
  refine rd_arm (arm2 (by omega) (G_has hG hk)) gL_bench_X4_arm C hY hl.1 ⟨Nat.le_of_ble_eq_true rfl, Nat.le_of_ble_eq_true rfl⟩ ⟨by show _ ≤ (500 : Nat); omega, by show _ ≤ (3000 : Nat); omega⟩ (Nat.le_of_ble_eq_true rfl) dL_bench_133 (fun H locs hY => ?_)
  refine lv_iadd hx hb dL_bench_136 ?_
  refine lv_istore (lv' := [(4, .int (s32 (un 2) (k + 1))), (3, .int (s32 (un 4) (k + 1))), (2, .int (nI (cnt (rowU un) (k + 1)))), (6, .int (nI k)), (1, .int (nI n)), (5, .int (1 : Int32)), (0, .ref (A 0))]) hx hb dL_bench_137 hl (by decide) rfl (fun ls hl => ?_)
  refine lv_aload_n hx hb dL_bench_139 rfl (lv_at hl 6 rfl) ?_
  refine lv_iload hx hb dL_bench_140 (lv_at hl 3 rfl) ?_
  refine lv_iconst (v := (0 : Int32)) hx hb dL_bench_142 (by decide) ?_
  refine rd_arm (arm0 (by omega) (G_has hG hk)) gL_bench_X4_arm C hY hl.1 ⟨Nat.le_of_ble_eq_true rfl, Nat.le_of_ble_eq_true rfl⟩ ⟨by show _ ≤ (500 : Nat); omega, by show _ ≤ (3000 : Nat); omega⟩ (Nat.le_of_ble_eq_true rfl) dL_bench_143 (fun H locs hY => ?_)
  refine lv_bipush (v := (40 : Int32)) hx hb dL_bench_146 (by decide) ?_
  refine lv_icmp_lt (tgt := 285) hx hb dL_bench_148 (by decide) (fun q => absurd q (fun z => by have := ti_lt.mp z; omega)) (fun _ => ?_)
  refine lv_aload_n hx hb dL_bench_151 rfl (lv_at hl 6 rfl) ?_
  refine lv_iload hx hb dL_bench_152 (lv_at hl 3 rfl) ?_
  refine lv_iconst (v := (0 : Int32)) hx hb dL_bench_154 (by decide) ?_
  refine rd_arm (arm0 (by omega) (G_has hG hk)) gL_bench_X4_arm C hY hl.1 ⟨Nat.le_of_ble_eq_true rfl, Nat.le_of_ble_eq_true rfl⟩ ⟨by show _ ≤ (500 : Nat); omega, by show _ ≤ (3000 : Nat); omega⟩ (Nat.le_of_ble_eq_true rfl) dL_bench_155 (fun H locs hY => ?_)
  refine lv_sipush (v := (208 : Int32)) hx hb dL_bench_158 (by decide) ?_
  refine lv_icmp_gt (tgt := 285) hx hb dL_bench_161 (by decide) (fun q => absurd q (fun z => by have := ti_lt.mp z; omega)) (fun _ => ?_)
  refine lv_aload_n hx hb dL_bench_164 rfl (lv_at hl 6 rfl) ?_
  refine lv_iload hx hb dL_bench_165 (lv_at hl 3 rfl) ?_
  refine lv_iconst (v := (1 : Int32)) hx hb dL_bench_167 (by decide) ?_
  refine rd_arm (a1) gL_bench_X4_arm C hY hl.1 ⟨Nat.le_of_ble_eq_true rfl, Nat.le_of_ble_eq_true rfl⟩ ⟨by show _ ≤ (500 : Nat); omega, by show _ ≤ (3000 : Nat); omega⟩ (Nat.le_of_ble_eq_true rfl) dL_bench_168 (fun H locs hY => ?_)
  refine lv_if_lt (tgt := 285) hx hb dL_bench_171 (by decide) (fun q => absurd q (nI_pos (by omega))) (fun _ => ?_)
  refine lv_aload_n hx hb dL_bench_174 rfl (lv_at hl 6 rfl) ?_
  refine lv_iload hx hb dL_bench_175 (lv_at hl 3 rfl) ?_
  refine lv_iconst (v := (1 : Int32)) hx hb dL_bench_177 (by decide) ?_
  refine rd_arm (a1) gL_bench_X4_arm C hY hl.1 ⟨Nat.le_of_ble_eq_true rfl, Nat.le_of_ble_eq_true rfl⟩ ⟨by show _ ≤ (500 : Nat); omega, by show _ ≤ (3000 : Nat); omega⟩ (Nat.le_of_ble_eq_true rfl) dL_bench_178 (fun H locs hY => ?_)
  refine lv_sipush (v := (3600 : Int32)) hx hb dL_bench_181 (by decide) ?_
  refine lv_icmp_ge (tgt := 285) hx hb dL_bench_184 (by decide) (fun q => absurd q (nI_ge (b := 3600) hp2 (by omega))) (fun _ => ?_)
  by_cases g : f_goes un (nI k) = true
  · obtain ⟨g3, g2⟩ := hgi.mp g
    have a4 : f_Xarm fl un ut u0 u1 sv x r (nI k) (4 : Int32) = .ok (1 : Int32) := by rw [arm4 (by omega) (G_has hG hk), if_pos g]
    have a3 : f_Xarm fl un ut u0 u1 sv x r (nI k) (3 : Int32) = .ok (0 : Int32) := by rw [arm3 (by omega) (G_has hG hk), if_pos g3]
    refine lv_aload_n hx hb dL_bench_187 rfl (lv_at hl 6 rfl) ?_
    refine lv_iload hx hb dL_bench_188 (lv_at hl 3 rfl) ?_
    refine lv_iconst (v := (4 : Int32)) hx hb dL_bench_190 (by decide) ?_
    refine rd_arm (a4) gL_bench_X4_arm C hY hl.1 ⟨Nat.le_of_ble_eq_true rfl, Nat.le_of_ble_eq_true rfl⟩ ⟨by show _ ≤ (500 : Nat); omega, by show _ ≤ (3000 : Nat); omega⟩ (Nat.le_of_ble_eq_true rfl) dL_bench_191 (fun H locs hY => ?_)
    refine lv_iconst (v := (1 : Int32)) hx hb dL_bench_194 (by decide) ?_
    refine lv_icmp_ne (tgt := 202) hx hb dL_bench_195 (by decide) (fun q => absurd (rfl) q) (fun _ => ?_)
    refine lv_iconst (v := (1 : Int32)) hx hb dL_bench_198 (by decide) ?_
    refine lv_goto (tgt := 203) hx hb dL_bench_199 (by decide) ?_
    refine lv_aload_n hx hb dL_bench_203 rfl (lv_at hl 6 rfl) ?_
    refine lv_iload hx hb dL_bench_204 (lv_at hl 3 rfl) ?_
    refine lv_iconst (v := (3 : Int32)) hx hb dL_bench_206 (by decide) ?_
    refine rd_arm (a3) gL_bench_X4_arm C hY hl.1 ⟨Nat.le_of_ble_eq_true rfl, Nat.le_of_ble_eq_true rfl⟩ ⟨by show _ ≤ (500 : Nat); omega, by show _ ≤ (3000 : Nat); omega⟩ (Nat.le_of_ble_eq_true rfl) dL_bench_207 (fun H locs hY => ?_)
    refine lv_if_ne (tgt := 227) hx hb dL_bench_210 (by decide) (fun q => absurd (rfl) q) (fun _ => ?_)
    refine lv_aload_n hx hb dL_bench_213 rfl (lv_at hl 6 rfl) ?_
    refine lv_iload hx hb dL_bench_214 (lv_at hl 3 rfl) ?_
    refine lv_iconst (v := (2 : Int32)) hx hb dL_bench_216 (by decide) ?_
    refine rd_arm (arm2 (by omega) (G_has hG hk)) gL_bench_X4_arm C hY hl.1 ⟨Nat.le_of_ble_eq_true rfl, Nat.le_of_ble_eq_true rfl⟩ ⟨by show _ ≤ (500 : Nat); omega, by show _ ≤ (3000 : Nat); omega⟩ (Nat.le_of_ble_eq_true rfl) dL_bench_217 (fun H locs hY => ?_)
    refine lv_if_le (tgt := 227) hx hb dL_bench_220 (by decide) (fun q => absurd q (g2)) (fun _ => ?_)
    refine lv_iconst (v := (1 : Int32)) hx hb dL_bench_223 (by decide) ?_
    refine lv_goto (tgt := 228) hx hb dL_bench_224 (by decide) ?_
    refine lv_icmp_ne (tgt := 285) hx hb dL_bench_228 (by decide) (fun q => absurd (rfl) q) (fun _ => ?_)
    exact bench_231 C hr hlk hG hb9 hk hC1 hS1 kk (by omega) (by omega) hY (lv_sub hl [3, 4, 2, 1, 0, 5, 6] rfl)
  · have a4 : f_Xarm fl un ut u0 u1 sv x r (nI k) (4 : Int32) = .ok (0 : Int32) := by rw [arm4 (by omega) (G_has hG hk), if_neg g]
    by_cases g3 : un 3 k = 0
    · have a3 : f_Xarm fl un ut u0 u1 sv x r (nI k) (3 : Int32) = .ok (0 : Int32) := by rw [arm3 (by omega) (G_has hG hk), if_pos g3]
      have g2 : un 2 k ≤ 0 := by
        by_cases z : un 2 k ≤ 0
        · exact z
        · exact absurd (hgi.mpr ⟨g3, z⟩) g
      refine lv_aload_n hx hb dL_bench_187 rfl (lv_at hl 6 rfl) ?_
      refine lv_iload hx hb dL_bench_188 (lv_at hl 3 rfl) ?_
      refine lv_iconst (v := (4 : Int32)) hx hb dL_bench_190 (by decide) ?_
      refine rd_arm (a4) gL_bench_X4_arm C hY hl.1 ⟨Nat.le_of_ble_eq_true rfl, Nat.le_of_ble_eq_true rfl⟩ ⟨by show _ ≤ (500 : Nat); omega, by show _ ≤ (3000 : Nat); omega⟩ (Nat.le_of_ble_eq_true rfl) dL_bench_191 (fun H locs hY => ?_)
      refine lv_iconst (v := (1 : Int32)) hx hb dL_bench_194 (by decide) ?_
      refine lv_icmp_ne (tgt := 202) hx hb dL_bench_195 (by decide) (fun _ => ?_) (fun q => absurd q (by decide))
      refine lv_iconst (v := (0 : Int32)) hx hb dL_bench_202 (by decide) ?_
      refine lv_aload_n hx hb dL_bench_203 rfl (lv_at hl 6 rfl) ?_
      refine lv_iload hx hb dL_bench_204 (lv_at hl 3 rfl) ?_
      refine lv_iconst (v := (3 : Int32)) hx hb dL_bench_206 (by decide) ?_
      refine rd_arm (a3) gL_bench_X4_arm C hY hl.1 ⟨Nat.le_of_ble_eq_true rfl, Nat.le_of_ble_eq_true rfl⟩ ⟨by show _ ≤ (500 : Nat); omega, by show _ ≤ (3000 : Nat); omega⟩ (Nat.le_of_ble_eq_true rfl) dL_bench_207 (fun H locs hY => ?_)
      refine lv_if_ne (tgt := 227) hx hb dL_bench_210 (by decide) (fun q => absurd (rfl) q) (fun _ => ?_)
      refine lv_aload_n hx hb dL_bench_213 rfl (lv_at hl 6 rfl) ?_
      refine lv_iload hx hb dL_bench_214 (lv_at hl 3 rfl) ?_
      refine lv_iconst (v := (2 : Int32)) hx hb dL_bench_216 (by decide) ?_
      refine rd_arm (arm2 (by omega) (G_has hG hk)) gL_bench_X4_arm C hY hl.1 ⟨Nat.le_of_ble_eq_true rfl, Nat.le_of_ble_eq_true rfl⟩ ⟨by show _ ≤ (500 : Nat); omega, by show _ ≤ (3000 : Nat); omega⟩ (Nat.le_of_ble_eq_true rfl) dL_bench_217 (fun H locs hY => ?_)
      refine lv_if_le (tgt := 227) hx hb dL_bench_220 (by decide) (fun _ => ?_) (fun q => absurd (g2) q)
      refine lv_iconst (v := (0 : Int32)) hx hb dL_bench_227 (by decide) ?_
      refine lv_icmp_ne (tgt := 285) hx hb dL_bench_228 (by decide) (fun q => absurd (rfl) q) (fun _ => ?_)
      exact bench_231 C hr hlk hG hb9 hk hC1 hS1 kk (by omega) (by omega) hY (lv_sub hl [3, 4, 2, 1, 0, 5, 6] rfl)
    · have a3 : f_Xarm fl un ut u0 u1 sv x r (nI k) (3 : Int32) = .ok (1 : Int32) := by rw [arm3 (by omega) (G_has hG hk), if_neg g3]
      refine lv_aload_n hx hb dL_bench_187 rfl (lv_at hl 6 rfl) ?_
      refine lv_iload hx hb dL_bench_188 (lv_at hl 3 rfl) ?_
      refine lv_iconst (v := (4 : Int32)) hx hb dL_bench_190 (by decide) ?_
      refine rd_arm (a4) gL_bench_X4_arm C hY hl.1 ⟨Nat.le_of_ble_eq_true rfl, Nat.le_of_ble_eq_true rfl⟩ ⟨by show _ ≤ (500 : Nat); omega, by show _ ≤ (3000 : Nat); omega⟩ (Nat.le_of_ble_eq_true rfl) dL_bench_191 (fun H locs hY => ?_)
      refine lv_iconst (v := (1 : Int32)) hx hb dL_bench_194 (by decide) ?_
      refine lv_icmp_ne (tgt := 202) hx hb dL_bench_195 (by decide) (fun _ => ?_) (fun q => absurd q (by decide))
      refine lv_iconst (v := (0 : Int32)) hx hb dL_bench_202 (by decide) ?_
      refine lv_aload_n hx hb dL_bench_203 rfl (lv_at hl 6 rfl) ?_
      refine lv_iload hx hb dL_bench_204 (lv_at hl 3 rfl) ?_
      refine lv_iconst (v := (3 : Int32)) hx hb dL_bench_206 (by decide) ?_
      refine rd_arm (a3) gL_bench_X4_arm C hY hl.1 ⟨Nat.le_of_ble_eq_true rfl, Nat.le_of_ble_eq_true rfl⟩ ⟨by show _ ≤ (500 : Nat); omega, by show _ ≤ (3000 : Nat); omega⟩ (Nat.le_of_ble_eq_true rfl) dL_bench_207 (fun H locs hY => ?_)
      refine lv_if_ne (tgt := 227) hx hb dL_bench_210 (by decide) (fun _ => ?_) (fun q => absurd q (by decide))
      refine lv_iconst (v := (0 : Int32)) hx hb dL_bench_227 (by decide) ?_
      refine lv_icmp_ne (tgt := 285) hx hb dL_bench_228 (by decide) (fun q => absurd (rfl) q) (fun _ => ?_)
      exact bench_231 C hr hlk hG hb9 hk hC1 hS1 kk (by omega) (by omega) hY (lv_sub hl [3, 4, 2, 1, 0, 5, 6] rfl)
set_option maxRecDepth 100000 in
theorem bench_96 (C : RC p l m c cL_bench 8 s args wsL_bench (dC, dI) cI cZ cO A0) (hr : meth.sig.returnType = some .boolean) (hlk : meth.locks = false) (hG : GI n un) (hb9 : (un 11 0).toInt ≤ 100000) : ∀ (d k cells slots : Nat) (H : Heap) (locs : List Loc) (ls : Array Slot), k + d = n → cells + 70 * d ≤ 460 → slots + 420 * d ≤ 2760 → DY (dC, dI) (XW cI cZ cO A Qq fl un ut u0 u1 sv x r) A0 s H locs → lv_has ls 8 [(6, .int (nI k)), (1, .int (nI n)), (2, .int (nI (cnt (rowU un) k))), (3, .int (s32 (un 4) k)), (4, .int (s32 (un 2) k)), (5, .int (1 : Int32)), (0, .ref (A 0))] → W p l e rm_L_bench s m args below meth c H locs cells slots (MQ below (kQw (some (.int (bI true))) (dC, dI) vwCl (XW cI cZ cO A Qq fl un ut u0 u1 sv x r) A0) args s 500 3000 A0) (F0 m 96 ls [])
  | d, k, cells, slots, H, locs, ls => fun hd hc1 hc2 hY hl => by
    obtain ⟨hx, hb, hml, hown, hts⟩ := id C.1
    have hn := GI_n hG
    refine lv_iload hx hb dL_bench_96 (lv_at hl 0 rfl) ?_
    refine lv_iload_n hx hb dL_bench_98 rfl (lv_at hl 1 rfl) ?_
    refine lv_icmp_ge (tgt := 444) hx hb dL_bench_99 (by decide) (fun h1 => ?_) (fun h1 => ?_)
    · have h9 : k = n := by
        rcases Nat.lt_or_ge k n with z | z
        · exact absurd h1 (nI_ge z (by omega))
        · omega
      rw [h9] at hl
      exact bench_444 C hr hlk hG hb9 (by omega) (by omega) hY (lv_sub hl [1, 2, 3, 4, 5, 6] rfl)
    · have hk : k < n := by
        rcases Nat.lt_or_ge k n with z | z
        · exact z
        · exact absurd (nI_le z (by omega)) h1
      match d, hd, hc1, hc2 with
      | 0, hd, _, _ => omega
      | d + 1, hd, hc1, hc2 =>
        exact bench_102 C hr hlk hG hb9 hk (C1 := 460 - 70 * d) (S1 := 2760 - 420 * d) (by omega) (by omega) (fun cells slots H locs ls h1 h2 hY hl => bench_96 C hr hlk hG hb9 d (k + 1) cells slots H locs ls (by omega) (by omega) (by omega) hY hl) (by omega) (by omega) hY hl
termination_by d => d
end BEN
set_option maxRecDepth 100000 in
theorem c_L_bench (l : Launch) (hst : l.stackTraces = false) (dC : Nat → ClassId) (dI : Nat → Nat → Nat) (cI cZ cO : ClassId) (A : Nat → Nat) (Q : Nat → Nat → Nat) (fl : (Nat → Int32)) (un : BS) (ut : BS) (u0 : BS) (u1 : BS) (sv : SS) (x : BS) (r : BS) (sz : Nat) {n : Nat} (hG : GI n un) (hb9 : (un 11 0).toInt ≤ 100000) : Met l yL_bench wsL_bench rm_L_bench (va_Pc [.ref (A 0)] (fun U => U.heap.size = sz ∧ va_P (dC, dI) vwCl (XW cI cZ cO A Q fl un ut u0 u1 sv x r) U.heap ∧ va_K (dC, dI) vwCl (TY cI cZ cO) U ∧ va_D (fun _ => True) (XW cI cZ cO A Q fl un ut u0 u1 sv x r) ∧ XT (va_A (XW cI cZ cO A Q fl un ut u0 u1 sv x r) sz) U)) (kQw (some (.int (bI true))) (dC, dI) vwCl (XW cI cZ cO A Q fl un ut u0 u1 sv x r) (va_A (XW cI cZ cO A Q fl un ut u0 u1 sv x r) sz)) 500 3000 (va_A (XW cI cZ cO A Q fl un ut u0 u1 sv x r) sz) := by
  refine kofWE (cc := cL_bench) (maxL := 8) (ret := some .boolean) (by decide) rfl (Nat.le_of_ble_eq_true rfl) ?_
  intro p e s m args below meth c ls S hr hlk hnm hsz hP hK hD hS hA1 hX hl
  generalize hA0 : va_A (XW cI cZ cO A Q fl un ut u0 u1 sv x r) sz = A0 at hD hS hA1 hX ⊢
  subst hsz
  have C : RC p l m c cL_bench 8 s args wsL_bench (dC, dI) cI cZ cO A0 := ⟨S, hst, hK, hX, hA1⟩
  have hY : DY (dC, dI) (XW cI cZ cO A Q fl un ut u0 u1 sv x r) A0 s s.heap [] := ⟨hP, hD, hS⟩
  obtain ⟨hx, hb, hml, hown, hts⟩ := id S
  have hn := GI_n hG
  have hl : lv_has ls 8 [(0, .ref (A 0))] := hl
  have hab := G_ab hG
  have h13 := GI_13 hG
  have e0 : (0 : Int32).toInt = 0 := by decide
  have e2 : (2000 : Int32).toInt = 2000 := by decide
  have c0 : f_Xcount fl un ut u0 u1 sv x r (0 : Int32) = .ok (nI n) := by rw [cou0, GI_5 hG]
  refine lv_aload_n hx hb dL_bench_0 rfl (lv_at hl 0 rfl) ?_
  refine lv_iconst (v := (0 : Int32)) hx hb dL_bench_1 (by decide) ?_
  refine rd_count (c0) gL_bench_X4_count C hY hl.1 ⟨Nat.le_of_ble_eq_true rfl, Nat.le_of_ble_eq_true rfl⟩ ⟨by show _ ≤ (500 : Nat); omega, by show _ ≤ (3000 : Nat); omega⟩ (Nat.le_of_ble_eq_true rfl) dL_bench_2 (fun H locs hY => ?_)
  refine lv_istore_n (lv' := [(1, .int (nI n)), (0, .ref (A 0))]) hx hb dL_bench_5 rfl hl (by decide) rfl (fun ls hl => ?_)
  refine lv_iconst (v := (nI (cnt (rowU un) 0))) hx hb dL_bench_6 rfl ?_
  refine lv_istore_n (lv' := [(2, .int (nI (cnt (rowU un) 0))), (1, .int (nI n)), (0, .ref (A 0))]) hx hb dL_bench_7 rfl hl (by decide) rfl (fun ls hl => ?_)
  refine lv_iconst (v := (s32 (un 4) 0)) hx hb dL_bench_8 rfl ?_
  refine lv_istore_n (lv' := [(3, .int (s32 (un 4) 0)), (2, .int (nI (cnt (rowU un) 0))), (1, .int (nI n)), (0, .ref (A 0))]) hx hb dL_bench_9 rfl hl (by decide) rfl (fun ls hl => ?_)
  refine lv_iconst (v := (s32 (un 2) 0)) hx hb dL_bench_10 rfl ?_
  refine lv_istore (lv' := [(4, .int (s32 (un 2) 0)), (3, .int (s32 (un 4) 0)), (2, .int (nI (cnt (rowU un) 0))), (1, .int (nI n)), (0, .ref (A 0))]) hx hb dL_bench_11 hl (by decide) rfl (fun ls hl => ?_)
  refine lv_iload_n hx hb dL_bench_13 rfl (lv_at hl 3 rfl) ?_
  refine lv_bipush (v := (6 : Int32)) hx hb dL_bench_14 (by decide) ?_
  refine lv_icmp_gt (tgt := 90) hx hb dL_bench_16 (by decide) (fun q => absurd q (nI_nlt (a := 6) hn (by omega))) (fun _ => ?_)
  refine lv_aload_n hx hb dL_bench_19 rfl (lv_at hl 4 rfl) ?_
  refine lv_bipush (v := (6 : Int32)) hx hb dL_bench_20 (by decide) ?_
  refine rd_count (cou6) gL_bench_X4_count C hY hl.1 ⟨Nat.le_of_ble_eq_true rfl, Nat.le_of_ble_eq_true rfl⟩ ⟨by show _ ≤ (500 : Nat); omega, by show _ ≤ (3000 : Nat); omega⟩ (Nat.le_of_ble_eq_true rfl) dL_bench_22 (fun H locs hY => ?_)
  refine lv_aload_n hx hb dL_bench_25 rfl (lv_at hl 4 rfl) ?_
  refine lv_bipush (v := (7 : Int32)) hx hb dL_bench_26 (by decide) ?_
  refine rd_count (cou7) gL_bench_X4_count C hY hl.1 ⟨Nat.le_of_ble_eq_true rfl, Nat.le_of_ble_eq_true rfl⟩ ⟨by show _ ≤ (500 : Nat); omega, by show _ ≤ (3000 : Nat); omega⟩ (Nat.le_of_ble_eq_true rfl) dL_bench_28 (fun H locs hY => ?_)
  refine lv_icmp_ne (tgt := 90) hx hb dL_bench_31 (by decide) (fun q => absurd (G_orders hG) q) (fun _ => ?_)
  refine lv_aload_n hx hb dL_bench_34 rfl (lv_at hl 4 rfl) ?_
  refine lv_bipush (v := (10 : Int32)) hx hb dL_bench_35 (by decide) ?_
  refine rd_count (cou10) gL_bench_X4_count C hY hl.1 ⟨Nat.le_of_ble_eq_true rfl, Nat.le_of_ble_eq_true rfl⟩ ⟨by show _ ≤ (500 : Nat); omega, by show _ ≤ (3000 : Nat); omega⟩ (Nat.le_of_ble_eq_true rfl) dL_bench_37 (fun H locs hY => ?_)
  refine lv_aload_n hx hb dL_bench_40 rfl (lv_at hl 4 rfl) ?_
  refine lv_iconst (v := (2 : Int32)) hx hb dL_bench_41 (by decide) ?_
  refine rd_count (cou2) gL_bench_X4_count C hY hl.1 ⟨Nat.le_of_ble_eq_true rfl, Nat.le_of_ble_eq_true rfl⟩ ⟨by show _ ≤ (500 : Nat); omega, by show _ ≤ (3000 : Nat); omega⟩ (Nat.le_of_ble_eq_true rfl) dL_bench_42 (fun H locs hY => ?_)
  refine lv_icmp_gt (tgt := 90) hx hb dL_bench_45 (by decide) (fun q => absurd q (fun z => by have := ti_lt.mp z; omega)) (fun _ => ?_)
  refine lv_aload_n hx hb dL_bench_48 rfl (lv_at hl 4 rfl) ?_
  refine lv_iconst (v := (4 : Int32)) hx hb dL_bench_49 (by decide) ?_
  refine rd_count (cou4) gL_bench_X4_count C hY hl.1 ⟨Nat.le_of_ble_eq_true rfl, Nat.le_of_ble_eq_true rfl⟩ ⟨by show _ ≤ (500 : Nat); omega, by show _ ≤ (3000 : Nat); omega⟩ (Nat.le_of_ble_eq_true rfl) dL_bench_50 (fun H locs hY => ?_)
  refine lv_if_lt (tgt := 90) hx hb dL_bench_53 (by decide) (fun q => absurd q (fun z => by have := ti_lt.mp z; omega)) (fun _ => ?_)
  refine lv_aload_n hx hb dL_bench_56 rfl (lv_at hl 4 rfl) ?_
  refine lv_iconst (v := (4 : Int32)) hx hb dL_bench_57 (by decide) ?_
  refine rd_count (cou4) gL_bench_X4_count C hY hl.1 ⟨Nat.le_of_ble_eq_true rfl, Nat.le_of_ble_eq_true rfl⟩ ⟨by show _ ≤ (500 : Nat); omega, by show _ ≤ (3000 : Nat); omega⟩ (Nat.le_of_ble_eq_true rfl) dL_bench_58 (fun H locs hY => ?_)
  refine lv_sipush (v := (2000 : Int32)) hx hb dL_bench_61 (by decide) ?_
  refine lv_icmp_gt (tgt := 90) hx hb dL_bench_64 (by decide) (fun q => absurd q (fun z => by have := ti_lt.mp z; omega)) (fun _ => ?_)
  refine lv_aload_n hx hb dL_bench_67 rfl (lv_at hl 4 rfl) ?_
  refine lv_iconst (v := (5 : Int32)) hx hb dL_bench_68 (by decide) ?_
  refine rd_count (cou5) gL_bench_X4_count C hY hl.1 ⟨Nat.le_of_ble_eq_true rfl, Nat.le_of_ble_eq_true rfl⟩ ⟨by show _ ≤ (500 : Nat); omega, by show _ ≤ (3000 : Nat); omega⟩ (Nat.le_of_ble_eq_true rfl) dL_bench_69 (fun H locs hY => ?_)
  refine lv_if_lt (tgt := 90) hx hb dL_bench_72 (by decide) (fun q => absurd q (fun z => by have := ti_lt.mp z; omega)) (fun _ => ?_)
  refine lv_aload_n hx hb dL_bench_75 rfl (lv_at hl 4 rfl) ?_
  refine lv_iconst (v := (5 : Int32)) hx hb dL_bench_76 (by decide) ?_
  refine rd_count (cou5) gL_bench_X4_count C hY hl.1 ⟨Nat.le_of_ble_eq_true rfl, Nat.le_of_ble_eq_true rfl⟩ ⟨by show _ ≤ (500 : Nat); omega, by show _ ≤ (3000 : Nat); omega⟩ (Nat.le_of_ble_eq_true rfl) dL_bench_77 (fun H locs hY => ?_)
  refine lv_sipush (v := (2000 : Int32)) hx hb dL_bench_80 (by decide) ?_
  refine lv_icmp_gt (tgt := 90) hx hb dL_bench_83 (by decide) (fun q => absurd q (fun z => by have := ti_lt.mp z; omega)) (fun _ => ?_)
  refine lv_iconst (v := (1 : Int32)) hx hb dL_bench_86 (by decide) ?_
  refine lv_goto (tgt := 91) hx hb dL_bench_87 (by decide) ?_
  refine lv_istore (lv' := [(5, .int (1 : Int32)), (4, .int (s32 (un 2) 0)), (3, .int (s32 (un 4) 0)), (2, .int (nI (cnt (rowU un) 0))), (1, .int (nI n)), (0, .ref (A 0))]) hx hb dL_bench_91 hl (by decide) rfl (fun ls hl => ?_)
  refine lv_iconst (v := (nI 0)) hx hb dL_bench_93 rfl ?_
  refine lv_istore (lv' := [(6, .int (nI 0)), (5, .int (1 : Int32)), (4, .int (s32 (un 2) 0)), (3, .int (s32 (un 4) 0)), (2, .int (nI (cnt (rowU un) 0))), (1, .int (nI n)), (0, .ref (A 0))]) hx hb dL_bench_94 hl (by decide) rfl (fun ls hl => ?_)
  exact bench_96 C hr hlk hG hb9 n 0 _ _ H locs ls (by omega) (by omega) (by omega) hY (lv_sub hl [0, 5, 4, 3, 2, 1, 6] rfl)

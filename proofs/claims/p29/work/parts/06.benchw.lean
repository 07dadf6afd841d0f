def rm_X0_add : Room := { frames := 0, cells := 0, slots := 0, locals := 0 }
theorem mi_X0_add : kM yX0_add wsX0_add cX0_add 5 (some .int) 3 := ⟨⟨_, rfl⟩, by decide, by decide, by decide +kernel⟩
def f_add (u : BS) (p0 : Int32) (p1 : Int32) (p2 : Int32) : Int32 × BS := if (u 5 0) < 0 then ((-1 : Int32), u) else if (u 5 0) < (6 : Int32) then (u 5 0, upA (upA (upA (upA (upA (upA u 0 ((u 5 0).toNatClampNeg) p0) 1 ((u 5 0).toNatClampNeg) p1) 2 ((u 5 0).toNatClampNeg) p2) 3 ((u 5 0).toNatClampNeg) (0 : Int32)) 4 ((u 5 0).toNatClampNeg) (0 : Int32)) 5 0 ((u 5 0) + (1 : Int32))) else ((-1 : Int32), u)
set_option maxHeartbeats 1000000 in
set_option maxRecDepth 100000 in
theorem c_X0_add (l : Launch) (dC : Nat → ClassId) (dI : Nat → Nat → Nat) (cI cZ cO : ClassId) (h0 : Nat) (q : Nat → Nat) (u : BS) (p0 : Int32) (p1 : Int32) (p2 : Int32) (sz : Nat) : Met l yX0_add wsX0_add rm_X0_add (va_Pc [.ref h0, .int p0, .int p1, .int p2] (fun U => U.heap.size = sz ∧ va_P (dC, dI) vwCl (BW cI cZ h0 q u) U.heap ∧ va_K (dC, dI) vwCl (TY cI cZ cO) U ∧ va_D (fun _ => True) (BW cI cZ h0 q u))) (kQw (some (.int (f_add u p0 p1 p2).1)) (dC, dI) vwCl (BW cI cZ h0 q ((f_add u p0 p1 p2).2)) (va_A (BW cI cZ h0 q u) sz)) 0 0 (va_A (BW cI cZ h0 q u) sz) := by
  refine kofW (cc := cX0_add) (maxL := 5) (ret := some .int) (by decide) rfl (Nat.le_of_ble_eq_true rfl) ?_
  intro p e s m args below meth c ls S hr hlk hnm hsz hP hK hD hS hA hl
  generalize hA0 : va_A (BW cI cZ h0 q u) sz = A0 at hD hS hA ⊢
  subst hsz
  obtain ⟨hx, hb, hml, hown, hts⟩ := id S
  have inX0 : ∀ w ∈ wsX00, w ∈ wsX0_add := fun w h => List.mem_cons_of_mem _ (List.mem_append_right _ h)
  have hl : lv_has ls 5 [(0, .ref h0), (1, .int p0), (2, .int p1), (3, .int p2)] := hl
  refine lv_aload_n hx hb dX0_add_0 rfl (lv_at hl 0 rfl) ?_
  refine va_get (D := (dC, dI)) (ci := 0) (v := .int (u 5 0)) (C := RX0) (T := TX0) (N := 14) hx hb hts inX0 hown hK hP 0 rfl rfl 5 (by decide) (hts (.fieldLink RX0 38 "BoardMetronomes$Bench" "size" "I") (by decide +kernel)) (fun _ h9 => h9) rfl dX0_add_1 ?_
  refine lv_istore (lv' := [(4, .int (u 5 0)), (0, .ref h0), (1, .int p0), (2, .int p1), (3, .int p2)]) hx hb dX0_add_4 hl (by decide) rfl (fun ls hl => ?_)
  refine lv_iload hx hb dX0_add_6 (lv_at hl 0 rfl) ?_
  refine lv_if_lt (tgt := 18) hx hb dX0_add_8 (by decide) (fun c_8 => ?_) (fun c_8 => ?_)
  · refine lv_iconst (v := (-1 : Int32)) hx hb dX0_add_18 (by decide) ?_
    have r1 : f_add u p0 p1 p2 = ((-1 : Int32), u) := by
      rw [f_add, if_pos c_8]
    exact kw_i hx hb hr hlk hP hS dX0_add_19 (by rw [r1]) (by rw [r1])
  · refine lv_iload hx hb dX0_add_11 (lv_at hl 0 rfl) ?_
    refine lv_bipush (v := (6 : Int32)) hx hb dX0_add_13 (by decide) ?_
    refine lv_icmp_lt (tgt := 20) hx hb dX0_add_15 (by decide) (fun c_15 => ?_) (fun c_15 => ?_)
    · refine lv_aload_n hx hb dX0_add_20 rfl (lv_at hl 1 rfl) ?_
      refine va_get (D := (dC, dI)) (ci := 0) (v := .ref (q 0)) (C := RX0) (T := TX0) (N := 14) hx hb hts inX0 hown hK hP 0 rfl rfl 0 (by decide) (hts (.fieldLink RX0 9 "BoardMetronomes$Bench" "beats" "[I") (by decide +kernel)) (fun _ h9 => h9) rfl dX0_add_21 ?_
      refine lv_iload hx hb dX0_add_24 (lv_at hl 0 rfl) ?_
      refine lv_iload_n hx hb dX0_add_26 rfl (lv_at hl 2 rfl) ?_
      refine kv_iast (D := (dC, dI)) hx hb hK hP hD hS 1 0 rfl rfl (kin_lt c_8 c_15 (by decide)) dX0_add_27 (fun H locs hP hD hS => ?_)
      have hP : va_P (dC, dI) vwCl (BW cI cZ h0 q (upA u 0 ((u 5 0).toNatClampNeg) p0)) H := Eq.mp (congrArg (fun w => va_P (dC, dI) vwCl w H) BW_a0) hP
      have hD : va_D A0 (BW cI cZ h0 q (upA u 0 ((u 5 0).toNatClampNeg) p0)) := Eq.mp (congrArg (fun w => va_D A0 w) BW_a0) hD
      refine lv_aload_n hx hb dX0_add_28 rfl (lv_at hl 1 rfl) ?_
      refine va_get (D := (dC, dI)) (ci := 0) (v := .ref (q 1)) (C := RX0) (T := TX0) (N := 14) hx hb hts inX0 hown hK hP 0 rfl rfl 1 (by decide) (hts (.fieldLink RX0 15 "BoardMetronomes$Bench" "phases" "[I") (by decide +kernel)) (fun _ h9 => h9) rfl dX0_add_29 ?_
      refine lv_iload hx hb dX0_add_32 (lv_at hl 0 rfl) ?_
      refine lv_iload_n hx hb dX0_add_34 rfl (lv_at hl 3 rfl) ?_
      refine kv_iast (D := (dC, dI)) hx hb hK hP hD hS 2 0 rfl rfl (kin_lt c_8 c_15 (by decide)) dX0_add_35 (fun H locs hP hD hS => ?_)
      have hP : va_P (dC, dI) vwCl (BW cI cZ h0 q (upA (upA u 0 ((u 5 0).toNatClampNeg) p0) 1 ((u 5 0).toNatClampNeg) p1)) H := Eq.mp (congrArg (fun w => va_P (dC, dI) vwCl w H) BW_a1) hP
      have hD : va_D A0 (BW cI cZ h0 q (upA (upA u 0 ((u 5 0).toNatClampNeg) p0) 1 ((u 5 0).toNatClampNeg) p1)) := Eq.mp (congrArg (fun w => va_D A0 w) BW_a1) hD
      refine lv_aload_n hx hb dX0_add_36 rfl (lv_at hl 1 rfl) ?_
      refine va_get (D := (dC, dI)) (ci := 0) (v := .ref (q 2)) (C := RX0) (T := TX0) (N := 14) hx hb hts inX0 hown hK hP 0 rfl rfl 2 (by decide) (hts (.fieldLink RX0 18 "BoardMetronomes$Bench" "springs" "[I") (by decide +kernel)) (fun _ h9 => h9) rfl dX0_add_37 ?_
      refine lv_iload hx hb dX0_add_40 (lv_at hl 0 rfl) ?_
      refine lv_iload_n hx hb dX0_add_42 rfl (lv_at hl 4 rfl) ?_
      refine kv_iast (D := (dC, dI)) hx hb hK hP hD hS 3 0 rfl rfl (kin_lt c_8 c_15 (by decide)) dX0_add_43 (fun H locs hP hD hS => ?_)
      have hP : va_P (dC, dI) vwCl (BW cI cZ h0 q (upA (upA (upA u 0 ((u 5 0).toNatClampNeg) p0) 1 ((u 5 0).toNatClampNeg) p1) 2 ((u 5 0).toNatClampNeg) p2)) H := Eq.mp (congrArg (fun w => va_P (dC, dI) vwCl w H) BW_a2) hP
      have hD : va_D A0 (BW cI cZ h0 q (upA (upA (upA u 0 ((u 5 0).toNatClampNeg) p0) 1 ((u 5 0).toNatClampNeg) p1) 2 ((u 5 0).toNatClampNeg) p2)) := Eq.mp (congrArg (fun w => va_D A0 w) BW_a2) hD
      refine lv_aload_n hx hb dX0_add_44 rfl (lv_at hl 1 rfl) ?_
      refine va_get (D := (dC, dI)) (ci := 0) (v := .ref (q 3)) (C := RX0) (T := TX0) (N := 14) hx hb hts inX0 hown hK hP 0 rfl rfl 3 (by decide) (hts (.fieldLink RX0 21 "BoardMetronomes$Bench" "held" "[Z") (by decide +kernel)) (fun _ h9 => h9) rfl dX0_add_45 ?_
      refine lv_iload hx hb dX0_add_48 (lv_at hl 0 rfl) ?_
      refine lv_iconst (v := (0 : Int32)) hx hb dX0_add_50 (by decide) ?_
      refine kv_zast (D := (dC, dI)) hx hb hK hP hD hS 4 1 rfl rfl (kin_lt c_8 c_15 (by decide)) (y := (0 : Int32)) (by decide) dX0_add_51 (fun H locs hP hD hS => ?_)
      have hP : va_P (dC, dI) vwCl (BW cI cZ h0 q (upA (upA (upA (upA u 0 ((u 5 0).toNatClampNeg) p0) 1 ((u 5 0).toNatClampNeg) p1) 2 ((u 5 0).toNatClampNeg) p2) 3 ((u 5 0).toNatClampNeg) (0 : Int32))) H := Eq.mp (congrArg (fun w => va_P (dC, dI) vwCl w H) BW_a3) hP
      have hD : va_D A0 (BW cI cZ h0 q (upA (upA (upA (upA u 0 ((u 5 0).toNatClampNeg) p0) 1 ((u 5 0).toNatClampNeg) p1) 2 ((u 5 0).toNatClampNeg) p2) 3 ((u 5 0).toNatClampNeg) (0 : Int32))) := Eq.mp (congrArg (fun w => va_D A0 w) BW_a3) hD
      refine lv_aload_n hx hb dX0_add_52 rfl (lv_at hl 1 rfl) ?_
      refine va_get (D := (dC, dI)) (ci := 0) (v := .ref (q 4)) (C := RX0) (T := TX0) (N := 14) hx hb hts inX0 hown hK hP 0 rfl rfl 4 (by decide) (hts (.fieldLink RX0 25 "BoardMetronomes$Bench" "ticks" "[I") (by decide +kernel)) (fun _ h9 => h9) rfl dX0_add_53 ?_
      refine lv_iload hx hb dX0_add_56 (lv_at hl 0 rfl) ?_
      refine lv_iconst (v := (0 : Int32)) hx hb dX0_add_58 (by decide) ?_
      refine kv_iast (D := (dC, dI)) hx hb hK hP hD hS 5 0 rfl rfl (kin_lt c_8 c_15 (by decide)) dX0_add_59 (fun H locs hP hD hS => ?_)
      have hP : va_P (dC, dI) vwCl (BW cI cZ h0 q (upA (upA (upA (upA (upA u 0 ((u 5 0).toNatClampNeg) p0) 1 ((u 5 0).toNatClampNeg) p1) 2 ((u 5 0).toNatClampNeg) p2) 3 ((u 5 0).toNatClampNeg) (0 : Int32)) 4 ((u 5 0).toNatClampNeg) (0 : Int32))) H := Eq.mp (congrArg (fun w => va_P (dC, dI) vwCl w H) BW_a4) hP
      have hD : va_D A0 (BW cI cZ h0 q (upA (upA (upA (upA (upA u 0 ((u 5 0).toNatClampNeg) p0) 1 ((u 5 0).toNatClampNeg) p1) 2 ((u 5 0).toNatClampNeg) p2) 3 ((u 5 0).toNatClampNeg) (0 : Int32)) 4 ((u 5 0).toNatClampNeg) (0 : Int32))) := Eq.mp (congrArg (fun w => va_D A0 w) BW_a4) hD
      refine lv_aload_n hx hb dX0_add_60 rfl (lv_at hl 1 rfl) ?_
      refine lv_dup hx hb dX0_add_61 rfl ?_
      refine va_get (D := (dC, dI)) (ci := 0) (v := .int (u 5 0)) (C := RX0) (T := TX0) (N := 14) hx hb hts inX0 hown hK hP 0 rfl rfl 5 (by decide) (hts (.fieldLink RX0 38 "BoardMetronomes$Bench" "size" "I") (by decide +kernel)) (fun _ h9 => h9) (congrArg (fun z => some (Value.int z)) (show (upA (upA (upA (upA (upA u 0 ((u 5 0).toNatClampNeg) p0) 1 ((u 5 0).toNatClampNeg) p1) 2 ((u 5 0).toNatClampNeg) p2) 3 ((u 5 0).toNatClampNeg) (0 : Int32)) 4 ((u 5 0).toNatClampNeg) (0 : Int32)) 5 0 = u 5 0 by rw [upA_o (show (5 : Nat) ≠ 4 by decide), upA_o (show (5 : Nat) ≠ 3 by decide), upA_o (show (5 : Nat) ≠ 2 by decide), upA_o (show (5 : Nat) ≠ 1 by decide), upA_o (show (5 : Nat) ≠ 0 by decide)])) dX0_add_62 ?_
      refine lv_iconst (v := (1 : Int32)) hx hb dX0_add_65 (by decide) ?_
      refine lv_iadd hx hb dX0_add_66 ?_
      refine va_put (D := (dC, dI)) (ci := 0) (v := .int ((u 5 0) + (1 : Int32))) (ty := .int) (C := RX0) (T := TX0) (N := 14) hx hb hts inX0 tyX0 tyX0_ok nmX0 hown hK hP hD hS 0 rfl rfl 5 (by decide) (hts (.fieldLink RX0 38 "BoardMetronomes$Bench" "size" "I") (by decide +kernel)) (fun _ h9 => h9) rfl (by decide +kernel) rfl rfl (Nat.le_of_ble_eq_true rfl) dX0_add_67 (fun H locs hP hD hS => ?_)
      have hP : va_P (dC, dI) vwCl (BW cI cZ h0 q (upA (upA (upA (upA (upA (upA u 0 ((u 5 0).toNatClampNeg) p0) 1 ((u 5 0).toNatClampNeg) p1) 2 ((u 5 0).toNatClampNeg) p2) 3 ((u 5 0).toNatClampNeg) (0 : Int32)) 4 ((u 5 0).toNatClampNeg) (0 : Int32)) 5 0 ((u 5 0) + (1 : Int32)))) H := Eq.mp (congrArg (fun w => va_P (dC, dI) vwCl w H) BW_s5) hP
      have hD : va_D A0 (BW cI cZ h0 q (upA (upA (upA (upA (upA (upA u 0 ((u 5 0).toNatClampNeg) p0) 1 ((u 5 0).toNatClampNeg) p1) 2 ((u 5 0).toNatClampNeg) p2) 3 ((u 5 0).toNatClampNeg) (0 : Int32)) 4 ((u 5 0).toNatClampNeg) (0 : Int32)) 5 0 ((u 5 0) + (1 : Int32)))) := Eq.mp (congrArg (fun w => va_D A0 w) BW_s5) hD
      refine lv_iload hx hb dX0_add_70 (lv_at hl 0 rfl) ?_
      have r2 : f_add u p0 p1 p2 = (u 5 0, upA (upA (upA (upA (upA (upA u 0 ((u 5 0).toNatClampNeg) p0) 1 ((u 5 0).toNatClampNeg) p1) 2 ((u 5 0).toNatClampNeg) p2) 3 ((u 5 0).toNatClampNeg) (0 : Int32)) 4 ((u 5 0).toNatClampNeg) (0 : Int32)) 5 0 ((u 5 0) + (1 : Int32))) := by
        rw [f_add, if_neg c_8, if_pos c_15]
      exact kw_i hx hb hr hlk hP hS dX0_add_72 (by rw [r2]) (by rw [r2])
    · refine lv_iconst (v := (-1 : Int32)) hx hb dX0_add_18 (by decide) ?_
      have r3 : f_add u p0 p1 p2 = ((-1 : Int32), u) := by
        rw [f_add, if_neg c_8, if_neg c_15]
      exact kw_i hx hb hr hlk hP hS dX0_add_19 (by rw [r3]) (by rw [r3])

def rm_X0_removeLast : Room := { frames := 0, cells := 0, slots := 0, locals := 0 }
theorem mi_X0_removeLast : kM yX0_removeLast wsX0_removeLast cX0_removeLast 1 (some .int) 0 := ⟨⟨_, rfl⟩, by decide, by decide, by decide +kernel⟩
def f_removeLast (u : BS) : Int32 × BS := if (u 5 0) ≤ 0 then (u 5 0, u) else ((u 5 0) - (1 : Int32), upA u 5 0 ((u 5 0) - (1 : Int32)))
set_option maxHeartbeats 1000000 in
set_option maxRecDepth 100000 in
theorem c_X0_removeLast (l : Launch) (dC : Nat → ClassId) (dI : Nat → Nat → Nat) (cI cZ cO : ClassId) (h0 : Nat) (q : Nat → Nat) (u : BS) (sz : Nat) : Met l yX0_removeLast wsX0_removeLast rm_X0_removeLast (va_Pc [.ref h0] (fun U => U.heap.size = sz ∧ va_P (dC, dI) vwCl (BW cI cZ h0 q u) U.heap ∧ va_K (dC, dI) vwCl (TY cI cZ cO) U ∧ va_D (fun _ => True) (BW cI cZ h0 q u))) (kQw (some (.int (f_removeLast u).1)) (dC, dI) vwCl (BW cI cZ h0 q ((f_removeLast u).2)) (va_A (BW cI cZ h0 q u) sz)) 0 0 (va_A (BW cI cZ h0 q u) sz) := by
  refine kofW (cc := cX0_removeLast) (maxL := 1) (ret := some .int) (by decide) rfl (Nat.le_of_ble_eq_true rfl) ?_
  intro p e s m args below meth c ls S hr hlk hnm hsz hP hK hD hS hA hl
  generalize hA0 : va_A (BW cI cZ h0 q u) sz = A0 at hD hS hA ⊢
  subst hsz
  obtain ⟨hx, hb, hml, hown, hts⟩ := id S
  have inX0 : ∀ w ∈ wsX00, w ∈ wsX0_removeLast := fun w h => List.mem_cons_of_mem _ (List.mem_append_right _ h)
  have hl : lv_has ls 1 [(0, .ref h0)] := hl
  refine lv_aload_n hx hb dX0_removeLast_0 rfl (lv_at hl 0 rfl) ?_
  refine va_get (D := (dC, dI)) (ci := 0) (v := .int (u 5 0)) (C := RX0) (T := TX0) (N := 14) hx hb hts inX0 hown hK hP 0 rfl rfl 5 (by decide) (hts (.fieldLink RX0 38 "BoardMetronomes$Bench" "size" "I") (by decide +kernel)) (fun _ h9 => h9) rfl dX0_removeLast_1 ?_
  refine lv_if_le (tgt := 17) hx hb dX0_removeLast_4 (by decide) (fun c_4 => ?_) (fun c_4 => ?_)
  · refine lv_aload_n hx hb dX0_removeLast_17 rfl (lv_at hl 0 rfl) ?_
    refine va_get (D := (dC, dI)) (ci := 0) (v := .int (u 5 0)) (C := RX0) (T := TX0) (N := 14) hx hb hts inX0 hown hK hP 0 rfl rfl 5 (by decide) (hts (.fieldLink RX0 38 "BoardMetronomes$Bench" "size" "I") (by decide +kernel)) (fun _ h9 => h9) rfl dX0_removeLast_18 ?_
    have r1 : f_removeLast u = (u 5 0, u) := by
      rw [f_removeLast, if_pos c_4]
    exact kw_i hx hb hr hlk hP hS dX0_removeLast_21 (by rw [r1]) (by rw [r1])
  · refine lv_aload_n hx hb dX0_removeLast_7 rfl (lv_at hl 0 rfl) ?_
    refine lv_dup hx hb dX0_removeLast_8 rfl ?_
    refine va_get (D := (dC, dI)) (ci := 0) (v := .int (u 5 0)) (C := RX0) (T := TX0) (N := 14) hx hb hts inX0 hown hK hP 0 rfl rfl 5 (by decide) (hts (.fieldLink RX0 38 "BoardMetronomes$Bench" "size" "I") (by decide +kernel)) (fun _ h9 => h9) rfl dX0_removeLast_9 ?_
    refine lv_iconst (v := (1 : Int32)) hx hb dX0_removeLast_12 (by decide) ?_
    refine lv_isub hx hb dX0_removeLast_13 ?_
    refine va_put (D := (dC, dI)) (ci := 0) (v := .int ((u 5 0) - (1 : Int32))) (ty := .int) (C := RX0) (T := TX0) (N := 14) hx hb hts inX0 tyX0 tyX0_ok nmX0 hown hK hP hD hS 0 rfl rfl 5 (by decide) (hts (.fieldLink RX0 38 "BoardMetronomes$Bench" "size" "I") (by decide +kernel)) (fun _ h9 => h9) rfl (by decide +kernel) rfl rfl (Nat.le_of_ble_eq_true rfl) dX0_removeLast_14 (fun H locs hP hD hS => ?_)
    have hP : va_P (dC, dI) vwCl (BW cI cZ h0 q (upA u 5 0 ((u 5 0) - (1 : Int32)))) H := Eq.mp (congrArg (fun w => va_P (dC, dI) vwCl w H) BW_s5) hP
    have hD : va_D A0 (BW cI cZ h0 q (upA u 5 0 ((u 5 0) - (1 : Int32)))) := Eq.mp (congrArg (fun w => va_D A0 w) BW_s5) hD
    refine lv_aload_n hx hb dX0_removeLast_17 rfl (lv_at hl 0 rfl) ?_
    refine va_get (D := (dC, dI)) (ci := 0) (v := .int ((u 5 0) - (1 : Int32))) (C := RX0) (T := TX0) (N := 14) hx hb hts inX0 hown hK hP 0 rfl rfl 5 (by decide) (hts (.fieldLink RX0 38 "BoardMetronomes$Bench" "size" "I") (by decide +kernel)) (fun _ h9 => h9) (congrArg (fun z => some (Value.int z)) (show (upA u 5 0 ((u 5 0) - (1 : Int32))) 5 0 = (u 5 0) - (1 : Int32) by rw [upA_s])) dX0_removeLast_18 ?_
    have r2 : f_removeLast u = ((u 5 0) - (1 : Int32), upA u 5 0 ((u 5 0) - (1 : Int32))) := by
      rw [f_removeLast, if_neg c_4]
    exact kw_i hx hb hr hlk hP hS dX0_removeLast_21 (by rw [r2]) (by rw [r2])

def rm_X0_changeBeat : Room := { frames := 1, cells := 0, slots := 0, locals := 21 }
theorem mi_X0_changeBeat : kM yX0_changeBeat wsX0_changeBeat cX0_changeBeat 4 (some .int) 2 := ⟨⟨_, rfl⟩, by decide, by decide, by decide +kernel⟩
def f_changeBeat (u : BS) (p0 : Int32) (p1 : Int32) : Int32 × BS := if (f_has u p0) = true then (u 0 p0.toNatClampNeg, upA u 0 p0.toNatClampNeg p1) else ((-1 : Int32), u)
set_option maxHeartbeats 1000000 in
set_option maxRecDepth 100000 in
theorem c_X0_changeBeat (l : Launch) (dC : Nat → ClassId) (dI : Nat → Nat → Nat) (cI cZ cO : ClassId) (h0 : Nat) (q : Nat → Nat) (u : BS) (p0 : Int32) (p1 : Int32) (sz : Nat) : Met l yX0_changeBeat wsX0_changeBeat rm_X0_changeBeat (va_Pc [.ref h0, .int p0, .int p1] (fun U => U.heap.size = sz ∧ va_P (dC, dI) vwCl (BW cI cZ h0 q u) U.heap ∧ va_K (dC, dI) vwCl (TY cI cZ cO) U ∧ va_D (fun _ => True) (BW cI cZ h0 q u))) (kQw (some (.int (f_changeBeat u p0 p1).1)) (dC, dI) vwCl (BW cI cZ h0 q ((f_changeBeat u p0 p1).2)) (va_A (BW cI cZ h0 q u) sz)) 0 0 (va_A (BW cI cZ h0 q u) sz) := by
  refine kofW (cc := cX0_changeBeat) (maxL := 4) (ret := some .int) (by decide) rfl (Nat.le_of_ble_eq_true rfl) ?_
  intro p e s m args below meth c ls S hr hlk hnm hsz hP hK hD hS hA hl
  generalize hA0 : va_A (BW cI cZ h0 q u) sz = A0 at hD hS hA ⊢
  subst hsz
  obtain ⟨hx, hb, hml, hown, hts⟩ := id S
  have inX0 : ∀ w ∈ wsX00, w ∈ wsX0_changeBeat := fun w h => List.mem_cons_of_mem _ (List.mem_append_right _ h)
  have hl : lv_has ls 4 [(0, .ref h0), (1, .int p0), (2, .int p1)] := hl
  refine lv_aload_n hx hb dX0_changeBeat_0 rfl (lv_at hl 0 rfl) ?_
  refine lv_iload_n hx hb dX0_changeBeat_1 rfl (lv_at hl 1 rfl) ?_
  refine kc_v (As := [.int p0]) (rest := []) S (v := .int (bI (f_has u p0))) (c_X0_has l dC dI cI cZ cO h0 q u p0) gX0_changeBeat_X0_has mi_X0_has ⟨rfl, rfl⟩ ⟨Nat.le_of_ble_eq_true rfl, Nat.le_of_ble_eq_true rfl⟩ hK hP 0 rfl rfl ⟨Nat.le_refl _, Nat.le_refl _⟩ dX0_changeBeat_2 rfl hl.1 rfl (Nat.le_of_ble_eq_true rfl) ?_
  refine kb_ne (tgt := 10) hx hb dX0_changeBeat_5 (by decide) (fun c_5 => ?_) (fun c_5 => ?_)
  · refine lv_aload_n hx hb dX0_changeBeat_10 rfl (lv_at hl 0 rfl) ?_
    refine va_get (D := (dC, dI)) (ci := 0) (v := .ref (q 0)) (C := RX0) (T := TX0) (N := 14) hx hb hts inX0 hown hK hP 0 rfl rfl 0 (by decide) (hts (.fieldLink RX0 9 "BoardMetronomes$Bench" "beats" "[I") (by decide +kernel)) (fun _ h9 => h9) rfl dX0_changeBeat_11 ?_
    refine lv_iload_n hx hb dX0_changeBeat_14 rfl (lv_at hl 1 rfl) ?_
    refine va_iald (D := (dC, dI)) hx hb hK hP 1 0 rfl rfl (f_has_in c_5) dX0_changeBeat_15 ?_
    refine lv_istore_n (lv' := [(3, .int (u 0 p0.toNatClampNeg)), (0, .ref h0), (1, .int p0), (2, .int p1)]) hx hb dX0_changeBeat_16 rfl hl (by decide) rfl (fun ls hl => ?_)
    refine lv_aload_n hx hb dX0_changeBeat_17 rfl (lv_at hl 1 rfl) ?_
    refine va_get (D := (dC, dI)) (ci := 0) (v := .ref (q 0)) (C := RX0) (T := TX0) (N := 14) hx hb hts inX0 hown hK hP 0 rfl rfl 0 (by decide) (hts (.fieldLink RX0 9 "BoardMetronomes$Bench" "beats" "[I") (by decide +kernel)) (fun _ h9 => h9) rfl dX0_changeBeat_18 ?_
    refine lv_iload_n hx hb dX0_changeBeat_21 rfl (lv_at hl 2 rfl) ?_
    refine lv_iload_n hx hb dX0_changeBeat_22 rfl (lv_at hl 3 rfl) ?_
    refine kv_iast (D := (dC, dI)) hx hb hK hP hD hS 1 0 rfl rfl (f_has_in c_5) dX0_changeBeat_23 (fun H locs hP hD hS => ?_)
    have hP : va_P (dC, dI) vwCl (BW cI cZ h0 q (upA u 0 p0.toNatClampNeg p1)) H := Eq.mp (congrArg (fun w => va_P (dC, dI) vwCl w H) BW_a0) hP
    have hD : va_D A0 (BW cI cZ h0 q (upA u 0 p0.toNatClampNeg p1)) := Eq.mp (congrArg (fun w => va_D A0 w) BW_a0) hD
    refine lv_iload_n hx hb dX0_changeBeat_24 rfl (lv_at hl 0 rfl) ?_
    have r1 : f_changeBeat u p0 p1 = (u 0 p0.toNatClampNeg, upA u 0 p0.toNatClampNeg p1) := by
      rw [f_changeBeat, if_pos c_5]
    exact kw_i hx hb hr hlk hP hS dX0_changeBeat_25 (by rw [r1]) (by rw [r1])
  · refine lv_iconst (v := (-1 : Int32)) hx hb dX0_changeBeat_8 (by decide) ?_
    have r2 : f_changeBeat u p0 p1 = ((-1 : Int32), u) := by
      rw [f_changeBeat, if_neg c_5]
    exact kw_i hx hb hr hlk hP hS dX0_changeBeat_9 (by rw [r2]) (by rw [r2])

def rm_X0_changeSpring : Room := { frames := 1, cells := 0, slots := 0, locals := 21 }
theorem mi_X0_changeSpring : kM yX0_changeSpring wsX0_changeSpring cX0_changeSpring 4 (some .int) 2 := ⟨⟨_, rfl⟩, by decide, by decide, by decide +kernel⟩
def f_changeSpring (u : BS) (p0 : Int32) (p1 : Int32) : Int32 × BS := if (f_has u p0) = true then (u 2 p0.toNatClampNeg, upA u 2 p0.toNatClampNeg p1) else ((-1 : Int32), u)
set_option maxHeartbeats 1000000 in
set_option maxRecDepth 100000 in
theorem c_X0_changeSpring (l : Launch) (dC : Nat → ClassId) (dI : Nat → Nat → Nat) (cI cZ cO : ClassId) (h0 : Nat) (q : Nat → Nat) (u : BS) (p0 : Int32) (p1 : Int32) (sz : Nat) : Met l yX0_changeSpring wsX0_changeSpring rm_X0_changeSpring (va_Pc [.ref h0, .int p0, .int p1] (fun U => U.heap.size = sz ∧ va_P (dC, dI) vwCl (BW cI cZ h0 q u) U.heap ∧ va_K (dC, dI) vwCl (TY cI cZ cO) U ∧ va_D (fun _ => True) (BW cI cZ h0 q u))) (kQw (some (.int (f_changeSpring u p0 p1).1)) (dC, dI) vwCl (BW cI cZ h0 q ((f_changeSpring u p0 p1).2)) (va_A (BW cI cZ h0 q u) sz)) 0 0 (va_A (BW cI cZ h0 q u) sz) := by
  refine kofW (cc := cX0_changeSpring) (maxL := 4) (ret := some .int) (by decide) rfl (Nat.le_of_ble_eq_true rfl) ?_
  intro p e s m args below meth c ls S hr hlk hnm hsz hP hK hD hS hA hl
  generalize hA0 : va_A (BW cI cZ h0 q u) sz = A0 at hD hS hA ⊢
  subst hsz
  obtain ⟨hx, hb, hml, hown, hts⟩ := id S
  have inX0 : ∀ w ∈ wsX00, w ∈ wsX0_changeSpring := fun w h => List.mem_cons_of_mem _ (List.mem_append_right _ h)
  have hl : lv_has ls 4 [(0, .ref h0), (1, .int p0), (2, .int p1)] := hl
  refine lv_aload_n hx hb dX0_changeSpring_0 rfl (lv_at hl 0 rfl) ?_
  refine lv_iload_n hx hb dX0_changeSpring_1 rfl (lv_at hl 1 rfl) ?_
  refine kc_v (As := [.int p0]) (rest := []) S (v := .int (bI (f_has u p0))) (c_X0_has l dC dI cI cZ cO h0 q u p0) gX0_changeSpring_X0_has mi_X0_has ⟨rfl, rfl⟩ ⟨Nat.le_of_ble_eq_true rfl, Nat.le_of_ble_eq_true rfl⟩ hK hP 0 rfl rfl ⟨Nat.le_refl _, Nat.le_refl _⟩ dX0_changeSpring_2 rfl hl.1 rfl (Nat.le_of_ble_eq_true rfl) ?_
  refine kb_ne (tgt := 10) hx hb dX0_changeSpring_5 (by decide) (fun c_5 => ?_) (fun c_5 => ?_)
  · refine lv_aload_n hx hb dX0_changeSpring_10 rfl (lv_at hl 0 rfl) ?_
    refine va_get (D := (dC, dI)) (ci := 0) (v := .ref (q 2)) (C := RX0) (T := TX0) (N := 14) hx hb hts inX0 hown hK hP 0 rfl rfl 2 (by decide) (hts (.fieldLink RX0 18 "BoardMetronomes$Bench" "springs" "[I") (by decide +kernel)) (fun _ h9 => h9) rfl dX0_changeSpring_11 ?_
    refine lv_iload_n hx hb dX0_changeSpring_14 rfl (lv_at hl 1 rfl) ?_
    refine va_iald (D := (dC, dI)) hx hb hK hP 3 0 rfl rfl (f_has_in c_5) dX0_changeSpring_15 ?_
    refine lv_istore_n (lv' := [(3, .int (u 2 p0.toNatClampNeg)), (0, .ref h0), (1, .int p0), (2, .int p1)]) hx hb dX0_changeSpring_16 rfl hl (by decide) rfl (fun ls hl => ?_)
    refine lv_aload_n hx hb dX0_changeSpring_17 rfl (lv_at hl 1 rfl) ?_
    refine va_get (D := (dC, dI)) (ci := 0) (v := .ref (q 2)) (C := RX0) (T := TX0) (N := 14) hx hb hts inX0 hown hK hP 0 rfl rfl 2 (by decide) (hts (.fieldLink RX0 18 "BoardMetronomes$Bench" "springs" "[I") (by decide +kernel)) (fun _ h9 => h9) rfl dX0_changeSpring_18 ?_
    refine lv_iload_n hx hb dX0_changeSpring_21 rfl (lv_at hl 2 rfl) ?_
    refine lv_iload_n hx hb dX0_changeSpring_22 rfl (lv_at hl 3 rfl) ?_
    refine kv_iast (D := (dC, dI)) hx hb hK hP hD hS 3 0 rfl rfl (f_has_in c_5) dX0_changeSpring_23 (fun H locs hP hD hS => ?_)
    have hP : va_P (dC, dI) vwCl (BW cI cZ h0 q (upA u 2 p0.toNatClampNeg p1)) H := Eq.mp (congrArg (fun w => va_P (dC, dI) vwCl w H) BW_a2) hP
    have hD : va_D A0 (BW cI cZ h0 q (upA u 2 p0.toNatClampNeg p1)) := Eq.mp (congrArg (fun w => va_D A0 w) BW_a2) hD
    refine lv_iload_n hx hb dX0_changeSpring_24 rfl (lv_at hl 0 rfl) ?_
    have r1 : f_changeSpring u p0 p1 = (u 2 p0.toNatClampNeg, upA u 2 p0.toNatClampNeg p1) := by
      rw [f_changeSpring, if_pos c_5]
    exact kw_i hx hb hr hlk hP hS dX0_changeSpring_25 (by rw [r1]) (by rw [r1])
  · refine lv_iconst (v := (-1 : Int32)) hx hb dX0_changeSpring_8 (by decide) ?_
    have r2 : f_changeSpring u p0 p1 = ((-1 : Int32), u) := by
      rw [f_changeSpring, if_neg c_5]
    exact kw_i hx hb hr hlk hP hS dX0_changeSpring_9 (by rw [r2]) (by rw [r2])

def rm_X0_holdOrLetGo : Room := { frames := 1, cells := 0, slots := 0, locals := 21 }
theorem mi_X0_holdOrLetGo : kM yX0_holdOrLetGo wsX0_holdOrLetGo cX0_holdOrLetGo 2 (some .int) 1 := ⟨⟨_, rfl⟩, by decide, by decide, by decide +kernel⟩
def f_holdOrLetGo (u : BS) (p0 : Int32) : Int32 × BS := if (f_has u p0) = true then (if (u 3 p0.toNatClampNeg) = 0 then (if (1 : Int32) = 0 then ((0 : Int32), upA u 3 p0.toNatClampNeg (1 : Int32)) else ((1 : Int32), upA u 3 p0.toNatClampNeg (1 : Int32))) else if (0 : Int32) = 0 then ((0 : Int32), upA u 3 p0.toNatClampNeg (0 : Int32)) else ((1 : Int32), upA u 3 p0.toNatClampNeg (0 : Int32))) else ((-1 : Int32), u)
set_option maxHeartbeats 1000000 in
set_option maxRecDepth 100000 in
theorem c_X0_holdOrLetGo (l : Launch) (dC : Nat → ClassId) (dI : Nat → Nat → Nat) (cI cZ cO : ClassId) (h0 : Nat) (q : Nat → Nat) (u : BS) (p0 : Int32) (sz : Nat) : Met l yX0_holdOrLetGo wsX0_holdOrLetGo rm_X0_holdOrLetGo (va_Pc [.ref h0, .int p0] (fun U => U.heap.size = sz ∧ va_P (dC, dI) vwCl (BW cI cZ h0 q u) U.heap ∧ va_K (dC, dI) vwCl (TY cI cZ cO) U ∧ va_D (fun _ => True) (BW cI cZ h0 q u))) (kQw (some (.int (f_holdOrLetGo u p0).1)) (dC, dI) vwCl (BW cI cZ h0 q ((f_holdOrLetGo u p0).2)) (va_A (BW cI cZ h0 q u) sz)) 0 0 (va_A (BW cI cZ h0 q u) sz) := by
  refine kofW (cc := cX0_holdOrLetGo) (maxL := 2) (ret := some .int) (by decide) rfl (Nat.le_of_ble_eq_true rfl) ?_
  intro p e s m args below meth c ls S hr hlk hnm hsz hP hK hD hS hA hl
  generalize hA0 : va_A (BW cI cZ h0 q u) sz = A0 at hD hS hA ⊢
  subst hsz
  obtain ⟨hx, hb, hml, hown, hts⟩ := id S
  have inX0 : ∀ w ∈ wsX00, w ∈ wsX0_holdOrLetGo := fun w h => List.mem_cons_of_mem _ (List.mem_append_right _ h)
  have hl : lv_has ls 2 [(0, .ref h0), (1, .int p0)] := hl
  refine lv_aload_n hx hb dX0_holdOrLetGo_0 rfl (lv_at hl 0 rfl) ?_
  refine lv_iload_n hx hb dX0_holdOrLetGo_1 rfl (lv_at hl 1 rfl) ?_
  refine kc_v (As := [.int p0]) (rest := []) S (v := .int (bI (f_has u p0))) (c_X0_has l dC dI cI cZ cO h0 q u p0) gX0_holdOrLetGo_X0_has mi_X0_has ⟨rfl, rfl⟩ ⟨Nat.le_of_ble_eq_true rfl, Nat.le_of_ble_eq_true rfl⟩ hK hP 0 rfl rfl ⟨Nat.le_refl _, Nat.le_refl _⟩ dX0_holdOrLetGo_2 rfl hl.1 rfl (Nat.le_of_ble_eq_true rfl) ?_
  refine kb_ne (tgt := 10) hx hb dX0_holdOrLetGo_5 (by decide) (fun c_5 => ?_) (fun c_5 => ?_)
  · refine lv_aload_n hx hb dX0_holdOrLetGo_10 rfl (lv_at hl 0 rfl) ?_
    refine va_get (D := (dC, dI)) (ci := 0) (v := .ref (q 3)) (C := RX0) (T := TX0) (N := 14) hx hb hts inX0 hown hK hP 0 rfl rfl 3 (by decide) (hts (.fieldLink RX0 21 "BoardMetronomes$Bench" "held" "[Z") (by decide +kernel)) (fun _ h9 => h9) rfl dX0_holdOrLetGo_11 ?_
    refine lv_iload_n hx hb dX0_holdOrLetGo_14 rfl (lv_at hl 1 rfl) ?_
    refine lv_aload_n hx hb dX0_holdOrLetGo_15 rfl (lv_at hl 0 rfl) ?_
    refine va_get (D := (dC, dI)) (ci := 0) (v := .ref (q 3)) (C := RX0) (T := TX0) (N := 14) hx hb hts inX0 hown hK hP 0 rfl rfl 3 (by decide) (hts (.fieldLink RX0 21 "BoardMetronomes$Bench" "held" "[Z") (by decide +kernel)) (fun _ h9 => h9) rfl dX0_holdOrLetGo_16 ?_
    refine lv_iload_n hx hb dX0_holdOrLetGo_19 rfl (lv_at hl 1 rfl) ?_
    refine va_zald (D := (dC, dI)) hx hb hK hP 4 1 rfl rfl (f_has_in c_5) dX0_holdOrLetGo_20 ?_
    refine lv_if_ne (tgt := 28) hx hb dX0_holdOrLetGo_21 (by decide) (fun c_21 => ?_) (fun c_21 => ?_)
    · refine lv_iconst (v := (0 : Int32)) hx hb dX0_holdOrLetGo_28 (by decide) ?_
      refine kv_zast (D := (dC, dI)) hx hb hK hP hD hS 4 1 rfl rfl (f_has_in c_5) (y := (0 : Int32)) (by decide) dX0_holdOrLetGo_29 (fun H locs hP hD hS => ?_)
      have hP : va_P (dC, dI) vwCl (BW cI cZ h0 q (upA u 3 p0.toNatClampNeg (0 : Int32))) H := Eq.mp (congrArg (fun w => va_P (dC, dI) vwCl w H) BW_a3) hP
      have hD : va_D A0 (BW cI cZ h0 q (upA u 3 p0.toNatClampNeg (0 : Int32))) := Eq.mp (congrArg (fun w => va_D A0 w) BW_a3) hD
      refine lv_aload_n hx hb dX0_holdOrLetGo_30 rfl (lv_at hl 0 rfl) ?_
      refine va_get (D := (dC, dI)) (ci := 0) (v := .ref (q 3)) (C := RX0) (T := TX0) (N := 14) hx hb hts inX0 hown hK hP 0 rfl rfl 3 (by decide) (hts (.fieldLink RX0 21 "BoardMetronomes$Bench" "held" "[Z") (by decide +kernel)) (fun _ h9 => h9) rfl dX0_holdOrLetGo_31 ?_
      refine lv_iload_n hx hb dX0_holdOrLetGo_34 rfl (lv_at hl 1 rfl) ?_
      refine va_zald (D := (dC, dI)) hx hb hK hP 4 1 rfl rfl (f_has_in c_5) dX0_holdOrLetGo_35 ?_
      rw [upA_s]
      refine lv_if_eq (tgt := 43) hx hb dX0_holdOrLetGo_36 (by decide) (fun c_36 => ?_) (fun c_36 => ?_)
      · refine lv_iconst (v := (0 : Int32)) hx hb dX0_holdOrLetGo_43 (by decide) ?_
        have r1 : f_holdOrLetGo u p0 = ((0 : Int32), upA u 3 p0.toNatClampNeg (0 : Int32)) := by
          rw [f_holdOrLetGo, if_pos c_5, if_neg c_21, if_pos c_36]
        exact kw_i hx hb hr hlk hP hS dX0_holdOrLetGo_44 (by rw [r1]) (by rw [r1])
      · refine lv_iconst (v := (1 : Int32)) hx hb dX0_holdOrLetGo_39 (by decide) ?_
        refine lv_goto (tgt := 44) hx hb dX0_holdOrLetGo_40 (by decide) ?_
        have r2 : f_holdOrLetGo u p0 = ((1 : Int32), upA u 3 p0.toNatClampNeg (0 : Int32)) := by
          rw [f_holdOrLetGo, if_pos c_5, if_neg c_21, if_neg c_36]
        exact kw_i hx hb hr hlk hP hS dX0_holdOrLetGo_44 (by rw [r2]) (by rw [r2])
    · refine lv_iconst (v := (1 : Int32)) hx hb dX0_holdOrLetGo_24 (by decide) ?_
      refine lv_goto (tgt := 29) hx hb dX0_holdOrLetGo_25 (by decide) ?_
      refine kv_zast (D := (dC, dI)) hx hb hK hP hD hS 4 1 rfl rfl (f_has_in c_5) (y := (1 : Int32)) (by decide) dX0_holdOrLetGo_29 (fun H locs hP hD hS => ?_)
      have hP : va_P (dC, dI) vwCl (BW cI cZ h0 q (upA u 3 p0.toNatClampNeg (1 : Int32))) H := Eq.mp (congrArg (fun w => va_P (dC, dI) vwCl w H) BW_a3) hP
      have hD : va_D A0 (BW cI cZ h0 q (upA u 3 p0.toNatClampNeg (1 : Int32))) := Eq.mp (congrArg (fun w => va_D A0 w) BW_a3) hD
      refine lv_aload_n hx hb dX0_holdOrLetGo_30 rfl (lv_at hl 0 rfl) ?_
      refine va_get (D := (dC, dI)) (ci := 0) (v := .ref (q 3)) (C := RX0) (T := TX0) (N := 14) hx hb hts inX0 hown hK hP 0 rfl rfl 3 (by decide) (hts (.fieldLink RX0 21 "BoardMetronomes$Bench" "held" "[Z") (by decide +kernel)) (fun _ h9 => h9) rfl dX0_holdOrLetGo_31 ?_
      refine lv_iload_n hx hb dX0_holdOrLetGo_34 rfl (lv_at hl 1 rfl) ?_
      refine va_zald (D := (dC, dI)) hx hb hK hP 4 1 rfl rfl (f_has_in c_5) dX0_holdOrLetGo_35 ?_
      rw [upA_s]
      refine lv_if_eq (tgt := 43) hx hb dX0_holdOrLetGo_36 (by decide) (fun c_36 => ?_) (fun c_36 => ?_)
      · refine lv_iconst (v := (0 : Int32)) hx hb dX0_holdOrLetGo_43 (by decide) ?_
        have r3 : f_holdOrLetGo u p0 = ((0 : Int32), upA u 3 p0.toNatClampNeg (1 : Int32)) := by
          rw [f_holdOrLetGo, if_pos c_5, if_pos c_21, if_pos c_36]
        exact kw_i hx hb hr hlk hP hS dX0_holdOrLetGo_44 (by rw [r3]) (by rw [r3])
      · refine lv_iconst (v := (1 : Int32)) hx hb dX0_holdOrLetGo_39 (by decide) ?_
        refine lv_goto (tgt := 44) hx hb dX0_holdOrLetGo_40 (by decide) ?_
        have r4 : f_holdOrLetGo u p0 = ((1 : Int32), upA u 3 p0.toNatClampNeg (1 : Int32)) := by
          rw [f_holdOrLetGo, if_pos c_5, if_pos c_21, if_neg c_36]
        exact kw_i hx hb hr hlk hP hS dX0_holdOrLetGo_44 (by rw [r4]) (by rw [r4])
  · refine lv_iconst (v := (-1 : Int32)) hx hb dX0_holdOrLetGo_8 (by decide) ?_
    have r5 : f_holdOrLetGo u p0 = ((-1 : Int32), u) := by
      rw [f_holdOrLetGo, if_neg c_5]
    exact kw_i hx hb hr hlk hP hS dX0_holdOrLetGo_9 (by rw [r5]) (by rw [r5])

def rm_X0_changeSetting : Room := { frames := 1, cells := 0, slots := 0, locals := 21 }
theorem mi_X0_changeSetting : kM yX0_changeSetting wsX0_changeSetting cX0_changeSetting 4 (some .int) 2 := ⟨⟨_, rfl⟩, by decide, by decide, by decide +kernel⟩
def f_changeSetting (u : BS) (p0 : Int32) (p1 : Int32) : Int32 × BS := if p0 = (0 : Int32) then (f_settingValue u p0, upA u 8 0 p1) else if p0 = (1 : Int32) then (f_settingValue u p0, upA u 9 0 p1) else (f_settingValue u p0, upA u 10 0 p1)
set_option maxHeartbeats 1000000 in
set_option maxRecDepth 100000 in
theorem c_X0_changeSetting (l : Launch) (dC : Nat → ClassId) (dI : Nat → Nat → Nat) (cI cZ cO : ClassId) (h0 : Nat) (q : Nat → Nat) (u : BS) (p0 : Int32) (p1 : Int32) (sz : Nat) : Met l yX0_changeSetting wsX0_changeSetting rm_X0_changeSetting (va_Pc [.ref h0, .int p0, .int p1] (fun U => U.heap.size = sz ∧ va_P (dC, dI) vwCl (BW cI cZ h0 q u) U.heap ∧ va_K (dC, dI) vwCl (TY cI cZ cO) U ∧ va_D (fun _ => True) (BW cI cZ h0 q u))) (kQw (some (.int (f_changeSetting u p0 p1).1)) (dC, dI) vwCl (BW cI cZ h0 q ((f_changeSetting u p0 p1).2)) (va_A (BW cI cZ h0 q u) sz)) 0 0 (va_A (BW cI cZ h0 q u) sz) := by
  refine kofW (cc := cX0_changeSetting) (maxL := 4) (ret := some .int) (by decide) rfl (Nat.le_of_ble_eq_true rfl) ?_
  intro p e s m args below meth c ls S hr hlk hnm hsz hP hK hD hS hA hl
  generalize hA0 : va_A (BW cI cZ h0 q u) sz = A0 at hD hS hA ⊢
  subst hsz
  obtain ⟨hx, hb, hml, hown, hts⟩ := id S
  have inX0 : ∀ w ∈ wsX00, w ∈ wsX0_changeSetting := fun w h => List.mem_cons_of_mem _ (List.mem_append_right _ h)
  have hl : lv_has ls 4 [(0, .ref h0), (1, .int p0), (2, .int p1)] := hl
  refine lv_aload_n hx hb dX0_changeSetting_0 rfl (lv_at hl 0 rfl) ?_
  refine lv_iload_n hx hb dX0_changeSetting_1 rfl (lv_at hl 1 rfl) ?_
  refine kc_v (As := [.int p0]) (rest := []) S (v := .int (f_settingValue u p0)) (c_X0_settingValue l dC dI cI cZ cO h0 q u p0) gX0_changeSetting_X0_settingValue mi_X0_settingValue ⟨rfl, rfl⟩ ⟨Nat.le_of_ble_eq_true rfl, Nat.le_of_ble_eq_true rfl⟩ hK hP 0 rfl rfl ⟨Nat.le_refl _, Nat.le_refl _⟩ dX0_changeSetting_2 rfl hl.1 rfl (Nat.le_of_ble_eq_true rfl) ?_
  refine lv_istore_n (lv' := [(3, .int (f_settingValue u p0)), (0, .ref h0), (1, .int p0), (2, .int p1)]) hx hb dX0_changeSetting_5 rfl hl (by decide) rfl (fun ls hl => ?_)
  refine lv_iload_n hx hb dX0_changeSetting_6 rfl (lv_at hl 2 rfl) ?_
  by_cases c_7_0 : p0 = (0 : Int32)
  · refine lv_lookup (off := 25) (tgt := 32) hx hb dX0_changeSetting_7 (by decide) (by rw [c_7_0]; rfl) (by decide) ?_
    refine lv_aload_n hx hb dX0_changeSetting_32 rfl (lv_at hl 1 rfl) ?_
    refine lv_iload_n hx hb dX0_changeSetting_33 rfl (lv_at hl 3 rfl) ?_
    refine va_put (D := (dC, dI)) (ci := 0) (v := .int p1) (ty := .int) (C := RX0) (T := TX0) (N := 14) hx hb hts inX0 tyX0 tyX0_ok nmX0 hown hK hP hD hS 0 rfl rfl 8 (by decide) (hts (.fieldLink RX0 28 "BoardMetronomes$Bench" "stay" "I") (by decide +kernel)) (fun _ h9 => h9) rfl (by decide +kernel) rfl rfl (Nat.le_of_ble_eq_true rfl) dX0_changeSetting_34 (fun H locs hP hD hS => ?_)
    have hP : va_P (dC, dI) vwCl (BW cI cZ h0 q (upA u 8 0 p1)) H := Eq.mp (congrArg (fun w => va_P (dC, dI) vwCl w H) BW_s8) hP
    have hD : va_D A0 (BW cI cZ h0 q (upA u 8 0 p1)) := Eq.mp (congrArg (fun w => va_D A0 w) BW_s8) hD
    refine lv_goto (tgt := 53) hx hb dX0_changeSetting_37 (by decide) ?_
    refine lv_iload_n hx hb dX0_changeSetting_53 rfl (lv_at hl 0 rfl) ?_
    have r1 : f_changeSetting u p0 p1 = (f_settingValue u p0, upA u 8 0 p1) := by
      rw [f_changeSetting, if_pos c_7_0]
    exact kw_i hx hb hr hlk hP hS dX0_changeSetting_54 (by rw [r1]) (by rw [r1])
  by_cases c_7_1 : p0 = (1 : Int32)
  · refine lv_lookup (off := 33) (tgt := 40) hx hb dX0_changeSetting_7 (by decide) (by rw [c_7_1]; rfl) (by decide) ?_
    refine lv_aload_n hx hb dX0_changeSetting_40 rfl (lv_at hl 1 rfl) ?_
    refine lv_iload_n hx hb dX0_changeSetting_41 rfl (lv_at hl 3 rfl) ?_
    refine va_put (D := (dC, dI)) (ci := 0) (v := .int p1) (ty := .int) (C := RX0) (T := TX0) (N := 14) hx hb hts inX0 tyX0 tyX0_ok nmX0 hown hK hP hD hS 0 rfl rfl 9 (by decide) (hts (.fieldLink RX0 32 "BoardMetronomes$Bench" "strength" "I") (by decide +kernel)) (fun _ h9 => h9) rfl (by decide +kernel) rfl rfl (Nat.le_of_ble_eq_true rfl) dX0_changeSetting_42 (fun H locs hP hD hS => ?_)
    have hP : va_P (dC, dI) vwCl (BW cI cZ h0 q (upA u 9 0 p1)) H := Eq.mp (congrArg (fun w => va_P (dC, dI) vwCl w H) BW_s9) hP
    have hD : va_D A0 (BW cI cZ h0 q (upA u 9 0 p1)) := Eq.mp (congrArg (fun w => va_D A0 w) BW_s9) hD
    refine lv_goto (tgt := 53) hx hb dX0_changeSetting_45 (by decide) ?_
    refine lv_iload_n hx hb dX0_changeSetting_53 rfl (lv_at hl 0 rfl) ?_
    have r2 : f_changeSetting u p0 p1 = (f_settingValue u p0, upA u 9 0 p1) := by
      rw [f_changeSetting, if_neg c_7_0, if_pos c_7_1]
    exact kw_i hx hb hr hlk hP hS dX0_changeSetting_54 (by rw [r2]) (by rw [r2])
  refine lv_lookup (off := 41) (tgt := 48) hx hb dX0_changeSetting_7 (by decide) (by rw [lv_osw (a := 0) (k := (0 : Int32)) c_7_0 (by decide)]; rw [lv_osw (a := 1) (k := (1 : Int32)) c_7_1 (by decide)]; rfl) (by decide) ?_
  refine lv_aload_n hx hb dX0_changeSetting_48 rfl (lv_at hl 1 rfl) ?_
  refine lv_iload_n hx hb dX0_changeSetting_49 rfl (lv_at hl 3 rfl) ?_
  refine va_put (D := (dC, dI)) (ci := 0) (v := .int p1) (ty := .int) (C := RX0) (T := TX0) (N := 14) hx hb hts inX0 tyX0 tyX0_ok nmX0 hown hK hP hD hS 0 rfl rfl 10 (by decide) (hts (.fieldLink RX0 35 "BoardMetronomes$Bench" "nearness" "I") (by decide +kernel)) (fun _ h9 => h9) rfl (by decide +kernel) rfl rfl (Nat.le_of_ble_eq_true rfl) dX0_changeSetting_50 (fun H locs hP hD hS => ?_)
  have hP : va_P (dC, dI) vwCl (BW cI cZ h0 q (upA u 10 0 p1)) H := Eq.mp (congrArg (fun w => va_P (dC, dI) vwCl w H) BW_s10) hP
  have hD : va_D A0 (BW cI cZ h0 q (upA u 10 0 p1)) := Eq.mp (congrArg (fun w => va_D A0 w) BW_s10) hD
  refine lv_iload_n hx hb dX0_changeSetting_53 rfl (lv_at hl 0 rfl) ?_
  have r3 : f_changeSetting u p0 p1 = (f_settingValue u p0, upA u 10 0 p1) := by
    rw [f_changeSetting, if_neg c_7_0, if_neg c_7_1]
  exact kw_i hx hb hr hlk hP hS dX0_changeSetting_54 (by rw [r3]) (by rw [r3])

def rm_X0_stopBoard : Room := { frames := 1, cells := 0, slots := 0, locals := 21 }
theorem mi_X0_stopBoard : kM yX0_stopBoard wsX0_stopBoard cX0_stopBoard 2 (some .int) 0 := ⟨⟨_, rfl⟩, by decide, by decide, by decide +kernel⟩
def f_stopBoard (u : BS) : Int32 × BS := ((jabs (u 6 0)) + (jabs (u 7 0)), upA (upA u 6 0 (0 : Int32)) 7 0 (0 : Int32))
set_option maxHeartbeats 1000000 in
set_option maxRecDepth 100000 in
theorem c_X0_stopBoard (l : Launch) (dC : Nat → ClassId) (dI : Nat → Nat → Nat) (cI cZ cO : ClassId) (h0 : Nat) (q : Nat → Nat) (u : BS) (sz : Nat) : Met l yX0_stopBoard wsX0_stopBoard rm_X0_stopBoard (va_Pc [.ref h0] (fun U => U.heap.size = sz ∧ va_P (dC, dI) vwCl (BW cI cZ h0 q u) U.heap ∧ va_K (dC, dI) vwCl (TY cI cZ cO) U ∧ va_D (fun _ => True) (BW cI cZ h0 q u))) (kQw (some (.int (f_stopBoard u).1)) (dC, dI) vwCl (BW cI cZ h0 q ((f_stopBoard u).2)) (va_A (BW cI cZ h0 q u) sz)) 0 0 (va_A (BW cI cZ h0 q u) sz) := by
  refine kofW (cc := cX0_stopBoard) (maxL := 2) (ret := some .int) (by decide) rfl (Nat.le_of_ble_eq_true rfl) ?_
  intro p e s m args below meth c ls S hr hlk hnm hsz hP hK hD hS hA hl
  generalize hA0 : va_A (BW cI cZ h0 q u) sz = A0 at hD hS hA ⊢
  subst hsz
  obtain ⟨hx, hb, hml, hown, hts⟩ := id S
  have inX0 : ∀ w ∈ wsX00, w ∈ wsX0_stopBoard := fun w h => List.mem_cons_of_mem _ (List.mem_append_right _ h)
  have hl : lv_has ls 2 [(0, .ref h0)] := hl
  refine lv_aload_n hx hb dX0_stopBoard_0 rfl (lv_at hl 0 rfl) ?_
  refine va_get (D := (dC, dI)) (ci := 0) (v := .int (u 6 0)) (C := RX0) (T := TX0) (N := 14) hx hb hts inX0 hown hK hP 0 rfl rfl 6 (by decide) (hts (.fieldLink RX0 41 "BoardMetronomes$Bench" "a" "I") (by decide +kernel)) (fun _ h9 => h9) rfl dX0_stopBoard_1 ?_
  refine va_mabs hx hb (hml.trans hl.1.symm) hown (hts (.methodLink RX0 68 Lib.Math.abs.name) (by decide +kernel)) (hts (.static Lib.Math.abs.name) (by decide +kernel)) (hts (.initialized "java/lang/Math") (by decide +kernel)) (hts (.code Lib.Math.abs.name Lib.Math.abs.code 1 (some .int)) (List.mem_of_getElem? (i := 5) rfl)) (Nat.le_of_ble_eq_true rfl) (Nat.le_of_ble_eq_true rfl) (Nat.le_refl _) (Nat.le_refl _) dX0_stopBoard_4 ?_
  refine W.eq (g2 := F0 m 7 ls [.int (jabs (u 6 0))]) rfl ?_
  refine lv_aload_n hx hb dX0_stopBoard_7 rfl (lv_at hl 0 rfl) ?_
  refine va_get (D := (dC, dI)) (ci := 0) (v := .int (u 7 0)) (C := RX0) (T := TX0) (N := 14) hx hb hts inX0 hown hK hP 0 rfl rfl 7 (by decide) (hts (.fieldLink RX0 44 "BoardMetronomes$Bench" "b" "I") (by decide +kernel)) (fun _ h9 => h9) rfl dX0_stopBoard_8 ?_
  refine va_mabs hx hb (hml.trans hl.1.symm) hown (hts (.methodLink RX0 68 Lib.Math.abs.name) (by decide +kernel)) (hts (.static Lib.Math.abs.name) (by decide +kernel)) (hts (.initialized "java/lang/Math") (by decide +kernel)) (hts (.code Lib.Math.abs.name Lib.Math.abs.code 1 (some .int)) (List.mem_of_getElem? (i := 5) rfl)) (Nat.le_of_ble_eq_true rfl) (Nat.le_of_ble_eq_true rfl) (Nat.le_refl _) (Nat.le_refl _) dX0_stopBoard_11 ?_
  refine W.eq (g2 := F0 m 14 ls [.int (jabs (u 7 0)), .int (jabs (u 6 0))]) rfl ?_
  refine lv_iadd hx hb dX0_stopBoard_14 ?_
  refine lv_istore_n (lv' := [(1, .int ((jabs (u 6 0)) + (jabs (u 7 0)))), (0, .ref h0)]) hx hb dX0_stopBoard_15 rfl hl (by decide) rfl (fun ls hl => ?_)
  refine lv_aload_n hx hb dX0_stopBoard_16 rfl (lv_at hl 1 rfl) ?_
  refine lv_iconst (v := (0 : Int32)) hx hb dX0_stopBoard_17 (by decide) ?_
  refine va_put (D := (dC, dI)) (ci := 0) (v := .int (0 : Int32)) (ty := .int) (C := RX0) (T := TX0) (N := 14) hx hb hts inX0 tyX0 tyX0_ok nmX0 hown hK hP hD hS 0 rfl rfl 6 (by decide) (hts (.fieldLink RX0 41 "BoardMetronomes$Bench" "a" "I") (by decide +kernel)) (fun _ h9 => h9) rfl (by decide +kernel) rfl rfl (Nat.le_of_ble_eq_true rfl) dX0_stopBoard_18 (fun H locs hP hD hS => ?_)
  have hP : va_P (dC, dI) vwCl (BW cI cZ h0 q (upA u 6 0 (0 : Int32))) H := Eq.mp (congrArg (fun w => va_P (dC, dI) vwCl w H) BW_s6) hP
  have hD : va_D A0 (BW cI cZ h0 q (upA u 6 0 (0 : Int32))) := Eq.mp (congrArg (fun w => va_D A0 w) BW_s6) hD
  refine lv_aload_n hx hb dX0_stopBoard_21 rfl (lv_at hl 1 rfl) ?_
  refine lv_iconst (v := (0 : Int32)) hx hb dX0_stopBoard_22 (by decide) ?_
  refine va_put (D := (dC, dI)) (ci := 0) (v := .int (0 : Int32)) (ty := .int) (C := RX0) (T := TX0) (N := 14) hx hb hts inX0 tyX0 tyX0_ok nmX0 hown hK hP hD hS 0 rfl rfl 7 (by decide) (hts (.fieldLink RX0 44 "BoardMetronomes$Bench" "b" "I") (by decide +kernel)) (fun _ h9 => h9) rfl (by decide +kernel) rfl rfl (Nat.le_of_ble_eq_true rfl) dX0_stopBoard_23 (fun H locs hP hD hS => ?_)
  have hP : va_P (dC, dI) vwCl (BW cI cZ h0 q (upA (upA u 6 0 (0 : Int32)) 7 0 (0 : Int32))) H := Eq.mp (congrArg (fun w => va_P (dC, dI) vwCl w H) BW_s7) hP
  have hD : va_D A0 (BW cI cZ h0 q (upA (upA u 6 0 (0 : Int32)) 7 0 (0 : Int32))) := Eq.mp (congrArg (fun w => va_D A0 w) BW_s7) hD
  refine lv_iload_n hx hb dX0_stopBoard_26 rfl (lv_at hl 0 rfl) ?_
  have r1 : f_stopBoard u = ((jabs (u 6 0)) + (jabs (u 7 0)), upA (upA u 6 0 (0 : Int32)) 7 0 (0 : Int32)) := by
    rw [f_stopBoard]
  exact kw_i hx hb hr hlk hP hS dX0_stopBoard_27 (by rw [r1]) (by rw [r1])

def rm_X0_pushBoard : Room := { frames := 2, cells := 0, slots := 0, locals := 43 }
theorem mi_X0_pushBoard : kM yX0_pushBoard wsX0_pushBoard cX0_pushBoard 4 none 0 := ⟨⟨_, rfl⟩, by decide, by decide, by decide +kernel⟩
def f_pushBoard (u : BS) : BS := if (f_going u) ≤ 0 then (upA (upA u 6 0 ((((u 6 0) * (u 8 0)) + ((0 : Int32) * ((100 : Int32) - (u 8 0)))) / (100 : Int32))) 7 0 ((((u 7 0) * (u 8 0)) + ((0 : Int32) * ((100 : Int32) - (u 8 0)))) / (100 : Int32))) else upA (upA u 6 0 ((((u 6 0) * (u 8 0)) + (((f_sumOfSwings u) / (f_going u)) * ((100 : Int32) - (u 8 0)))) / (100 : Int32))) 7 0 ((((u 7 0) * (u 8 0)) + (((f_sumOfTurns u) / (f_going u)) * ((100 : Int32) - (u 8 0)))) / (100 : Int32))
set_option maxHeartbeats 1000000 in
set_option maxRecDepth 100000 in
theorem c_X0_pushBoard (l : Launch) (dC : Nat → ClassId) (dI : Nat → Nat → Nat) (cI cZ cO : ClassId) (h0 : Nat) (q : Nat → Nat) (u : BS) (sz : Nat) : Met l yX0_pushBoard wsX0_pushBoard rm_X0_pushBoard (va_Pc [.ref h0] (fun U => U.heap.size = sz ∧ va_P (dC, dI) vwCl (BW cI cZ h0 q u) U.heap ∧ va_K (dC, dI) vwCl (TY cI cZ cO) U ∧ va_D (fun _ => True) (BW cI cZ h0 q u))) (kQw none (dC, dI) vwCl (BW cI cZ h0 q (f_pushBoard u)) (va_A (BW cI cZ h0 q u) sz)) 0 0 (va_A (BW cI cZ h0 q u) sz) := by
  refine kofW (cc := cX0_pushBoard) (maxL := 4) (ret := none) (by decide) rfl (Nat.le_of_ble_eq_true rfl) ?_
  intro p e s m args below meth c ls S hr hlk hnm hsz hP hK hD hS hA hl
  generalize hA0 : va_A (BW cI cZ h0 q u) sz = A0 at hD hS hA ⊢
  subst hsz
  obtain ⟨hx, hb, hml, hown, hts⟩ := id S
  have inX0 : ∀ w ∈ wsX00, w ∈ wsX0_pushBoard := fun w h => List.mem_cons_of_mem _ (List.mem_append_right _ h)
  have hl : lv_has ls 4 [(0, .ref h0)] := hl
  refine lv_aload_n hx hb dX0_pushBoard_0 rfl (lv_at hl 0 rfl) ?_
  refine kc_v (As := []) (rest := []) S (v := .int (f_going u)) (c_X0_going l dC dI cI cZ cO h0 q u) gX0_pushBoard_X0_going mi_X0_going ⟨rfl, rfl⟩ ⟨Nat.le_of_ble_eq_true rfl, Nat.le_of_ble_eq_true rfl⟩ hK hP 0 rfl rfl ⟨Nat.le_refl _, Nat.le_refl _⟩ dX0_pushBoard_1 rfl hl.1 rfl (Nat.le_of_ble_eq_true rfl) ?_
  refine lv_istore_n (lv' := [(1, .int (f_going u)), (0, .ref h0)]) hx hb dX0_pushBoard_4 rfl hl (by decide) rfl (fun ls hl => ?_)
  refine lv_iload_n hx hb dX0_pushBoard_5 rfl (lv_at hl 0 rfl) ?_
  refine lv_if_le (tgt := 18) hx hb dX0_pushBoard_6 (by decide) (fun c_6 => ?_) (fun c_6 => ?_)
  · refine lv_iconst (v := (0 : Int32)) hx hb dX0_pushBoard_18 (by decide) ?_
    refine lv_istore_n (lv' := [(2, .int (0 : Int32)), (1, .int (f_going u)), (0, .ref h0)]) hx hb dX0_pushBoard_19 rfl hl (by decide) rfl (fun ls hl => ?_)
    refine lv_iload_n hx hb dX0_pushBoard_20 rfl (lv_at hl 1 rfl) ?_
    refine lv_if_le (tgt := 33) hx hb dX0_pushBoard_21 (by decide) (fun c_21 => ?_) (fun c_21 => ?_)
    · refine lv_iconst (v := (0 : Int32)) hx hb dX0_pushBoard_33 (by decide) ?_
      refine lv_istore_n (lv' := [(3, .int (0 : Int32)), (2, .int (0 : Int32)), (1, .int (f_going u)), (0, .ref h0)]) hx hb dX0_pushBoard_34 rfl hl (by decide) rfl (fun ls hl => ?_)
      refine lv_aload_n hx hb dX0_pushBoard_35 rfl (lv_at hl 3 rfl) ?_
      refine lv_aload_n hx hb dX0_pushBoard_36 rfl (lv_at hl 3 rfl) ?_
      refine va_get (D := (dC, dI)) (ci := 0) (v := .int (u 6 0)) (C := RX0) (T := TX0) (N := 14) hx hb hts inX0 hown hK hP 0 rfl rfl 6 (by decide) (hts (.fieldLink RX0 41 "BoardMetronomes$Bench" "a" "I") (by decide +kernel)) (fun _ h9 => h9) rfl dX0_pushBoard_37 ?_
      refine lv_aload_n hx hb dX0_pushBoard_40 rfl (lv_at hl 3 rfl) ?_
      refine va_get (D := (dC, dI)) (ci := 0) (v := .int (u 8 0)) (C := RX0) (T := TX0) (N := 14) hx hb hts inX0 hown hK hP 0 rfl rfl 8 (by decide) (hts (.fieldLink RX0 28 "BoardMetronomes$Bench" "stay" "I") (by decide +kernel)) (fun _ h9 => h9) rfl dX0_pushBoard_41 ?_
      refine lv_imul hx hb dX0_pushBoard_44 ?_
      refine lv_iload_n hx hb dX0_pushBoard_45 rfl (lv_at hl 1 rfl) ?_
      refine lv_bipush (v := (100 : Int32)) hx hb dX0_pushBoard_46 (by decide) ?_
      refine lv_aload_n hx hb dX0_pushBoard_48 rfl (lv_at hl 3 rfl) ?_
      refine va_get (D := (dC, dI)) (ci := 0) (v := .int (u 8 0)) (C := RX0) (T := TX0) (N := 14) hx hb hts inX0 hown hK hP 0 rfl rfl 8 (by decide) (hts (.fieldLink RX0 28 "BoardMetronomes$Bench" "stay" "I") (by decide +kernel)) (fun _ h9 => h9) rfl dX0_pushBoard_49 ?_
      refine lv_isub hx hb dX0_pushBoard_52 ?_
      refine lv_imul hx hb dX0_pushBoard_53 ?_
      refine lv_iadd hx hb dX0_pushBoard_54 ?_
      refine lv_bipush (v := (100 : Int32)) hx hb dX0_pushBoard_55 (by decide) ?_
      refine lv_idiv hx hb dX0_pushBoard_57 (by decide) ?_
      refine va_put (D := (dC, dI)) (ci := 0) (v := .int ((((u 6 0) * (u 8 0)) + ((0 : Int32) * ((100 : Int32) - (u 8 0)))) / (100 : Int32))) (ty := .int) (C := RX0) (T := TX0) (N := 14) hx hb hts inX0 tyX0 tyX0_ok nmX0 hown hK hP hD hS 0 rfl rfl 6 (by decide) (hts (.fieldLink RX0 41 "BoardMetronomes$Bench" "a" "I") (by decide +kernel)) (fun _ h9 => h9) rfl (by decide +kernel) rfl rfl (Nat.le_of_ble_eq_true rfl) dX0_pushBoard_58 (fun H locs hP hD hS => ?_)
      have hP : va_P (dC, dI) vwCl (BW cI cZ h0 q (upA u 6 0 ((((u 6 0) * (u 8 0)) + ((0 : Int32) * ((100 : Int32) - (u 8 0)))) / (100 : Int32)))) H := Eq.mp (congrArg (fun w => va_P (dC, dI) vwCl w H) BW_s6) hP
      have hD : va_D A0 (BW cI cZ h0 q (upA u 6 0 ((((u 6 0) * (u 8 0)) + ((0 : Int32) * ((100 : Int32) - (u 8 0)))) / (100 : Int32)))) := Eq.mp (congrArg (fun w => va_D A0 w) BW_s6) hD
      refine lv_aload_n hx hb dX0_pushBoard_61 rfl (lv_at hl 3 rfl) ?_
      refine lv_aload_n hx hb dX0_pushBoard_62 rfl (lv_at hl 3 rfl) ?_
      refine va_get (D := (dC, dI)) (ci := 0) (v := .int (u 7 0)) (C := RX0) (T := TX0) (N := 14) hx hb hts inX0 hown hK hP 0 rfl rfl 7 (by decide) (hts (.fieldLink RX0 44 "BoardMetronomes$Bench" "b" "I") (by decide +kernel)) (fun _ h9 => h9) (congrArg (fun z => some (Value.int z)) (show (upA u 6 0 ((((u 6 0) * (u 8 0)) + ((0 : Int32) * ((100 : Int32) - (u 8 0)))) / (100 : Int32))) 7 0 = u 7 0 by rw [upA_o (show (7 : Nat) ≠ 6 by decide)])) dX0_pushBoard_63 ?_
      refine lv_aload_n hx hb dX0_pushBoard_66 rfl (lv_at hl 3 rfl) ?_
      refine va_get (D := (dC, dI)) (ci := 0) (v := .int (u 8 0)) (C := RX0) (T := TX0) (N := 14) hx hb hts inX0 hown hK hP 0 rfl rfl 8 (by decide) (hts (.fieldLink RX0 28 "BoardMetronomes$Bench" "stay" "I") (by decide +kernel)) (fun _ h9 => h9) (congrArg (fun z => some (Value.int z)) (show (upA u 6 0 ((((u 6 0) * (u 8 0)) + ((0 : Int32) * ((100 : Int32) - (u 8 0)))) / (100 : Int32))) 8 0 = u 8 0 by rw [upA_o (show (8 : Nat) ≠ 6 by decide)])) dX0_pushBoard_67 ?_
      refine lv_imul hx hb dX0_pushBoard_70 ?_
      refine lv_iload_n hx hb dX0_pushBoard_71 rfl (lv_at hl 0 rfl) ?_
      refine lv_bipush (v := (100 : Int32)) hx hb dX0_pushBoard_72 (by decide) ?_
      refine lv_aload_n hx hb dX0_pushBoard_74 rfl (lv_at hl 3 rfl) ?_
      refine va_get (D := (dC, dI)) (ci := 0) (v := .int (u 8 0)) (C := RX0) (T := TX0) (N := 14) hx hb hts inX0 hown hK hP 0 rfl rfl 8 (by decide) (hts (.fieldLink RX0 28 "BoardMetronomes$Bench" "stay" "I") (by decide +kernel)) (fun _ h9 => h9) (congrArg (fun z => some (Value.int z)) (show (upA u 6 0 ((((u 6 0) * (u 8 0)) + ((0 : Int32) * ((100 : Int32) - (u 8 0)))) / (100 : Int32))) 8 0 = u 8 0 by rw [upA_o (show (8 : Nat) ≠ 6 by decide)])) dX0_pushBoard_75 ?_
      refine lv_isub hx hb dX0_pushBoard_78 ?_
      refine lv_imul hx hb dX0_pushBoard_79 ?_
      refine lv_iadd hx hb dX0_pushBoard_80 ?_
      refine lv_bipush (v := (100 : Int32)) hx hb dX0_pushBoard_81 (by decide) ?_
      refine lv_idiv hx hb dX0_pushBoard_83 (by decide) ?_
      refine va_put (D := (dC, dI)) (ci := 0) (v := .int ((((u 7 0) * (u 8 0)) + ((0 : Int32) * ((100 : Int32) - (u 8 0)))) / (100 : Int32))) (ty := .int) (C := RX0) (T := TX0) (N := 14) hx hb hts inX0 tyX0 tyX0_ok nmX0 hown hK hP hD hS 0 rfl rfl 7 (by decide) (hts (.fieldLink RX0 44 "BoardMetronomes$Bench" "b" "I") (by decide +kernel)) (fun _ h9 => h9) rfl (by decide +kernel) rfl rfl (Nat.le_of_ble_eq_true rfl) dX0_pushBoard_84 (fun H locs hP hD hS => ?_)
      have hP : va_P (dC, dI) vwCl (BW cI cZ h0 q (upA (upA u 6 0 ((((u 6 0) * (u 8 0)) + ((0 : Int32) * ((100 : Int32) - (u 8 0)))) / (100 : Int32))) 7 0 ((((u 7 0) * (u 8 0)) + ((0 : Int32) * ((100 : Int32) - (u 8 0)))) / (100 : Int32)))) H := Eq.mp (congrArg (fun w => va_P (dC, dI) vwCl w H) BW_s7) hP
      have hD : va_D A0 (BW cI cZ h0 q (upA (upA u 6 0 ((((u 6 0) * (u 8 0)) + ((0 : Int32) * ((100 : Int32) - (u 8 0)))) / (100 : Int32))) 7 0 ((((u 7 0) * (u 8 0)) + ((0 : Int32) * ((100 : Int32) - (u 8 0)))) / (100 : Int32)))) := Eq.mp (congrArg (fun w => va_D A0 w) BW_s7) hD
      have r1 : f_pushBoard u = upA (upA u 6 0 ((((u 6 0) * (u 8 0)) + ((0 : Int32) * ((100 : Int32) - (u 8 0)))) / (100 : Int32))) 7 0 ((((u 7 0) * (u 8 0)) + ((0 : Int32) * ((100 : Int32) - (u 8 0)))) / (100 : Int32)) := by
        rw [f_pushBoard, if_pos c_6]
      exact kw_v hx hb hr hlk hP hS dX0_pushBoard_87 (by rw [r1])
    · exact absurd c_6 c_21
  · refine lv_aload_n hx hb dX0_pushBoard_9 rfl (lv_at hl 1 rfl) ?_
    refine kc_v (As := []) (rest := []) S (v := .int (f_sumOfSwings u)) (c_X0_sumOfSwings l dC dI cI cZ cO h0 q u) gX0_pushBoard_X0_sumOfSwings mi_X0_sumOfSwings ⟨rfl, rfl⟩ ⟨Nat.le_of_ble_eq_true rfl, Nat.le_of_ble_eq_true rfl⟩ hK hP 0 rfl rfl ⟨Nat.le_refl _, Nat.le_refl _⟩ dX0_pushBoard_10 rfl hl.1 rfl (Nat.le_of_ble_eq_true rfl) ?_
    refine lv_iload_n hx hb dX0_pushBoard_13 rfl (lv_at hl 0 rfl) ?_
    refine lv_idiv hx hb dX0_pushBoard_14 (kne_le c_6) ?_
    refine lv_goto (tgt := 19) hx hb dX0_pushBoard_15 (by decide) ?_
    refine lv_istore_n (lv' := [(2, .int ((f_sumOfSwings u) / (f_going u))), (1, .int (f_going u)), (0, .ref h0)]) hx hb dX0_pushBoard_19 rfl hl (by decide) rfl (fun ls hl => ?_)
    refine lv_iload_n hx hb dX0_pushBoard_20 rfl (lv_at hl 1 rfl) ?_
    refine lv_if_le (tgt := 33) hx hb dX0_pushBoard_21 (by decide) (fun c_21 => ?_) (fun c_21 => ?_)
    · exact absurd c_21 c_6
    · refine lv_aload_n hx hb dX0_pushBoard_24 rfl (lv_at hl 2 rfl) ?_
      refine kc_v (As := []) (rest := []) S (v := .int (f_sumOfTurns u)) (c_X0_sumOfTurns l dC dI cI cZ cO h0 q u) gX0_pushBoard_X0_sumOfTurns mi_X0_sumOfTurns ⟨rfl, rfl⟩ ⟨Nat.le_of_ble_eq_true rfl, Nat.le_of_ble_eq_true rfl⟩ hK hP 0 rfl rfl ⟨Nat.le_refl _, Nat.le_refl _⟩ dX0_pushBoard_25 rfl hl.1 rfl (Nat.le_of_ble_eq_true rfl) ?_
      refine lv_iload_n hx hb dX0_pushBoard_28 rfl (lv_at hl 1 rfl) ?_
      refine lv_idiv hx hb dX0_pushBoard_29 (kne_le c_6) ?_
      refine lv_goto (tgt := 34) hx hb dX0_pushBoard_30 (by decide) ?_
      refine lv_istore_n (lv' := [(3, .int ((f_sumOfTurns u) / (f_going u))), (2, .int ((f_sumOfSwings u) / (f_going u))), (1, .int (f_going u)), (0, .ref h0)]) hx hb dX0_pushBoard_34 rfl hl (by decide) rfl (fun ls hl => ?_)
      refine lv_aload_n hx hb dX0_pushBoard_35 rfl (lv_at hl 3 rfl) ?_
      refine lv_aload_n hx hb dX0_pushBoard_36 rfl (lv_at hl 3 rfl) ?_
      refine va_get (D := (dC, dI)) (ci := 0) (v := .int (u 6 0)) (C := RX0) (T := TX0) (N := 14) hx hb hts inX0 hown hK hP 0 rfl rfl 6 (by decide) (hts (.fieldLink RX0 41 "BoardMetronomes$Bench" "a" "I") (by decide +kernel)) (fun _ h9 => h9) rfl dX0_pushBoard_37 ?_
      refine lv_aload_n hx hb dX0_pushBoard_40 rfl (lv_at hl 3 rfl) ?_
      refine va_get (D := (dC, dI)) (ci := 0) (v := .int (u 8 0)) (C := RX0) (T := TX0) (N := 14) hx hb hts inX0 hown hK hP 0 rfl rfl 8 (by decide) (hts (.fieldLink RX0 28 "BoardMetronomes$Bench" "stay" "I") (by decide +kernel)) (fun _ h9 => h9) rfl dX0_pushBoard_41 ?_
      refine lv_imul hx hb dX0_pushBoard_44 ?_
      refine lv_iload_n hx hb dX0_pushBoard_45 rfl (lv_at hl 1 rfl) ?_
      refine lv_bipush (v := (100 : Int32)) hx hb dX0_pushBoard_46 (by decide) ?_
      refine lv_aload_n hx hb dX0_pushBoard_48 rfl (lv_at hl 3 rfl) ?_
      refine va_get (D := (dC, dI)) (ci := 0) (v := .int (u 8 0)) (C := RX0) (T := TX0) (N := 14) hx hb hts inX0 hown hK hP 0 rfl rfl 8 (by decide) (hts (.fieldLink RX0 28 "BoardMetronomes$Bench" "stay" "I") (by decide +kernel)) (fun _ h9 => h9) rfl dX0_pushBoard_49 ?_
      refine lv_isub hx hb dX0_pushBoard_52 ?_
      refine lv_imul hx hb dX0_pushBoard_53 ?_
      refine lv_iadd hx hb dX0_pushBoard_54 ?_
      refine lv_bipush (v := (100 : Int32)) hx hb dX0_pushBoard_55 (by decide) ?_
      refine lv_idiv hx hb dX0_pushBoard_57 (by decide) ?_
      refine va_put (D := (dC, dI)) (ci := 0) (v := .int ((((u 6 0) * (u 8 0)) + (((f_sumOfSwings u) / (f_going u)) * ((100 : Int32) - (u 8 0)))) / (100 : Int32))) (ty := .int) (C := RX0) (T := TX0) (N := 14) hx hb hts inX0 tyX0 tyX0_ok nmX0 hown hK hP hD hS 0 rfl rfl 6 (by decide) (hts (.fieldLink RX0 41 "BoardMetronomes$Bench" "a" "I") (by decide +kernel)) (fun _ h9 => h9) rfl (by decide +kernel) rfl rfl (Nat.le_of_ble_eq_true rfl) dX0_pushBoard_58 (fun H locs hP hD hS => ?_)
      have hP : va_P (dC, dI) vwCl (BW cI cZ h0 q (upA u 6 0 ((((u 6 0) * (u 8 0)) + (((f_sumOfSwings u) / (f_going u)) * ((100 : Int32) - (u 8 0)))) / (100 : Int32)))) H := Eq.mp (congrArg (fun w => va_P (dC, dI) vwCl w H) BW_s6) hP
      have hD : va_D A0 (BW cI cZ h0 q (upA u 6 0 ((((u 6 0) * (u 8 0)) + (((f_sumOfSwings u) / (f_going u)) * ((100 : Int32) - (u 8 0)))) / (100 : Int32)))) := Eq.mp (congrArg (fun w => va_D A0 w) BW_s6) hD
      refine lv_aload_n hx hb dX0_pushBoard_61 rfl (lv_at hl 3 rfl) ?_
      refine lv_aload_n hx hb dX0_pushBoard_62 rfl (lv_at hl 3 rfl) ?_
      refine va_get (D := (dC, dI)) (ci := 0) (v := .int (u 7 0)) (C := RX0) (T := TX0) (N := 14) hx hb hts inX0 hown hK hP 0 rfl rfl 7 (by decide) (hts (.fieldLink RX0 44 "BoardMetronomes$Bench" "b" "I") (by decide +kernel)) (fun _ h9 => h9) (congrArg (fun z => some (Value.int z)) (show (upA u 6 0 ((((u 6 0) * (u 8 0)) + (((f_sumOfSwings u) / (f_going u)) * ((100 : Int32) - (u 8 0)))) / (100 : Int32))) 7 0 = u 7 0 by rw [upA_o (show (7 : Nat) ≠ 6 by decide)])) dX0_pushBoard_63 ?_
      refine lv_aload_n hx hb dX0_pushBoard_66 rfl (lv_at hl 3 rfl) ?_
      refine va_get (D := (dC, dI)) (ci := 0) (v := .int (u 8 0)) (C := RX0) (T := TX0) (N := 14) hx hb hts inX0 hown hK hP 0 rfl rfl 8 (by decide) (hts (.fieldLink RX0 28 "BoardMetronomes$Bench" "stay" "I") (by decide +kernel)) (fun _ h9 => h9) (congrArg (fun z => some (Value.int z)) (show (upA u 6 0 ((((u 6 0) * (u 8 0)) + (((f_sumOfSwings u) / (f_going u)) * ((100 : Int32) - (u 8 0)))) / (100 : Int32))) 8 0 = u 8 0 by rw [upA_o (show (8 : Nat) ≠ 6 by decide)])) dX0_pushBoard_67 ?_
      refine lv_imul hx hb dX0_pushBoard_70 ?_
      refine lv_iload_n hx hb dX0_pushBoard_71 rfl (lv_at hl 0 rfl) ?_
      refine lv_bipush (v := (100 : Int32)) hx hb dX0_pushBoard_72 (by decide) ?_
      refine lv_aload_n hx hb dX0_pushBoard_74 rfl (lv_at hl 3 rfl) ?_
      refine va_get (D := (dC, dI)) (ci := 0) (v := .int (u 8 0)) (C := RX0) (T := TX0) (N := 14) hx hb hts inX0 hown hK hP 0 rfl rfl 8 (by decide) (hts (.fieldLink RX0 28 "BoardMetronomes$Bench" "stay" "I") (by decide +kernel)) (fun _ h9 => h9) (congrArg (fun z => some (Value.int z)) (show (upA u 6 0 ((((u 6 0) * (u 8 0)) + (((f_sumOfSwings u) / (f_going u)) * ((100 : Int32) - (u 8 0)))) / (100 : Int32))) 8 0 = u 8 0 by rw [upA_o (show (8 : Nat) ≠ 6 by decide)])) dX0_pushBoard_75 ?_
      refine lv_isub hx hb dX0_pushBoard_78 ?_
      refine lv_imul hx hb dX0_pushBoard_79 ?_
      refine lv_iadd hx hb dX0_pushBoard_80 ?_
      refine lv_bipush (v := (100 : Int32)) hx hb dX0_pushBoard_81 (by decide) ?_
      refine lv_idiv hx hb dX0_pushBoard_83 (by decide) ?_
      refine va_put (D := (dC, dI)) (ci := 0) (v := .int ((((u 7 0) * (u 8 0)) + (((f_sumOfTurns u) / (f_going u)) * ((100 : Int32) - (u 8 0)))) / (100 : Int32))) (ty := .int) (C := RX0) (T := TX0) (N := 14) hx hb hts inX0 tyX0 tyX0_ok nmX0 hown hK hP hD hS 0 rfl rfl 7 (by decide) (hts (.fieldLink RX0 44 "BoardMetronomes$Bench" "b" "I") (by decide +kernel)) (fun _ h9 => h9) rfl (by decide +kernel) rfl rfl (Nat.le_of_ble_eq_true rfl) dX0_pushBoard_84 (fun H locs hP hD hS => ?_)
      have hP : va_P (dC, dI) vwCl (BW cI cZ h0 q (upA (upA u 6 0 ((((u 6 0) * (u 8 0)) + (((f_sumOfSwings u) / (f_going u)) * ((100 : Int32) - (u 8 0)))) / (100 : Int32))) 7 0 ((((u 7 0) * (u 8 0)) + (((f_sumOfTurns u) / (f_going u)) * ((100 : Int32) - (u 8 0)))) / (100 : Int32)))) H := Eq.mp (congrArg (fun w => va_P (dC, dI) vwCl w H) BW_s7) hP
      have hD : va_D A0 (BW cI cZ h0 q (upA (upA u 6 0 ((((u 6 0) * (u 8 0)) + (((f_sumOfSwings u) / (f_going u)) * ((100 : Int32) - (u 8 0)))) / (100 : Int32))) 7 0 ((((u 7 0) * (u 8 0)) + (((f_sumOfTurns u) / (f_going u)) * ((100 : Int32) - (u 8 0)))) / (100 : Int32)))) := Eq.mp (congrArg (fun w => va_D A0 w) BW_s7) hD
      have r2 : f_pushBoard u = upA (upA u 6 0 ((((u 6 0) * (u 8 0)) + (((f_sumOfSwings u) / (f_going u)) * ((100 : Int32) - (u 8 0)))) / (100 : Int32))) 7 0 ((((u 7 0) * (u 8 0)) + (((f_sumOfTurns u) / (f_going u)) * ((100 : Int32) - (u 8 0)))) / (100 : Int32)) := by
        rw [f_pushBoard, if_neg c_6]
      exact kw_v hx hb hr hlk hP hS dX0_pushBoard_87 (by rw [r2])

def rm_X0_ticksGoingForward : Room := { frames := 2, cells := 0, slots := 0, locals := 42 }
theorem mi_X0_ticksGoingForward : kM yX0_ticksGoingForward wsX0_ticksGoingForward cX0_ticksGoingForward 3 (some .boolean) 1 := ⟨⟨_, rfl⟩, by decide, by decide, by decide +kernel⟩
def f_ticksGoingForward (u : BS) (p0 : Int32) : Bool × BS := if (f_has u p0) = true then (if 0 ≤ (((u 1 p0.toNatClampNeg) + (u 0 p0.toNatClampNeg)) + (f_pull u (u 1 p0.toNatClampNeg))) then (if (3600 : Int32) ≤ (((u 1 p0.toNatClampNeg) + (u 0 p0.toNatClampNeg)) + (f_pull u (u 1 p0.toNatClampNeg))) then (true, upA (upA (upA u 1 p0.toNatClampNeg ((((u 1 p0.toNatClampNeg) + (u 0 p0.toNatClampNeg)) + (f_pull u (u 1 p0.toNatClampNeg))) - (3600 : Int32))) 2 p0.toNatClampNeg ((u 2 p0.toNatClampNeg) - (1 : Int32))) 4 p0.toNatClampNeg ((u 4 p0.toNatClampNeg) + (1 : Int32))) else (false, upA u 1 p0.toNatClampNeg (((u 1 p0.toNatClampNeg) + (u 0 p0.toNatClampNeg)) + (f_pull u (u 1 p0.toNatClampNeg))))) else (false, upA u 1 p0.toNatClampNeg ((((u 1 p0.toNatClampNeg) + (u 0 p0.toNatClampNeg)) + (f_pull u (u 1 p0.toNatClampNeg))) + (3600 : Int32)))) else (false, u)
set_option maxHeartbeats 1000000 in
set_option maxRecDepth 100000 in
theorem c_X0_ticksGoingForward (l : Launch) (dC : Nat → ClassId) (dI : Nat → Nat → Nat) (cI cZ cO : ClassId) (h0 : Nat) (q : Nat → Nat) (u : BS) (p0 : Int32) (sz : Nat) : Met l yX0_ticksGoingForward wsX0_ticksGoingForward rm_X0_ticksGoingForward (va_Pc [.ref h0, .int p0] (fun U => U.heap.size = sz ∧ va_P (dC, dI) vwCl (BW cI cZ h0 q u) U.heap ∧ va_K (dC, dI) vwCl (TY cI cZ cO) U ∧ va_D (fun _ => True) (BW cI cZ h0 q u))) (kQw (some (.int (bI (f_ticksGoingForward u p0).1))) (dC, dI) vwCl (BW cI cZ h0 q ((f_ticksGoingForward u p0).2)) (va_A (BW cI cZ h0 q u) sz)) 0 0 (va_A (BW cI cZ h0 q u) sz) := by
  refine kofW (cc := cX0_ticksGoingForward) (maxL := 3) (ret := some .boolean) (by decide) rfl (Nat.le_of_ble_eq_true rfl) ?_
  intro p e s m args below meth c ls S hr hlk hnm hsz hP hK hD hS hA hl
  generalize hA0 : va_A (BW cI cZ h0 q u) sz = A0 at hD hS hA ⊢
  subst hsz
  obtain ⟨hx, hb, hml, hown, hts⟩ := id S
  have inX0 : ∀ w ∈ wsX00, w ∈ wsX0_ticksGoingForward := fun w h => List.mem_cons_of_mem _ (List.mem_append_right _ h)
  have hl : lv_has ls 3 [(0, .ref h0), (1, .int p0)] := hl
  refine lv_aload_n hx hb dX0_ticksGoingForward_0 rfl (lv_at hl 0 rfl) ?_
  refine lv_iload_n hx hb dX0_ticksGoingForward_1 rfl (lv_at hl 1 rfl) ?_
  refine kc_v (As := [.int p0]) (rest := []) S (v := .int (bI (f_has u p0))) (c_X0_has l dC dI cI cZ cO h0 q u p0) gX0_ticksGoingForward_X0_has mi_X0_has ⟨rfl, rfl⟩ ⟨Nat.le_of_ble_eq_true rfl, Nat.le_of_ble_eq_true rfl⟩ hK hP 0 rfl rfl ⟨Nat.le_refl _, Nat.le_refl _⟩ dX0_ticksGoingForward_2 rfl hl.1 rfl (Nat.le_of_ble_eq_true rfl) ?_
  refine kb_ne (tgt := 10) hx hb dX0_ticksGoingForward_5 (by decide) (fun c_5 => ?_) (fun c_5 => ?_)
  · refine lv_aload_n hx hb dX0_ticksGoingForward_10 rfl (lv_at hl 0 rfl) ?_
    refine va_get (D := (dC, dI)) (ci := 0) (v := .ref (q 1)) (C := RX0) (T := TX0) (N := 14) hx hb hts inX0 hown hK hP 0 rfl rfl 1 (by decide) (hts (.fieldLink RX0 15 "BoardMetronomes$Bench" "phases" "[I") (by decide +kernel)) (fun _ h9 => h9) rfl dX0_ticksGoingForward_11 ?_
    refine lv_iload_n hx hb dX0_ticksGoingForward_14 rfl (lv_at hl 1 rfl) ?_
    refine va_iald (D := (dC, dI)) hx hb hK hP 2 0 rfl rfl (f_has_in c_5) dX0_ticksGoingForward_15 ?_
    refine lv_aload_n hx hb dX0_ticksGoingForward_16 rfl (lv_at hl 0 rfl) ?_
    refine va_get (D := (dC, dI)) (ci := 0) (v := .ref (q 0)) (C := RX0) (T := TX0) (N := 14) hx hb hts inX0 hown hK hP 0 rfl rfl 0 (by decide) (hts (.fieldLink RX0 9 "BoardMetronomes$Bench" "beats" "[I") (by decide +kernel)) (fun _ h9 => h9) rfl dX0_ticksGoingForward_17 ?_
    refine lv_iload_n hx hb dX0_ticksGoingForward_20 rfl (lv_at hl 1 rfl) ?_
    refine va_iald (D := (dC, dI)) hx hb hK hP 1 0 rfl rfl (f_has_in c_5) dX0_ticksGoingForward_21 ?_
    refine lv_iadd hx hb dX0_ticksGoingForward_22 ?_
    refine lv_aload_n hx hb dX0_ticksGoingForward_23 rfl (lv_at hl 0 rfl) ?_
    refine lv_aload_n hx hb dX0_ticksGoingForward_24 rfl (lv_at hl 0 rfl) ?_
    refine va_get (D := (dC, dI)) (ci := 0) (v := .ref (q 1)) (C := RX0) (T := TX0) (N := 14) hx hb hts inX0 hown hK hP 0 rfl rfl 1 (by decide) (hts (.fieldLink RX0 15 "BoardMetronomes$Bench" "phases" "[I") (by decide +kernel)) (fun _ h9 => h9) rfl dX0_ticksGoingForward_25 ?_
    refine lv_iload_n hx hb dX0_ticksGoingForward_28 rfl (lv_at hl 1 rfl) ?_
    refine va_iald (D := (dC, dI)) hx hb hK hP 2 0 rfl rfl (f_has_in c_5) dX0_ticksGoingForward_29 ?_
    refine kc_v (As := [.int (u 1 p0.toNatClampNeg)]) (rest := [.int ((u 1 p0.toNatClampNeg) + (u 0 p0.toNatClampNeg))]) S (v := .int (f_pull u (u 1 p0.toNatClampNeg))) (c_X0_pull l dC dI cI cZ cO h0 q u (u 1 p0.toNatClampNeg)) gX0_ticksGoingForward_X0_pull mi_X0_pull ⟨rfl, rfl⟩ ⟨Nat.le_of_ble_eq_true rfl, Nat.le_of_ble_eq_true rfl⟩ hK hP 0 rfl rfl ⟨Nat.le_refl _, Nat.le_refl _⟩ dX0_ticksGoingForward_30 rfl hl.1 rfl (Nat.le_of_ble_eq_true rfl) ?_
    refine lv_iadd hx hb dX0_ticksGoingForward_33 ?_
    refine lv_istore_n (lv' := [(2, .int (((u 1 p0.toNatClampNeg) + (u 0 p0.toNatClampNeg)) + (f_pull u (u 1 p0.toNatClampNeg)))), (0, .ref h0), (1, .int p0)]) hx hb dX0_ticksGoingForward_34 rfl hl (by decide) rfl (fun ls hl => ?_)
    refine lv_iload_n hx hb dX0_ticksGoingForward_35 rfl (lv_at hl 0 rfl) ?_
    refine lv_if_ge (tgt := 52) hx hb dX0_ticksGoingForward_36 (by decide) (fun c_36 => ?_) (fun c_36 => ?_)
    · refine lv_iload_n hx hb dX0_ticksGoingForward_52 rfl (lv_at hl 0 rfl) ?_
      refine lv_sipush (v := (3600 : Int32)) hx hb dX0_ticksGoingForward_53 (by decide) ?_
      refine lv_icmp_ge (tgt := 68) hx hb dX0_ticksGoingForward_56 (by decide) (fun c_56 => ?_) (fun c_56 => ?_)
      · refine lv_aload_n hx hb dX0_ticksGoingForward_68 rfl (lv_at hl 1 rfl) ?_
        refine va_get (D := (dC, dI)) (ci := 0) (v := .ref (q 1)) (C := RX0) (T := TX0) (N := 14) hx hb hts inX0 hown hK hP 0 rfl rfl 1 (by decide) (hts (.fieldLink RX0 15 "BoardMetronomes$Bench" "phases" "[I") (by decide +kernel)) (fun _ h9 => h9) rfl dX0_ticksGoingForward_69 ?_
        refine lv_iload_n hx hb dX0_ticksGoingForward_72 rfl (lv_at hl 2 rfl) ?_
        refine lv_iload_n hx hb dX0_ticksGoingForward_73 rfl (lv_at hl 0 rfl) ?_
        refine lv_sipush (v := (3600 : Int32)) hx hb dX0_ticksGoingForward_74 (by decide) ?_
        refine lv_isub hx hb dX0_ticksGoingForward_77 ?_
        refine kv_iast (D := (dC, dI)) hx hb hK hP hD hS 2 0 rfl rfl (f_has_in c_5) dX0_ticksGoingForward_78 (fun H locs hP hD hS => ?_)
        have hP : va_P (dC, dI) vwCl (BW cI cZ h0 q (upA u 1 p0.toNatClampNeg ((((u 1 p0.toNatClampNeg) + (u 0 p0.toNatClampNeg)) + (f_pull u (u 1 p0.toNatClampNeg))) - (3600 : Int32)))) H := Eq.mp (congrArg (fun w => va_P (dC, dI) vwCl w H) BW_a1) hP
        have hD : va_D A0 (BW cI cZ h0 q (upA u 1 p0.toNatClampNeg ((((u 1 p0.toNatClampNeg) + (u 0 p0.toNatClampNeg)) + (f_pull u (u 1 p0.toNatClampNeg))) - (3600 : Int32)))) := Eq.mp (congrArg (fun w => va_D A0 w) BW_a1) hD
        refine lv_aload_n hx hb dX0_ticksGoingForward_79 rfl (lv_at hl 1 rfl) ?_
        refine va_get (D := (dC, dI)) (ci := 0) (v := .ref (q 2)) (C := RX0) (T := TX0) (N := 14) hx hb hts inX0 hown hK hP 0 rfl rfl 2 (by decide) (hts (.fieldLink RX0 18 "BoardMetronomes$Bench" "springs" "[I") (by decide +kernel)) (fun _ h9 => h9) rfl dX0_ticksGoingForward_80 ?_
        refine lv_iload_n hx hb dX0_ticksGoingForward_83 rfl (lv_at hl 2 rfl) ?_
        refine lv_dup2_11 hx hb dX0_ticksGoingForward_84 rfl rfl ?_
        refine va_iald (D := (dC, dI)) hx hb hK hP 3 0 rfl rfl (f_has_in c_5) dX0_ticksGoingForward_85 ?_
        rw [upA_o (show (2 : Nat) ≠ 1 by decide)]
        refine lv_iconst (v := (1 : Int32)) hx hb dX0_ticksGoingForward_86 (by decide) ?_
        refine lv_isub hx hb dX0_ticksGoingForward_87 ?_
        refine kv_iast (D := (dC, dI)) hx hb hK hP hD hS 3 0 rfl rfl (f_has_in c_5) dX0_ticksGoingForward_88 (fun H locs hP hD hS => ?_)
        have hP : va_P (dC, dI) vwCl (BW cI cZ h0 q (upA (upA u 1 p0.toNatClampNeg ((((u 1 p0.toNatClampNeg) + (u 0 p0.toNatClampNeg)) + (f_pull u (u 1 p0.toNatClampNeg))) - (3600 : Int32))) 2 p0.toNatClampNeg ((u 2 p0.toNatClampNeg) - (1 : Int32)))) H := Eq.mp (congrArg (fun w => va_P (dC, dI) vwCl w H) BW_a2) hP
        have hD : va_D A0 (BW cI cZ h0 q (upA (upA u 1 p0.toNatClampNeg ((((u 1 p0.toNatClampNeg) + (u 0 p0.toNatClampNeg)) + (f_pull u (u 1 p0.toNatClampNeg))) - (3600 : Int32))) 2 p0.toNatClampNeg ((u 2 p0.toNatClampNeg) - (1 : Int32)))) := Eq.mp (congrArg (fun w => va_D A0 w) BW_a2) hD
        refine lv_aload_n hx hb dX0_ticksGoingForward_89 rfl (lv_at hl 1 rfl) ?_
        refine va_get (D := (dC, dI)) (ci := 0) (v := .ref (q 4)) (C := RX0) (T := TX0) (N := 14) hx hb hts inX0 hown hK hP 0 rfl rfl 4 (by decide) (hts (.fieldLink RX0 25 "BoardMetronomes$Bench" "ticks" "[I") (by decide +kernel)) (fun _ h9 => h9) rfl dX0_ticksGoingForward_90 ?_
        refine lv_iload_n hx hb dX0_ticksGoingForward_93 rfl (lv_at hl 2 rfl) ?_
        refine lv_dup2_11 hx hb dX0_ticksGoingForward_94 rfl rfl ?_
        refine va_iald (D := (dC, dI)) hx hb hK hP 5 0 rfl rfl (f_has_in c_5) dX0_ticksGoingForward_95 ?_
        rw [upA_o (show (4 : Nat) ≠ 2 by decide), upA_o (show (4 : Nat) ≠ 1 by decide)]
        refine lv_iconst (v := (1 : Int32)) hx hb dX0_ticksGoingForward_96 (by decide) ?_
        refine lv_iadd hx hb dX0_ticksGoingForward_97 ?_
        refine kv_iast (D := (dC, dI)) hx hb hK hP hD hS 5 0 rfl rfl (f_has_in c_5) dX0_ticksGoingForward_98 (fun H locs hP hD hS => ?_)
        have hP : va_P (dC, dI) vwCl (BW cI cZ h0 q (upA (upA (upA u 1 p0.toNatClampNeg ((((u 1 p0.toNatClampNeg) + (u 0 p0.toNatClampNeg)) + (f_pull u (u 1 p0.toNatClampNeg))) - (3600 : Int32))) 2 p0.toNatClampNeg ((u 2 p0.toNatClampNeg) - (1 : Int32))) 4 p0.toNatClampNeg ((u 4 p0.toNatClampNeg) + (1 : Int32)))) H := Eq.mp (congrArg (fun w => va_P (dC, dI) vwCl w H) BW_a4) hP
        have hD : va_D A0 (BW cI cZ h0 q (upA (upA (upA u 1 p0.toNatClampNeg ((((u 1 p0.toNatClampNeg) + (u 0 p0.toNatClampNeg)) + (f_pull u (u 1 p0.toNatClampNeg))) - (3600 : Int32))) 2 p0.toNatClampNeg ((u 2 p0.toNatClampNeg) - (1 : Int32))) 4 p0.toNatClampNeg ((u 4 p0.toNatClampNeg) + (1 : Int32)))) := Eq.mp (congrArg (fun w => va_D A0 w) BW_a4) hD
        refine lv_iconst (v := (1 : Int32)) hx hb dX0_ticksGoingForward_99 (by decide) ?_
        have r1 : f_ticksGoingForward u p0 = (true, upA (upA (upA u 1 p0.toNatClampNeg ((((u 1 p0.toNatClampNeg) + (u 0 p0.toNatClampNeg)) + (f_pull u (u 1 p0.toNatClampNeg))) - (3600 : Int32))) 2 p0.toNatClampNeg ((u 2 p0.toNatClampNeg) - (1 : Int32))) 4 p0.toNatClampNeg ((u 4 p0.toNatClampNeg) + (1 : Int32))) := by
          rw [f_ticksGoingForward, if_pos c_5, if_pos c_36, if_pos c_56]
        exact kw_z (x := true) hx hb hr hlk hP hS dX0_ticksGoingForward_100 rfl (by rw [r1]) (by rw [r1])
      · refine lv_aload_n hx hb dX0_ticksGoingForward_59 rfl (lv_at hl 1 rfl) ?_
        refine va_get (D := (dC, dI)) (ci := 0) (v := .ref (q 1)) (C := RX0) (T := TX0) (N := 14) hx hb hts inX0 hown hK hP 0 rfl rfl 1 (by decide) (hts (.fieldLink RX0 15 "BoardMetronomes$Bench" "phases" "[I") (by decide +kernel)) (fun _ h9 => h9) rfl dX0_ticksGoingForward_60 ?_
        refine lv_iload_n hx hb dX0_ticksGoingForward_63 rfl (lv_at hl 2 rfl) ?_
        refine lv_iload_n hx hb dX0_ticksGoingForward_64 rfl (lv_at hl 0 rfl) ?_
        refine kv_iast (D := (dC, dI)) hx hb hK hP hD hS 2 0 rfl rfl (f_has_in c_5) dX0_ticksGoingForward_65 (fun H locs hP hD hS => ?_)
        have hP : va_P (dC, dI) vwCl (BW cI cZ h0 q (upA u 1 p0.toNatClampNeg (((u 1 p0.toNatClampNeg) + (u 0 p0.toNatClampNeg)) + (f_pull u (u 1 p0.toNatClampNeg))))) H := Eq.mp (congrArg (fun w => va_P (dC, dI) vwCl w H) BW_a1) hP
        have hD : va_D A0 (BW cI cZ h0 q (upA u 1 p0.toNatClampNeg (((u 1 p0.toNatClampNeg) + (u 0 p0.toNatClampNeg)) + (f_pull u (u 1 p0.toNatClampNeg))))) := Eq.mp (congrArg (fun w => va_D A0 w) BW_a1) hD
        refine lv_iconst (v := (0 : Int32)) hx hb dX0_ticksGoingForward_66 (by decide) ?_
        have r2 : f_ticksGoingForward u p0 = (false, upA u 1 p0.toNatClampNeg (((u 1 p0.toNatClampNeg) + (u 0 p0.toNatClampNeg)) + (f_pull u (u 1 p0.toNatClampNeg)))) := by
          rw [f_ticksGoingForward, if_pos c_5, if_pos c_36, if_neg c_56]
        exact kw_z (x := false) hx hb hr hlk hP hS dX0_ticksGoingForward_67 rfl (by rw [r2]) (by rw [r2])
    · refine lv_aload_n hx hb dX0_ticksGoingForward_39 rfl (lv_at hl 1 rfl) ?_
      refine va_get (D := (dC, dI)) (ci := 0) (v := .ref (q 1)) (C := RX0) (T := TX0) (N := 14) hx hb hts inX0 hown hK hP 0 rfl rfl 1 (by decide) (hts (.fieldLink RX0 15 "BoardMetronomes$Bench" "phases" "[I") (by decide +kernel)) (fun _ h9 => h9) rfl dX0_ticksGoingForward_40 ?_
      refine lv_iload_n hx hb dX0_ticksGoingForward_43 rfl (lv_at hl 2 rfl) ?_
      refine lv_iload_n hx hb dX0_ticksGoingForward_44 rfl (lv_at hl 0 rfl) ?_
      refine lv_sipush (v := (3600 : Int32)) hx hb dX0_ticksGoingForward_45 (by decide) ?_
      refine lv_iadd hx hb dX0_ticksGoingForward_48 ?_
      refine kv_iast (D := (dC, dI)) hx hb hK hP hD hS 2 0 rfl rfl (f_has_in c_5) dX0_ticksGoingForward_49 (fun H locs hP hD hS => ?_)
      have hP : va_P (dC, dI) vwCl (BW cI cZ h0 q (upA u 1 p0.toNatClampNeg ((((u 1 p0.toNatClampNeg) + (u 0 p0.toNatClampNeg)) + (f_pull u (u 1 p0.toNatClampNeg))) + (3600 : Int32)))) H := Eq.mp (congrArg (fun w => va_P (dC, dI) vwCl w H) BW_a1) hP
      have hD : va_D A0 (BW cI cZ h0 q (upA u 1 p0.toNatClampNeg ((((u 1 p0.toNatClampNeg) + (u 0 p0.toNatClampNeg)) + (f_pull u (u 1 p0.toNatClampNeg))) + (3600 : Int32)))) := Eq.mp (congrArg (fun w => va_D A0 w) BW_a1) hD
      refine lv_iconst (v := (0 : Int32)) hx hb dX0_ticksGoingForward_50 (by decide) ?_
      have r3 : f_ticksGoingForward u p0 = (false, upA u 1 p0.toNatClampNeg ((((u 1 p0.toNatClampNeg) + (u 0 p0.toNatClampNeg)) + (f_pull u (u 1 p0.toNatClampNeg))) + (3600 : Int32))) := by
        rw [f_ticksGoingForward, if_pos c_5, if_neg c_36]
      exact kw_z (x := false) hx hb hr hlk hP hS dX0_ticksGoingForward_51 rfl (by rw [r3]) (by rw [r3])
  · refine lv_iconst (v := (0 : Int32)) hx hb dX0_ticksGoingForward_8 (by decide) ?_
    have r4 : f_ticksGoingForward u p0 = (false, u) := by
      rw [f_ticksGoingForward, if_neg c_5]
    exact kw_z (x := false) hx hb hr hlk hP hS dX0_ticksGoingForward_9 rfl (by rw [r4]) (by rw [r4])

def rm_X0_step : Room := { frames := 3, cells := 0, slots := 0, locals := 66 }
theorem mi_X0_step : kM yX0_step wsX0_step cX0_step 3 none 0 := ⟨⟨_, rfl⟩, by decide, by decide, by decide +kernel⟩
def f_step_L8 (u : BS) (j0 : Nat) (x0 : (Int32 × BS)) : Int32 × BS := if (f_goes x0.2 (nI j0)) = true then (if ((f_ticksGoingForward x0.2 (nI j0)).1) = true then (x0.1 + (1 : Int32), (f_ticksGoingForward x0.2 (nI j0)).2) else (x0.1, (f_ticksGoingForward x0.2 (nI j0)).2)) else (x0.1, x0.2)
def f_step (u : BS) : BS := if ((it 6 (f_step_L8 u) ((0 : Int32), (f_pushBoard u))).1) < (2 : Int32) then (upA (upA ((it 6 (f_step_L8 u) ((0 : Int32), (f_pushBoard u))).2) 11 0 ((((it 6 (f_step_L8 u) ((0 : Int32), (f_pushBoard u))).2) 11 0) + (1 : Int32))) 12 0 ((((it 6 (f_step_L8 u) ((0 : Int32), (f_pushBoard u))).2) 12 0) + ((it 6 (f_step_L8 u) ((0 : Int32), (f_pushBoard u))).1))) else upA (upA (upA ((it 6 (f_step_L8 u) ((0 : Int32), (f_pushBoard u))).2) 11 0 ((((it 6 (f_step_L8 u) ((0 : Int32), (f_pushBoard u))).2) 11 0) + (1 : Int32))) 12 0 ((((it 6 (f_step_L8 u) ((0 : Int32), (f_pushBoard u))).2) 12 0) + ((it 6 (f_step_L8 u) ((0 : Int32), (f_pushBoard u))).1))) 13 0 ((((it 6 (f_step_L8 u) ((0 : Int32), (f_pushBoard u))).2) 13 0) + (1 : Int32))
set_option maxHeartbeats 1000000 in
set_option maxRecDepth 100000 in
theorem c_X0_step (l : Launch) (dC : Nat → ClassId) (dI : Nat → Nat → Nat) (cI cZ cO : ClassId) (h0 : Nat) (q : Nat → Nat) (u : BS) (sz : Nat) : Met l yX0_step wsX0_step rm_X0_step (va_Pc [.ref h0] (fun U => U.heap.size = sz ∧ va_P (dC, dI) vwCl (BW cI cZ h0 q u) U.heap ∧ va_K (dC, dI) vwCl (TY cI cZ cO) U ∧ va_D (fun _ => True) (BW cI cZ h0 q u))) (kQw none (dC, dI) vwCl (BW cI cZ h0 q (f_step u)) (va_A (BW cI cZ h0 q u) sz)) 0 0 (va_A (BW cI cZ h0 q u) sz) := by
  refine kofW (cc := cX0_step) (maxL := 3) (ret := none) (by decide) rfl (Nat.le_of_ble_eq_true rfl) ?_
  intro p e s m args below meth c ls S hr hlk hnm hsz hP hK hD hS hA hl
  generalize hA0 : va_A (BW cI cZ h0 q u) sz = A0 at hD hS hA ⊢
  subst hsz
  obtain ⟨hx, hb, hml, hown, hts⟩ := id S
  have inX0 : ∀ w ∈ wsX00, w ∈ wsX0_step := fun w h => List.mem_cons_of_mem _ (List.mem_append_right _ h)
  have hl : lv_has ls 3 [(0, .ref h0)] := hl
  refine lv_aload_n hx hb dX0_step_0 rfl (lv_at hl 0 rfl) ?_
  refine kc_w (As := []) (rest := []) S (v := none) (c_X0_pushBoard l dC dI cI cZ cO h0 q u s.heap.size) gX0_step_X0_pushBoard mi_X0_pushBoard ⟨rfl, rfl⟩ ⟨Nat.le_of_ble_eq_true rfl, Nat.le_of_ble_eq_true rfl⟩ hK hP hD hS hA [0, 1, 2, 3, 4, 5] BW_all BW_fst rfl 0 rfl rfl ⟨Nat.le_refl _, Nat.le_refl _⟩ dX0_step_1 rfl hl.1 rfl (Nat.le_of_ble_eq_true rfl) (fun H locs hP hD hS => ?_)
  have hP : va_P (dC, dI) vwCl (BW cI cZ h0 q (f_pushBoard u)) H := Eq.mp (congrArg (fun w => va_P (dC, dI) vwCl w H) BW_ks) hP
  have hD : va_D A0 (BW cI cZ h0 q (f_pushBoard u)) := Eq.mp (congrArg (fun w => va_D A0 w) BW_ks) hD
  refine lv_iconst (v := (0 : Int32)) hx hb dX0_step_4 (by decide) ?_
  refine lv_istore_n (lv' := [(1, .int (0 : Int32)), (0, .ref h0)]) hx hb dX0_step_5 rfl hl (by decide) rfl (fun ls hl => ?_)
  refine lv_iconst (v := (0 : Int32)) hx hb dX0_step_6 (by decide) ?_
  refine lv_istore_n (lv' := [(2, .int (0 : Int32)), (1, .int (0 : Int32)), (0, .ref h0)]) hx hb dX0_step_7 rfl hl (by decide) rfl (fun ls hl => ?_)
  have L1 : ∀ (n j0 : Nat), j0 + n = 6 → ∀ (H : Heap) (locs : List Loc) (ls : Array Slot), va_P (dC, dI) vwCl (BW cI cZ h0 q ((it j0 (f_step_L8 u) ((0 : Int32), (f_pushBoard u))).2)) H → va_D A0 (BW cI cZ h0 q ((it j0 (f_step_L8 u) ((0 : Int32), (f_pushBoard u))).2)) → va_S A0 s.heap H locs → lv_has ls 3 [(0, .ref h0), (1, .int ((it j0 (f_step_L8 u) ((0 : Int32), (f_pushBoard u))).1)), (2, .int (nI j0))] → W p l e rm_X0_step s m args below meth c H locs 0 0 (MQ below (kQw none (dC, dI) vwCl (BW cI cZ h0 q (f_step u)) A0) args s 0 0 A0) (F0 m 8 ls []) := by
    intro n
    induction n with
    | zero =>
      intro j0 hj1 H locs ls hP hD hS hl
      obtain rfl : j0 = 6 := by omega
      refine lv_iload_n hx hb dX0_step_8 rfl (lv_at hl 2 rfl) ?_
      refine lv_bipush (v := (6 : Int32)) hx hb dX0_step_9 (by decide) ?_
      refine lv_icmp_ge (tgt := 39) hx hb dX0_step_11 (by decide) (fun c_11 => ?_) (fun c_11 => ?_)
      · refine lv_aload_n hx hb dX0_step_39 rfl (lv_at hl 0 rfl) ?_
        refine lv_dup hx hb dX0_step_40 rfl ?_
        refine va_get (D := (dC, dI)) (ci := 0) (v := .int (((it 6 (f_step_L8 u) ((0 : Int32), (f_pushBoard u))).2) 11 0)) (C := RX0) (T := TX0) (N := 14) hx hb hts inX0 hown hK hP 0 rfl rfl 11 (by decide) (hts (.fieldLink RX0 47 "BoardMetronomes$Bench" "steps" "I") (by decide +kernel)) (fun _ h9 => h9) rfl dX0_step_41 ?_
        refine lv_iconst (v := (1 : Int32)) hx hb dX0_step_44 (by decide) ?_
        refine lv_iadd hx hb dX0_step_45 ?_
        refine va_put (D := (dC, dI)) (ci := 0) (v := .int ((((it 6 (f_step_L8 u) ((0 : Int32), (f_pushBoard u))).2) 11 0) + (1 : Int32))) (ty := .int) (C := RX0) (T := TX0) (N := 14) hx hb hts inX0 tyX0 tyX0_ok nmX0 hown hK hP hD hS 0 rfl rfl 11 (by decide) (hts (.fieldLink RX0 47 "BoardMetronomes$Bench" "steps" "I") (by decide +kernel)) (fun _ h9 => h9) rfl (by decide +kernel) rfl rfl (Nat.le_of_ble_eq_true rfl) dX0_step_46 (fun H locs hP hD hS => ?_)
        have hP : va_P (dC, dI) vwCl (BW cI cZ h0 q (upA ((it 6 (f_step_L8 u) ((0 : Int32), (f_pushBoard u))).2) 11 0 ((((it 6 (f_step_L8 u) ((0 : Int32), (f_pushBoard u))).2) 11 0) + (1 : Int32)))) H := Eq.mp (congrArg (fun w => va_P (dC, dI) vwCl w H) BW_s11) hP
        have hD : va_D A0 (BW cI cZ h0 q (upA ((it 6 (f_step_L8 u) ((0 : Int32), (f_pushBoard u))).2) 11 0 ((((it 6 (f_step_L8 u) ((0 : Int32), (f_pushBoard u))).2) 11 0) + (1 : Int32)))) := Eq.mp (congrArg (fun w => va_D A0 w) BW_s11) hD
        refine lv_aload_n hx hb dX0_step_49 rfl (lv_at hl 0 rfl) ?_
        refine lv_dup hx hb dX0_step_50 rfl ?_
        refine va_get (D := (dC, dI)) (ci := 0) (v := .int (((it 6 (f_step_L8 u) ((0 : Int32), (f_pushBoard u))).2) 12 0)) (C := RX0) (T := TX0) (N := 14) hx hb hts inX0 hown hK hP 0 rfl rfl 12 (by decide) (hts (.fieldLink RX0 50 "BoardMetronomes$Bench" "allTicks" "I") (by decide +kernel)) (fun _ h9 => h9) (congrArg (fun z => some (Value.int z)) (show (upA ((it 6 (f_step_L8 u) ((0 : Int32), (f_pushBoard u))).2) 11 0 ((((it 6 (f_step_L8 u) ((0 : Int32), (f_pushBoard u))).2) 11 0) + (1 : Int32))) 12 0 = ((it 6 (f_step_L8 u) ((0 : Int32), (f_pushBoard u))).2) 12 0 by rw [upA_o (show (12 : Nat) ≠ 11 by decide)])) dX0_step_51 ?_
        refine lv_iload_n hx hb dX0_step_54 rfl (lv_at hl 1 rfl) ?_
        refine lv_iadd hx hb dX0_step_55 ?_
        refine va_put (D := (dC, dI)) (ci := 0) (v := .int ((((it 6 (f_step_L8 u) ((0 : Int32), (f_pushBoard u))).2) 12 0) + ((it 6 (f_step_L8 u) ((0 : Int32), (f_pushBoard u))).1))) (ty := .int) (C := RX0) (T := TX0) (N := 14) hx hb hts inX0 tyX0 tyX0_ok nmX0 hown hK hP hD hS 0 rfl rfl 12 (by decide) (hts (.fieldLink RX0 50 "BoardMetronomes$Bench" "allTicks" "I") (by decide +kernel)) (fun _ h9 => h9) rfl (by decide +kernel) rfl rfl (Nat.le_of_ble_eq_true rfl) dX0_step_56 (fun H locs hP hD hS => ?_)
        have hP : va_P (dC, dI) vwCl (BW cI cZ h0 q (upA (upA ((it 6 (f_step_L8 u) ((0 : Int32), (f_pushBoard u))).2) 11 0 ((((it 6 (f_step_L8 u) ((0 : Int32), (f_pushBoard u))).2) 11 0) + (1 : Int32))) 12 0 ((((it 6 (f_step_L8 u) ((0 : Int32), (f_pushBoard u))).2) 12 0) + ((it 6 (f_step_L8 u) ((0 : Int32), (f_pushBoard u))).1)))) H := Eq.mp (congrArg (fun w => va_P (dC, dI) vwCl w H) BW_s12) hP
        have hD : va_D A0 (BW cI cZ h0 q (upA (upA ((it 6 (f_step_L8 u) ((0 : Int32), (f_pushBoard u))).2) 11 0 ((((it 6 (f_step_L8 u) ((0 : Int32), (f_pushBoard u))).2) 11 0) + (1 : Int32))) 12 0 ((((it 6 (f_step_L8 u) ((0 : Int32), (f_pushBoard u))).2) 12 0) + ((it 6 (f_step_L8 u) ((0 : Int32), (f_pushBoard u))).1)))) := Eq.mp (congrArg (fun w => va_D A0 w) BW_s12) hD
        refine lv_iload_n hx hb dX0_step_59 rfl (lv_at hl 1 rfl) ?_
        refine lv_iconst (v := (2 : Int32)) hx hb dX0_step_60 (by decide) ?_
        refine lv_icmp_lt (tgt := 74) hx hb dX0_step_61 (by decide) (fun c_61 => ?_) (fun c_61 => ?_)
        · have r2 : f_step u = upA (upA ((it 6 (f_step_L8 u) ((0 : Int32), (f_pushBoard u))).2) 11 0 ((((it 6 (f_step_L8 u) ((0 : Int32), (f_pushBoard u))).2) 11 0) + (1 : Int32))) 12 0 ((((it 6 (f_step_L8 u) ((0 : Int32), (f_pushBoard u))).2) 12 0) + ((it 6 (f_step_L8 u) ((0 : Int32), (f_pushBoard u))).1)) := by
            rw [f_step, if_pos c_61]
          exact kw_v hx hb hr hlk hP hS dX0_step_74 (by rw [r2])
        · refine lv_aload_n hx hb dX0_step_64 rfl (lv_at hl 0 rfl) ?_
          refine lv_dup hx hb dX0_step_65 rfl ?_
          refine va_get (D := (dC, dI)) (ci := 0) (v := .int (((it 6 (f_step_L8 u) ((0 : Int32), (f_pushBoard u))).2) 13 0)) (C := RX0) (T := TX0) (N := 14) hx hb hts inX0 hown hK hP 0 rfl rfl 13 (by decide) (hts (.fieldLink RX0 53 "BoardMetronomes$Bench" "stepsTogether" "I") (by decide +kernel)) (fun _ h9 => h9) (congrArg (fun z => some (Value.int z)) (show (upA (upA ((it 6 (f_step_L8 u) ((0 : Int32), (f_pushBoard u))).2) 11 0 ((((it 6 (f_step_L8 u) ((0 : Int32), (f_pushBoard u))).2) 11 0) + (1 : Int32))) 12 0 ((((it 6 (f_step_L8 u) ((0 : Int32), (f_pushBoard u))).2) 12 0) + ((it 6 (f_step_L8 u) ((0 : Int32), (f_pushBoard u))).1))) 13 0 = ((it 6 (f_step_L8 u) ((0 : Int32), (f_pushBoard u))).2) 13 0 by rw [upA_o (show (13 : Nat) ≠ 12 by decide), upA_o (show (13 : Nat) ≠ 11 by decide)])) dX0_step_66 ?_
          refine lv_iconst (v := (1 : Int32)) hx hb dX0_step_69 (by decide) ?_
          refine lv_iadd hx hb dX0_step_70 ?_
          refine va_put (D := (dC, dI)) (ci := 0) (v := .int ((((it 6 (f_step_L8 u) ((0 : Int32), (f_pushBoard u))).2) 13 0) + (1 : Int32))) (ty := .int) (C := RX0) (T := TX0) (N := 14) hx hb hts inX0 tyX0 tyX0_ok nmX0 hown hK hP hD hS 0 rfl rfl 13 (by decide) (hts (.fieldLink RX0 53 "BoardMetronomes$Bench" "stepsTogether" "I") (by decide +kernel)) (fun _ h9 => h9) rfl (by decide +kernel) rfl rfl (Nat.le_of_ble_eq_true rfl) dX0_step_71 (fun H locs hP hD hS => ?_)
          have hP : va_P (dC, dI) vwCl (BW cI cZ h0 q (upA (upA (upA ((it 6 (f_step_L8 u) ((0 : Int32), (f_pushBoard u))).2) 11 0 ((((it 6 (f_step_L8 u) ((0 : Int32), (f_pushBoard u))).2) 11 0) + (1 : Int32))) 12 0 ((((it 6 (f_step_L8 u) ((0 : Int32), (f_pushBoard u))).2) 12 0) + ((it 6 (f_step_L8 u) ((0 : Int32), (f_pushBoard u))).1))) 13 0 ((((it 6 (f_step_L8 u) ((0 : Int32), (f_pushBoard u))).2) 13 0) + (1 : Int32)))) H := Eq.mp (congrArg (fun w => va_P (dC, dI) vwCl w H) BW_s13) hP
          have hD : va_D A0 (BW cI cZ h0 q (upA (upA (upA ((it 6 (f_step_L8 u) ((0 : Int32), (f_pushBoard u))).2) 11 0 ((((it 6 (f_step_L8 u) ((0 : Int32), (f_pushBoard u))).2) 11 0) + (1 : Int32))) 12 0 ((((it 6 (f_step_L8 u) ((0 : Int32), (f_pushBoard u))).2) 12 0) + ((it 6 (f_step_L8 u) ((0 : Int32), (f_pushBoard u))).1))) 13 0 ((((it 6 (f_step_L8 u) ((0 : Int32), (f_pushBoard u))).2) 13 0) + (1 : Int32)))) := Eq.mp (congrArg (fun w => va_D A0 w) BW_s13) hD
          have r3 : f_step u = upA (upA (upA ((it 6 (f_step_L8 u) ((0 : Int32), (f_pushBoard u))).2) 11 0 ((((it 6 (f_step_L8 u) ((0 : Int32), (f_pushBoard u))).2) 11 0) + (1 : Int32))) 12 0 ((((it 6 (f_step_L8 u) ((0 : Int32), (f_pushBoard u))).2) 12 0) + ((it 6 (f_step_L8 u) ((0 : Int32), (f_pushBoard u))).1))) 13 0 ((((it 6 (f_step_L8 u) ((0 : Int32), (f_pushBoard u))).2) 13 0) + (1 : Int32)) := by
            rw [f_step, if_neg c_61]
          exact kw_v hx hb hr hlk hP hS dX0_step_74 (by rw [r3])
      · exact absurd (nI_le (a := 6) (by omega) (by omega)) c_11
    | succ n ih1 =>
      intro j0 hj1 H locs ls hP hD hS hl
      refine lv_iload_n hx hb dX0_step_8 rfl (lv_at hl 2 rfl) ?_
      refine lv_bipush (v := (6 : Int32)) hx hb dX0_step_9 (by decide) ?_
      refine lv_icmp_ge (tgt := 39) hx hb dX0_step_11 (by decide) (fun c_11 => ?_) (fun c_11 => ?_)
      · exact absurd c_11 (nI_ge (b := 6) (by omega) (by decide))
      · refine lv_aload_n hx hb dX0_step_14 rfl (lv_at hl 0 rfl) ?_
        refine lv_iload_n hx hb dX0_step_15 rfl (lv_at hl 2 rfl) ?_
        refine kc_v (As := [.int (nI j0)]) (rest := []) S (v := .int (bI (f_goes ((it j0 (f_step_L8 u) ((0 : Int32), (f_pushBoard u))).2) (nI j0)))) (c_X0_goes l dC dI cI cZ cO h0 q ((it j0 (f_step_L8 u) ((0 : Int32), (f_pushBoard u))).2) (nI j0)) gX0_step_X0_goes mi_X0_goes ⟨rfl, rfl⟩ ⟨Nat.le_of_ble_eq_true rfl, Nat.le_of_ble_eq_true rfl⟩ hK hP 0 rfl rfl ⟨Nat.le_refl _, Nat.le_refl _⟩ dX0_step_16 rfl hl.1 rfl (Nat.le_of_ble_eq_true rfl) ?_
        refine kb_eq (tgt := 33) hx hb dX0_step_19 (by decide) (fun c_19 => ?_) (fun c_19 => ?_)
        · refine lv_iinc (v := nI (j0 + 1)) (lv' := [(2, .int (nI (j0 + 1))), (0, .ref h0), (1, .int ((it j0 (f_step_L8 u) ((0 : Int32), (f_pushBoard u))).1))]) hx hb dX0_step_33 hl (k := 2) rfl (nI_add j0 1) (by decide) rfl (fun ls hl => ?_)
          refine lv_goto (tgt := 8) hx hb dX0_step_36 (by decide) ?_
          have b4 : f_step_L8 u j0 (it j0 (f_step_L8 u) ((0 : Int32), (f_pushBoard u))) = ((it j0 (f_step_L8 u) ((0 : Int32), (f_pushBoard u))).1, (it j0 (f_step_L8 u) ((0 : Int32), (f_pushBoard u))).2) := by
            rw [f_step_L8, if_neg c_19]
          have e4 : it (j0 + 1) (f_step_L8 u) ((0 : Int32), (f_pushBoard u)) = ((it j0 (f_step_L8 u) ((0 : Int32), (f_pushBoard u))).1, (it j0 (f_step_L8 u) ((0 : Int32), (f_pushBoard u))).2) := (it_s _ _ _).trans b4
          exact ih1 (j0 + 1) (by omega) H locs ls (by rw [e4]; exact hP) (by rw [e4]; exact hD) hS (by rw [e4]; exact lv_sub hl [1, 2, 0] rfl)
        · refine lv_aload_n hx hb dX0_step_22 rfl (lv_at hl 0 rfl) ?_
          refine lv_iload_n hx hb dX0_step_23 rfl (lv_at hl 2 rfl) ?_
          refine kc_w (As := [.int (nI j0)]) (rest := []) S (v := (some (.int (bI ((f_ticksGoingForward ((it j0 (f_step_L8 u) ((0 : Int32), (f_pushBoard u))).2) (nI j0)).1))))) (c_X0_ticksGoingForward l dC dI cI cZ cO h0 q ((it j0 (f_step_L8 u) ((0 : Int32), (f_pushBoard u))).2) (nI j0) H.size) gX0_step_X0_ticksGoingForward mi_X0_ticksGoingForward ⟨rfl, rfl⟩ ⟨Nat.le_of_ble_eq_true rfl, Nat.le_of_ble_eq_true rfl⟩ hK hP hD hS hA [0, 1, 2, 3, 4, 5] BW_all BW_fst rfl 0 rfl rfl ⟨Nat.le_refl _, Nat.le_refl _⟩ dX0_step_24 rfl hl.1 rfl (Nat.le_of_ble_eq_true rfl) (fun H locs hP hD hS => ?_)
          have hP : va_P (dC, dI) vwCl (BW cI cZ h0 q ((f_ticksGoingForward ((it j0 (f_step_L8 u) ((0 : Int32), (f_pushBoard u))).2) (nI j0)).2)) H := Eq.mp (congrArg (fun w => va_P (dC, dI) vwCl w H) BW_ks) hP
          have hD : va_D A0 (BW cI cZ h0 q ((f_ticksGoingForward ((it j0 (f_step_L8 u) ((0 : Int32), (f_pushBoard u))).2) (nI j0)).2)) := Eq.mp (congrArg (fun w => va_D A0 w) BW_ks) hD
          refine kb_eq (tgt := 33) hx hb dX0_step_27 (by decide) (fun c_27 => ?_) (fun c_27 => ?_)
          · refine lv_iinc (v := nI (j0 + 1)) (lv' := [(2, .int (nI (j0 + 1))), (0, .ref h0), (1, .int ((it j0 (f_step_L8 u) ((0 : Int32), (f_pushBoard u))).1))]) hx hb dX0_step_33 hl (k := 2) rfl (nI_add j0 1) (by decide) rfl (fun ls hl => ?_)
            refine lv_goto (tgt := 8) hx hb dX0_step_36 (by decide) ?_
            have b5 : f_step_L8 u j0 (it j0 (f_step_L8 u) ((0 : Int32), (f_pushBoard u))) = ((it j0 (f_step_L8 u) ((0 : Int32), (f_pushBoard u))).1, (f_ticksGoingForward ((it j0 (f_step_L8 u) ((0 : Int32), (f_pushBoard u))).2) (nI j0)).2) := by
              rw [f_step_L8, if_pos c_19, if_neg c_27]
            have e5 : it (j0 + 1) (f_step_L8 u) ((0 : Int32), (f_pushBoard u)) = ((it j0 (f_step_L8 u) ((0 : Int32), (f_pushBoard u))).1, (f_ticksGoingForward ((it j0 (f_step_L8 u) ((0 : Int32), (f_pushBoard u))).2) (nI j0)).2) := (it_s _ _ _).trans b5
            exact ih1 (j0 + 1) (by omega) H locs ls (by rw [e5]; exact hP) (by rw [e5]; exact hD) hS (by rw [e5]; exact lv_sub hl [1, 2, 0] rfl)
          · refine lv_iinc (v := ((it j0 (f_step_L8 u) ((0 : Int32), (f_pushBoard u))).1) + (1 : Int32)) (lv' := [(1, .int (((it j0 (f_step_L8 u) ((0 : Int32), (f_pushBoard u))).1) + (1 : Int32))), (0, .ref h0), (2, .int (nI j0))]) hx hb dX0_step_30 hl (k := 1) rfl rfl (by decide) rfl (fun ls hl => ?_)
            refine lv_iinc (v := nI (j0 + 1)) (lv' := [(2, .int (nI (j0 + 1))), (1, .int (((it j0 (f_step_L8 u) ((0 : Int32), (f_pushBoard u))).1) + (1 : Int32))), (0, .ref h0)]) hx hb dX0_step_33 hl (k := 2) rfl (nI_add j0 1) (by decide) rfl (fun ls hl => ?_)
            refine lv_goto (tgt := 8) hx hb dX0_step_36 (by decide) ?_
            have b6 : f_step_L8 u j0 (it j0 (f_step_L8 u) ((0 : Int32), (f_pushBoard u))) = (((it j0 (f_step_L8 u) ((0 : Int32), (f_pushBoard u))).1) + (1 : Int32), (f_ticksGoingForward ((it j0 (f_step_L8 u) ((0 : Int32), (f_pushBoard u))).2) (nI j0)).2) := by
              rw [f_step_L8, if_pos c_19, if_pos c_27]
            have e6 : it (j0 + 1) (f_step_L8 u) ((0 : Int32), (f_pushBoard u)) = (((it j0 (f_step_L8 u) ((0 : Int32), (f_pushBoard u))).1) + (1 : Int32), (f_ticksGoingForward ((it j0 (f_step_L8 u) ((0 : Int32), (f_pushBoard u))).2) (nI j0)).2) := (it_s _ _ _).trans b6
            exact ih1 (j0 + 1) (by omega) H locs ls (by rw [e6]; exact hP) (by rw [e6]; exact hD) hS (by rw [e6]; exact lv_sub hl [2, 1, 0] rfl)
  exact L1 6 0 (by omega) H locs ls hP hD hS (lv_sub hl [2, 1, 0] rfl)

def rm_X0_letGoBy : Room := { frames := 4, cells := 0, slots := 0, locals := 88 }
theorem mi_X0_letGoBy : kM yX0_letGoBy wsX0_letGoBy cX0_letGoBy 4 (some .int) 1 := ⟨⟨_, rfl⟩, by decide, by decide, by decide +kernel⟩
def f_letGoBy_L7 (u : BS) (p0 : Int32) (j0 : Nat) (x0 : BS) : BS := (f_step x0)
def f_letGoBy (u : BS) (p0 : Int32) : Int32 × BS := (((it p0.toNatClampNeg (f_letGoBy_L7 u p0) u) 12 0) - (u 12 0), it p0.toNatClampNeg (f_letGoBy_L7 u p0) u)
set_option maxHeartbeats 1000000 in
set_option maxRecDepth 100000 in
theorem c_X0_letGoBy (l : Launch) (dC : Nat → ClassId) (dI : Nat → Nat → Nat) (cI cZ cO : ClassId) (h0 : Nat) (q : Nat → Nat) (u : BS) (p0 : Int32) (sz : Nat) : Met l yX0_letGoBy wsX0_letGoBy rm_X0_letGoBy (va_Pc [.ref h0, .int p0] (fun U => U.heap.size = sz ∧ va_P (dC, dI) vwCl (BW cI cZ h0 q u) U.heap ∧ va_K (dC, dI) vwCl (TY cI cZ cO) U ∧ va_D (fun _ => True) (BW cI cZ h0 q u))) (kQw (some (.int (f_letGoBy u p0).1)) (dC, dI) vwCl (BW cI cZ h0 q ((f_letGoBy u p0).2)) (va_A (BW cI cZ h0 q u) sz)) 0 0 (va_A (BW cI cZ h0 q u) sz) := by
  refine kofW (cc := cX0_letGoBy) (maxL := 4) (ret := some .int) (by decide) rfl (Nat.le_of_ble_eq_true rfl) ?_
  intro p e s m args below meth c ls S hr hlk hnm hsz hP hK hD hS hA hl
  generalize hA0 : va_A (BW cI cZ h0 q u) sz = A0 at hD hS hA ⊢
  subst hsz
  obtain ⟨hx, hb, hml, hown, hts⟩ := id S
  have inX0 : ∀ w ∈ wsX00, w ∈ wsX0_letGoBy := fun w h => List.mem_cons_of_mem _ (List.mem_append_right _ h)
  have hl : lv_has ls 4 [(0, .ref h0), (1, .int p0)] := hl
  refine lv_aload_n hx hb dX0_letGoBy_0 rfl (lv_at hl 0 rfl) ?_
  refine va_get (D := (dC, dI)) (ci := 0) (v := .int (u 12 0)) (C := RX0) (T := TX0) (N := 14) hx hb hts inX0 hown hK hP 0 rfl rfl 12 (by decide) (hts (.fieldLink RX0 50 "BoardMetronomes$Bench" "allTicks" "I") (by decide +kernel)) (fun _ h9 => h9) rfl dX0_letGoBy_1 ?_
  refine lv_istore_n (lv' := [(2, .int (u 12 0)), (0, .ref h0), (1, .int p0)]) hx hb dX0_letGoBy_4 rfl hl (by decide) rfl (fun ls hl => ?_)
  refine lv_iconst (v := (0 : Int32)) hx hb dX0_letGoBy_5 (by decide) ?_
  refine lv_istore_n (lv' := [(3, .int (0 : Int32)), (2, .int (u 12 0)), (0, .ref h0), (1, .int p0)]) hx hb dX0_letGoBy_6 rfl hl (by decide) rfl (fun ls hl => ?_)
  have L1 : ∀ (n j0 : Nat), j0 + n = p0.toNatClampNeg → ∀ (H : Heap) (locs : List Loc) (ls : Array Slot), va_P (dC, dI) vwCl (BW cI cZ h0 q (it j0 (f_letGoBy_L7 u p0) u)) H → va_D A0 (BW cI cZ h0 q (it j0 (f_letGoBy_L7 u p0) u)) → va_S A0 s.heap H locs → lv_has ls 4 [(0, .ref h0), (1, .int p0), (2, .int (u 12 0)), (3, .int (nI j0))] → W p l e rm_X0_letGoBy s m args below meth c H locs 0 0 (MQ below (kQw (some (.int (f_letGoBy u p0).1)) (dC, dI) vwCl (BW cI cZ h0 q ((f_letGoBy u p0).2)) A0) args s 0 0 A0) (F0 m 7 ls []) := by
    intro n
    induction n with
    | zero =>
      intro j0 hj1 H locs ls hP hD hS hl
      obtain rfl : j0 = p0.toNatClampNeg := by omega
      refine lv_iload_n hx hb dX0_letGoBy_7 rfl (lv_at hl 3 rfl) ?_
      refine lv_iload_n hx hb dX0_letGoBy_8 rfl (lv_at hl 1 rfl) ?_
      refine lv_icmp_ge (tgt := 22) hx hb dX0_letGoBy_9 (by decide) (fun c_9 => ?_) (fun c_9 => ?_)
      · refine lv_aload_n hx hb dX0_letGoBy_22 rfl (lv_at hl 0 rfl) ?_
        refine va_get (D := (dC, dI)) (ci := 0) (v := .int ((it p0.toNatClampNeg (f_letGoBy_L7 u p0) u) 12 0)) (C := RX0) (T := TX0) (N := 14) hx hb hts inX0 hown hK hP 0 rfl rfl 12 (by decide) (hts (.fieldLink RX0 50 "BoardMetronomes$Bench" "allTicks" "I") (by decide +kernel)) (fun _ h9 => h9) rfl dX0_letGoBy_23 ?_
        refine lv_iload_n hx hb dX0_letGoBy_26 rfl (lv_at hl 2 rfl) ?_
        refine lv_isub hx hb dX0_letGoBy_27 ?_
        have r2 : f_letGoBy u p0 = (((it p0.toNatClampNeg (f_letGoBy_L7 u p0) u) 12 0) - (u 12 0), it p0.toNatClampNeg (f_letGoBy_L7 u p0) u) := by
          rw [f_letGoBy]
        exact kw_i hx hb hr hlk hP hS dX0_letGoBy_28 (by rw [r2]) (by rw [r2])
      · exact absurd (kn_ge p0) c_9
    | succ n ih1 =>
      intro j0 hj1 H locs ls hP hD hS hl
      refine lv_iload_n hx hb dX0_letGoBy_7 rfl (lv_at hl 3 rfl) ?_
      refine lv_iload_n hx hb dX0_letGoBy_8 rfl (lv_at hl 1 rfl) ?_
      refine lv_icmp_ge (tgt := 22) hx hb dX0_letGoBy_9 (by decide) (fun c_9 => ?_) (fun c_9 => ?_)
      · exact absurd c_9 (kn_lt (b := p0) (by omega))
      · refine lv_aload_n hx hb dX0_letGoBy_12 rfl (lv_at hl 0 rfl) ?_
        refine kc_w (As := []) (rest := []) S (v := none) (c_X0_step l dC dI cI cZ cO h0 q (it j0 (f_letGoBy_L7 u p0) u) H.size) gX0_letGoBy_X0_step mi_X0_step ⟨rfl, rfl⟩ ⟨Nat.le_of_ble_eq_true rfl, Nat.le_of_ble_eq_true rfl⟩ hK hP hD hS hA [0, 1, 2, 3, 4, 5] BW_all BW_fst rfl 0 rfl rfl ⟨Nat.le_refl _, Nat.le_refl _⟩ dX0_letGoBy_13 rfl hl.1 rfl (Nat.le_of_ble_eq_true rfl) (fun H locs hP hD hS => ?_)
        have hP : va_P (dC, dI) vwCl (BW cI cZ h0 q (f_step (it j0 (f_letGoBy_L7 u p0) u))) H := Eq.mp (congrArg (fun w => va_P (dC, dI) vwCl w H) BW_ks) hP
        have hD : va_D A0 (BW cI cZ h0 q (f_step (it j0 (f_letGoBy_L7 u p0) u))) := Eq.mp (congrArg (fun w => va_D A0 w) BW_ks) hD
        refine lv_iinc (v := nI (j0 + 1)) (lv' := [(3, .int (nI (j0 + 1))), (0, .ref h0), (1, .int p0), (2, .int (u 12 0))]) hx hb dX0_letGoBy_16 hl (k := 3) rfl (nI_add j0 1) (by decide) rfl (fun ls hl => ?_)
        refine lv_goto (tgt := 7) hx hb dX0_letGoBy_19 (by decide) ?_
        have b3 : f_letGoBy_L7 u p0 j0 (it j0 (f_letGoBy_L7 u p0) u) = (f_step (it j0 (f_letGoBy_L7 u p0) u)) := by
          rw [f_letGoBy_L7]
        have e3 : it (j0 + 1) (f_letGoBy_L7 u p0) u = (f_step (it j0 (f_letGoBy_L7 u p0) u)) := (it_s _ _ _).trans b3
        exact ih1 (j0 + 1) (by omega) H locs ls (by rw [e3]; exact hP) (by rw [e3]; exact hD) hS (lv_sub hl [1, 2, 3, 0] rfl)
  exact L1 p0.toNatClampNeg 0 (by omega) s.heap [] ls hP hD hS (lv_sub hl [2, 3, 1, 0] rfl)

def rm_X0_copyFrom : Room := { frames := 0, cells := 0, slots := 0, locals := 0 }
theorem mi_X0_copyFrom : kM yX0_copyFrom wsX0_copyFrom cX0_copyFrom 3 none 1 := ⟨⟨_, rfl⟩, by decide, by decide, by decide +kernel⟩
def f_copyFrom_L7 (u : BS) (u1 : BS) (j0 : Nat) (x0 : BS) : BS := upA (upA (upA (upA (upA x0 0 j0 (u1 0 j0)) 1 j0 (u1 1 j0)) 2 j0 (u1 2 j0)) 3 j0 (vp_nar .boolean (u1 3 j0))) 4 j0 (u1 4 j0)
def f_copyFrom (u : BS) (u1 : BS) : BS := upA (upA (upA (upA (upA (upA (upA (upA (upA (it 6 (f_copyFrom_L7 u u1) u) 5 0 (u1 5 0)) 6 0 (u1 6 0)) 7 0 (u1 7 0)) 8 0 (u1 8 0)) 9 0 (u1 9 0)) 10 0 (u1 10 0)) 11 0 (u1 11 0)) 12 0 (u1 12 0)) 13 0 (u1 13 0)
set_option maxHeartbeats 1000000 in
set_option maxRecDepth 100000 in
theorem c_X0_copyFrom (l : Launch) (dC : Nat → ClassId) (dI : Nat → Nat → Nat) (cI cZ cO : ClassId) (h0 h1 : Nat) (q q1 : Nat → Nat) (u : BS) (u1 : BS) (sz : Nat) : Met l yX0_copyFrom wsX0_copyFrom rm_X0_copyFrom (va_Pc [.ref h0, .ref h1] (fun U => U.heap.size = sz ∧ va_P (dC, dI) vwCl (BW cI cZ h0 q u ++ BW cI cZ h1 q1 u1) U.heap ∧ va_K (dC, dI) vwCl (TY cI cZ cO) U ∧ va_D (fun _ => True) (BW cI cZ h0 q u ++ BW cI cZ h1 q1 u1))) (kQw none (dC, dI) vwCl (BW cI cZ h0 q (f_copyFrom u u1) ++ BW cI cZ h1 q1 u1) (va_A (BW cI cZ h0 q u ++ BW cI cZ h1 q1 u1) sz)) 0 0 (va_A (BW cI cZ h0 q u ++ BW cI cZ h1 q1 u1) sz) := by
  refine kofW (cc := cX0_copyFrom) (maxL := 3) (ret := none) (by decide) rfl (Nat.le_of_ble_eq_true rfl) ?_
  intro p e s m args below meth c ls S hr hlk hnm hsz hP hK hD hS hA hl
  generalize hA0 : va_A (BW cI cZ h0 q u ++ BW cI cZ h1 q1 u1) sz = A0 at hD hS hA ⊢
  subst hsz
  obtain ⟨hx, hb, hml, hown, hts⟩ := id S
  have inX0 : ∀ w ∈ wsX00, w ∈ wsX0_copyFrom := fun w h => List.mem_cons_of_mem _ (List.mem_append_right _ h)
  have hl : lv_has ls 3 [(0, .ref h0), (1, .ref h1)] := hl
  refine lv_aload_n hx hb dX0_copyFrom_0 rfl (lv_at hl 1 rfl) ?_
  refine lv_ifnonnull (tgt := 5) hx hb dX0_copyFrom_1 (by decide) ?_
  refine lv_iconst (v := (0 : Int32)) hx hb dX0_copyFrom_5 (by decide) ?_
  refine lv_istore_n (lv' := [(2, .int (0 : Int32)), (0, .ref h0), (1, .ref h1)]) hx hb dX0_copyFrom_6 rfl hl (by decide) rfl (fun ls hl => ?_)
  have L1 : ∀ (n j0 : Nat), j0 + n = 6 → ∀ (H : Heap) (locs : List Loc) (ls : Array Slot), va_P (dC, dI) vwCl (BW cI cZ h0 q (it j0 (f_copyFrom_L7 u u1) u) ++ BW cI cZ h1 q1 u1) H → va_D A0 (BW cI cZ h0 q (it j0 (f_copyFrom_L7 u u1) u) ++ BW cI cZ h1 q1 u1) → va_S A0 s.heap H locs → lv_has ls 3 [(0, .ref h0), (1, .ref h1), (2, .int (nI j0))] → W p l e rm_X0_copyFrom s m args below meth c H locs 0 0 (MQ below (kQw none (dC, dI) vwCl (BW cI cZ h0 q (f_copyFrom u u1) ++ BW cI cZ h1 q1 u1) A0) args s 0 0 A0) (F0 m 7 ls []) := by
    intro n
    induction n with
    | zero =>
      intro j0 hj1 H locs ls hP hD hS hl
      obtain rfl : j0 = 6 := by omega
      refine lv_iload_n hx hb dX0_copyFrom_7 rfl (lv_at hl 2 rfl) ?_
      refine lv_bipush (v := (6 : Int32)) hx hb dX0_copyFrom_8 (by decide) ?_
      refine lv_icmp_ge (tgt := 79) hx hb dX0_copyFrom_10 (by decide) (fun c_10 => ?_) (fun c_10 => ?_)
      · refine lv_aload_n hx hb dX0_copyFrom_79 rfl (lv_at hl 0 rfl) ?_
        refine lv_aload_n hx hb dX0_copyFrom_80 rfl (lv_at hl 1 rfl) ?_
        refine va_get (D := (dC, dI)) (ci := 0) (v := .int (u1 5 0)) (C := RX0) (T := TX0) (N := 14) hx hb hts inX0 hown hK hP 6 rfl rfl 5 (by decide) (hts (.fieldLink RX0 38 "BoardMetronomes$Bench" "size" "I") (by decide +kernel)) (fun _ h9 => h9) rfl dX0_copyFrom_81 ?_
        refine va_put (D := (dC, dI)) (ci := 0) (v := .int (u1 5 0)) (ty := .int) (C := RX0) (T := TX0) (N := 14) hx hb hts inX0 tyX0 tyX0_ok nmX0 hown hK hP hD hS 0 rfl rfl 5 (by decide) (hts (.fieldLink RX0 38 "BoardMetronomes$Bench" "size" "I") (by decide +kernel)) (fun _ h9 => h9) rfl (by decide +kernel) rfl rfl (Nat.le_of_ble_eq_true rfl) dX0_copyFrom_84 (fun H locs hP hD hS => ?_)
        have hP : va_P (dC, dI) vwCl (BW cI cZ h0 q (upA (it 6 (f_copyFrom_L7 u u1) u) 5 0 (u1 5 0)) ++ BW cI cZ h1 q1 u1) H := Eq.mp (congrArg (fun w => va_P (dC, dI) vwCl w H) BW_s5') hP
        have hD : va_D A0 (BW cI cZ h0 q (upA (it 6 (f_copyFrom_L7 u u1) u) 5 0 (u1 5 0)) ++ BW cI cZ h1 q1 u1) := Eq.mp (congrArg (fun w => va_D A0 w) BW_s5') hD
        refine lv_aload_n hx hb dX0_copyFrom_87 rfl (lv_at hl 0 rfl) ?_
        refine lv_aload_n hx hb dX0_copyFrom_88 rfl (lv_at hl 1 rfl) ?_
        refine va_get (D := (dC, dI)) (ci := 0) (v := .int (u1 6 0)) (C := RX0) (T := TX0) (N := 14) hx hb hts inX0 hown hK hP 6 rfl rfl 6 (by decide) (hts (.fieldLink RX0 41 "BoardMetronomes$Bench" "a" "I") (by decide +kernel)) (fun _ h9 => h9) rfl dX0_copyFrom_89 ?_
        refine va_put (D := (dC, dI)) (ci := 0) (v := .int (u1 6 0)) (ty := .int) (C := RX0) (T := TX0) (N := 14) hx hb hts inX0 tyX0 tyX0_ok nmX0 hown hK hP hD hS 0 rfl rfl 6 (by decide) (hts (.fieldLink RX0 41 "BoardMetronomes$Bench" "a" "I") (by decide +kernel)) (fun _ h9 => h9) rfl (by decide +kernel) rfl rfl (Nat.le_of_ble_eq_true rfl) dX0_copyFrom_92 (fun H locs hP hD hS => ?_)
        have hP : va_P (dC, dI) vwCl (BW cI cZ h0 q (upA (upA (it 6 (f_copyFrom_L7 u u1) u) 5 0 (u1 5 0)) 6 0 (u1 6 0)) ++ BW cI cZ h1 q1 u1) H := Eq.mp (congrArg (fun w => va_P (dC, dI) vwCl w H) BW_s6') hP
        have hD : va_D A0 (BW cI cZ h0 q (upA (upA (it 6 (f_copyFrom_L7 u u1) u) 5 0 (u1 5 0)) 6 0 (u1 6 0)) ++ BW cI cZ h1 q1 u1) := Eq.mp (congrArg (fun w => va_D A0 w) BW_s6') hD
        refine lv_aload_n hx hb dX0_copyFrom_95 rfl (lv_at hl 0 rfl) ?_
        refine lv_aload_n hx hb dX0_copyFrom_96 rfl (lv_at hl 1 rfl) ?_
        refine va_get (D := (dC, dI)) (ci := 0) (v := .int (u1 7 0)) (C := RX0) (T := TX0) (N := 14) hx hb hts inX0 hown hK hP 6 rfl rfl 7 (by decide) (hts (.fieldLink RX0 44 "BoardMetronomes$Bench" "b" "I") (by decide +kernel)) (fun _ h9 => h9) rfl dX0_copyFrom_97 ?_
        refine va_put (D := (dC, dI)) (ci := 0) (v := .int (u1 7 0)) (ty := .int) (C := RX0) (T := TX0) (N := 14) hx hb hts inX0 tyX0 tyX0_ok nmX0 hown hK hP hD hS 0 rfl rfl 7 (by decide) (hts (.fieldLink RX0 44 "BoardMetronomes$Bench" "b" "I") (by decide +kernel)) (fun _ h9 => h9) rfl (by decide +kernel) rfl rfl (Nat.le_of_ble_eq_true rfl) dX0_copyFrom_100 (fun H locs hP hD hS => ?_)
        have hP : va_P (dC, dI) vwCl (BW cI cZ h0 q (upA (upA (upA (it 6 (f_copyFrom_L7 u u1) u) 5 0 (u1 5 0)) 6 0 (u1 6 0)) 7 0 (u1 7 0)) ++ BW cI cZ h1 q1 u1) H := Eq.mp (congrArg (fun w => va_P (dC, dI) vwCl w H) BW_s7') hP
        have hD : va_D A0 (BW cI cZ h0 q (upA (upA (upA (it 6 (f_copyFrom_L7 u u1) u) 5 0 (u1 5 0)) 6 0 (u1 6 0)) 7 0 (u1 7 0)) ++ BW cI cZ h1 q1 u1) := Eq.mp (congrArg (fun w => va_D A0 w) BW_s7') hD
        refine lv_aload_n hx hb dX0_copyFrom_103 rfl (lv_at hl 0 rfl) ?_
        refine lv_aload_n hx hb dX0_copyFrom_104 rfl (lv_at hl 1 rfl) ?_
        refine va_get (D := (dC, dI)) (ci := 0) (v := .int (u1 8 0)) (C := RX0) (T := TX0) (N := 14) hx hb hts inX0 hown hK hP 6 rfl rfl 8 (by decide) (hts (.fieldLink RX0 28 "BoardMetronomes$Bench" "stay" "I") (by decide +kernel)) (fun _ h9 => h9) rfl dX0_copyFrom_105 ?_
        refine va_put (D := (dC, dI)) (ci := 0) (v := .int (u1 8 0)) (ty := .int) (C := RX0) (T := TX0) (N := 14) hx hb hts inX0 tyX0 tyX0_ok nmX0 hown hK hP hD hS 0 rfl rfl 8 (by decide) (hts (.fieldLink RX0 28 "BoardMetronomes$Bench" "stay" "I") (by decide +kernel)) (fun _ h9 => h9) rfl (by decide +kernel) rfl rfl (Nat.le_of_ble_eq_true rfl) dX0_copyFrom_108 (fun H locs hP hD hS => ?_)
        have hP : va_P (dC, dI) vwCl (BW cI cZ h0 q (upA (upA (upA (upA (it 6 (f_copyFrom_L7 u u1) u) 5 0 (u1 5 0)) 6 0 (u1 6 0)) 7 0 (u1 7 0)) 8 0 (u1 8 0)) ++ BW cI cZ h1 q1 u1) H := Eq.mp (congrArg (fun w => va_P (dC, dI) vwCl w H) BW_s8') hP
        have hD : va_D A0 (BW cI cZ h0 q (upA (upA (upA (upA (it 6 (f_copyFrom_L7 u u1) u) 5 0 (u1 5 0)) 6 0 (u1 6 0)) 7 0 (u1 7 0)) 8 0 (u1 8 0)) ++ BW cI cZ h1 q1 u1) := Eq.mp (congrArg (fun w => va_D A0 w) BW_s8') hD
        refine lv_aload_n hx hb dX0_copyFrom_111 rfl (lv_at hl 0 rfl) ?_
        refine lv_aload_n hx hb dX0_copyFrom_112 rfl (lv_at hl 1 rfl) ?_
        refine va_get (D := (dC, dI)) (ci := 0) (v := .int (u1 9 0)) (C := RX0) (T := TX0) (N := 14) hx hb hts inX0 hown hK hP 6 rfl rfl 9 (by decide) (hts (.fieldLink RX0 32 "BoardMetronomes$Bench" "strength" "I") (by decide +kernel)) (fun _ h9 => h9) rfl dX0_copyFrom_113 ?_
        refine va_put (D := (dC, dI)) (ci := 0) (v := .int (u1 9 0)) (ty := .int) (C := RX0) (T := TX0) (N := 14) hx hb hts inX0 tyX0 tyX0_ok nmX0 hown hK hP hD hS 0 rfl rfl 9 (by decide) (hts (.fieldLink RX0 32 "BoardMetronomes$Bench" "strength" "I") (by decide +kernel)) (fun _ h9 => h9) rfl (by decide +kernel) rfl rfl (Nat.le_of_ble_eq_true rfl) dX0_copyFrom_116 (fun H locs hP hD hS => ?_)
        have hP : va_P (dC, dI) vwCl (BW cI cZ h0 q (upA (upA (upA (upA (upA (it 6 (f_copyFrom_L7 u u1) u) 5 0 (u1 5 0)) 6 0 (u1 6 0)) 7 0 (u1 7 0)) 8 0 (u1 8 0)) 9 0 (u1 9 0)) ++ BW cI cZ h1 q1 u1) H := Eq.mp (congrArg (fun w => va_P (dC, dI) vwCl w H) BW_s9') hP
        have hD : va_D A0 (BW cI cZ h0 q (upA (upA (upA (upA (upA (it 6 (f_copyFrom_L7 u u1) u) 5 0 (u1 5 0)) 6 0 (u1 6 0)) 7 0 (u1 7 0)) 8 0 (u1 8 0)) 9 0 (u1 9 0)) ++ BW cI cZ h1 q1 u1) := Eq.mp (congrArg (fun w => va_D A0 w) BW_s9') hD
        refine lv_aload_n hx hb dX0_copyFrom_119 rfl (lv_at hl 0 rfl) ?_
        refine lv_aload_n hx hb dX0_copyFrom_120 rfl (lv_at hl 1 rfl) ?_
        refine va_get (D := (dC, dI)) (ci := 0) (v := .int (u1 10 0)) (C := RX0) (T := TX0) (N := 14) hx hb hts inX0 hown hK hP 6 rfl rfl 10 (by decide) (hts (.fieldLink RX0 35 "BoardMetronomes$Bench" "nearness" "I") (by decide +kernel)) (fun _ h9 => h9) rfl dX0_copyFrom_121 ?_
        refine va_put (D := (dC, dI)) (ci := 0) (v := .int (u1 10 0)) (ty := .int) (C := RX0) (T := TX0) (N := 14) hx hb hts inX0 tyX0 tyX0_ok nmX0 hown hK hP hD hS 0 rfl rfl 10 (by decide) (hts (.fieldLink RX0 35 "BoardMetronomes$Bench" "nearness" "I") (by decide +kernel)) (fun _ h9 => h9) rfl (by decide +kernel) rfl rfl (Nat.le_of_ble_eq_true rfl) dX0_copyFrom_124 (fun H locs hP hD hS => ?_)
        have hP : va_P (dC, dI) vwCl (BW cI cZ h0 q (upA (upA (upA (upA (upA (upA (it 6 (f_copyFrom_L7 u u1) u) 5 0 (u1 5 0)) 6 0 (u1 6 0)) 7 0 (u1 7 0)) 8 0 (u1 8 0)) 9 0 (u1 9 0)) 10 0 (u1 10 0)) ++ BW cI cZ h1 q1 u1) H := Eq.mp (congrArg (fun w => va_P (dC, dI) vwCl w H) BW_s10') hP
        have hD : va_D A0 (BW cI cZ h0 q (upA (upA (upA (upA (upA (upA (it 6 (f_copyFrom_L7 u u1) u) 5 0 (u1 5 0)) 6 0 (u1 6 0)) 7 0 (u1 7 0)) 8 0 (u1 8 0)) 9 0 (u1 9 0)) 10 0 (u1 10 0)) ++ BW cI cZ h1 q1 u1) := Eq.mp (congrArg (fun w => va_D A0 w) BW_s10') hD
        refine lv_aload_n hx hb dX0_copyFrom_127 rfl (lv_at hl 0 rfl) ?_
        refine lv_aload_n hx hb dX0_copyFrom_128 rfl (lv_at hl 1 rfl) ?_
        refine va_get (D := (dC, dI)) (ci := 0) (v := .int (u1 11 0)) (C := RX0) (T := TX0) (N := 14) hx hb hts inX0 hown hK hP 6 rfl rfl 11 (by decide) (hts (.fieldLink RX0 47 "BoardMetronomes$Bench" "steps" "I") (by decide +kernel)) (fun _ h9 => h9) rfl dX0_copyFrom_129 ?_
        refine va_put (D := (dC, dI)) (ci := 0) (v := .int (u1 11 0)) (ty := .int) (C := RX0) (T := TX0) (N := 14) hx hb hts inX0 tyX0 tyX0_ok nmX0 hown hK hP hD hS 0 rfl rfl 11 (by decide) (hts (.fieldLink RX0 47 "BoardMetronomes$Bench" "steps" "I") (by decide +kernel)) (fun _ h9 => h9) rfl (by decide +kernel) rfl rfl (Nat.le_of_ble_eq_true rfl) dX0_copyFrom_132 (fun H locs hP hD hS => ?_)
        have hP : va_P (dC, dI) vwCl (BW cI cZ h0 q (upA (upA (upA (upA (upA (upA (upA (it 6 (f_copyFrom_L7 u u1) u) 5 0 (u1 5 0)) 6 0 (u1 6 0)) 7 0 (u1 7 0)) 8 0 (u1 8 0)) 9 0 (u1 9 0)) 10 0 (u1 10 0)) 11 0 (u1 11 0)) ++ BW cI cZ h1 q1 u1) H := Eq.mp (congrArg (fun w => va_P (dC, dI) vwCl w H) BW_s11') hP
        have hD : va_D A0 (BW cI cZ h0 q (upA (upA (upA (upA (upA (upA (upA (it 6 (f_copyFrom_L7 u u1) u) 5 0 (u1 5 0)) 6 0 (u1 6 0)) 7 0 (u1 7 0)) 8 0 (u1 8 0)) 9 0 (u1 9 0)) 10 0 (u1 10 0)) 11 0 (u1 11 0)) ++ BW cI cZ h1 q1 u1) := Eq.mp (congrArg (fun w => va_D A0 w) BW_s11') hD
        refine lv_aload_n hx hb dX0_copyFrom_135 rfl (lv_at hl 0 rfl) ?_
        refine lv_aload_n hx hb dX0_copyFrom_136 rfl (lv_at hl 1 rfl) ?_
        refine va_get (D := (dC, dI)) (ci := 0) (v := .int (u1 12 0)) (C := RX0) (T := TX0) (N := 14) hx hb hts inX0 hown hK hP 6 rfl rfl 12 (by decide) (hts (.fieldLink RX0 50 "BoardMetronomes$Bench" "allTicks" "I") (by decide +kernel)) (fun _ h9 => h9) rfl dX0_copyFrom_137 ?_
        refine va_put (D := (dC, dI)) (ci := 0) (v := .int (u1 12 0)) (ty := .int) (C := RX0) (T := TX0) (N := 14) hx hb hts inX0 tyX0 tyX0_ok nmX0 hown hK hP hD hS 0 rfl rfl 12 (by decide) (hts (.fieldLink RX0 50 "BoardMetronomes$Bench" "allTicks" "I") (by decide +kernel)) (fun _ h9 => h9) rfl (by decide +kernel) rfl rfl (Nat.le_of_ble_eq_true rfl) dX0_copyFrom_140 (fun H locs hP hD hS => ?_)
        have hP : va_P (dC, dI) vwCl (BW cI cZ h0 q (upA (upA (upA (upA (upA (upA (upA (upA (it 6 (f_copyFrom_L7 u u1) u) 5 0 (u1 5 0)) 6 0 (u1 6 0)) 7 0 (u1 7 0)) 8 0 (u1 8 0)) 9 0 (u1 9 0)) 10 0 (u1 10 0)) 11 0 (u1 11 0)) 12 0 (u1 12 0)) ++ BW cI cZ h1 q1 u1) H := Eq.mp (congrArg (fun w => va_P (dC, dI) vwCl w H) BW_s12') hP
        have hD : va_D A0 (BW cI cZ h0 q (upA (upA (upA (upA (upA (upA (upA (upA (it 6 (f_copyFrom_L7 u u1) u) 5 0 (u1 5 0)) 6 0 (u1 6 0)) 7 0 (u1 7 0)) 8 0 (u1 8 0)) 9 0 (u1 9 0)) 10 0 (u1 10 0)) 11 0 (u1 11 0)) 12 0 (u1 12 0)) ++ BW cI cZ h1 q1 u1) := Eq.mp (congrArg (fun w => va_D A0 w) BW_s12') hD
        refine lv_aload_n hx hb dX0_copyFrom_143 rfl (lv_at hl 0 rfl) ?_
        refine lv_aload_n hx hb dX0_copyFrom_144 rfl (lv_at hl 1 rfl) ?_
        refine va_get (D := (dC, dI)) (ci := 0) (v := .int (u1 13 0)) (C := RX0) (T := TX0) (N := 14) hx hb hts inX0 hown hK hP 6 rfl rfl 13 (by decide) (hts (.fieldLink RX0 53 "BoardMetronomes$Bench" "stepsTogether" "I") (by decide +kernel)) (fun _ h9 => h9) rfl dX0_copyFrom_145 ?_
        refine va_put (D := (dC, dI)) (ci := 0) (v := .int (u1 13 0)) (ty := .int) (C := RX0) (T := TX0) (N := 14) hx hb hts inX0 tyX0 tyX0_ok nmX0 hown hK hP hD hS 0 rfl rfl 13 (by decide) (hts (.fieldLink RX0 53 "BoardMetronomes$Bench" "stepsTogether" "I") (by decide +kernel)) (fun _ h9 => h9) rfl (by decide +kernel) rfl rfl (Nat.le_of_ble_eq_true rfl) dX0_copyFrom_148 (fun H locs hP hD hS => ?_)
        have hP : va_P (dC, dI) vwCl (BW cI cZ h0 q (upA (upA (upA (upA (upA (upA (upA (upA (upA (it 6 (f_copyFrom_L7 u u1) u) 5 0 (u1 5 0)) 6 0 (u1 6 0)) 7 0 (u1 7 0)) 8 0 (u1 8 0)) 9 0 (u1 9 0)) 10 0 (u1 10 0)) 11 0 (u1 11 0)) 12 0 (u1 12 0)) 13 0 (u1 13 0)) ++ BW cI cZ h1 q1 u1) H := Eq.mp (congrArg (fun w => va_P (dC, dI) vwCl w H) BW_s13') hP
        have hD : va_D A0 (BW cI cZ h0 q (upA (upA (upA (upA (upA (upA (upA (upA (upA (it 6 (f_copyFrom_L7 u u1) u) 5 0 (u1 5 0)) 6 0 (u1 6 0)) 7 0 (u1 7 0)) 8 0 (u1 8 0)) 9 0 (u1 9 0)) 10 0 (u1 10 0)) 11 0 (u1 11 0)) 12 0 (u1 12 0)) 13 0 (u1 13 0)) ++ BW cI cZ h1 q1 u1) := Eq.mp (congrArg (fun w => va_D A0 w) BW_s13') hD
        have r2 : f_copyFrom u u1 = upA (upA (upA (upA (upA (upA (upA (upA (upA (it 6 (f_copyFrom_L7 u u1) u) 5 0 (u1 5 0)) 6 0 (u1 6 0)) 7 0 (u1 7 0)) 8 0 (u1 8 0)) 9 0 (u1 9 0)) 10 0 (u1 10 0)) 11 0 (u1 11 0)) 12 0 (u1 12 0)) 13 0 (u1 13 0) := by
          rw [f_copyFrom]
        exact kw_v hx hb hr hlk hP hS dX0_copyFrom_151 (by rw [r2])
      · exact absurd (nI_le (a := 6) (by omega) (by omega)) c_10
    | succ n ih1 =>
      intro j0 hj1 H locs ls hP hD hS hl
      refine lv_iload_n hx hb dX0_copyFrom_7 rfl (lv_at hl 2 rfl) ?_
      refine lv_bipush (v := (6 : Int32)) hx hb dX0_copyFrom_8 (by decide) ?_
      refine lv_icmp_ge (tgt := 79) hx hb dX0_copyFrom_10 (by decide) (fun c_10 => ?_) (fun c_10 => ?_)
      · exact absurd c_10 (nI_ge (b := 6) (by omega) (by decide))
      · refine lv_aload_n hx hb dX0_copyFrom_13 rfl (lv_at hl 0 rfl) ?_
        refine va_get (D := (dC, dI)) (ci := 0) (v := .ref (q 0)) (C := RX0) (T := TX0) (N := 14) hx hb hts inX0 hown hK hP 0 rfl rfl 0 (by decide) (hts (.fieldLink RX0 9 "BoardMetronomes$Bench" "beats" "[I") (by decide +kernel)) (fun _ h9 => h9) rfl dX0_copyFrom_14 ?_
        refine lv_iload_n hx hb dX0_copyFrom_17 rfl (lv_at hl 2 rfl) ?_
        refine lv_aload_n hx hb dX0_copyFrom_18 rfl (lv_at hl 1 rfl) ?_
        refine va_get (D := (dC, dI)) (ci := 0) (v := .ref (q1 0)) (C := RX0) (T := TX0) (N := 14) hx hb hts inX0 hown hK hP 6 rfl rfl 0 (by decide) (hts (.fieldLink RX0 9 "BoardMetronomes$Bench" "beats" "[I") (by decide +kernel)) (fun _ h9 => h9) rfl dX0_copyFrom_19 ?_
        refine lv_iload_n hx hb dX0_copyFrom_22 rfl (lv_at hl 2 rfl) ?_
        refine k_iald (D := (dC, dI)) hx hb hK hP 7 0 rfl rfl (j := j0) (by omega) (by decide) dX0_copyFrom_23 ?_
        refine k_iast (D := (dC, dI)) hx hb hK hP hD hS 1 0 rfl rfl (j := j0) (by omega) (by decide) dX0_copyFrom_24 (fun H locs hP hD hS => ?_)
        have hP : va_P (dC, dI) vwCl (BW cI cZ h0 q (upA (it j0 (f_copyFrom_L7 u u1) u) 0 j0 (u1 0 j0)) ++ BW cI cZ h1 q1 u1) H := Eq.mp (congrArg (fun w => va_P (dC, dI) vwCl w H) BW_a0') hP
        have hD : va_D A0 (BW cI cZ h0 q (upA (it j0 (f_copyFrom_L7 u u1) u) 0 j0 (u1 0 j0)) ++ BW cI cZ h1 q1 u1) := Eq.mp (congrArg (fun w => va_D A0 w) BW_a0') hD
        refine lv_aload_n hx hb dX0_copyFrom_25 rfl (lv_at hl 0 rfl) ?_
        refine va_get (D := (dC, dI)) (ci := 0) (v := .ref (q 1)) (C := RX0) (T := TX0) (N := 14) hx hb hts inX0 hown hK hP 0 rfl rfl 1 (by decide) (hts (.fieldLink RX0 15 "BoardMetronomes$Bench" "phases" "[I") (by decide +kernel)) (fun _ h9 => h9) rfl dX0_copyFrom_26 ?_
        refine lv_iload_n hx hb dX0_copyFrom_29 rfl (lv_at hl 2 rfl) ?_
        refine lv_aload_n hx hb dX0_copyFrom_30 rfl (lv_at hl 1 rfl) ?_
        refine va_get (D := (dC, dI)) (ci := 0) (v := .ref (q1 1)) (C := RX0) (T := TX0) (N := 14) hx hb hts inX0 hown hK hP 6 rfl rfl 1 (by decide) (hts (.fieldLink RX0 15 "BoardMetronomes$Bench" "phases" "[I") (by decide +kernel)) (fun _ h9 => h9) rfl dX0_copyFrom_31 ?_
        refine lv_iload_n hx hb dX0_copyFrom_34 rfl (lv_at hl 2 rfl) ?_
        refine k_iald (D := (dC, dI)) hx hb hK hP 8 0 rfl rfl (j := j0) (by omega) (by decide) dX0_copyFrom_35 ?_
        refine k_iast (D := (dC, dI)) hx hb hK hP hD hS 2 0 rfl rfl (j := j0) (by omega) (by decide) dX0_copyFrom_36 (fun H locs hP hD hS => ?_)
        have hP : va_P (dC, dI) vwCl (BW cI cZ h0 q (upA (upA (it j0 (f_copyFrom_L7 u u1) u) 0 j0 (u1 0 j0)) 1 j0 (u1 1 j0)) ++ BW cI cZ h1 q1 u1) H := Eq.mp (congrArg (fun w => va_P (dC, dI) vwCl w H) BW_a1') hP
        have hD : va_D A0 (BW cI cZ h0 q (upA (upA (it j0 (f_copyFrom_L7 u u1) u) 0 j0 (u1 0 j0)) 1 j0 (u1 1 j0)) ++ BW cI cZ h1 q1 u1) := Eq.mp (congrArg (fun w => va_D A0 w) BW_a1') hD
        refine lv_aload_n hx hb dX0_copyFrom_37 rfl (lv_at hl 0 rfl) ?_
        refine va_get (D := (dC, dI)) (ci := 0) (v := .ref (q 2)) (C := RX0) (T := TX0) (N := 14) hx hb hts inX0 hown hK hP 0 rfl rfl 2 (by decide) (hts (.fieldLink RX0 18 "BoardMetronomes$Bench" "springs" "[I") (by decide +kernel)) (fun _ h9 => h9) rfl dX0_copyFrom_38 ?_
        refine lv_iload_n hx hb dX0_copyFrom_41 rfl (lv_at hl 2 rfl) ?_
        refine lv_aload_n hx hb dX0_copyFrom_42 rfl (lv_at hl 1 rfl) ?_
        refine va_get (D := (dC, dI)) (ci := 0) (v := .ref (q1 2)) (C := RX0) (T := TX0) (N := 14) hx hb hts inX0 hown hK hP 6 rfl rfl 2 (by decide) (hts (.fieldLink RX0 18 "BoardMetronomes$Bench" "springs" "[I") (by decide +kernel)) (fun _ h9 => h9) rfl dX0_copyFrom_43 ?_
        refine lv_iload_n hx hb dX0_copyFrom_46 rfl (lv_at hl 2 rfl) ?_
        refine k_iald (D := (dC, dI)) hx hb hK hP 9 0 rfl rfl (j := j0) (by omega) (by decide) dX0_copyFrom_47 ?_
        refine k_iast (D := (dC, dI)) hx hb hK hP hD hS 3 0 rfl rfl (j := j0) (by omega) (by decide) dX0_copyFrom_48 (fun H locs hP hD hS => ?_)
        have hP : va_P (dC, dI) vwCl (BW cI cZ h0 q (upA (upA (upA (it j0 (f_copyFrom_L7 u u1) u) 0 j0 (u1 0 j0)) 1 j0 (u1 1 j0)) 2 j0 (u1 2 j0)) ++ BW cI cZ h1 q1 u1) H := Eq.mp (congrArg (fun w => va_P (dC, dI) vwCl w H) BW_a2') hP
        have hD : va_D A0 (BW cI cZ h0 q (upA (upA (upA (it j0 (f_copyFrom_L7 u u1) u) 0 j0 (u1 0 j0)) 1 j0 (u1 1 j0)) 2 j0 (u1 2 j0)) ++ BW cI cZ h1 q1 u1) := Eq.mp (congrArg (fun w => va_D A0 w) BW_a2') hD
        refine lv_aload_n hx hb dX0_copyFrom_49 rfl (lv_at hl 0 rfl) ?_
        refine va_get (D := (dC, dI)) (ci := 0) (v := .ref (q 3)) (C := RX0) (T := TX0) (N := 14) hx hb hts inX0 hown hK hP 0 rfl rfl 3 (by decide) (hts (.fieldLink RX0 21 "BoardMetronomes$Bench" "held" "[Z") (by decide +kernel)) (fun _ h9 => h9) rfl dX0_copyFrom_50 ?_
        refine lv_iload_n hx hb dX0_copyFrom_53 rfl (lv_at hl 2 rfl) ?_
        refine lv_aload_n hx hb dX0_copyFrom_54 rfl (lv_at hl 1 rfl) ?_
        refine va_get (D := (dC, dI)) (ci := 0) (v := .ref (q1 3)) (C := RX0) (T := TX0) (N := 14) hx hb hts inX0 hown hK hP 6 rfl rfl 3 (by decide) (hts (.fieldLink RX0 21 "BoardMetronomes$Bench" "held" "[Z") (by decide +kernel)) (fun _ h9 => h9) rfl dX0_copyFrom_55 ?_
        refine lv_iload_n hx hb dX0_copyFrom_58 rfl (lv_at hl 2 rfl) ?_
        refine k_zald (D := (dC, dI)) hx hb hK hP 10 1 rfl rfl (j := j0) (by omega) (by decide) dX0_copyFrom_59 ?_
        refine k_zast (D := (dC, dI)) hx hb hK hP hD hS 4 1 rfl rfl (j := j0) (by omega) (by decide) rfl dX0_copyFrom_60 (fun H locs hP hD hS => ?_)
        have hP : va_P (dC, dI) vwCl (BW cI cZ h0 q (upA (upA (upA (upA (it j0 (f_copyFrom_L7 u u1) u) 0 j0 (u1 0 j0)) 1 j0 (u1 1 j0)) 2 j0 (u1 2 j0)) 3 j0 (vp_nar .boolean (u1 3 j0))) ++ BW cI cZ h1 q1 u1) H := Eq.mp (congrArg (fun w => va_P (dC, dI) vwCl w H) BW_a3') hP
        have hD : va_D A0 (BW cI cZ h0 q (upA (upA (upA (upA (it j0 (f_copyFrom_L7 u u1) u) 0 j0 (u1 0 j0)) 1 j0 (u1 1 j0)) 2 j0 (u1 2 j0)) 3 j0 (vp_nar .boolean (u1 3 j0))) ++ BW cI cZ h1 q1 u1) := Eq.mp (congrArg (fun w => va_D A0 w) BW_a3') hD
        refine lv_aload_n hx hb dX0_copyFrom_61 rfl (lv_at hl 0 rfl) ?_
        refine va_get (D := (dC, dI)) (ci := 0) (v := .ref (q 4)) (C := RX0) (T := TX0) (N := 14) hx hb hts inX0 hown hK hP 0 rfl rfl 4 (by decide) (hts (.fieldLink RX0 25 "BoardMetronomes$Bench" "ticks" "[I") (by decide +kernel)) (fun _ h9 => h9) rfl dX0_copyFrom_62 ?_
        refine lv_iload_n hx hb dX0_copyFrom_65 rfl (lv_at hl 2 rfl) ?_
        refine lv_aload_n hx hb dX0_copyFrom_66 rfl (lv_at hl 1 rfl) ?_
        refine va_get (D := (dC, dI)) (ci := 0) (v := .ref (q1 4)) (C := RX0) (T := TX0) (N := 14) hx hb hts inX0 hown hK hP 6 rfl rfl 4 (by decide) (hts (.fieldLink RX0 25 "BoardMetronomes$Bench" "ticks" "[I") (by decide +kernel)) (fun _ h9 => h9) rfl dX0_copyFrom_67 ?_
        refine lv_iload_n hx hb dX0_copyFrom_70 rfl (lv_at hl 2 rfl) ?_
        refine k_iald (D := (dC, dI)) hx hb hK hP 11 0 rfl rfl (j := j0) (by omega) (by decide) dX0_copyFrom_71 ?_
        refine k_iast (D := (dC, dI)) hx hb hK hP hD hS 5 0 rfl rfl (j := j0) (by omega) (by decide) dX0_copyFrom_72 (fun H locs hP hD hS => ?_)
        have hP : va_P (dC, dI) vwCl (BW cI cZ h0 q (upA (upA (upA (upA (upA (it j0 (f_copyFrom_L7 u u1) u) 0 j0 (u1 0 j0)) 1 j0 (u1 1 j0)) 2 j0 (u1 2 j0)) 3 j0 (vp_nar .boolean (u1 3 j0))) 4 j0 (u1 4 j0)) ++ BW cI cZ h1 q1 u1) H := Eq.mp (congrArg (fun w => va_P (dC, dI) vwCl w H) BW_a4') hP
        have hD : va_D A0 (BW cI cZ h0 q (upA (upA (upA (upA (upA (it j0 (f_copyFrom_L7 u u1) u) 0 j0 (u1 0 j0)) 1 j0 (u1 1 j0)) 2 j0 (u1 2 j0)) 3 j0 (vp_nar .boolean (u1 3 j0))) 4 j0 (u1 4 j0)) ++ BW cI cZ h1 q1 u1) := Eq.mp (congrArg (fun w => va_D A0 w) BW_a4') hD
        refine lv_iinc (v := nI (j0 + 1)) (lv' := [(2, .int (nI (j0 + 1))), (0, .ref h0), (1, .ref h1)]) hx hb dX0_copyFrom_73 hl (k := 2) rfl (nI_add j0 1) (by decide) rfl (fun ls hl => ?_)
        refine lv_goto (tgt := 7) hx hb dX0_copyFrom_76 (by decide) ?_
        have b3 : f_copyFrom_L7 u u1 j0 (it j0 (f_copyFrom_L7 u u1) u) = upA (upA (upA (upA (upA (it j0 (f_copyFrom_L7 u u1) u) 0 j0 (u1 0 j0)) 1 j0 (u1 1 j0)) 2 j0 (u1 2 j0)) 3 j0 (vp_nar .boolean (u1 3 j0))) 4 j0 (u1 4 j0) := by
          rw [f_copyFrom_L7]
        have e3 : it (j0 + 1) (f_copyFrom_L7 u u1) u = upA (upA (upA (upA (upA (it j0 (f_copyFrom_L7 u u1) u) 0 j0 (u1 0 j0)) 1 j0 (u1 1 j0)) 2 j0 (u1 2 j0)) 3 j0 (vp_nar .boolean (u1 3 j0))) 4 j0 (u1 4 j0) := (it_s _ _ _).trans b3
        exact ih1 (j0 + 1) (by omega) H locs ls (by rw [e3]; exact hP) (by rw [e3]; exact hD) hS (lv_sub hl [1, 2, 0] rfl)
  exact L1 6 0 (by omega) s.heap [] ls hP hD hS (lv_sub hl [1, 2, 0] rfl)

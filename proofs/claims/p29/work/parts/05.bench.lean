def rm_X0_swing : Room := { frames := 0, cells := 0, slots := 0, locals := 0 }
theorem mi_X0_swing : kM yX0_swing wsX0_swing cX0_swing 2 (some .int) 1 := ⟨⟨_, rfl⟩, by decide, by decide, by decide +kernel⟩
def f_swing (p0 : Int32) : Int32 := if (1800 : Int32) ≤ p0 then (-(((p0 - (1800 : Int32)) * ((1800 : Int32) - (p0 - (1800 : Int32)))) / (810 : Int32))) else (p0 * ((1800 : Int32) - p0)) / (810 : Int32)
set_option maxHeartbeats 1000000 in
set_option maxRecDepth 100000 in
theorem c_X0_swing (l : Launch) (p0 : Int32) : Met l yX0_swing wsX0_swing rm_X0_swing (va_Pc [.int p0] (fun _ => True)) (kQ (some (.int (f_swing p0)))) 0 0 (fun _ => False) := by
  refine kofP (cc := cX0_swing) (maxL := 2) (ret := some .int) (by decide) rfl (Nat.le_of_ble_eq_true rfl) ?_
  intro p e s m args below meth c ls S hr hlk hl
  obtain ⟨hx, hb, hml, hown, hts⟩ := id S
  have hl : lv_has ls 2 [(0, .int p0)] := hl
  refine lv_iload_n hx hb dX0_swing_0 rfl (lv_at hl 0 rfl) ?_
  refine lv_sipush (v := (1800 : Int32)) hx hb dX0_swing_1 (by decide) ?_
  refine lv_icmp_ge (tgt := 19) hx hb dX0_swing_4 (by decide) (fun c_4 => ?_) (fun c_4 => ?_)
  · refine lv_iload_n hx hb dX0_swing_19 rfl (lv_at hl 0 rfl) ?_
    refine lv_sipush (v := (1800 : Int32)) hx hb dX0_swing_20 (by decide) ?_
    refine lv_isub hx hb dX0_swing_23 ?_
    refine lv_istore_n (lv' := [(1, .int (p0 - (1800 : Int32))), (0, .int p0)]) hx hb dX0_swing_24 rfl hl (by decide) rfl (fun ls hl => ?_)
    refine lv_iload_n hx hb dX0_swing_25 rfl (lv_at hl 0 rfl) ?_
    refine lv_sipush (v := (1800 : Int32)) hx hb dX0_swing_26 (by decide) ?_
    refine lv_iload_n hx hb dX0_swing_29 rfl (lv_at hl 0 rfl) ?_
    refine lv_isub hx hb dX0_swing_30 ?_
    refine lv_imul hx hb dX0_swing_31 ?_
    refine lv_sipush (v := (810 : Int32)) hx hb dX0_swing_32 (by decide) ?_
    refine lv_idiv hx hb dX0_swing_35 (by decide) ?_
    refine lv_ineg hx hb dX0_swing_36 ?_
    have r1 : f_swing p0 = -(((p0 - (1800 : Int32)) * ((1800 : Int32) - (p0 - (1800 : Int32)))) / (810 : Int32)) := by
      rw [f_swing, if_pos c_4]
    exact kr_i hx hb hr hlk dX0_swing_37 r1.symm
  · refine lv_iload_n hx hb dX0_swing_7 rfl (lv_at hl 0 rfl) ?_
    refine lv_sipush (v := (1800 : Int32)) hx hb dX0_swing_8 (by decide) ?_
    refine lv_iload_n hx hb dX0_swing_11 rfl (lv_at hl 0 rfl) ?_
    refine lv_isub hx hb dX0_swing_12 ?_
    refine lv_imul hx hb dX0_swing_13 ?_
    refine lv_sipush (v := (810 : Int32)) hx hb dX0_swing_14 (by decide) ?_
    refine lv_idiv hx hb dX0_swing_17 (by decide) ?_
    have r2 : f_swing p0 = (p0 * ((1800 : Int32) - p0)) / (810 : Int32) := by
      rw [f_swing, if_neg c_4]
    exact kr_i hx hb hr hlk dX0_swing_18 r2.symm

def rm_X0_quarterOn : Room := { frames := 0, cells := 0, slots := 0, locals := 0 }
theorem mi_X0_quarterOn : kM yX0_quarterOn wsX0_quarterOn cX0_quarterOn 1 (some .int) 1 := ⟨⟨_, rfl⟩, by decide, by decide, by decide +kernel⟩
def f_quarterOn (p0 : Int32) : Int32 := (p0 + (900 : Int32)) - (p0 + (900 : Int32)) / (3600 : Int32) * (3600 : Int32)
set_option maxHeartbeats 1000000 in
set_option maxRecDepth 100000 in
theorem c_X0_quarterOn (l : Launch) (p0 : Int32) : Met l yX0_quarterOn wsX0_quarterOn rm_X0_quarterOn (va_Pc [.int p0] (fun _ => True)) (kQ (some (.int (f_quarterOn p0)))) 0 0 (fun _ => False) := by
  refine kofP (cc := cX0_quarterOn) (maxL := 1) (ret := some .int) (by decide) rfl (Nat.le_of_ble_eq_true rfl) ?_
  intro p e s m args below meth c ls S hr hlk hl
  obtain ⟨hx, hb, hml, hown, hts⟩ := id S
  have hl : lv_has ls 1 [(0, .int p0)] := hl
  refine lv_iload_n hx hb dX0_quarterOn_0 rfl (lv_at hl 0 rfl) ?_
  refine lv_sipush (v := (900 : Int32)) hx hb dX0_quarterOn_1 (by decide) ?_
  refine lv_iadd hx hb dX0_quarterOn_4 ?_
  refine lv_sipush (v := (3600 : Int32)) hx hb dX0_quarterOn_5 (by decide) ?_
  refine lv_irem hx hb dX0_quarterOn_8 (by decide) ?_
  have r1 : f_quarterOn p0 = (p0 + (900 : Int32)) - (p0 + (900 : Int32)) / (3600 : Int32) * (3600 : Int32) := by
    rw [f_quarterOn]
  exact kr_i hx hb hr hlk dX0_quarterOn_9 r1.symm

def rm_X0_isFull : Room := { frames := 0, cells := 0, slots := 0, locals := 0 }
theorem mi_X0_isFull : kM yX0_isFull wsX0_isFull cX0_isFull 1 (some .boolean) 0 := ⟨⟨_, rfl⟩, by decide, by decide, by decide +kernel⟩
def f_isFull (u : BS) : Bool := if (u 5 0) < (6 : Int32) then false else true
set_option maxHeartbeats 1000000 in
set_option maxRecDepth 100000 in
theorem c_X0_isFull (l : Launch) (dC : Nat → ClassId) (dI : Nat → Nat → Nat) (cI cZ cO : ClassId) (h0 : Nat) (q : Nat → Nat) (u : BS) : Met l yX0_isFull wsX0_isFull rm_X0_isFull (va_Pc [.ref h0] (fun U => va_P (dC, dI) vwCl (BW cI cZ h0 q u) U.heap ∧ va_K (dC, dI) vwCl (TY cI cZ cO) U)) (kQ (some (.int (bI (f_isFull u))))) 0 0 (fun _ => False) := by
  refine kofR (cc := cX0_isFull) (maxL := 1) (ret := some .boolean) (by decide) rfl (Nat.le_of_ble_eq_true rfl) ?_
  intro p e s m args below meth c ls S hr hlk hP hK hl
  obtain ⟨hx, hb, hml, hown, hts⟩ := id S
  have inX0 : ∀ w ∈ wsX00, w ∈ wsX0_isFull := fun w h => List.mem_cons_of_mem _ (List.mem_append_right _ h)
  have hl : lv_has ls 1 [(0, .ref h0)] := hl
  refine lv_aload_n hx hb dX0_isFull_0 rfl (lv_at hl 0 rfl) ?_
  refine va_get (D := (dC, dI)) (ci := 0) (v := .int (u 5 0)) (C := RX0) (T := TX0) (N := 14) hx hb hts inX0 hown hK hP 0 rfl rfl 5 (by decide) (hts (.fieldLink RX0 38 "BoardMetronomes$Bench" "size" "I") (by decide +kernel)) (fun _ h9 => h9) rfl dX0_isFull_1 ?_
  refine lv_bipush (v := (6 : Int32)) hx hb dX0_isFull_4 (by decide) ?_
  refine lv_icmp_lt (tgt := 13) hx hb dX0_isFull_6 (by decide) (fun c_6 => ?_) (fun c_6 => ?_)
  · refine lv_iconst (v := (0 : Int32)) hx hb dX0_isFull_13 (by decide) ?_
    have r1 : f_isFull u = false := by
      rw [f_isFull, if_pos c_6]
    exact kr_z (x := false) hx hb hr hlk dX0_isFull_14 rfl r1
  · refine lv_iconst (v := (1 : Int32)) hx hb dX0_isFull_9 (by decide) ?_
    refine lv_goto (tgt := 14) hx hb dX0_isFull_10 (by decide) ?_
    have r2 : f_isFull u = true := by
      rw [f_isFull, if_neg c_6]
    exact kr_z (x := true) hx hb hr hlk dX0_isFull_14 rfl r2

def rm_X0_isEmpty : Room := { frames := 0, cells := 0, slots := 0, locals := 0 }
theorem mi_X0_isEmpty : kM yX0_isEmpty wsX0_isEmpty cX0_isEmpty 1 (some .boolean) 0 := ⟨⟨_, rfl⟩, by decide, by decide, by decide +kernel⟩
def f_isEmpty (u : BS) : Bool := if 0 < (u 5 0) then false else true
set_option maxHeartbeats 1000000 in
set_option maxRecDepth 100000 in
theorem c_X0_isEmpty (l : Launch) (dC : Nat → ClassId) (dI : Nat → Nat → Nat) (cI cZ cO : ClassId) (h0 : Nat) (q : Nat → Nat) (u : BS) : Met l yX0_isEmpty wsX0_isEmpty rm_X0_isEmpty (va_Pc [.ref h0] (fun U => va_P (dC, dI) vwCl (BW cI cZ h0 q u) U.heap ∧ va_K (dC, dI) vwCl (TY cI cZ cO) U)) (kQ (some (.int (bI (f_isEmpty u))))) 0 0 (fun _ => False) := by
  refine kofR (cc := cX0_isEmpty) (maxL := 1) (ret := some .boolean) (by decide) rfl (Nat.le_of_ble_eq_true rfl) ?_
  intro p e s m args below meth c ls S hr hlk hP hK hl
  obtain ⟨hx, hb, hml, hown, hts⟩ := id S
  have inX0 : ∀ w ∈ wsX00, w ∈ wsX0_isEmpty := fun w h => List.mem_cons_of_mem _ (List.mem_append_right _ h)
  have hl : lv_has ls 1 [(0, .ref h0)] := hl
  refine lv_aload_n hx hb dX0_isEmpty_0 rfl (lv_at hl 0 rfl) ?_
  refine va_get (D := (dC, dI)) (ci := 0) (v := .int (u 5 0)) (C := RX0) (T := TX0) (N := 14) hx hb hts inX0 hown hK hP 0 rfl rfl 5 (by decide) (hts (.fieldLink RX0 38 "BoardMetronomes$Bench" "size" "I") (by decide +kernel)) (fun _ h9 => h9) rfl dX0_isEmpty_1 ?_
  refine lv_if_gt (tgt := 11) hx hb dX0_isEmpty_4 (by decide) (fun c_4 => ?_) (fun c_4 => ?_)
  · refine lv_iconst (v := (0 : Int32)) hx hb dX0_isEmpty_11 (by decide) ?_
    have r1 : f_isEmpty u = false := by
      rw [f_isEmpty, if_pos c_4]
    exact kr_z (x := false) hx hb hr hlk dX0_isEmpty_12 rfl r1
  · refine lv_iconst (v := (1 : Int32)) hx hb dX0_isEmpty_7 (by decide) ?_
    refine lv_goto (tgt := 12) hx hb dX0_isEmpty_8 (by decide) ?_
    have r2 : f_isEmpty u = true := by
      rw [f_isEmpty, if_neg c_4]
    exact kr_z (x := true) hx hb hr hlk dX0_isEmpty_12 rfl r2

def rm_X0_size : Room := { frames := 0, cells := 0, slots := 0, locals := 0 }
def f_size (u : BS) : Int32 := u 5 0
def rm_X0_has : Room := { frames := 0, cells := 0, slots := 0, locals := 0 }
theorem mi_X0_has : kM yX0_has wsX0_has cX0_has 2 (some .boolean) 1 := ⟨⟨_, rfl⟩, by decide, by decide, by decide +kernel⟩
def f_has (u : BS) (p0 : Int32) : Bool := if p0 < 0 then false else if (6 : Int32) ≤ p0 then false else if (u 5 0) ≤ p0 then false else true
set_option maxHeartbeats 1000000 in
set_option maxRecDepth 100000 in
theorem c_X0_has (l : Launch) (dC : Nat → ClassId) (dI : Nat → Nat → Nat) (cI cZ cO : ClassId) (h0 : Nat) (q : Nat → Nat) (u : BS) (p0 : Int32) : Met l yX0_has wsX0_has rm_X0_has (va_Pc [.ref h0, .int p0] (fun U => va_P (dC, dI) vwCl (BW cI cZ h0 q u) U.heap ∧ va_K (dC, dI) vwCl (TY cI cZ cO) U)) (kQ (some (.int (bI (f_has u p0))))) 0 0 (fun _ => False) := by
  refine kofR (cc := cX0_has) (maxL := 2) (ret := some .boolean) (by decide) rfl (Nat.le_of_ble_eq_true rfl) ?_
  intro p e s m args below meth c ls S hr hlk hP hK hl
  obtain ⟨hx, hb, hml, hown, hts⟩ := id S
  have inX0 : ∀ w ∈ wsX00, w ∈ wsX0_has := fun w h => List.mem_cons_of_mem _ (List.mem_append_right _ h)
  have hl : lv_has ls 2 [(0, .ref h0), (1, .int p0)] := hl
  refine lv_iload_n hx hb dX0_has_0 rfl (lv_at hl 1 rfl) ?_
  refine lv_if_lt (tgt := 22) hx hb dX0_has_1 (by decide) (fun c_1 => ?_) (fun c_1 => ?_)
  · refine lv_iconst (v := (0 : Int32)) hx hb dX0_has_22 (by decide) ?_
    have r1 : f_has u p0 = false := by
      rw [f_has, if_pos c_1]
    exact kr_z (x := false) hx hb hr hlk dX0_has_23 rfl r1
  · refine lv_iload_n hx hb dX0_has_4 rfl (lv_at hl 1 rfl) ?_
    refine lv_bipush (v := (6 : Int32)) hx hb dX0_has_5 (by decide) ?_
    refine lv_icmp_ge (tgt := 22) hx hb dX0_has_7 (by decide) (fun c_7 => ?_) (fun c_7 => ?_)
    · refine lv_iconst (v := (0 : Int32)) hx hb dX0_has_22 (by decide) ?_
      have r2 : f_has u p0 = false := by
        rw [f_has, if_neg c_1, if_pos c_7]
      exact kr_z (x := false) hx hb hr hlk dX0_has_23 rfl r2
    · refine lv_iload_n hx hb dX0_has_10 rfl (lv_at hl 1 rfl) ?_
      refine lv_aload_n hx hb dX0_has_11 rfl (lv_at hl 0 rfl) ?_
      refine va_get (D := (dC, dI)) (ci := 0) (v := .int (u 5 0)) (C := RX0) (T := TX0) (N := 14) hx hb hts inX0 hown hK hP 0 rfl rfl 5 (by decide) (hts (.fieldLink RX0 38 "BoardMetronomes$Bench" "size" "I") (by decide +kernel)) (fun _ h9 => h9) rfl dX0_has_12 ?_
      refine lv_icmp_ge (tgt := 22) hx hb dX0_has_15 (by decide) (fun c_15 => ?_) (fun c_15 => ?_)
      · refine lv_iconst (v := (0 : Int32)) hx hb dX0_has_22 (by decide) ?_
        have r3 : f_has u p0 = false := by
          rw [f_has, if_neg c_1, if_neg c_7, if_pos c_15]
        exact kr_z (x := false) hx hb hr hlk dX0_has_23 rfl r3
      · refine lv_iconst (v := (1 : Int32)) hx hb dX0_has_18 (by decide) ?_
        refine lv_goto (tgt := 23) hx hb dX0_has_19 (by decide) ?_
        have r4 : f_has u p0 = true := by
          rw [f_has, if_neg c_1, if_neg c_7, if_neg c_15]
        exact kr_z (x := true) hx hb hr hlk dX0_has_23 rfl r4

theorem f_has_in {u : BS} {k : Int32} (h : f_has u k = true) : vp_in k 6 := by
  by_cases h1 : k < 0
  · rw [f_has, if_pos h1] at h; cases h
  · by_cases h2 : (6 : Int32) ≤ k
    · rw [f_has, if_neg h1, if_pos h2] at h; cases h
    · exact kin_of h1 h2 (by decide)

def rm_X0_goes : Room := { frames := 0, cells := 0, slots := 0, locals := 0 }
theorem mi_X0_goes : kM yX0_goes wsX0_goes cX0_goes 2 (some .boolean) 1 := ⟨⟨_, rfl⟩, by decide, by decide, by decide +kernel⟩
def f_goes (u : BS) (p0 : Int32) : Bool := if p0 < 0 then false else if (6 : Int32) ≤ p0 then false else if (u 5 0) ≤ p0 then false else if (u 3 p0.toNatClampNeg) = 0 then (if (u 2 p0.toNatClampNeg) ≤ 0 then false else true) else false
set_option maxHeartbeats 1000000 in
set_option maxRecDepth 100000 in
theorem c_X0_goes (l : Launch) (dC : Nat → ClassId) (dI : Nat → Nat → Nat) (cI cZ cO : ClassId) (h0 : Nat) (q : Nat → Nat) (u : BS) (p0 : Int32) : Met l yX0_goes wsX0_goes rm_X0_goes (va_Pc [.ref h0, .int p0] (fun U => va_P (dC, dI) vwCl (BW cI cZ h0 q u) U.heap ∧ va_K (dC, dI) vwCl (TY cI cZ cO) U)) (kQ (some (.int (bI (f_goes u p0))))) 0 0 (fun _ => False) := by
  refine kofR (cc := cX0_goes) (maxL := 2) (ret := some .boolean) (by decide) rfl (Nat.le_of_ble_eq_true rfl) ?_
  intro p e s m args below meth c ls S hr hlk hP hK hl
  obtain ⟨hx, hb, hml, hown, hts⟩ := id S
  have inX0 : ∀ w ∈ wsX00, w ∈ wsX0_goes := fun w h => List.mem_cons_of_mem _ (List.mem_append_right _ h)
  have hl : lv_has ls 2 [(0, .ref h0), (1, .int p0)] := hl
  refine lv_iload_n hx hb dX0_goes_0 rfl (lv_at hl 1 rfl) ?_
  refine lv_if_lt (tgt := 40) hx hb dX0_goes_1 (by decide) (fun c_1 => ?_) (fun c_1 => ?_)
  · refine lv_iconst (v := (0 : Int32)) hx hb dX0_goes_40 (by decide) ?_
    have r1 : f_goes u p0 = false := by
      rw [f_goes, if_pos c_1]
    exact kr_z (x := false) hx hb hr hlk dX0_goes_41 rfl r1
  · refine lv_iload_n hx hb dX0_goes_4 rfl (lv_at hl 1 rfl) ?_
    refine lv_bipush (v := (6 : Int32)) hx hb dX0_goes_5 (by decide) ?_
    refine lv_icmp_ge (tgt := 40) hx hb dX0_goes_7 (by decide) (fun c_7 => ?_) (fun c_7 => ?_)
    · refine lv_iconst (v := (0 : Int32)) hx hb dX0_goes_40 (by decide) ?_
      have r2 : f_goes u p0 = false := by
        rw [f_goes, if_neg c_1, if_pos c_7]
      exact kr_z (x := false) hx hb hr hlk dX0_goes_41 rfl r2
    · refine lv_iload_n hx hb dX0_goes_10 rfl (lv_at hl 1 rfl) ?_
      refine lv_aload_n hx hb dX0_goes_11 rfl (lv_at hl 0 rfl) ?_
      refine va_get (D := (dC, dI)) (ci := 0) (v := .int (u 5 0)) (C := RX0) (T := TX0) (N := 14) hx hb hts inX0 hown hK hP 0 rfl rfl 5 (by decide) (hts (.fieldLink RX0 38 "BoardMetronomes$Bench" "size" "I") (by decide +kernel)) (fun _ h9 => h9) rfl dX0_goes_12 ?_
      refine lv_icmp_ge (tgt := 40) hx hb dX0_goes_15 (by decide) (fun c_15 => ?_) (fun c_15 => ?_)
      · refine lv_iconst (v := (0 : Int32)) hx hb dX0_goes_40 (by decide) ?_
        have r3 : f_goes u p0 = false := by
          rw [f_goes, if_neg c_1, if_neg c_7, if_pos c_15]
        exact kr_z (x := false) hx hb hr hlk dX0_goes_41 rfl r3
      · refine lv_aload_n hx hb dX0_goes_18 rfl (lv_at hl 0 rfl) ?_
        refine va_get (D := (dC, dI)) (ci := 0) (v := .ref (q 3)) (C := RX0) (T := TX0) (N := 14) hx hb hts inX0 hown hK hP 0 rfl rfl 3 (by decide) (hts (.fieldLink RX0 21 "BoardMetronomes$Bench" "held" "[Z") (by decide +kernel)) (fun _ h9 => h9) rfl dX0_goes_19 ?_
        refine lv_iload_n hx hb dX0_goes_22 rfl (lv_at hl 1 rfl) ?_
        refine va_zald (D := (dC, dI)) hx hb hK hP 4 1 rfl rfl (kin_of c_1 c_7 (by decide)) dX0_goes_23 ?_
        refine lv_if_ne (tgt := 40) hx hb dX0_goes_24 (by decide) (fun c_24 => ?_) (fun c_24 => ?_)
        · refine lv_iconst (v := (0 : Int32)) hx hb dX0_goes_40 (by decide) ?_
          have r4 : f_goes u p0 = false := by
            rw [f_goes, if_neg c_1, if_neg c_7, if_neg c_15, if_neg c_24]
          exact kr_z (x := false) hx hb hr hlk dX0_goes_41 rfl r4
        · refine lv_aload_n hx hb dX0_goes_27 rfl (lv_at hl 0 rfl) ?_
          refine va_get (D := (dC, dI)) (ci := 0) (v := .ref (q 2)) (C := RX0) (T := TX0) (N := 14) hx hb hts inX0 hown hK hP 0 rfl rfl 2 (by decide) (hts (.fieldLink RX0 18 "BoardMetronomes$Bench" "springs" "[I") (by decide +kernel)) (fun _ h9 => h9) rfl dX0_goes_28 ?_
          refine lv_iload_n hx hb dX0_goes_31 rfl (lv_at hl 1 rfl) ?_
          refine va_iald (D := (dC, dI)) hx hb hK hP 3 0 rfl rfl (kin_of c_1 c_7 (by decide)) dX0_goes_32 ?_
          refine lv_if_le (tgt := 40) hx hb dX0_goes_33 (by decide) (fun c_33 => ?_) (fun c_33 => ?_)
          · refine lv_iconst (v := (0 : Int32)) hx hb dX0_goes_40 (by decide) ?_
            have r5 : f_goes u p0 = false := by
              rw [f_goes, if_neg c_1, if_neg c_7, if_neg c_15, if_pos c_24, if_pos c_33]
            exact kr_z (x := false) hx hb hr hlk dX0_goes_41 rfl r5
          · refine lv_iconst (v := (1 : Int32)) hx hb dX0_goes_36 (by decide) ?_
            refine lv_goto (tgt := 41) hx hb dX0_goes_37 (by decide) ?_
            have r6 : f_goes u p0 = true := by
              rw [f_goes, if_neg c_1, if_neg c_7, if_neg c_15, if_pos c_24, if_neg c_33]
            exact kr_z (x := true) hx hb hr hlk dX0_goes_41 rfl r6

def rm_X0_settingValue : Room := { frames := 0, cells := 0, slots := 0, locals := 0 }
theorem mi_X0_settingValue : kM yX0_settingValue wsX0_settingValue cX0_settingValue 2 (some .int) 1 := ⟨⟨_, rfl⟩, by decide, by decide, by decide +kernel⟩
def f_settingValue (u : BS) (p0 : Int32) : Int32 := if p0 = (0 : Int32) then (u 8 0) else if p0 = (1 : Int32) then (u 9 0) else u 10 0
set_option maxHeartbeats 1000000 in
set_option maxRecDepth 100000 in
theorem c_X0_settingValue (l : Launch) (dC : Nat → ClassId) (dI : Nat → Nat → Nat) (cI cZ cO : ClassId) (h0 : Nat) (q : Nat → Nat) (u : BS) (p0 : Int32) : Met l yX0_settingValue wsX0_settingValue rm_X0_settingValue (va_Pc [.ref h0, .int p0] (fun U => va_P (dC, dI) vwCl (BW cI cZ h0 q u) U.heap ∧ va_K (dC, dI) vwCl (TY cI cZ cO) U)) (kQ (some (.int (f_settingValue u p0)))) 0 0 (fun _ => False) := by
  refine kofR (cc := cX0_settingValue) (maxL := 2) (ret := some .int) (by decide) rfl (Nat.le_of_ble_eq_true rfl) ?_
  intro p e s m args below meth c ls S hr hlk hP hK hl
  obtain ⟨hx, hb, hml, hown, hts⟩ := id S
  have inX0 : ∀ w ∈ wsX00, w ∈ wsX0_settingValue := fun w h => List.mem_cons_of_mem _ (List.mem_append_right _ h)
  have hl : lv_has ls 2 [(0, .ref h0), (1, .int p0)] := hl
  refine lv_iload_n hx hb dX0_settingValue_0 rfl (lv_at hl 1 rfl) ?_
  by_cases c_1_0 : p0 = (0 : Int32)
  · refine lv_lookup (off := 27) (tgt := 28) hx hb dX0_settingValue_1 (by decide) (by rw [c_1_0]; rfl) (by decide) ?_
    refine lv_aload_n hx hb dX0_settingValue_28 rfl (lv_at hl 0 rfl) ?_
    refine va_get (D := (dC, dI)) (ci := 0) (v := .int (u 8 0)) (C := RX0) (T := TX0) (N := 14) hx hb hts inX0 hown hK hP 0 rfl rfl 8 (by decide) (hts (.fieldLink RX0 28 "BoardMetronomes$Bench" "stay" "I") (by decide +kernel)) (fun _ h9 => h9) rfl dX0_settingValue_29 ?_
    have r1 : f_settingValue u p0 = u 8 0 := by
      rw [f_settingValue, if_pos c_1_0]
    exact kr_i hx hb hr hlk dX0_settingValue_32 r1.symm
  by_cases c_1_1 : p0 = (1 : Int32)
  · refine lv_lookup (off := 32) (tgt := 33) hx hb dX0_settingValue_1 (by decide) (by rw [c_1_1]; rfl) (by decide) ?_
    refine lv_aload_n hx hb dX0_settingValue_33 rfl (lv_at hl 0 rfl) ?_
    refine va_get (D := (dC, dI)) (ci := 0) (v := .int (u 9 0)) (C := RX0) (T := TX0) (N := 14) hx hb hts inX0 hown hK hP 0 rfl rfl 9 (by decide) (hts (.fieldLink RX0 32 "BoardMetronomes$Bench" "strength" "I") (by decide +kernel)) (fun _ h9 => h9) rfl dX0_settingValue_34 ?_
    have r2 : f_settingValue u p0 = u 9 0 := by
      rw [f_settingValue, if_neg c_1_0, if_pos c_1_1]
    exact kr_i hx hb hr hlk dX0_settingValue_37 r2.symm
  refine lv_lookup (off := 37) (tgt := 38) hx hb dX0_settingValue_1 (by decide) (by rw [lv_osw (a := 0) (k := (0 : Int32)) c_1_0 (by decide)]; rw [lv_osw (a := 1) (k := (1 : Int32)) c_1_1 (by decide)]; rfl) (by decide) ?_
  refine lv_aload_n hx hb dX0_settingValue_38 rfl (lv_at hl 0 rfl) ?_
  refine va_get (D := (dC, dI)) (ci := 0) (v := .int (u 10 0)) (C := RX0) (T := TX0) (N := 14) hx hb hts inX0 hown hK hP 0 rfl rfl 10 (by decide) (hts (.fieldLink RX0 35 "BoardMetronomes$Bench" "nearness" "I") (by decide +kernel)) (fun _ h9 => h9) rfl dX0_settingValue_39 ?_
  have r3 : f_settingValue u p0 = u 10 0 := by
    rw [f_settingValue, if_neg c_1_0, if_neg c_1_1]
  exact kr_i hx hb hr hlk dX0_settingValue_42 r3.symm

def rm_X0_hasTimeFor : Room := { frames := 0, cells := 0, slots := 0, locals := 0 }
theorem mi_X0_hasTimeFor : kM yX0_hasTimeFor wsX0_hasTimeFor cX0_hasTimeFor 2 (some .boolean) 1 := ⟨⟨_, rfl⟩, by decide, by decide, by decide +kernel⟩
def f_hasTimeFor (u : BS) (p0 : Int32) : Bool := if (99999 : Int32) < ((u 11 0) + p0) then false else true
set_option maxHeartbeats 1000000 in
set_option maxRecDepth 100000 in
theorem c_X0_hasTimeFor (l : Launch) (dC : Nat → ClassId) (dI : Nat → Nat → Nat) (cI cZ cO : ClassId) (h0 : Nat) (q : Nat → Nat) (u : BS) (p0 : Int32) : Met l yX0_hasTimeFor wsX0_hasTimeFor rm_X0_hasTimeFor (va_Pc [.ref h0, .int p0] (fun U => va_P (dC, dI) vwCl (BW cI cZ h0 q u) U.heap ∧ va_K (dC, dI) vwCl (TY cI cZ cO) U)) (kQ (some (.int (bI (f_hasTimeFor u p0))))) 0 0 (fun _ => False) := by
  refine kofR (cc := cX0_hasTimeFor) (maxL := 2) (ret := some .boolean) (by decide) rfl (Nat.le_of_ble_eq_true rfl) ?_
  intro p e s m args below meth c ls S hr hlk hP hK hl
  obtain ⟨hx, hb, hml, hown, hts⟩ := id S
  have inX0 : ∀ w ∈ wsX00, w ∈ wsX0_hasTimeFor := fun w h => List.mem_cons_of_mem _ (List.mem_append_right _ h)
  have hl : lv_has ls 2 [(0, .ref h0), (1, .int p0)] := hl
  refine lv_aload_n hx hb dX0_hasTimeFor_0 rfl (lv_at hl 0 rfl) ?_
  refine va_get (D := (dC, dI)) (ci := 0) (v := .int (u 11 0)) (C := RX0) (T := TX0) (N := 14) hx hb hts inX0 hown hK hP 0 rfl rfl 11 (by decide) (hts (.fieldLink RX0 47 "BoardMetronomes$Bench" "steps" "I") (by decide +kernel)) (fun _ h9 => h9) rfl dX0_hasTimeFor_1 ?_
  refine lv_iload_n hx hb dX0_hasTimeFor_4 rfl (lv_at hl 1 rfl) ?_
  refine lv_iadd hx hb dX0_hasTimeFor_5 ?_
  refine lv_ldc (v := (99999 : Int32)) hx hb hown (hts (.constant RX0 67 (99999)) (by decide +kernel)) dX0_hasTimeFor_6 ?_
  refine lv_icmp_gt (tgt := 15) hx hb dX0_hasTimeFor_8 (by decide) (fun c_8 => ?_) (fun c_8 => ?_)
  · refine lv_iconst (v := (0 : Int32)) hx hb dX0_hasTimeFor_15 (by decide) ?_
    have r1 : f_hasTimeFor u p0 = false := by
      rw [f_hasTimeFor, if_pos c_8]
    exact kr_z (x := false) hx hb hr hlk dX0_hasTimeFor_16 rfl r1
  · refine lv_iconst (v := (1 : Int32)) hx hb dX0_hasTimeFor_11 (by decide) ?_
    refine lv_goto (tgt := 16) hx hb dX0_hasTimeFor_12 (by decide) ?_
    have r2 : f_hasTimeFor u p0 = true := by
      rw [f_hasTimeFor, if_neg c_8]
    exact kr_z (x := true) hx hb hr hlk dX0_hasTimeFor_16 rfl r2

def rm_X0_steps : Room := { frames := 0, cells := 0, slots := 0, locals := 0 }
def f_steps (u : BS) : Int32 := u 11 0
def rm_X0_allTicks : Room := { frames := 0, cells := 0, slots := 0, locals := 0 }
theorem mi_X0_allTicks : kM yX0_allTicks wsX0_allTicks cX0_allTicks 1 (some .int) 0 := ⟨⟨_, rfl⟩, by decide, by decide, by decide +kernel⟩
def f_allTicks (u : BS) : Int32 := u 12 0
set_option maxHeartbeats 1000000 in
set_option maxRecDepth 100000 in
theorem c_X0_allTicks (l : Launch) (dC : Nat → ClassId) (dI : Nat → Nat → Nat) (cI cZ cO : ClassId) (h0 : Nat) (q : Nat → Nat) (u : BS) : Met l yX0_allTicks wsX0_allTicks rm_X0_allTicks (va_Pc [.ref h0] (fun U => va_P (dC, dI) vwCl (BW cI cZ h0 q u) U.heap ∧ va_K (dC, dI) vwCl (TY cI cZ cO) U)) (kQ (some (.int (f_allTicks u)))) 0 0 (fun _ => False) := by
  refine kofR (cc := cX0_allTicks) (maxL := 1) (ret := some .int) (by decide) rfl (Nat.le_of_ble_eq_true rfl) ?_
  intro p e s m args below meth c ls S hr hlk hP hK hl
  obtain ⟨hx, hb, hml, hown, hts⟩ := id S
  have inX0 : ∀ w ∈ wsX00, w ∈ wsX0_allTicks := fun w h => List.mem_cons_of_mem _ (List.mem_append_right _ h)
  have hl : lv_has ls 1 [(0, .ref h0)] := hl
  refine lv_aload_n hx hb dX0_allTicks_0 rfl (lv_at hl 0 rfl) ?_
  refine va_get (D := (dC, dI)) (ci := 0) (v := .int (u 12 0)) (C := RX0) (T := TX0) (N := 14) hx hb hts inX0 hown hK hP 0 rfl rfl 12 (by decide) (hts (.fieldLink RX0 50 "BoardMetronomes$Bench" "allTicks" "I") (by decide +kernel)) (fun _ h9 => h9) rfl dX0_allTicks_1 ?_
  have r1 : f_allTicks u = u 12 0 := by
    rw [f_allTicks]
  exact kr_i hx hb hr hlk dX0_allTicks_4 r1.symm

def rm_X0_stepsTogether : Room := { frames := 0, cells := 0, slots := 0, locals := 0 }
theorem mi_X0_stepsTogether : kM yX0_stepsTogether wsX0_stepsTogether cX0_stepsTogether 1 (some .int) 0 := ⟨⟨_, rfl⟩, by decide, by decide, by decide +kernel⟩
def f_stepsTogether (u : BS) : Int32 := u 13 0
set_option maxHeartbeats 1000000 in
set_option maxRecDepth 100000 in
theorem c_X0_stepsTogether (l : Launch) (dC : Nat → ClassId) (dI : Nat → Nat → Nat) (cI cZ cO : ClassId) (h0 : Nat) (q : Nat → Nat) (u : BS) : Met l yX0_stepsTogether wsX0_stepsTogether rm_X0_stepsTogether (va_Pc [.ref h0] (fun U => va_P (dC, dI) vwCl (BW cI cZ h0 q u) U.heap ∧ va_K (dC, dI) vwCl (TY cI cZ cO) U)) (kQ (some (.int (f_stepsTogether u)))) 0 0 (fun _ => False) := by
  refine kofR (cc := cX0_stepsTogether) (maxL := 1) (ret := some .int) (by decide) rfl (Nat.le_of_ble_eq_true rfl) ?_
  intro p e s m args below meth c ls S hr hlk hP hK hl
  obtain ⟨hx, hb, hml, hown, hts⟩ := id S
  have inX0 : ∀ w ∈ wsX00, w ∈ wsX0_stepsTogether := fun w h => List.mem_cons_of_mem _ (List.mem_append_right _ h)
  have hl : lv_has ls 1 [(0, .ref h0)] := hl
  refine lv_aload_n hx hb dX0_stepsTogether_0 rfl (lv_at hl 0 rfl) ?_
  refine va_get (D := (dC, dI)) (ci := 0) (v := .int (u 13 0)) (C := RX0) (T := TX0) (N := 14) hx hb hts inX0 hown hK hP 0 rfl rfl 13 (by decide) (hts (.fieldLink RX0 53 "BoardMetronomes$Bench" "stepsTogether" "I") (by decide +kernel)) (fun _ h9 => h9) rfl dX0_stepsTogether_1 ?_
  have r1 : f_stepsTogether u = u 13 0 := by
    rw [f_stepsTogether]
  exact kr_i hx hb hr hlk dX0_stepsTogether_4 r1.symm

def rm_X0_pull : Room := { frames := 1, cells := 0, slots := 0, locals := 21 }
theorem mi_X0_pull : kM yX0_pull wsX0_pull cX0_pull 2 (some .int) 1 := ⟨⟨_, rfl⟩, by decide, by decide, by decide +kernel⟩
def f_pull (u : BS) (p0 : Int32) : Int32 := ((u 9 0) * (((u 6 0) * (f_swing (f_quarterOn p0))) - ((u 7 0) * (f_swing p0)))) / (100000 : Int32)
set_option maxHeartbeats 1000000 in
set_option maxRecDepth 100000 in
theorem c_X0_pull (l : Launch) (dC : Nat → ClassId) (dI : Nat → Nat → Nat) (cI cZ cO : ClassId) (h0 : Nat) (q : Nat → Nat) (u : BS) (p0 : Int32) : Met l yX0_pull wsX0_pull rm_X0_pull (va_Pc [.ref h0, .int p0] (fun U => va_P (dC, dI) vwCl (BW cI cZ h0 q u) U.heap ∧ va_K (dC, dI) vwCl (TY cI cZ cO) U)) (kQ (some (.int (f_pull u p0)))) 0 0 (fun _ => False) := by
  refine kofR (cc := cX0_pull) (maxL := 2) (ret := some .int) (by decide) rfl (Nat.le_of_ble_eq_true rfl) ?_
  intro p e s m args below meth c ls S hr hlk hP hK hl
  obtain ⟨hx, hb, hml, hown, hts⟩ := id S
  have inX0 : ∀ w ∈ wsX00, w ∈ wsX0_pull := fun w h => List.mem_cons_of_mem _ (List.mem_append_right _ h)
  have hl : lv_has ls 2 [(0, .ref h0), (1, .int p0)] := hl
  refine lv_aload_n hx hb dX0_pull_0 rfl (lv_at hl 0 rfl) ?_
  refine va_get (D := (dC, dI)) (ci := 0) (v := .int (u 9 0)) (C := RX0) (T := TX0) (N := 14) hx hb hts inX0 hown hK hP 0 rfl rfl 9 (by decide) (hts (.fieldLink RX0 32 "BoardMetronomes$Bench" "strength" "I") (by decide +kernel)) (fun _ h9 => h9) rfl dX0_pull_1 ?_
  refine lv_aload_n hx hb dX0_pull_4 rfl (lv_at hl 0 rfl) ?_
  refine va_get (D := (dC, dI)) (ci := 0) (v := .int (u 6 0)) (C := RX0) (T := TX0) (N := 14) hx hb hts inX0 hown hK hP 0 rfl rfl 6 (by decide) (hts (.fieldLink RX0 41 "BoardMetronomes$Bench" "a" "I") (by decide +kernel)) (fun _ h9 => h9) rfl dX0_pull_5 ?_
  refine lv_iload_n hx hb dX0_pull_8 rfl (lv_at hl 1 rfl) ?_
  refine kc_p (y := yX0_quarterOn) (As := [.int p0]) (rest := [.int (u 6 0), .int (u 9 0)]) rfl S (v := .int (f_quarterOn p0)) (c_X0_quarterOn l p0) gX0_pull_X0_quarterOn mi_X0_quarterOn ⟨rfl, rfl⟩ ⟨Nat.le_of_ble_eq_true rfl, Nat.le_of_ble_eq_true rfl⟩ ⟨Nat.le_refl _, Nat.le_refl _⟩ dX0_pull_9 rfl hl.1 rfl (Nat.le_of_ble_eq_true rfl) ?_
  refine kc_p (y := yX0_swing) (As := [.int (f_quarterOn p0)]) (rest := [.int (u 6 0), .int (u 9 0)]) rfl S (v := .int (f_swing (f_quarterOn p0))) (c_X0_swing l (f_quarterOn p0)) gX0_pull_X0_swing mi_X0_swing ⟨rfl, rfl⟩ ⟨Nat.le_of_ble_eq_true rfl, Nat.le_of_ble_eq_true rfl⟩ ⟨Nat.le_refl _, Nat.le_refl _⟩ dX0_pull_12 rfl hl.1 rfl (Nat.le_of_ble_eq_true rfl) ?_
  refine lv_imul hx hb dX0_pull_15 ?_
  refine lv_aload_n hx hb dX0_pull_16 rfl (lv_at hl 0 rfl) ?_
  refine va_get (D := (dC, dI)) (ci := 0) (v := .int (u 7 0)) (C := RX0) (T := TX0) (N := 14) hx hb hts inX0 hown hK hP 0 rfl rfl 7 (by decide) (hts (.fieldLink RX0 44 "BoardMetronomes$Bench" "b" "I") (by decide +kernel)) (fun _ h9 => h9) rfl dX0_pull_17 ?_
  refine lv_iload_n hx hb dX0_pull_20 rfl (lv_at hl 1 rfl) ?_
  refine kc_p (y := yX0_swing) (As := [.int p0]) (rest := [.int (u 7 0), .int ((u 6 0) * (f_swing (f_quarterOn p0))), .int (u 9 0)]) rfl S (v := .int (f_swing p0)) (c_X0_swing l p0) gX0_pull_X0_swing mi_X0_swing ⟨rfl, rfl⟩ ⟨Nat.le_of_ble_eq_true rfl, Nat.le_of_ble_eq_true rfl⟩ ⟨Nat.le_refl _, Nat.le_refl _⟩ dX0_pull_21 rfl hl.1 rfl (Nat.le_of_ble_eq_true rfl) ?_
  refine lv_imul hx hb dX0_pull_24 ?_
  refine lv_isub hx hb dX0_pull_25 ?_
  refine lv_imul hx hb dX0_pull_26 ?_
  refine lv_ldc (v := (100000 : Int32)) hx hb hown (hts (.constant RX0 101 (100000)) (by decide +kernel)) dX0_pull_27 ?_
  refine lv_idiv hx hb dX0_pull_29 (by decide) ?_
  have r1 : f_pull u p0 = ((u 9 0) * (((u 6 0) * (f_swing (f_quarterOn p0))) - ((u 7 0) * (f_swing p0)))) / (100000 : Int32) := by
    rw [f_pull]
  exact kr_i hx hb hr hlk dX0_pull_30 r1.symm

theorem f_goes_in {u : BS} {k : Int32} (h : f_goes u k = true) : vp_in k 6 := by
  by_cases h1 : k < 0
  · rw [f_goes, if_pos h1] at h; cases h
  · by_cases h2 : (6 : Int32) ≤ k
    · rw [f_goes, if_neg h1, if_pos h2] at h; cases h
    · exact kin_of h1 h2 (by decide)

def rm_X0_going : Room := { frames := 1, cells := 0, slots := 0, locals := 21 }
theorem mi_X0_going : kM yX0_going wsX0_going cX0_going 3 (some .int) 0 := ⟨⟨_, rfl⟩, by decide, by decide, by decide +kernel⟩
def f_going_L4 (u : BS) (j0 : Nat) (x0 : Int32) : Int32 := if (f_goes u (nI j0)) = true then (x0 + (1 : Int32)) else x0
def f_going (u : BS) : Int32 := it 6 (f_going_L4 u) (0 : Int32)
set_option maxHeartbeats 1000000 in
set_option maxRecDepth 100000 in
theorem c_X0_going (l : Launch) (dC : Nat → ClassId) (dI : Nat → Nat → Nat) (cI cZ cO : ClassId) (h0 : Nat) (q : Nat → Nat) (u : BS) : Met l yX0_going wsX0_going rm_X0_going (va_Pc [.ref h0] (fun U => va_P (dC, dI) vwCl (BW cI cZ h0 q u) U.heap ∧ va_K (dC, dI) vwCl (TY cI cZ cO) U)) (kQ (some (.int (f_going u)))) 0 0 (fun _ => False) := by
  refine kofR (cc := cX0_going) (maxL := 3) (ret := some .int) (by decide) rfl (Nat.le_of_ble_eq_true rfl) ?_
  intro p e s m args below meth c ls S hr hlk hP hK hl
  obtain ⟨hx, hb, hml, hown, hts⟩ := id S
  have inX0 : ∀ w ∈ wsX00, w ∈ wsX0_going := fun w h => List.mem_cons_of_mem _ (List.mem_append_right _ h)
  have hl : lv_has ls 3 [(0, .ref h0)] := hl
  refine lv_iconst (v := (0 : Int32)) hx hb dX0_going_0 (by decide) ?_
  refine lv_istore_n (lv' := [(1, .int (0 : Int32)), (0, .ref h0)]) hx hb dX0_going_1 rfl hl (by decide) rfl (fun ls hl => ?_)
  refine lv_iconst (v := (0 : Int32)) hx hb dX0_going_2 (by decide) ?_
  refine lv_istore_n (lv' := [(2, .int (0 : Int32)), (1, .int (0 : Int32)), (0, .ref h0)]) hx hb dX0_going_3 rfl hl (by decide) rfl (fun ls hl => ?_)
  have L1 : ∀ (n j0 : Nat), j0 + n = 6 → ∀ (ls : Array Slot), lv_has ls 3 [(0, .ref h0), (1, .int (it j0 (f_going_L4 u) (0 : Int32))), (2, .int (nI j0))] → W p l e rm_X0_going s m args below meth c s.heap [] 0 0 (MQ below (kQ (some (.int (f_going u)))) args s 0 0 (fun _ => False)) (F0 m 4 ls []) := by
    intro n
    induction n with
    | zero =>
      intro j0 hj1 ls hl
      obtain rfl : j0 = 6 := by omega
      refine lv_iload_n hx hb dX0_going_4 rfl (lv_at hl 2 rfl) ?_
      refine lv_bipush (v := (6 : Int32)) hx hb dX0_going_5 (by decide) ?_
      refine lv_icmp_ge (tgt := 27) hx hb dX0_going_7 (by decide) (fun c_7 => ?_) (fun c_7 => ?_)
      · refine lv_iload_n hx hb dX0_going_27 rfl (lv_at hl 1 rfl) ?_
        have r2 : f_going u = it 6 (f_going_L4 u) (0 : Int32) := by
          rw [f_going]
        exact kr_i hx hb hr hlk dX0_going_28 r2.symm
      · exact absurd (nI_le (a := 6) (by omega) (by omega)) c_7
    | succ n ih1 =>
      intro j0 hj1 ls hl
      refine lv_iload_n hx hb dX0_going_4 rfl (lv_at hl 2 rfl) ?_
      refine lv_bipush (v := (6 : Int32)) hx hb dX0_going_5 (by decide) ?_
      refine lv_icmp_ge (tgt := 27) hx hb dX0_going_7 (by decide) (fun c_7 => ?_) (fun c_7 => ?_)
      · exact absurd c_7 (nI_ge (b := 6) (by omega) (by decide))
      · refine lv_aload_n hx hb dX0_going_10 rfl (lv_at hl 0 rfl) ?_
        refine lv_iload_n hx hb dX0_going_11 rfl (lv_at hl 2 rfl) ?_
        refine kc_v (As := [.int (nI j0)]) (rest := []) S (v := .int (bI (f_goes u (nI j0)))) (c_X0_goes l dC dI cI cZ cO h0 q u (nI j0)) gX0_going_X0_goes mi_X0_goes ⟨rfl, rfl⟩ ⟨Nat.le_of_ble_eq_true rfl, Nat.le_of_ble_eq_true rfl⟩ hK hP 0 rfl rfl ⟨Nat.le_refl _, Nat.le_refl _⟩ dX0_going_12 rfl hl.1 rfl (Nat.le_of_ble_eq_true rfl) ?_
        refine kb_eq (tgt := 21) hx hb dX0_going_15 (by decide) (fun c_15 => ?_) (fun c_15 => ?_)
        · refine lv_iinc (v := nI (j0 + 1)) (lv' := [(2, .int (nI (j0 + 1))), (0, .ref h0), (1, .int (it j0 (f_going_L4 u) (0 : Int32)))]) hx hb dX0_going_21 hl (k := 2) rfl (nI_add j0 1) (by decide) rfl (fun ls hl => ?_)
          refine lv_goto (tgt := 4) hx hb dX0_going_24 (by decide) ?_
          have b3 : f_going_L4 u j0 (it j0 (f_going_L4 u) (0 : Int32)) = it j0 (f_going_L4 u) (0 : Int32) := by
            rw [f_going_L4, if_neg c_15]
          have e3 : it (j0 + 1) (f_going_L4 u) (0 : Int32) = it j0 (f_going_L4 u) (0 : Int32) := (it_s _ _ _).trans b3
          exact ih1 (j0 + 1) (by omega) ls (by rw [e3]; exact lv_sub hl [1, 2, 0] rfl)
        · refine lv_iinc (v := (it j0 (f_going_L4 u) (0 : Int32)) + (1 : Int32)) (lv' := [(1, .int ((it j0 (f_going_L4 u) (0 : Int32)) + (1 : Int32))), (0, .ref h0), (2, .int (nI j0))]) hx hb dX0_going_18 hl (k := 1) rfl rfl (by decide) rfl (fun ls hl => ?_)
          refine lv_iinc (v := nI (j0 + 1)) (lv' := [(2, .int (nI (j0 + 1))), (1, .int ((it j0 (f_going_L4 u) (0 : Int32)) + (1 : Int32))), (0, .ref h0)]) hx hb dX0_going_21 hl (k := 2) rfl (nI_add j0 1) (by decide) rfl (fun ls hl => ?_)
          refine lv_goto (tgt := 4) hx hb dX0_going_24 (by decide) ?_
          have b4 : f_going_L4 u j0 (it j0 (f_going_L4 u) (0 : Int32)) = (it j0 (f_going_L4 u) (0 : Int32)) + (1 : Int32) := by
            rw [f_going_L4, if_pos c_15]
          have e4 : it (j0 + 1) (f_going_L4 u) (0 : Int32) = (it j0 (f_going_L4 u) (0 : Int32)) + (1 : Int32) := (it_s _ _ _).trans b4
          exact ih1 (j0 + 1) (by omega) ls (by rw [e4]; exact lv_sub hl [2, 1, 0] rfl)
  exact L1 6 0 (by omega) ls (lv_sub hl [2, 1, 0] rfl)

def rm_X0_sumOfSwings : Room := { frames := 1, cells := 0, slots := 0, locals := 21 }
theorem mi_X0_sumOfSwings : kM yX0_sumOfSwings wsX0_sumOfSwings cX0_sumOfSwings 3 (some .int) 0 := ⟨⟨_, rfl⟩, by decide, by decide, by decide +kernel⟩
def f_sumOfSwings_L4 (u : BS) (j0 : Nat) (x0 : Int32) : Int32 := if (f_goes u (nI j0)) = true then (x0 + (f_swing (u 1 j0))) else x0
def f_sumOfSwings (u : BS) : Int32 := it 6 (f_sumOfSwings_L4 u) (0 : Int32)
set_option maxHeartbeats 1000000 in
set_option maxRecDepth 100000 in
theorem c_X0_sumOfSwings (l : Launch) (dC : Nat → ClassId) (dI : Nat → Nat → Nat) (cI cZ cO : ClassId) (h0 : Nat) (q : Nat → Nat) (u : BS) : Met l yX0_sumOfSwings wsX0_sumOfSwings rm_X0_sumOfSwings (va_Pc [.ref h0] (fun U => va_P (dC, dI) vwCl (BW cI cZ h0 q u) U.heap ∧ va_K (dC, dI) vwCl (TY cI cZ cO) U)) (kQ (some (.int (f_sumOfSwings u)))) 0 0 (fun _ => False) := by
  refine kofR (cc := cX0_sumOfSwings) (maxL := 3) (ret := some .int) (by decide) rfl (Nat.le_of_ble_eq_true rfl) ?_
  intro p e s m args below meth c ls S hr hlk hP hK hl
  obtain ⟨hx, hb, hml, hown, hts⟩ := id S
  have inX0 : ∀ w ∈ wsX00, w ∈ wsX0_sumOfSwings := fun w h => List.mem_cons_of_mem _ (List.mem_append_right _ h)
  have hl : lv_has ls 3 [(0, .ref h0)] := hl
  refine lv_iconst (v := (0 : Int32)) hx hb dX0_sumOfSwings_0 (by decide) ?_
  refine lv_istore_n (lv' := [(1, .int (0 : Int32)), (0, .ref h0)]) hx hb dX0_sumOfSwings_1 rfl hl (by decide) rfl (fun ls hl => ?_)
  refine lv_iconst (v := (0 : Int32)) hx hb dX0_sumOfSwings_2 (by decide) ?_
  refine lv_istore_n (lv' := [(2, .int (0 : Int32)), (1, .int (0 : Int32)), (0, .ref h0)]) hx hb dX0_sumOfSwings_3 rfl hl (by decide) rfl (fun ls hl => ?_)
  have L1 : ∀ (n j0 : Nat), j0 + n = 6 → ∀ (ls : Array Slot), lv_has ls 3 [(0, .ref h0), (1, .int (it j0 (f_sumOfSwings_L4 u) (0 : Int32))), (2, .int (nI j0))] → W p l e rm_X0_sumOfSwings s m args below meth c s.heap [] 0 0 (MQ below (kQ (some (.int (f_sumOfSwings u)))) args s 0 0 (fun _ => False)) (F0 m 4 ls []) := by
    intro n
    induction n with
    | zero =>
      intro j0 hj1 ls hl
      obtain rfl : j0 = 6 := by omega
      refine lv_iload_n hx hb dX0_sumOfSwings_4 rfl (lv_at hl 2 rfl) ?_
      refine lv_bipush (v := (6 : Int32)) hx hb dX0_sumOfSwings_5 (by decide) ?_
      refine lv_icmp_ge (tgt := 36) hx hb dX0_sumOfSwings_7 (by decide) (fun c_7 => ?_) (fun c_7 => ?_)
      · refine lv_iload_n hx hb dX0_sumOfSwings_36 rfl (lv_at hl 1 rfl) ?_
        have r2 : f_sumOfSwings u = it 6 (f_sumOfSwings_L4 u) (0 : Int32) := by
          rw [f_sumOfSwings]
        exact kr_i hx hb hr hlk dX0_sumOfSwings_37 r2.symm
      · exact absurd (nI_le (a := 6) (by omega) (by omega)) c_7
    | succ n ih1 =>
      intro j0 hj1 ls hl
      refine lv_iload_n hx hb dX0_sumOfSwings_4 rfl (lv_at hl 2 rfl) ?_
      refine lv_bipush (v := (6 : Int32)) hx hb dX0_sumOfSwings_5 (by decide) ?_
      refine lv_icmp_ge (tgt := 36) hx hb dX0_sumOfSwings_7 (by decide) (fun c_7 => ?_) (fun c_7 => ?_)
      · exact absurd c_7 (nI_ge (b := 6) (by omega) (by decide))
      · refine lv_aload_n hx hb dX0_sumOfSwings_10 rfl (lv_at hl 0 rfl) ?_
        refine lv_iload_n hx hb dX0_sumOfSwings_11 rfl (lv_at hl 2 rfl) ?_
        refine kc_v (As := [.int (nI j0)]) (rest := []) S (v := .int (bI (f_goes u (nI j0)))) (c_X0_goes l dC dI cI cZ cO h0 q u (nI j0)) gX0_sumOfSwings_X0_goes mi_X0_goes ⟨rfl, rfl⟩ ⟨Nat.le_of_ble_eq_true rfl, Nat.le_of_ble_eq_true rfl⟩ hK hP 0 rfl rfl ⟨Nat.le_refl _, Nat.le_refl _⟩ dX0_sumOfSwings_12 rfl hl.1 rfl (Nat.le_of_ble_eq_true rfl) ?_
        refine kb_eq (tgt := 30) hx hb dX0_sumOfSwings_15 (by decide) (fun c_15 => ?_) (fun c_15 => ?_)
        · refine lv_iinc (v := nI (j0 + 1)) (lv' := [(2, .int (nI (j0 + 1))), (0, .ref h0), (1, .int (it j0 (f_sumOfSwings_L4 u) (0 : Int32)))]) hx hb dX0_sumOfSwings_30 hl (k := 2) rfl (nI_add j0 1) (by decide) rfl (fun ls hl => ?_)
          refine lv_goto (tgt := 4) hx hb dX0_sumOfSwings_33 (by decide) ?_
          have b3 : f_sumOfSwings_L4 u j0 (it j0 (f_sumOfSwings_L4 u) (0 : Int32)) = it j0 (f_sumOfSwings_L4 u) (0 : Int32) := by
            rw [f_sumOfSwings_L4, if_neg c_15]
          have e3 : it (j0 + 1) (f_sumOfSwings_L4 u) (0 : Int32) = it j0 (f_sumOfSwings_L4 u) (0 : Int32) := (it_s _ _ _).trans b3
          exact ih1 (j0 + 1) (by omega) ls (by rw [e3]; exact lv_sub hl [1, 2, 0] rfl)
        · refine lv_iload_n hx hb dX0_sumOfSwings_18 rfl (lv_at hl 1 rfl) ?_
          refine lv_aload_n hx hb dX0_sumOfSwings_19 rfl (lv_at hl 0 rfl) ?_
          refine va_get (D := (dC, dI)) (ci := 0) (v := .ref (q 1)) (C := RX0) (T := TX0) (N := 14) hx hb hts inX0 hown hK hP 0 rfl rfl 1 (by decide) (hts (.fieldLink RX0 15 "BoardMetronomes$Bench" "phases" "[I") (by decide +kernel)) (fun _ h9 => h9) rfl dX0_sumOfSwings_20 ?_
          refine lv_iload_n hx hb dX0_sumOfSwings_23 rfl (lv_at hl 2 rfl) ?_
          refine k_iald (D := (dC, dI)) hx hb hK hP 2 0 rfl rfl (j := j0) (by omega) (by decide) dX0_sumOfSwings_24 ?_
          refine kc_p (y := yX0_swing) (As := [.int (u 1 j0)]) (rest := [.int (it j0 (f_sumOfSwings_L4 u) (0 : Int32))]) rfl S (v := .int (f_swing (u 1 j0))) (c_X0_swing l (u 1 j0)) gX0_sumOfSwings_X0_swing mi_X0_swing ⟨rfl, rfl⟩ ⟨Nat.le_of_ble_eq_true rfl, Nat.le_of_ble_eq_true rfl⟩ ⟨Nat.le_refl _, Nat.le_refl _⟩ dX0_sumOfSwings_25 rfl hl.1 rfl (Nat.le_of_ble_eq_true rfl) ?_
          refine lv_iadd hx hb dX0_sumOfSwings_28 ?_
          refine lv_istore_n (lv' := [(1, .int ((it j0 (f_sumOfSwings_L4 u) (0 : Int32)) + (f_swing (u 1 j0)))), (0, .ref h0), (2, .int (nI j0))]) hx hb dX0_sumOfSwings_29 rfl hl (by decide) rfl (fun ls hl => ?_)
          refine lv_iinc (v := nI (j0 + 1)) (lv' := [(2, .int (nI (j0 + 1))), (1, .int ((it j0 (f_sumOfSwings_L4 u) (0 : Int32)) + (f_swing (u 1 j0)))), (0, .ref h0)]) hx hb dX0_sumOfSwings_30 hl (k := 2) rfl (nI_add j0 1) (by decide) rfl (fun ls hl => ?_)
          refine lv_goto (tgt := 4) hx hb dX0_sumOfSwings_33 (by decide) ?_
          have b4 : f_sumOfSwings_L4 u j0 (it j0 (f_sumOfSwings_L4 u) (0 : Int32)) = (it j0 (f_sumOfSwings_L4 u) (0 : Int32)) + (f_swing (u 1 j0)) := by
            rw [f_sumOfSwings_L4, if_pos c_15]
          have e4 : it (j0 + 1) (f_sumOfSwings_L4 u) (0 : Int32) = (it j0 (f_sumOfSwings_L4 u) (0 : Int32)) + (f_swing (u 1 j0)) := (it_s _ _ _).trans b4
          exact ih1 (j0 + 1) (by omega) ls (by rw [e4]; exact lv_sub hl [2, 1, 0] rfl)
  exact L1 6 0 (by omega) ls (lv_sub hl [2, 1, 0] rfl)

def rm_X0_sumOfTurns : Room := { frames := 1, cells := 0, slots := 0, locals := 21 }
theorem mi_X0_sumOfTurns : kM yX0_sumOfTurns wsX0_sumOfTurns cX0_sumOfTurns 3 (some .int) 0 := ⟨⟨_, rfl⟩, by decide, by decide, by decide +kernel⟩
def f_sumOfTurns_L4 (u : BS) (j0 : Nat) (x0 : Int32) : Int32 := if (f_goes u (nI j0)) = true then (x0 + (f_swing (f_quarterOn (u 1 j0)))) else x0
def f_sumOfTurns (u : BS) : Int32 := it 6 (f_sumOfTurns_L4 u) (0 : Int32)
set_option maxHeartbeats 1000000 in
set_option maxRecDepth 100000 in
theorem c_X0_sumOfTurns (l : Launch) (dC : Nat → ClassId) (dI : Nat → Nat → Nat) (cI cZ cO : ClassId) (h0 : Nat) (q : Nat → Nat) (u : BS) : Met l yX0_sumOfTurns wsX0_sumOfTurns rm_X0_sumOfTurns (va_Pc [.ref h0] (fun U => va_P (dC, dI) vwCl (BW cI cZ h0 q u) U.heap ∧ va_K (dC, dI) vwCl (TY cI cZ cO) U)) (kQ (some (.int (f_sumOfTurns u)))) 0 0 (fun _ => False) := by
  refine kofR (cc := cX0_sumOfTurns) (maxL := 3) (ret := some .int) (by decide) rfl (Nat.le_of_ble_eq_true rfl) ?_
  intro p e s m args below meth c ls S hr hlk hP hK hl
  obtain ⟨hx, hb, hml, hown, hts⟩ := id S
  have inX0 : ∀ w ∈ wsX00, w ∈ wsX0_sumOfTurns := fun w h => List.mem_cons_of_mem _ (List.mem_append_right _ h)
  have hl : lv_has ls 3 [(0, .ref h0)] := hl
  refine lv_iconst (v := (0 : Int32)) hx hb dX0_sumOfTurns_0 (by decide) ?_
  refine lv_istore_n (lv' := [(1, .int (0 : Int32)), (0, .ref h0)]) hx hb dX0_sumOfTurns_1 rfl hl (by decide) rfl (fun ls hl => ?_)
  refine lv_iconst (v := (0 : Int32)) hx hb dX0_sumOfTurns_2 (by decide) ?_
  refine lv_istore_n (lv' := [(2, .int (0 : Int32)), (1, .int (0 : Int32)), (0, .ref h0)]) hx hb dX0_sumOfTurns_3 rfl hl (by decide) rfl (fun ls hl => ?_)
  have L1 : ∀ (n j0 : Nat), j0 + n = 6 → ∀ (ls : Array Slot), lv_has ls 3 [(0, .ref h0), (1, .int (it j0 (f_sumOfTurns_L4 u) (0 : Int32))), (2, .int (nI j0))] → W p l e rm_X0_sumOfTurns s m args below meth c s.heap [] 0 0 (MQ below (kQ (some (.int (f_sumOfTurns u)))) args s 0 0 (fun _ => False)) (F0 m 4 ls []) := by
    intro n
    induction n with
    | zero =>
      intro j0 hj1 ls hl
      obtain rfl : j0 = 6 := by omega
      refine lv_iload_n hx hb dX0_sumOfTurns_4 rfl (lv_at hl 2 rfl) ?_
      refine lv_bipush (v := (6 : Int32)) hx hb dX0_sumOfTurns_5 (by decide) ?_
      refine lv_icmp_ge (tgt := 39) hx hb dX0_sumOfTurns_7 (by decide) (fun c_7 => ?_) (fun c_7 => ?_)
      · refine lv_iload_n hx hb dX0_sumOfTurns_39 rfl (lv_at hl 1 rfl) ?_
        have r2 : f_sumOfTurns u = it 6 (f_sumOfTurns_L4 u) (0 : Int32) := by
          rw [f_sumOfTurns]
        exact kr_i hx hb hr hlk dX0_sumOfTurns_40 r2.symm
      · exact absurd (nI_le (a := 6) (by omega) (by omega)) c_7
    | succ n ih1 =>
      intro j0 hj1 ls hl
      refine lv_iload_n hx hb dX0_sumOfTurns_4 rfl (lv_at hl 2 rfl) ?_
      refine lv_bipush (v := (6 : Int32)) hx hb dX0_sumOfTurns_5 (by decide) ?_
      refine lv_icmp_ge (tgt := 39) hx hb dX0_sumOfTurns_7 (by decide) (fun c_7 => ?_) (fun c_7 => ?_)
      · exact absurd c_7 (nI_ge (b := 6) (by omega) (by decide))
      · refine lv_aload_n hx hb dX0_sumOfTurns_10 rfl (lv_at hl 0 rfl) ?_
        refine lv_iload_n hx hb dX0_sumOfTurns_11 rfl (lv_at hl 2 rfl) ?_
        refine kc_v (As := [.int (nI j0)]) (rest := []) S (v := .int (bI (f_goes u (nI j0)))) (c_X0_goes l dC dI cI cZ cO h0 q u (nI j0)) gX0_sumOfTurns_X0_goes mi_X0_goes ⟨rfl, rfl⟩ ⟨Nat.le_of_ble_eq_true rfl, Nat.le_of_ble_eq_true rfl⟩ hK hP 0 rfl rfl ⟨Nat.le_refl _, Nat.le_refl _⟩ dX0_sumOfTurns_12 rfl hl.1 rfl (Nat.le_of_ble_eq_true rfl) ?_
        refine kb_eq (tgt := 33) hx hb dX0_sumOfTurns_15 (by decide) (fun c_15 => ?_) (fun c_15 => ?_)
        · refine lv_iinc (v := nI (j0 + 1)) (lv' := [(2, .int (nI (j0 + 1))), (0, .ref h0), (1, .int (it j0 (f_sumOfTurns_L4 u) (0 : Int32)))]) hx hb dX0_sumOfTurns_33 hl (k := 2) rfl (nI_add j0 1) (by decide) rfl (fun ls hl => ?_)
          refine lv_goto (tgt := 4) hx hb dX0_sumOfTurns_36 (by decide) ?_
          have b3 : f_sumOfTurns_L4 u j0 (it j0 (f_sumOfTurns_L4 u) (0 : Int32)) = it j0 (f_sumOfTurns_L4 u) (0 : Int32) := by
            rw [f_sumOfTurns_L4, if_neg c_15]
          have e3 : it (j0 + 1) (f_sumOfTurns_L4 u) (0 : Int32) = it j0 (f_sumOfTurns_L4 u) (0 : Int32) := (it_s _ _ _).trans b3
          exact ih1 (j0 + 1) (by omega) ls (by rw [e3]; exact lv_sub hl [1, 2, 0] rfl)
        · refine lv_iload_n hx hb dX0_sumOfTurns_18 rfl (lv_at hl 1 rfl) ?_
          refine lv_aload_n hx hb dX0_sumOfTurns_19 rfl (lv_at hl 0 rfl) ?_
          refine va_get (D := (dC, dI)) (ci := 0) (v := .ref (q 1)) (C := RX0) (T := TX0) (N := 14) hx hb hts inX0 hown hK hP 0 rfl rfl 1 (by decide) (hts (.fieldLink RX0 15 "BoardMetronomes$Bench" "phases" "[I") (by decide +kernel)) (fun _ h9 => h9) rfl dX0_sumOfTurns_20 ?_
          refine lv_iload_n hx hb dX0_sumOfTurns_23 rfl (lv_at hl 2 rfl) ?_
          refine k_iald (D := (dC, dI)) hx hb hK hP 2 0 rfl rfl (j := j0) (by omega) (by decide) dX0_sumOfTurns_24 ?_
          refine kc_p (y := yX0_quarterOn) (As := [.int (u 1 j0)]) (rest := [.int (it j0 (f_sumOfTurns_L4 u) (0 : Int32))]) rfl S (v := .int (f_quarterOn (u 1 j0))) (c_X0_quarterOn l (u 1 j0)) gX0_sumOfTurns_X0_quarterOn mi_X0_quarterOn ⟨rfl, rfl⟩ ⟨Nat.le_of_ble_eq_true rfl, Nat.le_of_ble_eq_true rfl⟩ ⟨Nat.le_refl _, Nat.le_refl _⟩ dX0_sumOfTurns_25 rfl hl.1 rfl (Nat.le_of_ble_eq_true rfl) ?_
          refine kc_p (y := yX0_swing) (As := [.int (f_quarterOn (u 1 j0))]) (rest := [.int (it j0 (f_sumOfTurns_L4 u) (0 : Int32))]) rfl S (v := .int (f_swing (f_quarterOn (u 1 j0)))) (c_X0_swing l (f_quarterOn (u 1 j0))) gX0_sumOfTurns_X0_swing mi_X0_swing ⟨rfl, rfl⟩ ⟨Nat.le_of_ble_eq_true rfl, Nat.le_of_ble_eq_true rfl⟩ ⟨Nat.le_refl _, Nat.le_refl _⟩ dX0_sumOfTurns_28 rfl hl.1 rfl (Nat.le_of_ble_eq_true rfl) ?_
          refine lv_iadd hx hb dX0_sumOfTurns_31 ?_
          refine lv_istore_n (lv' := [(1, .int ((it j0 (f_sumOfTurns_L4 u) (0 : Int32)) + (f_swing (f_quarterOn (u 1 j0))))), (0, .ref h0), (2, .int (nI j0))]) hx hb dX0_sumOfTurns_32 rfl hl (by decide) rfl (fun ls hl => ?_)
          refine lv_iinc (v := nI (j0 + 1)) (lv' := [(2, .int (nI (j0 + 1))), (1, .int ((it j0 (f_sumOfTurns_L4 u) (0 : Int32)) + (f_swing (f_quarterOn (u 1 j0))))), (0, .ref h0)]) hx hb dX0_sumOfTurns_33 hl (k := 2) rfl (nI_add j0 1) (by decide) rfl (fun ls hl => ?_)
          refine lv_goto (tgt := 4) hx hb dX0_sumOfTurns_36 (by decide) ?_
          have b4 : f_sumOfTurns_L4 u j0 (it j0 (f_sumOfTurns_L4 u) (0 : Int32)) = (it j0 (f_sumOfTurns_L4 u) (0 : Int32)) + (f_swing (f_quarterOn (u 1 j0))) := by
            rw [f_sumOfTurns_L4, if_pos c_15]
          have e4 : it (j0 + 1) (f_sumOfTurns_L4 u) (0 : Int32) = (it j0 (f_sumOfTurns_L4 u) (0 : Int32)) + (f_swing (f_quarterOn (u 1 j0))) := (it_s _ _ _).trans b4
          exact ih1 (j0 + 1) (by omega) ls (by rw [e4]; exact lv_sub hl [2, 1, 0] rfl)
  exact L1 6 0 (by omega) ls (lv_sub hl [2, 1, 0] rfl)

def rm_X0_dividedForOrder : Room := { frames := 2, cells := 0, slots := 0, locals := 43 }
theorem mi_X0_dividedForOrder : kM yX0_dividedForOrder wsX0_dividedForOrder cX0_dividedForOrder 3 (some .int) 1 := ⟨⟨_, rfl⟩, by decide, by decide, by decide +kernel⟩
def f_dividedForOrder (u : BS) (p0 : Int32) : Int32 := if (((1000 : Int32) * (f_going u)) * (f_going u)) ≤ 0 then (0 : Int32) else p0 / (((1000 : Int32) * (f_going u)) * (f_going u))
set_option maxHeartbeats 1000000 in
set_option maxRecDepth 100000 in
theorem c_X0_dividedForOrder (l : Launch) (dC : Nat → ClassId) (dI : Nat → Nat → Nat) (cI cZ cO : ClassId) (h0 : Nat) (q : Nat → Nat) (u : BS) (p0 : Int32) : Met l yX0_dividedForOrder wsX0_dividedForOrder rm_X0_dividedForOrder (va_Pc [.ref h0, .int p0] (fun U => va_P (dC, dI) vwCl (BW cI cZ h0 q u) U.heap ∧ va_K (dC, dI) vwCl (TY cI cZ cO) U)) (kQ (some (.int (f_dividedForOrder u p0)))) 0 0 (fun _ => False) := by
  refine kofR (cc := cX0_dividedForOrder) (maxL := 3) (ret := some .int) (by decide) rfl (Nat.le_of_ble_eq_true rfl) ?_
  intro p e s m args below meth c ls S hr hlk hP hK hl
  obtain ⟨hx, hb, hml, hown, hts⟩ := id S
  have inX0 : ∀ w ∈ wsX00, w ∈ wsX0_dividedForOrder := fun w h => List.mem_cons_of_mem _ (List.mem_append_right _ h)
  have hl : lv_has ls 3 [(0, .ref h0), (1, .int p0)] := hl
  refine lv_sipush (v := (1000 : Int32)) hx hb dX0_dividedForOrder_0 (by decide) ?_
  refine lv_aload_n hx hb dX0_dividedForOrder_3 rfl (lv_at hl 0 rfl) ?_
  refine kc_v (As := []) (rest := [.int (1000 : Int32)]) S (v := .int (f_going u)) (c_X0_going l dC dI cI cZ cO h0 q u) gX0_dividedForOrder_X0_going mi_X0_going ⟨rfl, rfl⟩ ⟨Nat.le_of_ble_eq_true rfl, Nat.le_of_ble_eq_true rfl⟩ hK hP 0 rfl rfl ⟨Nat.le_refl _, Nat.le_refl _⟩ dX0_dividedForOrder_4 rfl hl.1 rfl (Nat.le_of_ble_eq_true rfl) ?_
  refine lv_imul hx hb dX0_dividedForOrder_7 ?_
  refine lv_aload_n hx hb dX0_dividedForOrder_8 rfl (lv_at hl 0 rfl) ?_
  refine kc_v (As := []) (rest := [.int ((1000 : Int32) * (f_going u))]) S (v := .int (f_going u)) (c_X0_going l dC dI cI cZ cO h0 q u) gX0_dividedForOrder_X0_going mi_X0_going ⟨rfl, rfl⟩ ⟨Nat.le_of_ble_eq_true rfl, Nat.le_of_ble_eq_true rfl⟩ hK hP 0 rfl rfl ⟨Nat.le_refl _, Nat.le_refl _⟩ dX0_dividedForOrder_9 rfl hl.1 rfl (Nat.le_of_ble_eq_true rfl) ?_
  refine lv_imul hx hb dX0_dividedForOrder_12 ?_
  refine lv_istore_n (lv' := [(2, .int (((1000 : Int32) * (f_going u)) * (f_going u))), (0, .ref h0), (1, .int p0)]) hx hb dX0_dividedForOrder_13 rfl hl (by decide) rfl (fun ls hl => ?_)
  refine lv_iload_n hx hb dX0_dividedForOrder_14 rfl (lv_at hl 0 rfl) ?_
  refine lv_if_le (tgt := 24) hx hb dX0_dividedForOrder_15 (by decide) (fun c_15 => ?_) (fun c_15 => ?_)
  · refine lv_iconst (v := (0 : Int32)) hx hb dX0_dividedForOrder_24 (by decide) ?_
    have r1 : f_dividedForOrder u p0 = (0 : Int32) := by
      rw [f_dividedForOrder, if_pos c_15]
    exact kr_i hx hb hr hlk dX0_dividedForOrder_25 r1.symm
  · refine lv_iload_n hx hb dX0_dividedForOrder_18 rfl (lv_at hl 2 rfl) ?_
    refine lv_iload_n hx hb dX0_dividedForOrder_19 rfl (lv_at hl 0 rfl) ?_
    refine lv_idiv hx hb dX0_dividedForOrder_20 (kne_le c_15) ?_
    refine lv_goto (tgt := 25) hx hb dX0_dividedForOrder_21 (by decide) ?_
    have r2 : f_dividedForOrder u p0 = p0 / (((1000 : Int32) * (f_going u)) * (f_going u)) := by
      rw [f_dividedForOrder, if_neg c_15]
    exact kr_i hx hb hr hlk dX0_dividedForOrder_25 r2.symm

def rm_X0_order : Room := { frames := 3, cells := 0, slots := 0, locals := 65 }
theorem mi_X0_order : kM yX0_order wsX0_order cX0_order 3 (some .int) 0 := ⟨⟨_, rfl⟩, by decide, by decide, by decide +kernel⟩
def f_order (u : BS) : Int32 := f_dividedForOrder u (((f_sumOfSwings u) * (f_sumOfSwings u)) + ((f_sumOfTurns u) * (f_sumOfTurns u)))
set_option maxHeartbeats 1000000 in
set_option maxRecDepth 100000 in
theorem c_X0_order (l : Launch) (dC : Nat → ClassId) (dI : Nat → Nat → Nat) (cI cZ cO : ClassId) (h0 : Nat) (q : Nat → Nat) (u : BS) : Met l yX0_order wsX0_order rm_X0_order (va_Pc [.ref h0] (fun U => va_P (dC, dI) vwCl (BW cI cZ h0 q u) U.heap ∧ va_K (dC, dI) vwCl (TY cI cZ cO) U)) (kQ (some (.int (f_order u)))) 0 0 (fun _ => False) := by
  refine kofR (cc := cX0_order) (maxL := 3) (ret := some .int) (by decide) rfl (Nat.le_of_ble_eq_true rfl) ?_
  intro p e s m args below meth c ls S hr hlk hP hK hl
  obtain ⟨hx, hb, hml, hown, hts⟩ := id S
  have inX0 : ∀ w ∈ wsX00, w ∈ wsX0_order := fun w h => List.mem_cons_of_mem _ (List.mem_append_right _ h)
  have hl : lv_has ls 3 [(0, .ref h0)] := hl
  refine lv_aload_n hx hb dX0_order_0 rfl (lv_at hl 0 rfl) ?_
  refine kc_v (As := []) (rest := []) S (v := .int (f_sumOfSwings u)) (c_X0_sumOfSwings l dC dI cI cZ cO h0 q u) gX0_order_X0_sumOfSwings mi_X0_sumOfSwings ⟨rfl, rfl⟩ ⟨Nat.le_of_ble_eq_true rfl, Nat.le_of_ble_eq_true rfl⟩ hK hP 0 rfl rfl ⟨Nat.le_refl _, Nat.le_refl _⟩ dX0_order_1 rfl hl.1 rfl (Nat.le_of_ble_eq_true rfl) ?_
  refine lv_istore_n (lv' := [(1, .int (f_sumOfSwings u)), (0, .ref h0)]) hx hb dX0_order_4 rfl hl (by decide) rfl (fun ls hl => ?_)
  refine lv_aload_n hx hb dX0_order_5 rfl (lv_at hl 1 rfl) ?_
  refine kc_v (As := []) (rest := []) S (v := .int (f_sumOfTurns u)) (c_X0_sumOfTurns l dC dI cI cZ cO h0 q u) gX0_order_X0_sumOfTurns mi_X0_sumOfTurns ⟨rfl, rfl⟩ ⟨Nat.le_of_ble_eq_true rfl, Nat.le_of_ble_eq_true rfl⟩ hK hP 0 rfl rfl ⟨Nat.le_refl _, Nat.le_refl _⟩ dX0_order_6 rfl hl.1 rfl (Nat.le_of_ble_eq_true rfl) ?_
  refine lv_istore_n (lv' := [(2, .int (f_sumOfTurns u)), (1, .int (f_sumOfSwings u)), (0, .ref h0)]) hx hb dX0_order_9 rfl hl (by decide) rfl (fun ls hl => ?_)
  refine lv_aload_n hx hb dX0_order_10 rfl (lv_at hl 2 rfl) ?_
  refine lv_iload_n hx hb dX0_order_11 rfl (lv_at hl 1 rfl) ?_
  refine lv_iload_n hx hb dX0_order_12 rfl (lv_at hl 1 rfl) ?_
  refine lv_imul hx hb dX0_order_13 ?_
  refine lv_iload_n hx hb dX0_order_14 rfl (lv_at hl 0 rfl) ?_
  refine lv_iload_n hx hb dX0_order_15 rfl (lv_at hl 0 rfl) ?_
  refine lv_imul hx hb dX0_order_16 ?_
  refine lv_iadd hx hb dX0_order_17 ?_
  refine kc_v (As := [.int (((f_sumOfSwings u) * (f_sumOfSwings u)) + ((f_sumOfTurns u) * (f_sumOfTurns u)))]) (rest := []) S (v := .int (f_dividedForOrder u (((f_sumOfSwings u) * (f_sumOfSwings u)) + ((f_sumOfTurns u) * (f_sumOfTurns u))))) (c_X0_dividedForOrder l dC dI cI cZ cO h0 q u (((f_sumOfSwings u) * (f_sumOfSwings u)) + ((f_sumOfTurns u) * (f_sumOfTurns u)))) gX0_order_X0_dividedForOrder mi_X0_dividedForOrder ⟨rfl, rfl⟩ ⟨Nat.le_of_ble_eq_true rfl, Nat.le_of_ble_eq_true rfl⟩ hK hP 0 rfl rfl ⟨Nat.le_refl _, Nat.le_refl _⟩ dX0_order_18 rfl hl.1 rfl (Nat.le_of_ble_eq_true rfl) ?_
  have r1 : f_order u = f_dividedForOrder u (((f_sumOfSwings u) * (f_sumOfSwings u)) + ((f_sumOfTurns u) * (f_sumOfTurns u))) := by
    rw [f_order]
  exact kr_i hx hb hr hlk dX0_order_21 r1.symm

def rm_X0_orderByPairs : Room := { frames := 3, cells := 0, slots := 0, locals := 65 }
theorem mi_X0_orderByPairs : kM yX0_orderByPairs wsX0_orderByPairs cX0_orderByPairs 4 (some .int) 0 := ⟨⟨_, rfl⟩, by decide, by decide, by decide +kernel⟩
def f_orderByPairs_L12 (u : BS) (j0 : Nat) (x0 : Int32) (j1 : Nat) (x1 : Int32) : Int32 := if (f_goes u (nI j0)) = true then (if (f_goes u (nI j1)) = true then (x1 + (((f_swing (u 1 j0)) * (f_swing (u 1 j1))) + ((f_swing (f_quarterOn (u 1 j0))) * (f_swing (f_quarterOn (u 1 j1)))))) else x1) else x1
def f_orderByPairs_L4 (u : BS) (j0 : Nat) (x0 : Int32) : Int32 := it 6 (f_orderByPairs_L12 u j0 x0) x0
def f_orderByPairs (u : BS) : Int32 := f_dividedForOrder u (it 6 (f_orderByPairs_L4 u) (0 : Int32))
set_option maxHeartbeats 1000000 in
set_option maxRecDepth 100000 in
theorem c_X0_orderByPairs (l : Launch) (dC : Nat → ClassId) (dI : Nat → Nat → Nat) (cI cZ cO : ClassId) (h0 : Nat) (q : Nat → Nat) (u : BS) : Met l yX0_orderByPairs wsX0_orderByPairs rm_X0_orderByPairs (va_Pc [.ref h0] (fun U => va_P (dC, dI) vwCl (BW cI cZ h0 q u) U.heap ∧ va_K (dC, dI) vwCl (TY cI cZ cO) U)) (kQ (some (.int (f_orderByPairs u)))) 0 0 (fun _ => False) := by
  refine kofR (cc := cX0_orderByPairs) (maxL := 4) (ret := some .int) (by decide) rfl (Nat.le_of_ble_eq_true rfl) ?_
  intro p e s m args below meth c ls S hr hlk hP hK hl
  obtain ⟨hx, hb, hml, hown, hts⟩ := id S
  have inX0 : ∀ w ∈ wsX00, w ∈ wsX0_orderByPairs := fun w h => List.mem_cons_of_mem _ (List.mem_append_right _ h)
  have hl : lv_has ls 4 [(0, .ref h0)] := hl
  refine lv_iconst (v := (0 : Int32)) hx hb dX0_orderByPairs_0 (by decide) ?_
  refine lv_istore_n (lv' := [(1, .int (0 : Int32)), (0, .ref h0)]) hx hb dX0_orderByPairs_1 rfl hl (by decide) rfl (fun ls hl => ?_)
  refine lv_iconst (v := (0 : Int32)) hx hb dX0_orderByPairs_2 (by decide) ?_
  refine lv_istore_n (lv' := [(2, .int (0 : Int32)), (1, .int (0 : Int32)), (0, .ref h0)]) hx hb dX0_orderByPairs_3 rfl hl (by decide) rfl (fun ls hl => ?_)
  have L1 : ∀ (n j0 : Nat), j0 + n = 6 → ∀ (ls : Array Slot), lv_has ls 4 [(0, .ref h0), (1, .int (it j0 (f_orderByPairs_L4 u) (0 : Int32))), (2, .int (nI j0))] → W p l e rm_X0_orderByPairs s m args below meth c s.heap [] 0 0 (MQ below (kQ (some (.int (f_orderByPairs u)))) args s 0 0 (fun _ => False)) (F0 m 4 ls []) := by
    intro n
    induction n with
    | zero =>
      intro j0 hj1 ls hl
      obtain rfl : j0 = 6 := by omega
      refine lv_iload_n hx hb dX0_orderByPairs_4 rfl (lv_at hl 2 rfl) ?_
      refine lv_bipush (v := (6 : Int32)) hx hb dX0_orderByPairs_5 (by decide) ?_
      refine lv_icmp_ge (tgt := 94) hx hb dX0_orderByPairs_7 (by decide) (fun c_7 => ?_) (fun c_7 => ?_)
      · refine lv_aload_n hx hb dX0_orderByPairs_94 rfl (lv_at hl 0 rfl) ?_
        refine lv_iload_n hx hb dX0_orderByPairs_95 rfl (lv_at hl 1 rfl) ?_
        refine kc_v (As := [.int (it 6 (f_orderByPairs_L4 u) (0 : Int32))]) (rest := []) S (v := .int (f_dividedForOrder u (it 6 (f_orderByPairs_L4 u) (0 : Int32)))) (c_X0_dividedForOrder l dC dI cI cZ cO h0 q u (it 6 (f_orderByPairs_L4 u) (0 : Int32))) gX0_orderByPairs_X0_dividedForOrder mi_X0_dividedForOrder ⟨rfl, rfl⟩ ⟨Nat.le_of_ble_eq_true rfl, Nat.le_of_ble_eq_true rfl⟩ hK hP 0 rfl rfl ⟨Nat.le_refl _, Nat.le_refl _⟩ dX0_orderByPairs_96 rfl hl.1 rfl (Nat.le_of_ble_eq_true rfl) ?_
        have r2 : f_orderByPairs u = f_dividedForOrder u (it 6 (f_orderByPairs_L4 u) (0 : Int32)) := by
          rw [f_orderByPairs]
        exact kr_i hx hb hr hlk dX0_orderByPairs_99 r2.symm
      · exact absurd (nI_le (a := 6) (by omega) (by omega)) c_7
    | succ n ih1 =>
      intro j0 hj1 ls hl
      refine lv_iload_n hx hb dX0_orderByPairs_4 rfl (lv_at hl 2 rfl) ?_
      refine lv_bipush (v := (6 : Int32)) hx hb dX0_orderByPairs_5 (by decide) ?_
      refine lv_icmp_ge (tgt := 94) hx hb dX0_orderByPairs_7 (by decide) (fun c_7 => ?_) (fun c_7 => ?_)
      · exact absurd c_7 (nI_ge (b := 6) (by omega) (by decide))
      · refine lv_iconst (v := (0 : Int32)) hx hb dX0_orderByPairs_10 (by decide) ?_
        refine lv_istore_n (lv' := [(3, .int (0 : Int32)), (0, .ref h0), (1, .int (it j0 (f_orderByPairs_L4 u) (0 : Int32))), (2, .int (nI j0))]) hx hb dX0_orderByPairs_11 rfl hl (by decide) rfl (fun ls hl => ?_)
        have L3 : ∀ (n j1 : Nat), j1 + n = 6 → ∀ (ls : Array Slot), lv_has ls 4 [(0, .ref h0), (1, .int (it j1 (f_orderByPairs_L12 u j0 (it j0 (f_orderByPairs_L4 u) (0 : Int32))) (it j0 (f_orderByPairs_L4 u) (0 : Int32)))), (2, .int (nI j0)), (3, .int (nI j1))] → W p l e rm_X0_orderByPairs s m args below meth c s.heap [] 0 0 (MQ below (kQ (some (.int (f_orderByPairs u)))) args s 0 0 (fun _ => False)) (F0 m 12 ls []) := by
          intro n
          induction n with
          | zero =>
            intro j1 hj3 ls hl
            obtain rfl : j1 = 6 := by omega
            refine lv_iload_n hx hb dX0_orderByPairs_12 rfl (lv_at hl 3 rfl) ?_
            refine lv_bipush (v := (6 : Int32)) hx hb dX0_orderByPairs_13 (by decide) ?_
            refine lv_icmp_ge (tgt := 88) hx hb dX0_orderByPairs_15 (by decide) (fun c_15 => ?_) (fun c_15 => ?_)
            · refine lv_iinc (v := nI (j0 + 1)) (lv' := [(2, .int (nI (j0 + 1))), (0, .ref h0), (1, .int (it 6 (f_orderByPairs_L12 u j0 (it j0 (f_orderByPairs_L4 u) (0 : Int32))) (it j0 (f_orderByPairs_L4 u) (0 : Int32)))), (3, .int (nI 6))]) hx hb dX0_orderByPairs_88 hl (k := 2) rfl (nI_add j0 1) (by decide) rfl (fun ls hl => ?_)
              refine lv_goto (tgt := 4) hx hb dX0_orderByPairs_91 (by decide) ?_
              have b4 : f_orderByPairs_L4 u j0 (it j0 (f_orderByPairs_L4 u) (0 : Int32)) = it 6 (f_orderByPairs_L12 u j0 (it j0 (f_orderByPairs_L4 u) (0 : Int32))) (it j0 (f_orderByPairs_L4 u) (0 : Int32)) := by
                rw [f_orderByPairs_L4]
              have e4 : it (j0 + 1) (f_orderByPairs_L4 u) (0 : Int32) = it 6 (f_orderByPairs_L12 u j0 (it j0 (f_orderByPairs_L4 u) (0 : Int32))) (it j0 (f_orderByPairs_L4 u) (0 : Int32)) := (it_s _ _ _).trans b4
              exact ih1 (j0 + 1) (by omega) ls (by rw [e4]; exact lv_sub hl [1, 2, 0] rfl)
            · exact absurd (nI_le (a := 6) (by omega) (by omega)) c_15
          | succ n ih3 =>
            intro j1 hj3 ls hl
            refine lv_iload_n hx hb dX0_orderByPairs_12 rfl (lv_at hl 3 rfl) ?_
            refine lv_bipush (v := (6 : Int32)) hx hb dX0_orderByPairs_13 (by decide) ?_
            refine lv_icmp_ge (tgt := 88) hx hb dX0_orderByPairs_15 (by decide) (fun c_15 => ?_) (fun c_15 => ?_)
            · exact absurd c_15 (nI_ge (b := 6) (by omega) (by decide))
            · refine lv_aload_n hx hb dX0_orderByPairs_18 rfl (lv_at hl 0 rfl) ?_
              refine lv_iload_n hx hb dX0_orderByPairs_19 rfl (lv_at hl 2 rfl) ?_
              refine kc_v (As := [.int (nI j0)]) (rest := []) S (v := .int (bI (f_goes u (nI j0)))) (c_X0_goes l dC dI cI cZ cO h0 q u (nI j0)) gX0_orderByPairs_X0_goes mi_X0_goes ⟨rfl, rfl⟩ ⟨Nat.le_of_ble_eq_true rfl, Nat.le_of_ble_eq_true rfl⟩ hK hP 0 rfl rfl ⟨Nat.le_refl _, Nat.le_refl _⟩ dX0_orderByPairs_20 rfl hl.1 rfl (Nat.le_of_ble_eq_true rfl) ?_
              refine kb_eq (tgt := 82) hx hb dX0_orderByPairs_23 (by decide) (fun c_23 => ?_) (fun c_23 => ?_)
              · refine lv_iinc (v := nI (j1 + 1)) (lv' := [(3, .int (nI (j1 + 1))), (0, .ref h0), (1, .int (it j1 (f_orderByPairs_L12 u j0 (it j0 (f_orderByPairs_L4 u) (0 : Int32))) (it j0 (f_orderByPairs_L4 u) (0 : Int32)))), (2, .int (nI j0))]) hx hb dX0_orderByPairs_82 hl (k := 3) rfl (nI_add j1 1) (by decide) rfl (fun ls hl => ?_)
                refine lv_goto (tgt := 12) hx hb dX0_orderByPairs_85 (by decide) ?_
                have b5 : f_orderByPairs_L12 u j0 (it j0 (f_orderByPairs_L4 u) (0 : Int32)) j1 (it j1 (f_orderByPairs_L12 u j0 (it j0 (f_orderByPairs_L4 u) (0 : Int32))) (it j0 (f_orderByPairs_L4 u) (0 : Int32))) = it j1 (f_orderByPairs_L12 u j0 (it j0 (f_orderByPairs_L4 u) (0 : Int32))) (it j0 (f_orderByPairs_L4 u) (0 : Int32)) := by
                  rw [f_orderByPairs_L12, if_neg c_23]
                have e5 : it (j1 + 1) (f_orderByPairs_L12 u j0 (it j0 (f_orderByPairs_L4 u) (0 : Int32))) (it j0 (f_orderByPairs_L4 u) (0 : Int32)) = it j1 (f_orderByPairs_L12 u j0 (it j0 (f_orderByPairs_L4 u) (0 : Int32))) (it j0 (f_orderByPairs_L4 u) (0 : Int32)) := (it_s _ _ _).trans b5
                exact ih3 (j1 + 1) (by omega) ls (by rw [e5]; exact lv_sub hl [1, 2, 3, 0] rfl)
              · refine lv_aload_n hx hb dX0_orderByPairs_26 rfl (lv_at hl 0 rfl) ?_
                refine lv_iload_n hx hb dX0_orderByPairs_27 rfl (lv_at hl 3 rfl) ?_
                refine kc_v (As := [.int (nI j1)]) (rest := []) S (v := .int (bI (f_goes u (nI j1)))) (c_X0_goes l dC dI cI cZ cO h0 q u (nI j1)) gX0_orderByPairs_X0_goes mi_X0_goes ⟨rfl, rfl⟩ ⟨Nat.le_of_ble_eq_true rfl, Nat.le_of_ble_eq_true rfl⟩ hK hP 0 rfl rfl ⟨Nat.le_refl _, Nat.le_refl _⟩ dX0_orderByPairs_28 rfl hl.1 rfl (Nat.le_of_ble_eq_true rfl) ?_
                refine kb_eq (tgt := 82) hx hb dX0_orderByPairs_31 (by decide) (fun c_31 => ?_) (fun c_31 => ?_)
                · refine lv_iinc (v := nI (j1 + 1)) (lv' := [(3, .int (nI (j1 + 1))), (0, .ref h0), (1, .int (it j1 (f_orderByPairs_L12 u j0 (it j0 (f_orderByPairs_L4 u) (0 : Int32))) (it j0 (f_orderByPairs_L4 u) (0 : Int32)))), (2, .int (nI j0))]) hx hb dX0_orderByPairs_82 hl (k := 3) rfl (nI_add j1 1) (by decide) rfl (fun ls hl => ?_)
                  refine lv_goto (tgt := 12) hx hb dX0_orderByPairs_85 (by decide) ?_
                  have b6 : f_orderByPairs_L12 u j0 (it j0 (f_orderByPairs_L4 u) (0 : Int32)) j1 (it j1 (f_orderByPairs_L12 u j0 (it j0 (f_orderByPairs_L4 u) (0 : Int32))) (it j0 (f_orderByPairs_L4 u) (0 : Int32))) = it j1 (f_orderByPairs_L12 u j0 (it j0 (f_orderByPairs_L4 u) (0 : Int32))) (it j0 (f_orderByPairs_L4 u) (0 : Int32)) := by
                    rw [f_orderByPairs_L12, if_pos c_23, if_neg c_31]
                  have e6 : it (j1 + 1) (f_orderByPairs_L12 u j0 (it j0 (f_orderByPairs_L4 u) (0 : Int32))) (it j0 (f_orderByPairs_L4 u) (0 : Int32)) = it j1 (f_orderByPairs_L12 u j0 (it j0 (f_orderByPairs_L4 u) (0 : Int32))) (it j0 (f_orderByPairs_L4 u) (0 : Int32)) := (it_s _ _ _).trans b6
                  exact ih3 (j1 + 1) (by omega) ls (by rw [e6]; exact lv_sub hl [1, 2, 3, 0] rfl)
                · refine lv_iload_n hx hb dX0_orderByPairs_34 rfl (lv_at hl 1 rfl) ?_
                  refine lv_aload_n hx hb dX0_orderByPairs_35 rfl (lv_at hl 0 rfl) ?_
                  refine va_get (D := (dC, dI)) (ci := 0) (v := .ref (q 1)) (C := RX0) (T := TX0) (N := 14) hx hb hts inX0 hown hK hP 0 rfl rfl 1 (by decide) (hts (.fieldLink RX0 15 "BoardMetronomes$Bench" "phases" "[I") (by decide +kernel)) (fun _ h9 => h9) rfl dX0_orderByPairs_36 ?_
                  refine lv_iload_n hx hb dX0_orderByPairs_39 rfl (lv_at hl 2 rfl) ?_
                  refine k_iald (D := (dC, dI)) hx hb hK hP 2 0 rfl rfl (j := j0) (by omega) (by decide) dX0_orderByPairs_40 ?_
                  refine kc_p (y := yX0_swing) (As := [.int (u 1 j0)]) (rest := [.int (it j1 (f_orderByPairs_L12 u j0 (it j0 (f_orderByPairs_L4 u) (0 : Int32))) (it j0 (f_orderByPairs_L4 u) (0 : Int32)))]) rfl S (v := .int (f_swing (u 1 j0))) (c_X0_swing l (u 1 j0)) gX0_orderByPairs_X0_swing mi_X0_swing ⟨rfl, rfl⟩ ⟨Nat.le_of_ble_eq_true rfl, Nat.le_of_ble_eq_true rfl⟩ ⟨Nat.le_refl _, Nat.le_refl _⟩ dX0_orderByPairs_41 rfl hl.1 rfl (Nat.le_of_ble_eq_true rfl) ?_
                  refine lv_aload_n hx hb dX0_orderByPairs_44 rfl (lv_at hl 0 rfl) ?_
                  refine va_get (D := (dC, dI)) (ci := 0) (v := .ref (q 1)) (C := RX0) (T := TX0) (N := 14) hx hb hts inX0 hown hK hP 0 rfl rfl 1 (by decide) (hts (.fieldLink RX0 15 "BoardMetronomes$Bench" "phases" "[I") (by decide +kernel)) (fun _ h9 => h9) rfl dX0_orderByPairs_45 ?_
                  refine lv_iload_n hx hb dX0_orderByPairs_48 rfl (lv_at hl 3 rfl) ?_
                  refine k_iald (D := (dC, dI)) hx hb hK hP 2 0 rfl rfl (j := j1) (by omega) (by decide) dX0_orderByPairs_49 ?_
                  refine kc_p (y := yX0_swing) (As := [.int (u 1 j1)]) (rest := [.int (f_swing (u 1 j0)), .int (it j1 (f_orderByPairs_L12 u j0 (it j0 (f_orderByPairs_L4 u) (0 : Int32))) (it j0 (f_orderByPairs_L4 u) (0 : Int32)))]) rfl S (v := .int (f_swing (u 1 j1))) (c_X0_swing l (u 1 j1)) gX0_orderByPairs_X0_swing mi_X0_swing ⟨rfl, rfl⟩ ⟨Nat.le_of_ble_eq_true rfl, Nat.le_of_ble_eq_true rfl⟩ ⟨Nat.le_refl _, Nat.le_refl _⟩ dX0_orderByPairs_50 rfl hl.1 rfl (Nat.le_of_ble_eq_true rfl) ?_
                  refine lv_imul hx hb dX0_orderByPairs_53 ?_
                  refine lv_aload_n hx hb dX0_orderByPairs_54 rfl (lv_at hl 0 rfl) ?_
                  refine va_get (D := (dC, dI)) (ci := 0) (v := .ref (q 1)) (C := RX0) (T := TX0) (N := 14) hx hb hts inX0 hown hK hP 0 rfl rfl 1 (by decide) (hts (.fieldLink RX0 15 "BoardMetronomes$Bench" "phases" "[I") (by decide +kernel)) (fun _ h9 => h9) rfl dX0_orderByPairs_55 ?_
                  refine lv_iload_n hx hb dX0_orderByPairs_58 rfl (lv_at hl 2 rfl) ?_
                  refine k_iald (D := (dC, dI)) hx hb hK hP 2 0 rfl rfl (j := j0) (by omega) (by decide) dX0_orderByPairs_59 ?_
                  refine kc_p (y := yX0_quarterOn) (As := [.int (u 1 j0)]) (rest := [.int ((f_swing (u 1 j0)) * (f_swing (u 1 j1))), .int (it j1 (f_orderByPairs_L12 u j0 (it j0 (f_orderByPairs_L4 u) (0 : Int32))) (it j0 (f_orderByPairs_L4 u) (0 : Int32)))]) rfl S (v := .int (f_quarterOn (u 1 j0))) (c_X0_quarterOn l (u 1 j0)) gX0_orderByPairs_X0_quarterOn mi_X0_quarterOn ⟨rfl, rfl⟩ ⟨Nat.le_of_ble_eq_true rfl, Nat.le_of_ble_eq_true rfl⟩ ⟨Nat.le_refl _, Nat.le_refl _⟩ dX0_orderByPairs_60 rfl hl.1 rfl (Nat.le_of_ble_eq_true rfl) ?_
                  refine kc_p (y := yX0_swing) (As := [.int (f_quarterOn (u 1 j0))]) (rest := [.int ((f_swing (u 1 j0)) * (f_swing (u 1 j1))), .int (it j1 (f_orderByPairs_L12 u j0 (it j0 (f_orderByPairs_L4 u) (0 : Int32))) (it j0 (f_orderByPairs_L4 u) (0 : Int32)))]) rfl S (v := .int (f_swing (f_quarterOn (u 1 j0)))) (c_X0_swing l (f_quarterOn (u 1 j0))) gX0_orderByPairs_X0_swing mi_X0_swing ⟨rfl, rfl⟩ ⟨Nat.le_of_ble_eq_true rfl, Nat.le_of_ble_eq_true rfl⟩ ⟨Nat.le_refl _, Nat.le_refl _⟩ dX0_orderByPairs_63 rfl hl.1 rfl (Nat.le_of_ble_eq_true rfl) ?_
                  refine lv_aload_n hx hb dX0_orderByPairs_66 rfl (lv_at hl 0 rfl) ?_
                  refine va_get (D := (dC, dI)) (ci := 0) (v := .ref (q 1)) (C := RX0) (T := TX0) (N := 14) hx hb hts inX0 hown hK hP 0 rfl rfl 1 (by decide) (hts (.fieldLink RX0 15 "BoardMetronomes$Bench" "phases" "[I") (by decide +kernel)) (fun _ h9 => h9) rfl dX0_orderByPairs_67 ?_
                  refine lv_iload_n hx hb dX0_orderByPairs_70 rfl (lv_at hl 3 rfl) ?_
                  refine k_iald (D := (dC, dI)) hx hb hK hP 2 0 rfl rfl (j := j1) (by omega) (by decide) dX0_orderByPairs_71 ?_
                  refine kc_p (y := yX0_quarterOn) (As := [.int (u 1 j1)]) (rest := [.int (f_swing (f_quarterOn (u 1 j0))), .int ((f_swing (u 1 j0)) * (f_swing (u 1 j1))), .int (it j1 (f_orderByPairs_L12 u j0 (it j0 (f_orderByPairs_L4 u) (0 : Int32))) (it j0 (f_orderByPairs_L4 u) (0 : Int32)))]) rfl S (v := .int (f_quarterOn (u 1 j1))) (c_X0_quarterOn l (u 1 j1)) gX0_orderByPairs_X0_quarterOn mi_X0_quarterOn ⟨rfl, rfl⟩ ⟨Nat.le_of_ble_eq_true rfl, Nat.le_of_ble_eq_true rfl⟩ ⟨Nat.le_refl _, Nat.le_refl _⟩ dX0_orderByPairs_72 rfl hl.1 rfl (Nat.le_of_ble_eq_true rfl) ?_
                  refine kc_p (y := yX0_swing) (As := [.int (f_quarterOn (u 1 j1))]) (rest := [.int (f_swing (f_quarterOn (u 1 j0))), .int ((f_swing (u 1 j0)) * (f_swing (u 1 j1))), .int (it j1 (f_orderByPairs_L12 u j0 (it j0 (f_orderByPairs_L4 u) (0 : Int32))) (it j0 (f_orderByPairs_L4 u) (0 : Int32)))]) rfl S (v := .int (f_swing (f_quarterOn (u 1 j1)))) (c_X0_swing l (f_quarterOn (u 1 j1))) gX0_orderByPairs_X0_swing mi_X0_swing ⟨rfl, rfl⟩ ⟨Nat.le_of_ble_eq_true rfl, Nat.le_of_ble_eq_true rfl⟩ ⟨Nat.le_refl _, Nat.le_refl _⟩ dX0_orderByPairs_75 rfl hl.1 rfl (Nat.le_of_ble_eq_true rfl) ?_
                  refine lv_imul hx hb dX0_orderByPairs_78 ?_
                  refine lv_iadd hx hb dX0_orderByPairs_79 ?_
                  refine lv_iadd hx hb dX0_orderByPairs_80 ?_
                  refine lv_istore_n (lv' := [(1, .int ((it j1 (f_orderByPairs_L12 u j0 (it j0 (f_orderByPairs_L4 u) (0 : Int32))) (it j0 (f_orderByPairs_L4 u) (0 : Int32))) + (((f_swing (u 1 j0)) * (f_swing (u 1 j1))) + ((f_swing (f_quarterOn (u 1 j0))) * (f_swing (f_quarterOn (u 1 j1))))))), (0, .ref h0), (2, .int (nI j0)), (3, .int (nI j1))]) hx hb dX0_orderByPairs_81 rfl hl (by decide) rfl (fun ls hl => ?_)
                  refine lv_iinc (v := nI (j1 + 1)) (lv' := [(3, .int (nI (j1 + 1))), (1, .int ((it j1 (f_orderByPairs_L12 u j0 (it j0 (f_orderByPairs_L4 u) (0 : Int32))) (it j0 (f_orderByPairs_L4 u) (0 : Int32))) + (((f_swing (u 1 j0)) * (f_swing (u 1 j1))) + ((f_swing (f_quarterOn (u 1 j0))) * (f_swing (f_quarterOn (u 1 j1))))))), (0, .ref h0), (2, .int (nI j0))]) hx hb dX0_orderByPairs_82 hl (k := 3) rfl (nI_add j1 1) (by decide) rfl (fun ls hl => ?_)
                  refine lv_goto (tgt := 12) hx hb dX0_orderByPairs_85 (by decide) ?_
                  have b7 : f_orderByPairs_L12 u j0 (it j0 (f_orderByPairs_L4 u) (0 : Int32)) j1 (it j1 (f_orderByPairs_L12 u j0 (it j0 (f_orderByPairs_L4 u) (0 : Int32))) (it j0 (f_orderByPairs_L4 u) (0 : Int32))) = (it j1 (f_orderByPairs_L12 u j0 (it j0 (f_orderByPairs_L4 u) (0 : Int32))) (it j0 (f_orderByPairs_L4 u) (0 : Int32))) + (((f_swing (u 1 j0)) * (f_swing (u 1 j1))) + ((f_swing (f_quarterOn (u 1 j0))) * (f_swing (f_quarterOn (u 1 j1))))) := by
                    rw [f_orderByPairs_L12, if_pos c_23, if_pos c_31]
                  have e7 : it (j1 + 1) (f_orderByPairs_L12 u j0 (it j0 (f_orderByPairs_L4 u) (0 : Int32))) (it j0 (f_orderByPairs_L4 u) (0 : Int32)) = (it j1 (f_orderByPairs_L12 u j0 (it j0 (f_orderByPairs_L4 u) (0 : Int32))) (it j0 (f_orderByPairs_L4 u) (0 : Int32))) + (((f_swing (u 1 j0)) * (f_swing (u 1 j1))) + ((f_swing (f_quarterOn (u 1 j0))) * (f_swing (f_quarterOn (u 1 j1))))) := (it_s _ _ _).trans b7
                  exact ih3 (j1 + 1) (by omega) ls (by rw [e7]; exact lv_sub hl [2, 1, 3, 0] rfl)
        exact L3 6 0 (by omega) ls (lv_sub hl [1, 2, 3, 0] rfl)
  exact L1 6 0 (by omega) ls (lv_sub hl [2, 1, 0] rfl)

def rm_X0_distance : Room := { frames := 1, cells := 0, slots := 0, locals := 21 }
theorem mi_X0_distance : kM yX0_distance wsX0_distance cX0_distance 4 (some .int) 2 := ⟨⟨_, rfl⟩, by decide, by decide, by decide +kernel⟩
def f_distance (u : BS) (p0 : Int32) (p1 : Int32) : Int32 := if (f_has u p0) = true then (if (f_has u p1) = true then (jmin (jabs ((u 1 p0.toNatClampNeg) - (u 1 p1.toNatClampNeg))) ((3600 : Int32) - (jabs ((u 1 p0.toNatClampNeg) - (u 1 p1.toNatClampNeg))))) else (0 : Int32)) else (0 : Int32)
set_option maxHeartbeats 1000000 in
set_option maxRecDepth 100000 in
theorem c_X0_distance (l : Launch) (dC : Nat → ClassId) (dI : Nat → Nat → Nat) (cI cZ cO : ClassId) (h0 : Nat) (q : Nat → Nat) (u : BS) (p0 : Int32) (p1 : Int32) : Met l yX0_distance wsX0_distance rm_X0_distance (va_Pc [.ref h0, .int p0, .int p1] (fun U => va_P (dC, dI) vwCl (BW cI cZ h0 q u) U.heap ∧ va_K (dC, dI) vwCl (TY cI cZ cO) U)) (kQ (some (.int (f_distance u p0 p1)))) 0 0 (fun _ => False) := by
  refine kofR (cc := cX0_distance) (maxL := 4) (ret := some .int) (by decide) rfl (Nat.le_of_ble_eq_true rfl) ?_
  intro p e s m args below meth c ls S hr hlk hP hK hl
  obtain ⟨hx, hb, hml, hown, hts⟩ := id S
  have inX0 : ∀ w ∈ wsX00, w ∈ wsX0_distance := fun w h => List.mem_cons_of_mem _ (List.mem_append_right _ h)
  have hl : lv_has ls 4 [(0, .ref h0), (1, .int p0), (2, .int p1)] := hl
  refine lv_aload_n hx hb dX0_distance_0 rfl (lv_at hl 0 rfl) ?_
  refine lv_iload_n hx hb dX0_distance_1 rfl (lv_at hl 1 rfl) ?_
  refine kc_v (As := [.int p0]) (rest := []) S (v := .int (bI (f_has u p0))) (c_X0_has l dC dI cI cZ cO h0 q u p0) gX0_distance_X0_has mi_X0_has ⟨rfl, rfl⟩ ⟨Nat.le_of_ble_eq_true rfl, Nat.le_of_ble_eq_true rfl⟩ hK hP 0 rfl rfl ⟨Nat.le_refl _, Nat.le_refl _⟩ dX0_distance_2 rfl hl.1 rfl (Nat.le_of_ble_eq_true rfl) ?_
  refine kb_eq (tgt := 16) hx hb dX0_distance_5 (by decide) (fun c_5 => ?_) (fun c_5 => ?_)
  · refine lv_iconst (v := (0 : Int32)) hx hb dX0_distance_16 (by decide) ?_
    have r1 : f_distance u p0 p1 = (0 : Int32) := by
      rw [f_distance, if_neg c_5]
    exact kr_i hx hb hr hlk dX0_distance_17 r1.symm
  · refine lv_aload_n hx hb dX0_distance_8 rfl (lv_at hl 0 rfl) ?_
    refine lv_iload_n hx hb dX0_distance_9 rfl (lv_at hl 2 rfl) ?_
    refine kc_v (As := [.int p1]) (rest := []) S (v := .int (bI (f_has u p1))) (c_X0_has l dC dI cI cZ cO h0 q u p1) gX0_distance_X0_has mi_X0_has ⟨rfl, rfl⟩ ⟨Nat.le_of_ble_eq_true rfl, Nat.le_of_ble_eq_true rfl⟩ hK hP 0 rfl rfl ⟨Nat.le_refl _, Nat.le_refl _⟩ dX0_distance_10 rfl hl.1 rfl (Nat.le_of_ble_eq_true rfl) ?_
    refine kb_ne (tgt := 18) hx hb dX0_distance_13 (by decide) (fun c_13 => ?_) (fun c_13 => ?_)
    · refine lv_aload_n hx hb dX0_distance_18 rfl (lv_at hl 0 rfl) ?_
      refine va_get (D := (dC, dI)) (ci := 0) (v := .ref (q 1)) (C := RX0) (T := TX0) (N := 14) hx hb hts inX0 hown hK hP 0 rfl rfl 1 (by decide) (hts (.fieldLink RX0 15 "BoardMetronomes$Bench" "phases" "[I") (by decide +kernel)) (fun _ h9 => h9) rfl dX0_distance_19 ?_
      refine lv_iload_n hx hb dX0_distance_22 rfl (lv_at hl 1 rfl) ?_
      refine va_iald (D := (dC, dI)) hx hb hK hP 2 0 rfl rfl (f_has_in c_5) dX0_distance_23 ?_
      refine lv_aload_n hx hb dX0_distance_24 rfl (lv_at hl 0 rfl) ?_
      refine va_get (D := (dC, dI)) (ci := 0) (v := .ref (q 1)) (C := RX0) (T := TX0) (N := 14) hx hb hts inX0 hown hK hP 0 rfl rfl 1 (by decide) (hts (.fieldLink RX0 15 "BoardMetronomes$Bench" "phases" "[I") (by decide +kernel)) (fun _ h9 => h9) rfl dX0_distance_25 ?_
      refine lv_iload_n hx hb dX0_distance_28 rfl (lv_at hl 2 rfl) ?_
      refine va_iald (D := (dC, dI)) hx hb hK hP 2 0 rfl rfl (f_has_in c_13) dX0_distance_29 ?_
      refine lv_isub hx hb dX0_distance_30 ?_
      refine va_mabs hx hb (hml.trans hl.1.symm) hown (hts (.methodLink RX0 68 Lib.Math.abs.name) (by decide +kernel)) (hts (.static Lib.Math.abs.name) (by decide +kernel)) (hts (.initialized "java/lang/Math") (by decide +kernel)) (hts (.code Lib.Math.abs.name Lib.Math.abs.code 1 (some .int)) (List.mem_of_getElem? (i := 5) rfl)) (Nat.le_of_ble_eq_true rfl) (Nat.le_of_ble_eq_true rfl) (Nat.le_refl _) (Nat.le_refl _) dX0_distance_31 ?_
      refine W.eq (g2 := F0 m 34 ls [.int (jabs ((u 1 p0.toNatClampNeg) - (u 1 p1.toNatClampNeg)))]) rfl ?_
      refine lv_istore_n (lv' := [(3, .int (jabs ((u 1 p0.toNatClampNeg) - (u 1 p1.toNatClampNeg)))), (0, .ref h0), (1, .int p0), (2, .int p1)]) hx hb dX0_distance_34 rfl hl (by decide) rfl (fun ls hl => ?_)
      refine lv_iload_n hx hb dX0_distance_35 rfl (lv_at hl 0 rfl) ?_
      refine lv_sipush (v := (3600 : Int32)) hx hb dX0_distance_36 (by decide) ?_
      refine lv_iload_n hx hb dX0_distance_39 rfl (lv_at hl 0 rfl) ?_
      refine lv_isub hx hb dX0_distance_40 ?_
      refine va_mmin hx hb (hml.trans hl.1.symm) hown (hts (.methodLink RX0 105 Lib.Math.min.name) (by decide +kernel)) (hts (.static Lib.Math.min.name) (by decide +kernel)) (hts (.initialized "java/lang/Math") (by decide +kernel)) (hts (.code Lib.Math.min.name Lib.Math.min.code 2 (some .int)) (List.mem_of_getElem? (i := 8) rfl)) (Nat.le_of_ble_eq_true rfl) (Nat.le_of_ble_eq_true rfl) (Nat.le_refl _) (Nat.le_refl _) dX0_distance_41 ?_
      refine W.eq (g2 := F0 m 44 ls [.int (jmin (jabs ((u 1 p0.toNatClampNeg) - (u 1 p1.toNatClampNeg))) ((3600 : Int32) - (jabs ((u 1 p0.toNatClampNeg) - (u 1 p1.toNatClampNeg)))))]) rfl ?_
      have r2 : f_distance u p0 p1 = jmin (jabs ((u 1 p0.toNatClampNeg) - (u 1 p1.toNatClampNeg))) ((3600 : Int32) - (jabs ((u 1 p0.toNatClampNeg) - (u 1 p1.toNatClampNeg)))) := by
        rw [f_distance, if_pos c_5, if_pos c_13]
      exact kr_i hx hb hr hlk dX0_distance_44 r2.symm
    · refine lv_iconst (v := (0 : Int32)) hx hb dX0_distance_16 (by decide) ?_
      have r3 : f_distance u p0 p1 = (0 : Int32) := by
        rw [f_distance, if_pos c_5, if_neg c_13]
      exact kr_i hx hb hr hlk dX0_distance_17 r3.symm

def rm_X0_greatestDistance : Room := { frames := 2, cells := 0, slots := 0, locals := 44 }
theorem mi_X0_greatestDistance : kM yX0_greatestDistance wsX0_greatestDistance cX0_greatestDistance 4 (some .int) 0 := ⟨⟨_, rfl⟩, by decide, by decide, by decide +kernel⟩
def f_greatestDistance_L14 (u : BS) (j0 : Nat) (x0 : Int32) (j1 : Nat) (x1 : Int32) : Int32 := if (f_goes u (nI j0)) = true then (if (f_goes u (nI (j0 + 1 + j1))) = true then (jmax x1 (f_distance u (nI j0) (nI (j0 + 1 + j1)))) else x1) else x1
def f_greatestDistance_L4 (u : BS) (j0 : Nat) (x0 : Int32) : Int32 := it (6 - (j0 + 1)) (f_greatestDistance_L14 u j0 x0) x0
def f_greatestDistance (u : BS) : Int32 := it 6 (f_greatestDistance_L4 u) (0 : Int32)
set_option maxHeartbeats 1000000 in
set_option maxRecDepth 100000 in
theorem c_X0_greatestDistance (l : Launch) (dC : Nat → ClassId) (dI : Nat → Nat → Nat) (cI cZ cO : ClassId) (h0 : Nat) (q : Nat → Nat) (u : BS) : Met l yX0_greatestDistance wsX0_greatestDistance rm_X0_greatestDistance (va_Pc [.ref h0] (fun U => va_P (dC, dI) vwCl (BW cI cZ h0 q u) U.heap ∧ va_K (dC, dI) vwCl (TY cI cZ cO) U)) (kQ (some (.int (f_greatestDistance u)))) 0 0 (fun _ => False) := by
  refine kofR (cc := cX0_greatestDistance) (maxL := 4) (ret := some .int) (by decide) rfl (Nat.le_of_ble_eq_true rfl) ?_
  intro p e s m args below meth c ls S hr hlk hP hK hl
  obtain ⟨hx, hb, hml, hown, hts⟩ := id S
  have inX0 : ∀ w ∈ wsX00, w ∈ wsX0_greatestDistance := fun w h => List.mem_cons_of_mem _ (List.mem_append_right _ h)
  have hl : lv_has ls 4 [(0, .ref h0)] := hl
  refine lv_iconst (v := (0 : Int32)) hx hb dX0_greatestDistance_0 (by decide) ?_
  refine lv_istore_n (lv' := [(1, .int (0 : Int32)), (0, .ref h0)]) hx hb dX0_greatestDistance_1 rfl hl (by decide) rfl (fun ls hl => ?_)
  refine lv_iconst (v := (0 : Int32)) hx hb dX0_greatestDistance_2 (by decide) ?_
  refine lv_istore_n (lv' := [(2, .int (0 : Int32)), (1, .int (0 : Int32)), (0, .ref h0)]) hx hb dX0_greatestDistance_3 rfl hl (by decide) rfl (fun ls hl => ?_)
  have L1 : ∀ (n j0 : Nat), j0 + n = 6 → ∀ (ls : Array Slot), lv_has ls 4 [(0, .ref h0), (1, .int (it j0 (f_greatestDistance_L4 u) (0 : Int32))), (2, .int (nI j0))] → W p l e rm_X0_greatestDistance s m args below meth c s.heap [] 0 0 (MQ below (kQ (some (.int (f_greatestDistance u)))) args s 0 0 (fun _ => False)) (F0 m 4 ls []) := by
    intro n
    induction n with
    | zero =>
      intro j0 hj1 ls hl
      obtain rfl : j0 = 6 := by omega
      refine lv_iload_n hx hb dX0_greatestDistance_4 rfl (lv_at hl 2 rfl) ?_
      refine lv_bipush (v := (6 : Int32)) hx hb dX0_greatestDistance_5 (by decide) ?_
      refine lv_icmp_ge (tgt := 59) hx hb dX0_greatestDistance_7 (by decide) (fun c_7 => ?_) (fun c_7 => ?_)
      · refine lv_iload_n hx hb dX0_greatestDistance_59 rfl (lv_at hl 1 rfl) ?_
        have r2 : f_greatestDistance u = it 6 (f_greatestDistance_L4 u) (0 : Int32) := by
          rw [f_greatestDistance]
        exact kr_i hx hb hr hlk dX0_greatestDistance_60 r2.symm
      · exact absurd (nI_le (a := 6) (by omega) (by omega)) c_7
    | succ n ih1 =>
      intro j0 hj1 ls hl
      refine lv_iload_n hx hb dX0_greatestDistance_4 rfl (lv_at hl 2 rfl) ?_
      refine lv_bipush (v := (6 : Int32)) hx hb dX0_greatestDistance_5 (by decide) ?_
      refine lv_icmp_ge (tgt := 59) hx hb dX0_greatestDistance_7 (by decide) (fun c_7 => ?_) (fun c_7 => ?_)
      · exact absurd c_7 (nI_ge (b := 6) (by omega) (by decide))
      · refine lv_iload_n hx hb dX0_greatestDistance_10 rfl (lv_at hl 2 rfl) ?_
        refine lv_iconst (v := (1 : Int32)) hx hb dX0_greatestDistance_11 (by decide) ?_
        refine k_iaddn (x := j0) (y := 1) hx hb dX0_greatestDistance_12 ?_
        refine lv_istore_n (lv' := [(3, .int (nI (j0 + 1))), (0, .ref h0), (1, .int (it j0 (f_greatestDistance_L4 u) (0 : Int32))), (2, .int (nI j0))]) hx hb dX0_greatestDistance_13 rfl hl (by decide) rfl (fun ls hl => ?_)
        have L3 : ∀ (n j1 : Nat), j1 + n = 6 - (j0 + 1) → ∀ (ls : Array Slot), lv_has ls 4 [(0, .ref h0), (1, .int (it j1 (f_greatestDistance_L14 u j0 (it j0 (f_greatestDistance_L4 u) (0 : Int32))) (it j0 (f_greatestDistance_L4 u) (0 : Int32)))), (2, .int (nI j0)), (3, .int (nI (j0 + 1 + j1)))] → W p l e rm_X0_greatestDistance s m args below meth c s.heap [] 0 0 (MQ below (kQ (some (.int (f_greatestDistance u)))) args s 0 0 (fun _ => False)) (F0 m 14 ls []) := by
          intro n
          induction n with
          | zero =>
            intro j1 hj3 ls hl
            obtain rfl : j1 = 6 - (j0 + 1) := by omega
            refine lv_iload_n hx hb dX0_greatestDistance_14 rfl (lv_at hl 3 rfl) ?_
            refine lv_bipush (v := (6 : Int32)) hx hb dX0_greatestDistance_15 (by decide) ?_
            refine lv_icmp_ge (tgt := 53) hx hb dX0_greatestDistance_17 (by decide) (fun c_17 => ?_) (fun c_17 => ?_)
            · refine lv_iinc (v := nI (j0 + 1)) (lv' := [(2, .int (nI (j0 + 1))), (0, .ref h0), (1, .int (it (6 - (j0 + 1)) (f_greatestDistance_L14 u j0 (it j0 (f_greatestDistance_L4 u) (0 : Int32))) (it j0 (f_greatestDistance_L4 u) (0 : Int32)))), (3, .int (nI (j0 + 1 + (6 - (j0 + 1)))))]) hx hb dX0_greatestDistance_53 hl (k := 2) rfl (nI_add j0 1) (by decide) rfl (fun ls hl => ?_)
              refine lv_goto (tgt := 4) hx hb dX0_greatestDistance_56 (by decide) ?_
              have b4 : f_greatestDistance_L4 u j0 (it j0 (f_greatestDistance_L4 u) (0 : Int32)) = it (6 - (j0 + 1)) (f_greatestDistance_L14 u j0 (it j0 (f_greatestDistance_L4 u) (0 : Int32))) (it j0 (f_greatestDistance_L4 u) (0 : Int32)) := by
                rw [f_greatestDistance_L4]
              have e4 : it (j0 + 1) (f_greatestDistance_L4 u) (0 : Int32) = it (6 - (j0 + 1)) (f_greatestDistance_L14 u j0 (it j0 (f_greatestDistance_L4 u) (0 : Int32))) (it j0 (f_greatestDistance_L4 u) (0 : Int32)) := (it_s _ _ _).trans b4
              exact ih1 (j0 + 1) (by omega) ls (by rw [e4]; exact lv_sub hl [1, 2, 0] rfl)
            · exact absurd (nI_le (a := 6) (by omega) (by omega)) c_17
          | succ n ih3 =>
            intro j1 hj3 ls hl
            refine lv_iload_n hx hb dX0_greatestDistance_14 rfl (lv_at hl 3 rfl) ?_
            refine lv_bipush (v := (6 : Int32)) hx hb dX0_greatestDistance_15 (by decide) ?_
            refine lv_icmp_ge (tgt := 53) hx hb dX0_greatestDistance_17 (by decide) (fun c_17 => ?_) (fun c_17 => ?_)
            · exact absurd c_17 (nI_ge (b := 6) (by omega) (by decide))
            · refine lv_aload_n hx hb dX0_greatestDistance_20 rfl (lv_at hl 0 rfl) ?_
              refine lv_iload_n hx hb dX0_greatestDistance_21 rfl (lv_at hl 2 rfl) ?_
              refine kc_v (As := [.int (nI j0)]) (rest := []) S (v := .int (bI (f_goes u (nI j0)))) (c_X0_goes l dC dI cI cZ cO h0 q u (nI j0)) gX0_greatestDistance_X0_goes mi_X0_goes ⟨rfl, rfl⟩ ⟨Nat.le_of_ble_eq_true rfl, Nat.le_of_ble_eq_true rfl⟩ hK hP 0 rfl rfl ⟨Nat.le_refl _, Nat.le_refl _⟩ dX0_greatestDistance_22 rfl hl.1 rfl (Nat.le_of_ble_eq_true rfl) ?_
              refine kb_eq (tgt := 47) hx hb dX0_greatestDistance_25 (by decide) (fun c_25 => ?_) (fun c_25 => ?_)
              · refine lv_iinc (v := nI ((j0 + 1 + j1) + 1)) (lv' := [(3, .int (nI ((j0 + 1 + j1) + 1))), (0, .ref h0), (1, .int (it j1 (f_greatestDistance_L14 u j0 (it j0 (f_greatestDistance_L4 u) (0 : Int32))) (it j0 (f_greatestDistance_L4 u) (0 : Int32)))), (2, .int (nI j0))]) hx hb dX0_greatestDistance_47 hl (k := 3) rfl (nI_add (j0 + 1 + j1) 1) (by decide) rfl (fun ls hl => ?_)
                refine lv_goto (tgt := 14) hx hb dX0_greatestDistance_50 (by decide) ?_
                have b5 : f_greatestDistance_L14 u j0 (it j0 (f_greatestDistance_L4 u) (0 : Int32)) j1 (it j1 (f_greatestDistance_L14 u j0 (it j0 (f_greatestDistance_L4 u) (0 : Int32))) (it j0 (f_greatestDistance_L4 u) (0 : Int32))) = it j1 (f_greatestDistance_L14 u j0 (it j0 (f_greatestDistance_L4 u) (0 : Int32))) (it j0 (f_greatestDistance_L4 u) (0 : Int32)) := by
                  rw [f_greatestDistance_L14, if_neg c_25]
                have e5 : it (j1 + 1) (f_greatestDistance_L14 u j0 (it j0 (f_greatestDistance_L4 u) (0 : Int32))) (it j0 (f_greatestDistance_L4 u) (0 : Int32)) = it j1 (f_greatestDistance_L14 u j0 (it j0 (f_greatestDistance_L4 u) (0 : Int32))) (it j0 (f_greatestDistance_L4 u) (0 : Int32)) := (it_s _ _ _).trans b5
                exact ih3 (j1 + 1) (by omega) ls (by rw [e5]; exact lv_sub hl [1, 2, 3, 0] rfl)
              · refine lv_aload_n hx hb dX0_greatestDistance_28 rfl (lv_at hl 0 rfl) ?_
                refine lv_iload_n hx hb dX0_greatestDistance_29 rfl (lv_at hl 3 rfl) ?_
                refine kc_v (As := [.int (nI (j0 + 1 + j1))]) (rest := []) S (v := .int (bI (f_goes u (nI (j0 + 1 + j1))))) (c_X0_goes l dC dI cI cZ cO h0 q u (nI (j0 + 1 + j1))) gX0_greatestDistance_X0_goes mi_X0_goes ⟨rfl, rfl⟩ ⟨Nat.le_of_ble_eq_true rfl, Nat.le_of_ble_eq_true rfl⟩ hK hP 0 rfl rfl ⟨Nat.le_refl _, Nat.le_refl _⟩ dX0_greatestDistance_30 rfl hl.1 rfl (Nat.le_of_ble_eq_true rfl) ?_
                refine kb_eq (tgt := 47) hx hb dX0_greatestDistance_33 (by decide) (fun c_33 => ?_) (fun c_33 => ?_)
                · refine lv_iinc (v := nI ((j0 + 1 + j1) + 1)) (lv' := [(3, .int (nI ((j0 + 1 + j1) + 1))), (0, .ref h0), (1, .int (it j1 (f_greatestDistance_L14 u j0 (it j0 (f_greatestDistance_L4 u) (0 : Int32))) (it j0 (f_greatestDistance_L4 u) (0 : Int32)))), (2, .int (nI j0))]) hx hb dX0_greatestDistance_47 hl (k := 3) rfl (nI_add (j0 + 1 + j1) 1) (by decide) rfl (fun ls hl => ?_)
                  refine lv_goto (tgt := 14) hx hb dX0_greatestDistance_50 (by decide) ?_
                  have b6 : f_greatestDistance_L14 u j0 (it j0 (f_greatestDistance_L4 u) (0 : Int32)) j1 (it j1 (f_greatestDistance_L14 u j0 (it j0 (f_greatestDistance_L4 u) (0 : Int32))) (it j0 (f_greatestDistance_L4 u) (0 : Int32))) = it j1 (f_greatestDistance_L14 u j0 (it j0 (f_greatestDistance_L4 u) (0 : Int32))) (it j0 (f_greatestDistance_L4 u) (0 : Int32)) := by
                    rw [f_greatestDistance_L14, if_pos c_25, if_neg c_33]
                  have e6 : it (j1 + 1) (f_greatestDistance_L14 u j0 (it j0 (f_greatestDistance_L4 u) (0 : Int32))) (it j0 (f_greatestDistance_L4 u) (0 : Int32)) = it j1 (f_greatestDistance_L14 u j0 (it j0 (f_greatestDistance_L4 u) (0 : Int32))) (it j0 (f_greatestDistance_L4 u) (0 : Int32)) := (it_s _ _ _).trans b6
                  exact ih3 (j1 + 1) (by omega) ls (by rw [e6]; exact lv_sub hl [1, 2, 3, 0] rfl)
                · refine lv_iload_n hx hb dX0_greatestDistance_36 rfl (lv_at hl 1 rfl) ?_
                  refine lv_aload_n hx hb dX0_greatestDistance_37 rfl (lv_at hl 0 rfl) ?_
                  refine lv_iload_n hx hb dX0_greatestDistance_38 rfl (lv_at hl 2 rfl) ?_
                  refine lv_iload_n hx hb dX0_greatestDistance_39 rfl (lv_at hl 3 rfl) ?_
                  refine kc_v (As := [.int (nI j0), .int (nI (j0 + 1 + j1))]) (rest := [.int (it j1 (f_greatestDistance_L14 u j0 (it j0 (f_greatestDistance_L4 u) (0 : Int32))) (it j0 (f_greatestDistance_L4 u) (0 : Int32)))]) S (v := .int (f_distance u (nI j0) (nI (j0 + 1 + j1)))) (c_X0_distance l dC dI cI cZ cO h0 q u (nI j0) (nI (j0 + 1 + j1))) gX0_greatestDistance_X0_distance mi_X0_distance ⟨rfl, rfl⟩ ⟨Nat.le_of_ble_eq_true rfl, Nat.le_of_ble_eq_true rfl⟩ hK hP 0 rfl rfl ⟨Nat.le_refl _, Nat.le_refl _⟩ dX0_greatestDistance_40 rfl hl.1 rfl (Nat.le_of_ble_eq_true rfl) ?_
                  refine va_mmax hx hb (hml.trans hl.1.symm) hown (hts (.methodLink RX0 112 Lib.Math.max.name) (by decide +kernel)) (hts (.static Lib.Math.max.name) (by decide +kernel)) (hts (.initialized "java/lang/Math") (by decide +kernel)) (hts (.code Lib.Math.max.name Lib.Math.max.code 2 (some .int)) (List.mem_of_getElem? (i := 4) rfl)) (Nat.le_of_ble_eq_true rfl) (Nat.le_of_ble_eq_true rfl) (Nat.le_refl _) (Nat.le_refl _) dX0_greatestDistance_43 ?_
                  refine W.eq (g2 := F0 m 46 ls [.int (jmax (it j1 (f_greatestDistance_L14 u j0 (it j0 (f_greatestDistance_L4 u) (0 : Int32))) (it j0 (f_greatestDistance_L4 u) (0 : Int32))) (f_distance u (nI j0) (nI (j0 + 1 + j1))))]) rfl ?_
                  refine lv_istore_n (lv' := [(1, .int (jmax (it j1 (f_greatestDistance_L14 u j0 (it j0 (f_greatestDistance_L4 u) (0 : Int32))) (it j0 (f_greatestDistance_L4 u) (0 : Int32))) (f_distance u (nI j0) (nI (j0 + 1 + j1))))), (0, .ref h0), (2, .int (nI j0)), (3, .int (nI (j0 + 1 + j1)))]) hx hb dX0_greatestDistance_46 rfl hl (by decide) rfl (fun ls hl => ?_)
                  refine lv_iinc (v := nI ((j0 + 1 + j1) + 1)) (lv' := [(3, .int (nI ((j0 + 1 + j1) + 1))), (1, .int (jmax (it j1 (f_greatestDistance_L14 u j0 (it j0 (f_greatestDistance_L4 u) (0 : Int32))) (it j0 (f_greatestDistance_L4 u) (0 : Int32))) (f_distance u (nI j0) (nI (j0 + 1 + j1))))), (0, .ref h0), (2, .int (nI j0))]) hx hb dX0_greatestDistance_47 hl (k := 3) rfl (nI_add (j0 + 1 + j1) 1) (by decide) rfl (fun ls hl => ?_)
                  refine lv_goto (tgt := 14) hx hb dX0_greatestDistance_50 (by decide) ?_
                  have b7 : f_greatestDistance_L14 u j0 (it j0 (f_greatestDistance_L4 u) (0 : Int32)) j1 (it j1 (f_greatestDistance_L14 u j0 (it j0 (f_greatestDistance_L4 u) (0 : Int32))) (it j0 (f_greatestDistance_L4 u) (0 : Int32))) = jmax (it j1 (f_greatestDistance_L14 u j0 (it j0 (f_greatestDistance_L4 u) (0 : Int32))) (it j0 (f_greatestDistance_L4 u) (0 : Int32))) (f_distance u (nI j0) (nI (j0 + 1 + j1))) := by
                    rw [f_greatestDistance_L14, if_pos c_25, if_pos c_33]
                  have e7 : it (j1 + 1) (f_greatestDistance_L14 u j0 (it j0 (f_greatestDistance_L4 u) (0 : Int32))) (it j0 (f_greatestDistance_L4 u) (0 : Int32)) = jmax (it j1 (f_greatestDistance_L14 u j0 (it j0 (f_greatestDistance_L4 u) (0 : Int32))) (it j0 (f_greatestDistance_L4 u) (0 : Int32))) (f_distance u (nI j0) (nI (j0 + 1 + j1))) := (it_s _ _ _).trans b7
                  exact ih3 (j1 + 1) (by omega) ls (by rw [e7]; exact lv_sub hl [2, 1, 3, 0] rfl)
        exact L3 (6 - (j0 + 1)) 0 (by omega) ls (lv_sub hl [1, 2, 3, 0] rfl)
  exact L1 6 0 (by omega) ls (lv_sub hl [2, 1, 0] rfl)

def rm_X0_farthestOfGoing : Room := { frames := 2, cells := 0, slots := 0, locals := 44 }
theorem mi_X0_farthestOfGoing : kM yX0_farthestOfGoing wsX0_farthestOfGoing cX0_farthestOfGoing 6 (some .int) 1 := ⟨⟨_, rfl⟩, by decide, by decide, by decide +kernel⟩
def f_farthestOfGoing_L20 (u : BS) (p0 : Bool) (j0 : Nat) (x0 : Int32 × Int32) (j1 : Nat) (x1 : (Int32 × Int32)) : Int32 × Int32 := if (f_goes u (nI j0)) = true then (if (f_goes u (nI (j0 + 1 + j1))) = true then (if (f_distance u (nI j0) (nI (j0 + 1 + j1))) ≤ x1.1 then (x1.1, x1.2) else if p0 = true then (f_distance u (nI j0) (nI (j0 + 1 + j1)), nI (j0 + 1 + j1)) else (f_distance u (nI j0) (nI (j0 + 1 + j1)), nI j0)) else (x1.1, x1.2)) else (x1.1, x1.2)
def f_farthestOfGoing_L7 (u : BS) (p0 : Bool) (j0 : Nat) (x0 : (Int32 × Int32)) : Int32 × Int32 := ((it (6 - (j0 + 1)) (f_farthestOfGoing_L20 u p0 j0 x0) (x0.1, x0.2)).1, (it (6 - (j0 + 1)) (f_farthestOfGoing_L20 u p0 j0 x0) (x0.1, x0.2)).2)
def f_farthestOfGoing (u : BS) (p0 : Bool) : Int32 := (it 6 (f_farthestOfGoing_L7 u p0) ((-1 : Int32), (-1 : Int32))).2
set_option maxHeartbeats 1000000 in
set_option maxRecDepth 100000 in
theorem c_X0_farthestOfGoing (l : Launch) (dC : Nat → ClassId) (dI : Nat → Nat → Nat) (cI cZ cO : ClassId) (h0 : Nat) (q : Nat → Nat) (u : BS) (p0 : Bool) : Met l yX0_farthestOfGoing wsX0_farthestOfGoing rm_X0_farthestOfGoing (va_Pc [.ref h0, .int (bI p0)] (fun U => va_P (dC, dI) vwCl (BW cI cZ h0 q u) U.heap ∧ va_K (dC, dI) vwCl (TY cI cZ cO) U)) (kQ (some (.int (f_farthestOfGoing u p0)))) 0 0 (fun _ => False) := by
  refine kofR (cc := cX0_farthestOfGoing) (maxL := 6) (ret := some .int) (by decide) rfl (Nat.le_of_ble_eq_true rfl) ?_
  intro p e s m args below meth c ls S hr hlk hP hK hl
  obtain ⟨hx, hb, hml, hown, hts⟩ := id S
  have inX0 : ∀ w ∈ wsX00, w ∈ wsX0_farthestOfGoing := fun w h => List.mem_cons_of_mem _ (List.mem_append_right _ h)
  have hl : lv_has ls 6 [(0, .ref h0), (1, .int (bI p0))] := hl
  refine lv_iconst (v := (-1 : Int32)) hx hb dX0_farthestOfGoing_0 (by decide) ?_
  refine lv_istore_n (lv' := [(2, .int (-1 : Int32)), (0, .ref h0), (1, .int (bI p0))]) hx hb dX0_farthestOfGoing_1 rfl hl (by decide) rfl (fun ls hl => ?_)
  refine lv_iconst (v := (-1 : Int32)) hx hb dX0_farthestOfGoing_2 (by decide) ?_
  refine lv_istore_n (lv' := [(3, .int (-1 : Int32)), (2, .int (-1 : Int32)), (0, .ref h0), (1, .int (bI p0))]) hx hb dX0_farthestOfGoing_3 rfl hl (by decide) rfl (fun ls hl => ?_)
  refine lv_iconst (v := (0 : Int32)) hx hb dX0_farthestOfGoing_4 (by decide) ?_
  refine lv_istore (lv' := [(4, .int (0 : Int32)), (3, .int (-1 : Int32)), (2, .int (-1 : Int32)), (0, .ref h0), (1, .int (bI p0))]) hx hb dX0_farthestOfGoing_5 hl (by decide) rfl (fun ls hl => ?_)
  have L1 : ∀ (n j0 : Nat), j0 + n = 6 → ∀ (ls : Array Slot), lv_has ls 6 [(0, .ref h0), (1, .int (bI p0)), (2, .int ((it j0 (f_farthestOfGoing_L7 u p0) ((-1 : Int32), (-1 : Int32))).1)), (3, .int ((it j0 (f_farthestOfGoing_L7 u p0) ((-1 : Int32), (-1 : Int32))).2)), (4, .int (nI j0))] → W p l e rm_X0_farthestOfGoing s m args below meth c s.heap [] 0 0 (MQ below (kQ (some (.int (f_farthestOfGoing u p0)))) args s 0 0 (fun _ => False)) (F0 m 7 ls []) := by
    intro n
    induction n with
    | zero =>
      intro j0 hj1 ls hl
      obtain rfl : j0 = 6 := by omega
      refine lv_iload hx hb dX0_farthestOfGoing_7 (lv_at hl 4 rfl) ?_
      refine lv_bipush (v := (6 : Int32)) hx hb dX0_farthestOfGoing_9 (by decide) ?_
      refine lv_icmp_ge (tgt := 90) hx hb dX0_farthestOfGoing_11 (by decide) (fun c_11 => ?_) (fun c_11 => ?_)
      · refine lv_iload_n hx hb dX0_farthestOfGoing_90 rfl (lv_at hl 3 rfl) ?_
        have r2 : f_farthestOfGoing u p0 = (it 6 (f_farthestOfGoing_L7 u p0) ((-1 : Int32), (-1 : Int32))).2 := by
          rw [f_farthestOfGoing]
        exact kr_i hx hb hr hlk dX0_farthestOfGoing_91 r2.symm
      · exact absurd (nI_le (a := 6) (by omega) (by omega)) c_11
    | succ n ih1 =>
      intro j0 hj1 ls hl
      refine lv_iload hx hb dX0_farthestOfGoing_7 (lv_at hl 4 rfl) ?_
      refine lv_bipush (v := (6 : Int32)) hx hb dX0_farthestOfGoing_9 (by decide) ?_
      refine lv_icmp_ge (tgt := 90) hx hb dX0_farthestOfGoing_11 (by decide) (fun c_11 => ?_) (fun c_11 => ?_)
      · exact absurd c_11 (nI_ge (b := 6) (by omega) (by decide))
      · refine lv_iload hx hb dX0_farthestOfGoing_14 (lv_at hl 4 rfl) ?_
        refine lv_iconst (v := (1 : Int32)) hx hb dX0_farthestOfGoing_16 (by decide) ?_
        refine k_iaddn (x := j0) (y := 1) hx hb dX0_farthestOfGoing_17 ?_
        refine lv_istore (lv' := [(5, .int (nI (j0 + 1))), (0, .ref h0), (1, .int (bI p0)), (2, .int ((it j0 (f_farthestOfGoing_L7 u p0) ((-1 : Int32), (-1 : Int32))).1)), (3, .int ((it j0 (f_farthestOfGoing_L7 u p0) ((-1 : Int32), (-1 : Int32))).2)), (4, .int (nI j0))]) hx hb dX0_farthestOfGoing_18 hl (by decide) rfl (fun ls hl => ?_)
        have L3 : ∀ (n j1 : Nat), j1 + n = 6 - (j0 + 1) → ∀ (ls : Array Slot), lv_has ls 6 [(0, .ref h0), (1, .int (bI p0)), (2, .int ((it j1 (f_farthestOfGoing_L20 u p0 j0 (it j0 (f_farthestOfGoing_L7 u p0) ((-1 : Int32), (-1 : Int32)))) ((it j0 (f_farthestOfGoing_L7 u p0) ((-1 : Int32), (-1 : Int32))).1, (it j0 (f_farthestOfGoing_L7 u p0) ((-1 : Int32), (-1 : Int32))).2)).1)), (3, .int ((it j1 (f_farthestOfGoing_L20 u p0 j0 (it j0 (f_farthestOfGoing_L7 u p0) ((-1 : Int32), (-1 : Int32)))) ((it j0 (f_farthestOfGoing_L7 u p0) ((-1 : Int32), (-1 : Int32))).1, (it j0 (f_farthestOfGoing_L7 u p0) ((-1 : Int32), (-1 : Int32))).2)).2)), (4, .int (nI j0)), (5, .int (nI (j0 + 1 + j1)))] → W p l e rm_X0_farthestOfGoing s m args below meth c s.heap [] 0 0 (MQ below (kQ (some (.int (f_farthestOfGoing u p0)))) args s 0 0 (fun _ => False)) (F0 m 20 ls []) := by
          intro n
          induction n with
          | zero =>
            intro j1 hj3 ls hl
            obtain rfl : j1 = 6 - (j0 + 1) := by omega
            refine lv_iload hx hb dX0_farthestOfGoing_20 (lv_at hl 5 rfl) ?_
            refine lv_bipush (v := (6 : Int32)) hx hb dX0_farthestOfGoing_22 (by decide) ?_
            refine lv_icmp_ge (tgt := 84) hx hb dX0_farthestOfGoing_24 (by decide) (fun c_24 => ?_) (fun c_24 => ?_)
            · refine lv_iinc (v := nI (j0 + 1)) (lv' := [(4, .int (nI (j0 + 1))), (0, .ref h0), (1, .int (bI p0)), (2, .int ((it (6 - (j0 + 1)) (f_farthestOfGoing_L20 u p0 j0 (it j0 (f_farthestOfGoing_L7 u p0) ((-1 : Int32), (-1 : Int32)))) ((it j0 (f_farthestOfGoing_L7 u p0) ((-1 : Int32), (-1 : Int32))).1, (it j0 (f_farthestOfGoing_L7 u p0) ((-1 : Int32), (-1 : Int32))).2)).1)), (3, .int ((it (6 - (j0 + 1)) (f_farthestOfGoing_L20 u p0 j0 (it j0 (f_farthestOfGoing_L7 u p0) ((-1 : Int32), (-1 : Int32)))) ((it j0 (f_farthestOfGoing_L7 u p0) ((-1 : Int32), (-1 : Int32))).1, (it j0 (f_farthestOfGoing_L7 u p0) ((-1 : Int32), (-1 : Int32))).2)).2)), (5, .int (nI (j0 + 1 + (6 - (j0 + 1)))))]) hx hb dX0_farthestOfGoing_84 hl (k := 4) rfl (nI_add j0 1) (by decide) rfl (fun ls hl => ?_)
              refine lv_goto (tgt := 7) hx hb dX0_farthestOfGoing_87 (by decide) ?_
              have b4 : f_farthestOfGoing_L7 u p0 j0 (it j0 (f_farthestOfGoing_L7 u p0) ((-1 : Int32), (-1 : Int32))) = ((it (6 - (j0 + 1)) (f_farthestOfGoing_L20 u p0 j0 (it j0 (f_farthestOfGoing_L7 u p0) ((-1 : Int32), (-1 : Int32)))) ((it j0 (f_farthestOfGoing_L7 u p0) ((-1 : Int32), (-1 : Int32))).1, (it j0 (f_farthestOfGoing_L7 u p0) ((-1 : Int32), (-1 : Int32))).2)).1, (it (6 - (j0 + 1)) (f_farthestOfGoing_L20 u p0 j0 (it j0 (f_farthestOfGoing_L7 u p0) ((-1 : Int32), (-1 : Int32)))) ((it j0 (f_farthestOfGoing_L7 u p0) ((-1 : Int32), (-1 : Int32))).1, (it j0 (f_farthestOfGoing_L7 u p0) ((-1 : Int32), (-1 : Int32))).2)).2) := by
                rw [f_farthestOfGoing_L7]
              have e4 : it (j0 + 1) (f_farthestOfGoing_L7 u p0) ((-1 : Int32), (-1 : Int32)) = ((it (6 - (j0 + 1)) (f_farthestOfGoing_L20 u p0 j0 (it j0 (f_farthestOfGoing_L7 u p0) ((-1 : Int32), (-1 : Int32)))) ((it j0 (f_farthestOfGoing_L7 u p0) ((-1 : Int32), (-1 : Int32))).1, (it j0 (f_farthestOfGoing_L7 u p0) ((-1 : Int32), (-1 : Int32))).2)).1, (it (6 - (j0 + 1)) (f_farthestOfGoing_L20 u p0 j0 (it j0 (f_farthestOfGoing_L7 u p0) ((-1 : Int32), (-1 : Int32)))) ((it j0 (f_farthestOfGoing_L7 u p0) ((-1 : Int32), (-1 : Int32))).1, (it j0 (f_farthestOfGoing_L7 u p0) ((-1 : Int32), (-1 : Int32))).2)).2) := (it_s _ _ _).trans b4
              exact ih1 (j0 + 1) (by omega) ls (by rw [e4]; exact lv_sub hl [1, 2, 3, 4, 0] rfl)
            · exact absurd (nI_le (a := 6) (by omega) (by omega)) c_24
          | succ n ih3 =>
            intro j1 hj3 ls hl
            refine lv_iload hx hb dX0_farthestOfGoing_20 (lv_at hl 5 rfl) ?_
            refine lv_bipush (v := (6 : Int32)) hx hb dX0_farthestOfGoing_22 (by decide) ?_
            refine lv_icmp_ge (tgt := 84) hx hb dX0_farthestOfGoing_24 (by decide) (fun c_24 => ?_) (fun c_24 => ?_)
            · exact absurd c_24 (nI_ge (b := 6) (by omega) (by decide))
            · refine lv_aload_n hx hb dX0_farthestOfGoing_27 rfl (lv_at hl 0 rfl) ?_
              refine lv_iload hx hb dX0_farthestOfGoing_28 (lv_at hl 4 rfl) ?_
              refine kc_v (As := [.int (nI j0)]) (rest := []) S (v := .int (bI (f_goes u (nI j0)))) (c_X0_goes l dC dI cI cZ cO h0 q u (nI j0)) gX0_farthestOfGoing_X0_goes mi_X0_goes ⟨rfl, rfl⟩ ⟨Nat.le_of_ble_eq_true rfl, Nat.le_of_ble_eq_true rfl⟩ hK hP 0 rfl rfl ⟨Nat.le_refl _, Nat.le_refl _⟩ dX0_farthestOfGoing_30 rfl hl.1 rfl (Nat.le_of_ble_eq_true rfl) ?_
              refine kb_eq (tgt := 78) hx hb dX0_farthestOfGoing_33 (by decide) (fun c_33 => ?_) (fun c_33 => ?_)
              · refine lv_iinc (v := nI ((j0 + 1 + j1) + 1)) (lv' := [(5, .int (nI ((j0 + 1 + j1) + 1))), (0, .ref h0), (1, .int (bI p0)), (2, .int ((it j1 (f_farthestOfGoing_L20 u p0 j0 (it j0 (f_farthestOfGoing_L7 u p0) ((-1 : Int32), (-1 : Int32)))) ((it j0 (f_farthestOfGoing_L7 u p0) ((-1 : Int32), (-1 : Int32))).1, (it j0 (f_farthestOfGoing_L7 u p0) ((-1 : Int32), (-1 : Int32))).2)).1)), (3, .int ((it j1 (f_farthestOfGoing_L20 u p0 j0 (it j0 (f_farthestOfGoing_L7 u p0) ((-1 : Int32), (-1 : Int32)))) ((it j0 (f_farthestOfGoing_L7 u p0) ((-1 : Int32), (-1 : Int32))).1, (it j0 (f_farthestOfGoing_L7 u p0) ((-1 : Int32), (-1 : Int32))).2)).2)), (4, .int (nI j0))]) hx hb dX0_farthestOfGoing_78 hl (k := 5) rfl (nI_add (j0 + 1 + j1) 1) (by decide) rfl (fun ls hl => ?_)
                refine lv_goto (tgt := 20) hx hb dX0_farthestOfGoing_81 (by decide) ?_
                have b5 : f_farthestOfGoing_L20 u p0 j0 (it j0 (f_farthestOfGoing_L7 u p0) ((-1 : Int32), (-1 : Int32))) j1 (it j1 (f_farthestOfGoing_L20 u p0 j0 (it j0 (f_farthestOfGoing_L7 u p0) ((-1 : Int32), (-1 : Int32)))) ((it j0 (f_farthestOfGoing_L7 u p0) ((-1 : Int32), (-1 : Int32))).1, (it j0 (f_farthestOfGoing_L7 u p0) ((-1 : Int32), (-1 : Int32))).2)) = ((it j1 (f_farthestOfGoing_L20 u p0 j0 (it j0 (f_farthestOfGoing_L7 u p0) ((-1 : Int32), (-1 : Int32)))) ((it j0 (f_farthestOfGoing_L7 u p0) ((-1 : Int32), (-1 : Int32))).1, (it j0 (f_farthestOfGoing_L7 u p0) ((-1 : Int32), (-1 : Int32))).2)).1, (it j1 (f_farthestOfGoing_L20 u p0 j0 (it j0 (f_farthestOfGoing_L7 u p0) ((-1 : Int32), (-1 : Int32)))) ((it j0 (f_farthestOfGoing_L7 u p0) ((-1 : Int32), (-1 : Int32))).1, (it j0 (f_farthestOfGoing_L7 u p0) ((-1 : Int32), (-1 : Int32))).2)).2) := by
                  rw [f_farthestOfGoing_L20, if_neg c_33]
                have e5 : it (j1 + 1) (f_farthestOfGoing_L20 u p0 j0 (it j0 (f_farthestOfGoing_L7 u p0) ((-1 : Int32), (-1 : Int32)))) ((it j0 (f_farthestOfGoing_L7 u p0) ((-1 : Int32), (-1 : Int32))).1, (it j0 (f_farthestOfGoing_L7 u p0) ((-1 : Int32), (-1 : Int32))).2) = ((it j1 (f_farthestOfGoing_L20 u p0 j0 (it j0 (f_farthestOfGoing_L7 u p0) ((-1 : Int32), (-1 : Int32)))) ((it j0 (f_farthestOfGoing_L7 u p0) ((-1 : Int32), (-1 : Int32))).1, (it j0 (f_farthestOfGoing_L7 u p0) ((-1 : Int32), (-1 : Int32))).2)).1, (it j1 (f_farthestOfGoing_L20 u p0 j0 (it j0 (f_farthestOfGoing_L7 u p0) ((-1 : Int32), (-1 : Int32)))) ((it j0 (f_farthestOfGoing_L7 u p0) ((-1 : Int32), (-1 : Int32))).1, (it j0 (f_farthestOfGoing_L7 u p0) ((-1 : Int32), (-1 : Int32))).2)).2) := (it_s _ _ _).trans b5
                exact ih3 (j1 + 1) (by omega) ls (by rw [e5]; exact lv_sub hl [1, 2, 3, 4, 5, 0] rfl)
              · refine lv_aload_n hx hb dX0_farthestOfGoing_36 rfl (lv_at hl 0 rfl) ?_
                refine lv_iload hx hb dX0_farthestOfGoing_37 (lv_at hl 5 rfl) ?_
                refine kc_v (As := [.int (nI (j0 + 1 + j1))]) (rest := []) S (v := .int (bI (f_goes u (nI (j0 + 1 + j1))))) (c_X0_goes l dC dI cI cZ cO h0 q u (nI (j0 + 1 + j1))) gX0_farthestOfGoing_X0_goes mi_X0_goes ⟨rfl, rfl⟩ ⟨Nat.le_of_ble_eq_true rfl, Nat.le_of_ble_eq_true rfl⟩ hK hP 0 rfl rfl ⟨Nat.le_refl _, Nat.le_refl _⟩ dX0_farthestOfGoing_39 rfl hl.1 rfl (Nat.le_of_ble_eq_true rfl) ?_
                refine kb_eq (tgt := 78) hx hb dX0_farthestOfGoing_42 (by decide) (fun c_42 => ?_) (fun c_42 => ?_)
                · refine lv_iinc (v := nI ((j0 + 1 + j1) + 1)) (lv' := [(5, .int (nI ((j0 + 1 + j1) + 1))), (0, .ref h0), (1, .int (bI p0)), (2, .int ((it j1 (f_farthestOfGoing_L20 u p0 j0 (it j0 (f_farthestOfGoing_L7 u p0) ((-1 : Int32), (-1 : Int32)))) ((it j0 (f_farthestOfGoing_L7 u p0) ((-1 : Int32), (-1 : Int32))).1, (it j0 (f_farthestOfGoing_L7 u p0) ((-1 : Int32), (-1 : Int32))).2)).1)), (3, .int ((it j1 (f_farthestOfGoing_L20 u p0 j0 (it j0 (f_farthestOfGoing_L7 u p0) ((-1 : Int32), (-1 : Int32)))) ((it j0 (f_farthestOfGoing_L7 u p0) ((-1 : Int32), (-1 : Int32))).1, (it j0 (f_farthestOfGoing_L7 u p0) ((-1 : Int32), (-1 : Int32))).2)).2)), (4, .int (nI j0))]) hx hb dX0_farthestOfGoing_78 hl (k := 5) rfl (nI_add (j0 + 1 + j1) 1) (by decide) rfl (fun ls hl => ?_)
                  refine lv_goto (tgt := 20) hx hb dX0_farthestOfGoing_81 (by decide) ?_
                  have b6 : f_farthestOfGoing_L20 u p0 j0 (it j0 (f_farthestOfGoing_L7 u p0) ((-1 : Int32), (-1 : Int32))) j1 (it j1 (f_farthestOfGoing_L20 u p0 j0 (it j0 (f_farthestOfGoing_L7 u p0) ((-1 : Int32), (-1 : Int32)))) ((it j0 (f_farthestOfGoing_L7 u p0) ((-1 : Int32), (-1 : Int32))).1, (it j0 (f_farthestOfGoing_L7 u p0) ((-1 : Int32), (-1 : Int32))).2)) = ((it j1 (f_farthestOfGoing_L20 u p0 j0 (it j0 (f_farthestOfGoing_L7 u p0) ((-1 : Int32), (-1 : Int32)))) ((it j0 (f_farthestOfGoing_L7 u p0) ((-1 : Int32), (-1 : Int32))).1, (it j0 (f_farthestOfGoing_L7 u p0) ((-1 : Int32), (-1 : Int32))).2)).1, (it j1 (f_farthestOfGoing_L20 u p0 j0 (it j0 (f_farthestOfGoing_L7 u p0) ((-1 : Int32), (-1 : Int32)))) ((it j0 (f_farthestOfGoing_L7 u p0) ((-1 : Int32), (-1 : Int32))).1, (it j0 (f_farthestOfGoing_L7 u p0) ((-1 : Int32), (-1 : Int32))).2)).2) := by
                    rw [f_farthestOfGoing_L20, if_pos c_33, if_neg c_42]
                  have e6 : it (j1 + 1) (f_farthestOfGoing_L20 u p0 j0 (it j0 (f_farthestOfGoing_L7 u p0) ((-1 : Int32), (-1 : Int32)))) ((it j0 (f_farthestOfGoing_L7 u p0) ((-1 : Int32), (-1 : Int32))).1, (it j0 (f_farthestOfGoing_L7 u p0) ((-1 : Int32), (-1 : Int32))).2) = ((it j1 (f_farthestOfGoing_L20 u p0 j0 (it j0 (f_farthestOfGoing_L7 u p0) ((-1 : Int32), (-1 : Int32)))) ((it j0 (f_farthestOfGoing_L7 u p0) ((-1 : Int32), (-1 : Int32))).1, (it j0 (f_farthestOfGoing_L7 u p0) ((-1 : Int32), (-1 : Int32))).2)).1, (it j1 (f_farthestOfGoing_L20 u p0 j0 (it j0 (f_farthestOfGoing_L7 u p0) ((-1 : Int32), (-1 : Int32)))) ((it j0 (f_farthestOfGoing_L7 u p0) ((-1 : Int32), (-1 : Int32))).1, (it j0 (f_farthestOfGoing_L7 u p0) ((-1 : Int32), (-1 : Int32))).2)).2) := (it_s _ _ _).trans b6
                  exact ih3 (j1 + 1) (by omega) ls (by rw [e6]; exact lv_sub hl [1, 2, 3, 4, 5, 0] rfl)
                · refine lv_aload_n hx hb dX0_farthestOfGoing_45 rfl (lv_at hl 0 rfl) ?_
                  refine lv_iload hx hb dX0_farthestOfGoing_46 (lv_at hl 4 rfl) ?_
                  refine lv_iload hx hb dX0_farthestOfGoing_48 (lv_at hl 5 rfl) ?_
                  refine kc_v (As := [.int (nI j0), .int (nI (j0 + 1 + j1))]) (rest := []) S (v := .int (f_distance u (nI j0) (nI (j0 + 1 + j1)))) (c_X0_distance l dC dI cI cZ cO h0 q u (nI j0) (nI (j0 + 1 + j1))) gX0_farthestOfGoing_X0_distance mi_X0_distance ⟨rfl, rfl⟩ ⟨Nat.le_of_ble_eq_true rfl, Nat.le_of_ble_eq_true rfl⟩ hK hP 0 rfl rfl ⟨Nat.le_refl _, Nat.le_refl _⟩ dX0_farthestOfGoing_50 rfl hl.1 rfl (Nat.le_of_ble_eq_true rfl) ?_
                  refine lv_iload_n hx hb dX0_farthestOfGoing_53 rfl (lv_at hl 2 rfl) ?_
                  refine lv_icmp_le (tgt := 78) hx hb dX0_farthestOfGoing_54 (by decide) (fun c_54 => ?_) (fun c_54 => ?_)
                  · refine lv_iinc (v := nI ((j0 + 1 + j1) + 1)) (lv' := [(5, .int (nI ((j0 + 1 + j1) + 1))), (0, .ref h0), (1, .int (bI p0)), (2, .int ((it j1 (f_farthestOfGoing_L20 u p0 j0 (it j0 (f_farthestOfGoing_L7 u p0) ((-1 : Int32), (-1 : Int32)))) ((it j0 (f_farthestOfGoing_L7 u p0) ((-1 : Int32), (-1 : Int32))).1, (it j0 (f_farthestOfGoing_L7 u p0) ((-1 : Int32), (-1 : Int32))).2)).1)), (3, .int ((it j1 (f_farthestOfGoing_L20 u p0 j0 (it j0 (f_farthestOfGoing_L7 u p0) ((-1 : Int32), (-1 : Int32)))) ((it j0 (f_farthestOfGoing_L7 u p0) ((-1 : Int32), (-1 : Int32))).1, (it j0 (f_farthestOfGoing_L7 u p0) ((-1 : Int32), (-1 : Int32))).2)).2)), (4, .int (nI j0))]) hx hb dX0_farthestOfGoing_78 hl (k := 5) rfl (nI_add (j0 + 1 + j1) 1) (by decide) rfl (fun ls hl => ?_)
                    refine lv_goto (tgt := 20) hx hb dX0_farthestOfGoing_81 (by decide) ?_
                    have b7 : f_farthestOfGoing_L20 u p0 j0 (it j0 (f_farthestOfGoing_L7 u p0) ((-1 : Int32), (-1 : Int32))) j1 (it j1 (f_farthestOfGoing_L20 u p0 j0 (it j0 (f_farthestOfGoing_L7 u p0) ((-1 : Int32), (-1 : Int32)))) ((it j0 (f_farthestOfGoing_L7 u p0) ((-1 : Int32), (-1 : Int32))).1, (it j0 (f_farthestOfGoing_L7 u p0) ((-1 : Int32), (-1 : Int32))).2)) = ((it j1 (f_farthestOfGoing_L20 u p0 j0 (it j0 (f_farthestOfGoing_L7 u p0) ((-1 : Int32), (-1 : Int32)))) ((it j0 (f_farthestOfGoing_L7 u p0) ((-1 : Int32), (-1 : Int32))).1, (it j0 (f_farthestOfGoing_L7 u p0) ((-1 : Int32), (-1 : Int32))).2)).1, (it j1 (f_farthestOfGoing_L20 u p0 j0 (it j0 (f_farthestOfGoing_L7 u p0) ((-1 : Int32), (-1 : Int32)))) ((it j0 (f_farthestOfGoing_L7 u p0) ((-1 : Int32), (-1 : Int32))).1, (it j0 (f_farthestOfGoing_L7 u p0) ((-1 : Int32), (-1 : Int32))).2)).2) := by
                      rw [f_farthestOfGoing_L20, if_pos c_33, if_pos c_42, if_pos c_54]
                    have e7 : it (j1 + 1) (f_farthestOfGoing_L20 u p0 j0 (it j0 (f_farthestOfGoing_L7 u p0) ((-1 : Int32), (-1 : Int32)))) ((it j0 (f_farthestOfGoing_L7 u p0) ((-1 : Int32), (-1 : Int32))).1, (it j0 (f_farthestOfGoing_L7 u p0) ((-1 : Int32), (-1 : Int32))).2) = ((it j1 (f_farthestOfGoing_L20 u p0 j0 (it j0 (f_farthestOfGoing_L7 u p0) ((-1 : Int32), (-1 : Int32)))) ((it j0 (f_farthestOfGoing_L7 u p0) ((-1 : Int32), (-1 : Int32))).1, (it j0 (f_farthestOfGoing_L7 u p0) ((-1 : Int32), (-1 : Int32))).2)).1, (it j1 (f_farthestOfGoing_L20 u p0 j0 (it j0 (f_farthestOfGoing_L7 u p0) ((-1 : Int32), (-1 : Int32)))) ((it j0 (f_farthestOfGoing_L7 u p0) ((-1 : Int32), (-1 : Int32))).1, (it j0 (f_farthestOfGoing_L7 u p0) ((-1 : Int32), (-1 : Int32))).2)).2) := (it_s _ _ _).trans b7
                    exact ih3 (j1 + 1) (by omega) ls (by rw [e7]; exact lv_sub hl [1, 2, 3, 4, 5, 0] rfl)
                  · refine lv_aload_n hx hb dX0_farthestOfGoing_57 rfl (lv_at hl 0 rfl) ?_
                    refine lv_iload hx hb dX0_farthestOfGoing_58 (lv_at hl 4 rfl) ?_
                    refine lv_iload hx hb dX0_farthestOfGoing_60 (lv_at hl 5 rfl) ?_
                    refine kc_v (As := [.int (nI j0), .int (nI (j0 + 1 + j1))]) (rest := []) S (v := .int (f_distance u (nI j0) (nI (j0 + 1 + j1)))) (c_X0_distance l dC dI cI cZ cO h0 q u (nI j0) (nI (j0 + 1 + j1))) gX0_farthestOfGoing_X0_distance mi_X0_distance ⟨rfl, rfl⟩ ⟨Nat.le_of_ble_eq_true rfl, Nat.le_of_ble_eq_true rfl⟩ hK hP 0 rfl rfl ⟨Nat.le_refl _, Nat.le_refl _⟩ dX0_farthestOfGoing_62 rfl hl.1 rfl (Nat.le_of_ble_eq_true rfl) ?_
                    refine lv_istore_n (lv' := [(2, .int (f_distance u (nI j0) (nI (j0 + 1 + j1)))), (0, .ref h0), (1, .int (bI p0)), (3, .int ((it j1 (f_farthestOfGoing_L20 u p0 j0 (it j0 (f_farthestOfGoing_L7 u p0) ((-1 : Int32), (-1 : Int32)))) ((it j0 (f_farthestOfGoing_L7 u p0) ((-1 : Int32), (-1 : Int32))).1, (it j0 (f_farthestOfGoing_L7 u p0) ((-1 : Int32), (-1 : Int32))).2)).2)), (4, .int (nI j0)), (5, .int (nI (j0 + 1 + j1)))]) hx hb dX0_farthestOfGoing_65 rfl hl (by decide) rfl (fun ls hl => ?_)
                    refine lv_iload_n hx hb dX0_farthestOfGoing_66 rfl (lv_at hl 2 rfl) ?_
                    refine kb_eq (tgt := 75) hx hb dX0_farthestOfGoing_67 (by decide) (fun c_67 => ?_) (fun c_67 => ?_)
                    · refine lv_iload hx hb dX0_farthestOfGoing_75 (lv_at hl 4 rfl) ?_
                      refine lv_istore_n (lv' := [(3, .int (nI j0)), (2, .int (f_distance u (nI j0) (nI (j0 + 1 + j1)))), (0, .ref h0), (1, .int (bI p0)), (4, .int (nI j0)), (5, .int (nI (j0 + 1 + j1)))]) hx hb dX0_farthestOfGoing_77 rfl hl (by decide) rfl (fun ls hl => ?_)
                      refine lv_iinc (v := nI ((j0 + 1 + j1) + 1)) (lv' := [(5, .int (nI ((j0 + 1 + j1) + 1))), (3, .int (nI j0)), (2, .int (f_distance u (nI j0) (nI (j0 + 1 + j1)))), (0, .ref h0), (1, .int (bI p0)), (4, .int (nI j0))]) hx hb dX0_farthestOfGoing_78 hl (k := 5) rfl (nI_add (j0 + 1 + j1) 1) (by decide) rfl (fun ls hl => ?_)
                      refine lv_goto (tgt := 20) hx hb dX0_farthestOfGoing_81 (by decide) ?_
                      have b8 : f_farthestOfGoing_L20 u p0 j0 (it j0 (f_farthestOfGoing_L7 u p0) ((-1 : Int32), (-1 : Int32))) j1 (it j1 (f_farthestOfGoing_L20 u p0 j0 (it j0 (f_farthestOfGoing_L7 u p0) ((-1 : Int32), (-1 : Int32)))) ((it j0 (f_farthestOfGoing_L7 u p0) ((-1 : Int32), (-1 : Int32))).1, (it j0 (f_farthestOfGoing_L7 u p0) ((-1 : Int32), (-1 : Int32))).2)) = (f_distance u (nI j0) (nI (j0 + 1 + j1)), nI j0) := by
                        rw [f_farthestOfGoing_L20, if_pos c_33, if_pos c_42, if_neg c_54, if_neg c_67]
                      have e8 : it (j1 + 1) (f_farthestOfGoing_L20 u p0 j0 (it j0 (f_farthestOfGoing_L7 u p0) ((-1 : Int32), (-1 : Int32)))) ((it j0 (f_farthestOfGoing_L7 u p0) ((-1 : Int32), (-1 : Int32))).1, (it j0 (f_farthestOfGoing_L7 u p0) ((-1 : Int32), (-1 : Int32))).2) = (f_distance u (nI j0) (nI (j0 + 1 + j1)), nI j0) := (it_s _ _ _).trans b8
                      exact ih3 (j1 + 1) (by omega) ls (by rw [e8]; exact lv_sub hl [3, 4, 2, 1, 5, 0] rfl)
                    · refine lv_iload hx hb dX0_farthestOfGoing_70 (lv_at hl 5 rfl) ?_
                      refine lv_goto (tgt := 77) hx hb dX0_farthestOfGoing_72 (by decide) ?_
                      refine lv_istore_n (lv' := [(3, .int (nI (j0 + 1 + j1))), (2, .int (f_distance u (nI j0) (nI (j0 + 1 + j1)))), (0, .ref h0), (1, .int (bI p0)), (4, .int (nI j0)), (5, .int (nI (j0 + 1 + j1)))]) hx hb dX0_farthestOfGoing_77 rfl hl (by decide) rfl (fun ls hl => ?_)
                      refine lv_iinc (v := nI ((j0 + 1 + j1) + 1)) (lv' := [(5, .int (nI ((j0 + 1 + j1) + 1))), (3, .int (nI (j0 + 1 + j1))), (2, .int (f_distance u (nI j0) (nI (j0 + 1 + j1)))), (0, .ref h0), (1, .int (bI p0)), (4, .int (nI j0))]) hx hb dX0_farthestOfGoing_78 hl (k := 5) rfl (nI_add (j0 + 1 + j1) 1) (by decide) rfl (fun ls hl => ?_)
                      refine lv_goto (tgt := 20) hx hb dX0_farthestOfGoing_81 (by decide) ?_
                      have b9 : f_farthestOfGoing_L20 u p0 j0 (it j0 (f_farthestOfGoing_L7 u p0) ((-1 : Int32), (-1 : Int32))) j1 (it j1 (f_farthestOfGoing_L20 u p0 j0 (it j0 (f_farthestOfGoing_L7 u p0) ((-1 : Int32), (-1 : Int32)))) ((it j0 (f_farthestOfGoing_L7 u p0) ((-1 : Int32), (-1 : Int32))).1, (it j0 (f_farthestOfGoing_L7 u p0) ((-1 : Int32), (-1 : Int32))).2)) = (f_distance u (nI j0) (nI (j0 + 1 + j1)), nI (j0 + 1 + j1)) := by
                        rw [f_farthestOfGoing_L20, if_pos c_33, if_pos c_42, if_neg c_54, if_pos c_67]
                      have e9 : it (j1 + 1) (f_farthestOfGoing_L20 u p0 j0 (it j0 (f_farthestOfGoing_L7 u p0) ((-1 : Int32), (-1 : Int32)))) ((it j0 (f_farthestOfGoing_L7 u p0) ((-1 : Int32), (-1 : Int32))).1, (it j0 (f_farthestOfGoing_L7 u p0) ((-1 : Int32), (-1 : Int32))).2) = (f_distance u (nI j0) (nI (j0 + 1 + j1)), nI (j0 + 1 + j1)) := (it_s _ _ _).trans b9
                      exact ih3 (j1 + 1) (by omega) ls (by rw [e9]; exact lv_sub hl [3, 4, 2, 1, 5, 0] rfl)
        exact L3 (6 - (j0 + 1)) 0 (by omega) ls (lv_sub hl [1, 2, 3, 4, 5, 0] rfl)
  exact L1 6 0 (by omega) ls (lv_sub hl [3, 4, 2, 1, 0] rfl)

def rm_X0_isInStep : Room := { frames := 3, cells := 0, slots := 0, locals := 67 }
theorem mi_X0_isInStep : kM yX0_isInStep wsX0_isInStep cX0_isInStep 1 (some .boolean) 0 := ⟨⟨_, rfl⟩, by decide, by decide, by decide +kernel⟩
def f_isInStep (u : BS) : Bool := if (f_going u) < (2 : Int32) then false else if (u 10 0) < (f_greatestDistance u) then false else true
set_option maxHeartbeats 1000000 in
set_option maxRecDepth 100000 in
theorem c_X0_isInStep (l : Launch) (dC : Nat → ClassId) (dI : Nat → Nat → Nat) (cI cZ cO : ClassId) (h0 : Nat) (q : Nat → Nat) (u : BS) : Met l yX0_isInStep wsX0_isInStep rm_X0_isInStep (va_Pc [.ref h0] (fun U => va_P (dC, dI) vwCl (BW cI cZ h0 q u) U.heap ∧ va_K (dC, dI) vwCl (TY cI cZ cO) U)) (kQ (some (.int (bI (f_isInStep u))))) 0 0 (fun _ => False) := by
  refine kofR (cc := cX0_isInStep) (maxL := 1) (ret := some .boolean) (by decide) rfl (Nat.le_of_ble_eq_true rfl) ?_
  intro p e s m args below meth c ls S hr hlk hP hK hl
  obtain ⟨hx, hb, hml, hown, hts⟩ := id S
  have inX0 : ∀ w ∈ wsX00, w ∈ wsX0_isInStep := fun w h => List.mem_cons_of_mem _ (List.mem_append_right _ h)
  have hl : lv_has ls 1 [(0, .ref h0)] := hl
  refine lv_aload_n hx hb dX0_isInStep_0 rfl (lv_at hl 0 rfl) ?_
  refine kc_v (As := []) (rest := []) S (v := .int (f_going u)) (c_X0_going l dC dI cI cZ cO h0 q u) gX0_isInStep_X0_going mi_X0_going ⟨rfl, rfl⟩ ⟨Nat.le_of_ble_eq_true rfl, Nat.le_of_ble_eq_true rfl⟩ hK hP 0 rfl rfl ⟨Nat.le_refl _, Nat.le_refl _⟩ dX0_isInStep_1 rfl hl.1 rfl (Nat.le_of_ble_eq_true rfl) ?_
  refine lv_iconst (v := (2 : Int32)) hx hb dX0_isInStep_4 (by decide) ?_
  refine lv_icmp_lt (tgt := 23) hx hb dX0_isInStep_5 (by decide) (fun c_5 => ?_) (fun c_5 => ?_)
  · refine lv_iconst (v := (0 : Int32)) hx hb dX0_isInStep_23 (by decide) ?_
    have r1 : f_isInStep u = false := by
      rw [f_isInStep, if_pos c_5]
    exact kr_z (x := false) hx hb hr hlk dX0_isInStep_24 rfl r1
  · refine lv_aload_n hx hb dX0_isInStep_8 rfl (lv_at hl 0 rfl) ?_
    refine kc_v (As := []) (rest := []) S (v := .int (f_greatestDistance u)) (c_X0_greatestDistance l dC dI cI cZ cO h0 q u) gX0_isInStep_X0_greatestDistance mi_X0_greatestDistance ⟨rfl, rfl⟩ ⟨Nat.le_of_ble_eq_true rfl, Nat.le_of_ble_eq_true rfl⟩ hK hP 0 rfl rfl ⟨Nat.le_refl _, Nat.le_refl _⟩ dX0_isInStep_9 rfl hl.1 rfl (Nat.le_of_ble_eq_true rfl) ?_
    refine lv_aload_n hx hb dX0_isInStep_12 rfl (lv_at hl 0 rfl) ?_
    refine va_get (D := (dC, dI)) (ci := 0) (v := .int (u 10 0)) (C := RX0) (T := TX0) (N := 14) hx hb hts inX0 hown hK hP 0 rfl rfl 10 (by decide) (hts (.fieldLink RX0 35 "BoardMetronomes$Bench" "nearness" "I") (by decide +kernel)) (fun _ h9 => h9) rfl dX0_isInStep_13 ?_
    refine lv_icmp_gt (tgt := 23) hx hb dX0_isInStep_16 (by decide) (fun c_16 => ?_) (fun c_16 => ?_)
    · refine lv_iconst (v := (0 : Int32)) hx hb dX0_isInStep_23 (by decide) ?_
      have r2 : f_isInStep u = false := by
        rw [f_isInStep, if_neg c_5, if_pos c_16]
      exact kr_z (x := false) hx hb hr hlk dX0_isInStep_24 rfl r2
    · refine lv_iconst (v := (1 : Int32)) hx hb dX0_isInStep_19 (by decide) ?_
      refine lv_goto (tgt := 24) hx hb dX0_isInStep_20 (by decide) ?_
      have r3 : f_isInStep u = true := by
        rw [f_isInStep, if_neg c_5, if_neg c_16]
      exact kr_z (x := true) hx hb hr hlk dX0_isInStep_24 rfl r3

def rm_X0_property : Room := { frames := 2, cells := 0, slots := 0, locals := 42 }
theorem mi_X0_property : kM yX0_property wsX0_property cX0_property 3 (some .int) 2 := ⟨⟨_, rfl⟩, by decide, by decide, by decide +kernel⟩
def f_property (u : BS) (p0 : Int32) (p1 : Int32) : Int32 := if (f_has u p0) = true then (if p1 = (0 : Int32) then (u 0 p0.toNatClampNeg) else if p1 = (1 : Int32) then (u 1 p0.toNatClampNeg) else if p1 = (2 : Int32) then (u 2 p0.toNatClampNeg) else if p1 = (3 : Int32) then (if (u 3 p0.toNatClampNeg) = 0 then (0 : Int32) else (1 : Int32)) else if p1 = (4 : Int32) then (if (f_goes u p0) = true then (1 : Int32) else (0 : Int32)) else if p1 = (5 : Int32) then (u 4 p0.toNatClampNeg) else if p1 = (6 : Int32) then ((f_swing (u 1 p0.toNatClampNeg)) + (1000 : Int32)) else if p1 = (7 : Int32) then ((f_swing (f_quarterOn (u 1 p0.toNatClampNeg))) + (1000 : Int32)) else (f_pull u (u 1 p0.toNatClampNeg)) + (1000 : Int32)) else (-1 : Int32)
set_option maxHeartbeats 1000000 in
set_option maxRecDepth 100000 in
theorem c_X0_property (l : Launch) (dC : Nat → ClassId) (dI : Nat → Nat → Nat) (cI cZ cO : ClassId) (h0 : Nat) (q : Nat → Nat) (u : BS) (p0 : Int32) (p1 : Int32) : Met l yX0_property wsX0_property rm_X0_property (va_Pc [.ref h0, .int p0, .int p1] (fun U => va_P (dC, dI) vwCl (BW cI cZ h0 q u) U.heap ∧ va_K (dC, dI) vwCl (TY cI cZ cO) U)) (kQ (some (.int (f_property u p0 p1)))) 0 0 (fun _ => False) := by
  refine kofR (cc := cX0_property) (maxL := 3) (ret := some .int) (by decide) rfl (Nat.le_of_ble_eq_true rfl) ?_
  intro p e s m args below meth c ls S hr hlk hP hK hl
  obtain ⟨hx, hb, hml, hown, hts⟩ := id S
  have inX0 : ∀ w ∈ wsX00, w ∈ wsX0_property := fun w h => List.mem_cons_of_mem _ (List.mem_append_right _ h)
  have hl : lv_has ls 3 [(0, .ref h0), (1, .int p0), (2, .int p1)] := hl
  refine lv_aload_n hx hb dX0_property_0 rfl (lv_at hl 0 rfl) ?_
  refine lv_iload_n hx hb dX0_property_1 rfl (lv_at hl 1 rfl) ?_
  refine kc_v (As := [.int p0]) (rest := []) S (v := .int (bI (f_has u p0))) (c_X0_has l dC dI cI cZ cO h0 q u p0) gX0_property_X0_has mi_X0_has ⟨rfl, rfl⟩ ⟨Nat.le_of_ble_eq_true rfl, Nat.le_of_ble_eq_true rfl⟩ hK hP 0 rfl rfl ⟨Nat.le_refl _, Nat.le_refl _⟩ dX0_property_2 rfl hl.1 rfl (Nat.le_of_ble_eq_true rfl) ?_
  refine kb_ne (tgt := 10) hx hb dX0_property_5 (by decide) (fun c_5 => ?_) (fun c_5 => ?_)
  · refine lv_iload_n hx hb dX0_property_10 rfl (lv_at hl 2 rfl) ?_
    by_cases c_11_0 : p1 = (0 : Int32)
    · refine lv_tableIn (off := 45) (tgt := 56) hx hb dX0_property_11 (by rw [c_11_0]; decide) (by rw [c_11_0]; decide) (by rw [c_11_0]; rfl) (by decide) ?_
      refine lv_aload_n hx hb dX0_property_56 rfl (lv_at hl 0 rfl) ?_
      refine va_get (D := (dC, dI)) (ci := 0) (v := .ref (q 0)) (C := RX0) (T := TX0) (N := 14) hx hb hts inX0 hown hK hP 0 rfl rfl 0 (by decide) (hts (.fieldLink RX0 9 "BoardMetronomes$Bench" "beats" "[I") (by decide +kernel)) (fun _ h9 => h9) rfl dX0_property_57 ?_
      refine lv_iload_n hx hb dX0_property_60 rfl (lv_at hl 1 rfl) ?_
      refine va_iald (D := (dC, dI)) hx hb hK hP 1 0 rfl rfl (f_has_in c_5) dX0_property_61 ?_
      have r1 : f_property u p0 p1 = u 0 p0.toNatClampNeg := by
        rw [f_property, if_pos c_5, if_pos c_11_0]
      exact kr_i hx hb hr hlk dX0_property_62 r1.symm
    by_cases c_11_1 : p1 = (1 : Int32)
    · refine lv_tableIn (off := 52) (tgt := 63) hx hb dX0_property_11 (by rw [c_11_1]; decide) (by rw [c_11_1]; decide) (by rw [c_11_1]; rfl) (by decide) ?_
      refine lv_aload_n hx hb dX0_property_63 rfl (lv_at hl 0 rfl) ?_
      refine va_get (D := (dC, dI)) (ci := 0) (v := .ref (q 1)) (C := RX0) (T := TX0) (N := 14) hx hb hts inX0 hown hK hP 0 rfl rfl 1 (by decide) (hts (.fieldLink RX0 15 "BoardMetronomes$Bench" "phases" "[I") (by decide +kernel)) (fun _ h9 => h9) rfl dX0_property_64 ?_
      refine lv_iload_n hx hb dX0_property_67 rfl (lv_at hl 1 rfl) ?_
      refine va_iald (D := (dC, dI)) hx hb hK hP 2 0 rfl rfl (f_has_in c_5) dX0_property_68 ?_
      have r2 : f_property u p0 p1 = u 1 p0.toNatClampNeg := by
        rw [f_property, if_pos c_5, if_neg c_11_0, if_pos c_11_1]
      exact kr_i hx hb hr hlk dX0_property_69 r2.symm
    by_cases c_11_2 : p1 = (2 : Int32)
    · refine lv_tableIn (off := 59) (tgt := 70) hx hb dX0_property_11 (by rw [c_11_2]; decide) (by rw [c_11_2]; decide) (by rw [c_11_2]; rfl) (by decide) ?_
      refine lv_aload_n hx hb dX0_property_70 rfl (lv_at hl 0 rfl) ?_
      refine va_get (D := (dC, dI)) (ci := 0) (v := .ref (q 2)) (C := RX0) (T := TX0) (N := 14) hx hb hts inX0 hown hK hP 0 rfl rfl 2 (by decide) (hts (.fieldLink RX0 18 "BoardMetronomes$Bench" "springs" "[I") (by decide +kernel)) (fun _ h9 => h9) rfl dX0_property_71 ?_
      refine lv_iload_n hx hb dX0_property_74 rfl (lv_at hl 1 rfl) ?_
      refine va_iald (D := (dC, dI)) hx hb hK hP 3 0 rfl rfl (f_has_in c_5) dX0_property_75 ?_
      have r3 : f_property u p0 p1 = u 2 p0.toNatClampNeg := by
        rw [f_property, if_pos c_5, if_neg c_11_0, if_neg c_11_1, if_pos c_11_2]
      exact kr_i hx hb hr hlk dX0_property_76 r3.symm
    by_cases c_11_3 : p1 = (3 : Int32)
    · refine lv_tableIn (off := 66) (tgt := 77) hx hb dX0_property_11 (by rw [c_11_3]; decide) (by rw [c_11_3]; decide) (by rw [c_11_3]; rfl) (by decide) ?_
      refine lv_aload_n hx hb dX0_property_77 rfl (lv_at hl 0 rfl) ?_
      refine va_get (D := (dC, dI)) (ci := 0) (v := .ref (q 3)) (C := RX0) (T := TX0) (N := 14) hx hb hts inX0 hown hK hP 0 rfl rfl 3 (by decide) (hts (.fieldLink RX0 21 "BoardMetronomes$Bench" "held" "[Z") (by decide +kernel)) (fun _ h9 => h9) rfl dX0_property_78 ?_
      refine lv_iload_n hx hb dX0_property_81 rfl (lv_at hl 1 rfl) ?_
      refine va_zald (D := (dC, dI)) hx hb hK hP 4 1 rfl rfl (f_has_in c_5) dX0_property_82 ?_
      refine lv_if_eq (tgt := 90) hx hb dX0_property_83 (by decide) (fun c_83 => ?_) (fun c_83 => ?_)
      · refine lv_iconst (v := (0 : Int32)) hx hb dX0_property_90 (by decide) ?_
        have r4 : f_property u p0 p1 = (0 : Int32) := by
          rw [f_property, if_pos c_5, if_neg c_11_0, if_neg c_11_1, if_neg c_11_2, if_pos c_11_3, if_pos c_83]
        exact kr_i hx hb hr hlk dX0_property_91 r4.symm
      · refine lv_iconst (v := (1 : Int32)) hx hb dX0_property_86 (by decide) ?_
        refine lv_goto (tgt := 91) hx hb dX0_property_87 (by decide) ?_
        have r5 : f_property u p0 p1 = (1 : Int32) := by
          rw [f_property, if_pos c_5, if_neg c_11_0, if_neg c_11_1, if_neg c_11_2, if_pos c_11_3, if_neg c_83]
        exact kr_i hx hb hr hlk dX0_property_91 r5.symm
    by_cases c_11_4 : p1 = (4 : Int32)
    · refine lv_tableIn (off := 81) (tgt := 92) hx hb dX0_property_11 (by rw [c_11_4]; decide) (by rw [c_11_4]; decide) (by rw [c_11_4]; rfl) (by decide) ?_
      refine lv_aload_n hx hb dX0_property_92 rfl (lv_at hl 0 rfl) ?_
      refine lv_iload_n hx hb dX0_property_93 rfl (lv_at hl 1 rfl) ?_
      refine kc_v (As := [.int p0]) (rest := []) S (v := .int (bI (f_goes u p0))) (c_X0_goes l dC dI cI cZ cO h0 q u p0) gX0_property_X0_goes mi_X0_goes ⟨rfl, rfl⟩ ⟨Nat.le_of_ble_eq_true rfl, Nat.le_of_ble_eq_true rfl⟩ hK hP 0 rfl rfl ⟨Nat.le_refl _, Nat.le_refl _⟩ dX0_property_94 rfl hl.1 rfl (Nat.le_of_ble_eq_true rfl) ?_
      refine kb_eq (tgt := 104) hx hb dX0_property_97 (by decide) (fun c_97 => ?_) (fun c_97 => ?_)
      · refine lv_iconst (v := (0 : Int32)) hx hb dX0_property_104 (by decide) ?_
        have r6 : f_property u p0 p1 = (0 : Int32) := by
          rw [f_property, if_pos c_5, if_neg c_11_0, if_neg c_11_1, if_neg c_11_2, if_neg c_11_3, if_pos c_11_4, if_neg c_97]
        exact kr_i hx hb hr hlk dX0_property_105 r6.symm
      · refine lv_iconst (v := (1 : Int32)) hx hb dX0_property_100 (by decide) ?_
        refine lv_goto (tgt := 105) hx hb dX0_property_101 (by decide) ?_
        have r7 : f_property u p0 p1 = (1 : Int32) := by
          rw [f_property, if_pos c_5, if_neg c_11_0, if_neg c_11_1, if_neg c_11_2, if_neg c_11_3, if_pos c_11_4, if_pos c_97]
        exact kr_i hx hb hr hlk dX0_property_105 r7.symm
    by_cases c_11_5 : p1 = (5 : Int32)
    · refine lv_tableIn (off := 95) (tgt := 106) hx hb dX0_property_11 (by rw [c_11_5]; decide) (by rw [c_11_5]; decide) (by rw [c_11_5]; rfl) (by decide) ?_
      refine lv_aload_n hx hb dX0_property_106 rfl (lv_at hl 0 rfl) ?_
      refine va_get (D := (dC, dI)) (ci := 0) (v := .ref (q 4)) (C := RX0) (T := TX0) (N := 14) hx hb hts inX0 hown hK hP 0 rfl rfl 4 (by decide) (hts (.fieldLink RX0 25 "BoardMetronomes$Bench" "ticks" "[I") (by decide +kernel)) (fun _ h9 => h9) rfl dX0_property_107 ?_
      refine lv_iload_n hx hb dX0_property_110 rfl (lv_at hl 1 rfl) ?_
      refine va_iald (D := (dC, dI)) hx hb hK hP 5 0 rfl rfl (f_has_in c_5) dX0_property_111 ?_
      have r8 : f_property u p0 p1 = u 4 p0.toNatClampNeg := by
        rw [f_property, if_pos c_5, if_neg c_11_0, if_neg c_11_1, if_neg c_11_2, if_neg c_11_3, if_neg c_11_4, if_pos c_11_5]
      exact kr_i hx hb hr hlk dX0_property_112 r8.symm
    by_cases c_11_6 : p1 = (6 : Int32)
    · refine lv_tableIn (off := 102) (tgt := 113) hx hb dX0_property_11 (by rw [c_11_6]; decide) (by rw [c_11_6]; decide) (by rw [c_11_6]; rfl) (by decide) ?_
      refine lv_aload_n hx hb dX0_property_113 rfl (lv_at hl 0 rfl) ?_
      refine va_get (D := (dC, dI)) (ci := 0) (v := .ref (q 1)) (C := RX0) (T := TX0) (N := 14) hx hb hts inX0 hown hK hP 0 rfl rfl 1 (by decide) (hts (.fieldLink RX0 15 "BoardMetronomes$Bench" "phases" "[I") (by decide +kernel)) (fun _ h9 => h9) rfl dX0_property_114 ?_
      refine lv_iload_n hx hb dX0_property_117 rfl (lv_at hl 1 rfl) ?_
      refine va_iald (D := (dC, dI)) hx hb hK hP 2 0 rfl rfl (f_has_in c_5) dX0_property_118 ?_
      refine kc_p (y := yX0_swing) (As := [.int (u 1 p0.toNatClampNeg)]) (rest := []) rfl S (v := .int (f_swing (u 1 p0.toNatClampNeg))) (c_X0_swing l (u 1 p0.toNatClampNeg)) gX0_property_X0_swing mi_X0_swing ⟨rfl, rfl⟩ ⟨Nat.le_of_ble_eq_true rfl, Nat.le_of_ble_eq_true rfl⟩ ⟨Nat.le_refl _, Nat.le_refl _⟩ dX0_property_119 rfl hl.1 rfl (Nat.le_of_ble_eq_true rfl) ?_
      refine lv_sipush (v := (1000 : Int32)) hx hb dX0_property_122 (by decide) ?_
      refine lv_iadd hx hb dX0_property_125 ?_
      have r9 : f_property u p0 p1 = (f_swing (u 1 p0.toNatClampNeg)) + (1000 : Int32) := by
        rw [f_property, if_pos c_5, if_neg c_11_0, if_neg c_11_1, if_neg c_11_2, if_neg c_11_3, if_neg c_11_4, if_neg c_11_5, if_pos c_11_6]
      exact kr_i hx hb hr hlk dX0_property_126 r9.symm
    by_cases c_11_7 : p1 = (7 : Int32)
    · refine lv_tableIn (off := 116) (tgt := 127) hx hb dX0_property_11 (by rw [c_11_7]; decide) (by rw [c_11_7]; decide) (by rw [c_11_7]; rfl) (by decide) ?_
      refine lv_aload_n hx hb dX0_property_127 rfl (lv_at hl 0 rfl) ?_
      refine va_get (D := (dC, dI)) (ci := 0) (v := .ref (q 1)) (C := RX0) (T := TX0) (N := 14) hx hb hts inX0 hown hK hP 0 rfl rfl 1 (by decide) (hts (.fieldLink RX0 15 "BoardMetronomes$Bench" "phases" "[I") (by decide +kernel)) (fun _ h9 => h9) rfl dX0_property_128 ?_
      refine lv_iload_n hx hb dX0_property_131 rfl (lv_at hl 1 rfl) ?_
      refine va_iald (D := (dC, dI)) hx hb hK hP 2 0 rfl rfl (f_has_in c_5) dX0_property_132 ?_
      refine kc_p (y := yX0_quarterOn) (As := [.int (u 1 p0.toNatClampNeg)]) (rest := []) rfl S (v := .int (f_quarterOn (u 1 p0.toNatClampNeg))) (c_X0_quarterOn l (u 1 p0.toNatClampNeg)) gX0_property_X0_quarterOn mi_X0_quarterOn ⟨rfl, rfl⟩ ⟨Nat.le_of_ble_eq_true rfl, Nat.le_of_ble_eq_true rfl⟩ ⟨Nat.le_refl _, Nat.le_refl _⟩ dX0_property_133 rfl hl.1 rfl (Nat.le_of_ble_eq_true rfl) ?_
      refine kc_p (y := yX0_swing) (As := [.int (f_quarterOn (u 1 p0.toNatClampNeg))]) (rest := []) rfl S (v := .int (f_swing (f_quarterOn (u 1 p0.toNatClampNeg)))) (c_X0_swing l (f_quarterOn (u 1 p0.toNatClampNeg))) gX0_property_X0_swing mi_X0_swing ⟨rfl, rfl⟩ ⟨Nat.le_of_ble_eq_true rfl, Nat.le_of_ble_eq_true rfl⟩ ⟨Nat.le_refl _, Nat.le_refl _⟩ dX0_property_136 rfl hl.1 rfl (Nat.le_of_ble_eq_true rfl) ?_
      refine lv_sipush (v := (1000 : Int32)) hx hb dX0_property_139 (by decide) ?_
      refine lv_iadd hx hb dX0_property_142 ?_
      have r10 : f_property u p0 p1 = (f_swing (f_quarterOn (u 1 p0.toNatClampNeg))) + (1000 : Int32) := by
        rw [f_property, if_pos c_5, if_neg c_11_0, if_neg c_11_1, if_neg c_11_2, if_neg c_11_3, if_neg c_11_4, if_neg c_11_5, if_neg c_11_6, if_pos c_11_7]
      exact kr_i hx hb hr hlk dX0_property_143 r10.symm
    refine lv_tableOut (tgt := 144) hx hb dX0_property_11 (by have e_0 := lv_neT c_11_0 (a := 0) (by decide); have e_1 := lv_neT c_11_1 (a := 1) (by decide); have e_2 := lv_neT c_11_2 (a := 2) (by decide); have e_3 := lv_neT c_11_3 (a := 3) (by decide); have e_4 := lv_neT c_11_4 (a := 4) (by decide); have e_5 := lv_neT c_11_5 (a := 5) (by decide); have e_6 := lv_neT c_11_6 (a := 6) (by decide); have e_7 := lv_neT c_11_7 (a := 7) (by decide); omega) (by decide) ?_
    refine lv_aload_n hx hb dX0_property_144 rfl (lv_at hl 0 rfl) ?_
    refine lv_aload_n hx hb dX0_property_145 rfl (lv_at hl 0 rfl) ?_
    refine va_get (D := (dC, dI)) (ci := 0) (v := .ref (q 1)) (C := RX0) (T := TX0) (N := 14) hx hb hts inX0 hown hK hP 0 rfl rfl 1 (by decide) (hts (.fieldLink RX0 15 "BoardMetronomes$Bench" "phases" "[I") (by decide +kernel)) (fun _ h9 => h9) rfl dX0_property_146 ?_
    refine lv_iload_n hx hb dX0_property_149 rfl (lv_at hl 1 rfl) ?_
    refine va_iald (D := (dC, dI)) hx hb hK hP 2 0 rfl rfl (f_has_in c_5) dX0_property_150 ?_
    refine kc_v (As := [.int (u 1 p0.toNatClampNeg)]) (rest := []) S (v := .int (f_pull u (u 1 p0.toNatClampNeg))) (c_X0_pull l dC dI cI cZ cO h0 q u (u 1 p0.toNatClampNeg)) gX0_property_X0_pull mi_X0_pull ⟨rfl, rfl⟩ ⟨Nat.le_of_ble_eq_true rfl, Nat.le_of_ble_eq_true rfl⟩ hK hP 0 rfl rfl ⟨Nat.le_refl _, Nat.le_refl _⟩ dX0_property_151 rfl hl.1 rfl (Nat.le_of_ble_eq_true rfl) ?_
    refine lv_sipush (v := (1000 : Int32)) hx hb dX0_property_154 (by decide) ?_
    refine lv_iadd hx hb dX0_property_157 ?_
    have r11 : f_property u p0 p1 = (f_pull u (u 1 p0.toNatClampNeg)) + (1000 : Int32) := by
      rw [f_property, if_pos c_5, if_neg c_11_0, if_neg c_11_1, if_neg c_11_2, if_neg c_11_3, if_neg c_11_4, if_neg c_11_5, if_neg c_11_6, if_neg c_11_7]
    exact kr_i hx hb hr hlk dX0_property_158 r11.symm
  · refine lv_iconst (v := (-1 : Int32)) hx hb dX0_property_8 (by decide) ?_
    have r12 : f_property u p0 p1 = (-1 : Int32) := by
      rw [f_property, if_neg c_5]
    exact kr_i hx hb hr hlk dX0_property_9 r12.symm

def rm_X0_figureOf : Room := { frames := 4, cells := 0, slots := 0, locals := 88 }
theorem mi_X0_figureOf : kM yX0_figureOf wsX0_figureOf cX0_figureOf 2 (some .int) 1 := ⟨⟨_, rfl⟩, by decide, by decide, by decide +kernel⟩
def f_figureOf (u : BS) (p0 : Int32) : Int32 := if p0 = (0 : Int32) then (u 5 0) else if p0 = (1 : Int32) then (f_going u) else if p0 = (2 : Int32) then (u 11 0) else if p0 = (3 : Int32) then (u 12 0) else if p0 = (4 : Int32) then ((u 6 0) + (1000 : Int32)) else if p0 = (5 : Int32) then ((u 7 0) + (1000 : Int32)) else if p0 = (6 : Int32) then (f_order u) else if p0 = (7 : Int32) then (f_orderByPairs u) else if p0 = (8 : Int32) then (if (f_isInStep u) = true then (1 : Int32) else (0 : Int32)) else if p0 = (9 : Int32) then (f_greatestDistance u) else u 13 0
set_option maxHeartbeats 1000000 in
set_option maxRecDepth 100000 in
theorem c_X0_figureOf (l : Launch) (dC : Nat → ClassId) (dI : Nat → Nat → Nat) (cI cZ cO : ClassId) (h0 : Nat) (q : Nat → Nat) (u : BS) (p0 : Int32) : Met l yX0_figureOf wsX0_figureOf rm_X0_figureOf (va_Pc [.ref h0, .int p0] (fun U => va_P (dC, dI) vwCl (BW cI cZ h0 q u) U.heap ∧ va_K (dC, dI) vwCl (TY cI cZ cO) U)) (kQ (some (.int (f_figureOf u p0)))) 0 0 (fun _ => False) := by
  refine kofR (cc := cX0_figureOf) (maxL := 2) (ret := some .int) (by decide) rfl (Nat.le_of_ble_eq_true rfl) ?_
  intro p e s m args below meth c ls S hr hlk hP hK hl
  obtain ⟨hx, hb, hml, hown, hts⟩ := id S
  have inX0 : ∀ w ∈ wsX00, w ∈ wsX0_figureOf := fun w h => List.mem_cons_of_mem _ (List.mem_append_right _ h)
  have hl : lv_has ls 2 [(0, .ref h0), (1, .int p0)] := hl
  refine lv_iload_n hx hb dX0_figureOf_0 rfl (lv_at hl 1 rfl) ?_
  by_cases c_1_0 : p0 = (0 : Int32)
  · refine lv_tableIn (off := 55) (tgt := 56) hx hb dX0_figureOf_1 (by rw [c_1_0]; decide) (by rw [c_1_0]; decide) (by rw [c_1_0]; rfl) (by decide) ?_
    refine lv_aload_n hx hb dX0_figureOf_56 rfl (lv_at hl 0 rfl) ?_
    refine va_get (D := (dC, dI)) (ci := 0) (v := .int (u 5 0)) (C := RX0) (T := TX0) (N := 14) hx hb hts inX0 hown hK hP 0 rfl rfl 5 (by decide) (hts (.fieldLink RX0 38 "BoardMetronomes$Bench" "size" "I") (by decide +kernel)) (fun _ h9 => h9) rfl dX0_figureOf_57 ?_
    have r1 : f_figureOf u p0 = u 5 0 := by
      rw [f_figureOf, if_pos c_1_0]
    exact kr_i hx hb hr hlk dX0_figureOf_60 r1.symm
  by_cases c_1_1 : p0 = (1 : Int32)
  · refine lv_tableIn (off := 60) (tgt := 61) hx hb dX0_figureOf_1 (by rw [c_1_1]; decide) (by rw [c_1_1]; decide) (by rw [c_1_1]; rfl) (by decide) ?_
    refine lv_aload_n hx hb dX0_figureOf_61 rfl (lv_at hl 0 rfl) ?_
    refine kc_v (As := []) (rest := []) S (v := .int (f_going u)) (c_X0_going l dC dI cI cZ cO h0 q u) gX0_figureOf_X0_going mi_X0_going ⟨rfl, rfl⟩ ⟨Nat.le_of_ble_eq_true rfl, Nat.le_of_ble_eq_true rfl⟩ hK hP 0 rfl rfl ⟨Nat.le_refl _, Nat.le_refl _⟩ dX0_figureOf_62 rfl hl.1 rfl (Nat.le_of_ble_eq_true rfl) ?_
    have r2 : f_figureOf u p0 = f_going u := by
      rw [f_figureOf, if_neg c_1_0, if_pos c_1_1]
    exact kr_i hx hb hr hlk dX0_figureOf_65 r2.symm
  by_cases c_1_2 : p0 = (2 : Int32)
  · refine lv_tableIn (off := 65) (tgt := 66) hx hb dX0_figureOf_1 (by rw [c_1_2]; decide) (by rw [c_1_2]; decide) (by rw [c_1_2]; rfl) (by decide) ?_
    refine lv_aload_n hx hb dX0_figureOf_66 rfl (lv_at hl 0 rfl) ?_
    refine va_get (D := (dC, dI)) (ci := 0) (v := .int (u 11 0)) (C := RX0) (T := TX0) (N := 14) hx hb hts inX0 hown hK hP 0 rfl rfl 11 (by decide) (hts (.fieldLink RX0 47 "BoardMetronomes$Bench" "steps" "I") (by decide +kernel)) (fun _ h9 => h9) rfl dX0_figureOf_67 ?_
    have r3 : f_figureOf u p0 = u 11 0 := by
      rw [f_figureOf, if_neg c_1_0, if_neg c_1_1, if_pos c_1_2]
    exact kr_i hx hb hr hlk dX0_figureOf_70 r3.symm
  by_cases c_1_3 : p0 = (3 : Int32)
  · refine lv_tableIn (off := 70) (tgt := 71) hx hb dX0_figureOf_1 (by rw [c_1_3]; decide) (by rw [c_1_3]; decide) (by rw [c_1_3]; rfl) (by decide) ?_
    refine lv_aload_n hx hb dX0_figureOf_71 rfl (lv_at hl 0 rfl) ?_
    refine va_get (D := (dC, dI)) (ci := 0) (v := .int (u 12 0)) (C := RX0) (T := TX0) (N := 14) hx hb hts inX0 hown hK hP 0 rfl rfl 12 (by decide) (hts (.fieldLink RX0 50 "BoardMetronomes$Bench" "allTicks" "I") (by decide +kernel)) (fun _ h9 => h9) rfl dX0_figureOf_72 ?_
    have r4 : f_figureOf u p0 = u 12 0 := by
      rw [f_figureOf, if_neg c_1_0, if_neg c_1_1, if_neg c_1_2, if_pos c_1_3]
    exact kr_i hx hb hr hlk dX0_figureOf_75 r4.symm
  by_cases c_1_4 : p0 = (4 : Int32)
  · refine lv_tableIn (off := 75) (tgt := 76) hx hb dX0_figureOf_1 (by rw [c_1_4]; decide) (by rw [c_1_4]; decide) (by rw [c_1_4]; rfl) (by decide) ?_
    refine lv_aload_n hx hb dX0_figureOf_76 rfl (lv_at hl 0 rfl) ?_
    refine va_get (D := (dC, dI)) (ci := 0) (v := .int (u 6 0)) (C := RX0) (T := TX0) (N := 14) hx hb hts inX0 hown hK hP 0 rfl rfl 6 (by decide) (hts (.fieldLink RX0 41 "BoardMetronomes$Bench" "a" "I") (by decide +kernel)) (fun _ h9 => h9) rfl dX0_figureOf_77 ?_
    refine lv_sipush (v := (1000 : Int32)) hx hb dX0_figureOf_80 (by decide) ?_
    refine lv_iadd hx hb dX0_figureOf_83 ?_
    have r5 : f_figureOf u p0 = (u 6 0) + (1000 : Int32) := by
      rw [f_figureOf, if_neg c_1_0, if_neg c_1_1, if_neg c_1_2, if_neg c_1_3, if_pos c_1_4]
    exact kr_i hx hb hr hlk dX0_figureOf_84 r5.symm
  by_cases c_1_5 : p0 = (5 : Int32)
  · refine lv_tableIn (off := 84) (tgt := 85) hx hb dX0_figureOf_1 (by rw [c_1_5]; decide) (by rw [c_1_5]; decide) (by rw [c_1_5]; rfl) (by decide) ?_
    refine lv_aload_n hx hb dX0_figureOf_85 rfl (lv_at hl 0 rfl) ?_
    refine va_get (D := (dC, dI)) (ci := 0) (v := .int (u 7 0)) (C := RX0) (T := TX0) (N := 14) hx hb hts inX0 hown hK hP 0 rfl rfl 7 (by decide) (hts (.fieldLink RX0 44 "BoardMetronomes$Bench" "b" "I") (by decide +kernel)) (fun _ h9 => h9) rfl dX0_figureOf_86 ?_
    refine lv_sipush (v := (1000 : Int32)) hx hb dX0_figureOf_89 (by decide) ?_
    refine lv_iadd hx hb dX0_figureOf_92 ?_
    have r6 : f_figureOf u p0 = (u 7 0) + (1000 : Int32) := by
      rw [f_figureOf, if_neg c_1_0, if_neg c_1_1, if_neg c_1_2, if_neg c_1_3, if_neg c_1_4, if_pos c_1_5]
    exact kr_i hx hb hr hlk dX0_figureOf_93 r6.symm
  by_cases c_1_6 : p0 = (6 : Int32)
  · refine lv_tableIn (off := 93) (tgt := 94) hx hb dX0_figureOf_1 (by rw [c_1_6]; decide) (by rw [c_1_6]; decide) (by rw [c_1_6]; rfl) (by decide) ?_
    refine lv_aload_n hx hb dX0_figureOf_94 rfl (lv_at hl 0 rfl) ?_
    refine kc_v (As := []) (rest := []) S (v := .int (f_order u)) (c_X0_order l dC dI cI cZ cO h0 q u) gX0_figureOf_X0_order mi_X0_order ⟨rfl, rfl⟩ ⟨Nat.le_of_ble_eq_true rfl, Nat.le_of_ble_eq_true rfl⟩ hK hP 0 rfl rfl ⟨Nat.le_refl _, Nat.le_refl _⟩ dX0_figureOf_95 rfl hl.1 rfl (Nat.le_of_ble_eq_true rfl) ?_
    have r7 : f_figureOf u p0 = f_order u := by
      rw [f_figureOf, if_neg c_1_0, if_neg c_1_1, if_neg c_1_2, if_neg c_1_3, if_neg c_1_4, if_neg c_1_5, if_pos c_1_6]
    exact kr_i hx hb hr hlk dX0_figureOf_98 r7.symm
  by_cases c_1_7 : p0 = (7 : Int32)
  · refine lv_tableIn (off := 98) (tgt := 99) hx hb dX0_figureOf_1 (by rw [c_1_7]; decide) (by rw [c_1_7]; decide) (by rw [c_1_7]; rfl) (by decide) ?_
    refine lv_aload_n hx hb dX0_figureOf_99 rfl (lv_at hl 0 rfl) ?_
    refine kc_v (As := []) (rest := []) S (v := .int (f_orderByPairs u)) (c_X0_orderByPairs l dC dI cI cZ cO h0 q u) gX0_figureOf_X0_orderByPairs mi_X0_orderByPairs ⟨rfl, rfl⟩ ⟨Nat.le_of_ble_eq_true rfl, Nat.le_of_ble_eq_true rfl⟩ hK hP 0 rfl rfl ⟨Nat.le_refl _, Nat.le_refl _⟩ dX0_figureOf_100 rfl hl.1 rfl (Nat.le_of_ble_eq_true rfl) ?_
    have r8 : f_figureOf u p0 = f_orderByPairs u := by
      rw [f_figureOf, if_neg c_1_0, if_neg c_1_1, if_neg c_1_2, if_neg c_1_3, if_neg c_1_4, if_neg c_1_5, if_neg c_1_6, if_pos c_1_7]
    exact kr_i hx hb hr hlk dX0_figureOf_103 r8.symm
  by_cases c_1_8 : p0 = (8 : Int32)
  · refine lv_tableIn (off := 103) (tgt := 104) hx hb dX0_figureOf_1 (by rw [c_1_8]; decide) (by rw [c_1_8]; decide) (by rw [c_1_8]; rfl) (by decide) ?_
    refine lv_aload_n hx hb dX0_figureOf_104 rfl (lv_at hl 0 rfl) ?_
    refine kc_v (As := []) (rest := []) S (v := .int (bI (f_isInStep u))) (c_X0_isInStep l dC dI cI cZ cO h0 q u) gX0_figureOf_X0_isInStep mi_X0_isInStep ⟨rfl, rfl⟩ ⟨Nat.le_of_ble_eq_true rfl, Nat.le_of_ble_eq_true rfl⟩ hK hP 0 rfl rfl ⟨Nat.le_refl _, Nat.le_refl _⟩ dX0_figureOf_105 rfl hl.1 rfl (Nat.le_of_ble_eq_true rfl) ?_
    refine kb_eq (tgt := 115) hx hb dX0_figureOf_108 (by decide) (fun c_108 => ?_) (fun c_108 => ?_)
    · refine lv_iconst (v := (0 : Int32)) hx hb dX0_figureOf_115 (by decide) ?_
      have r9 : f_figureOf u p0 = (0 : Int32) := by
        rw [f_figureOf, if_neg c_1_0, if_neg c_1_1, if_neg c_1_2, if_neg c_1_3, if_neg c_1_4, if_neg c_1_5, if_neg c_1_6, if_neg c_1_7, if_pos c_1_8, if_neg c_108]
      exact kr_i hx hb hr hlk dX0_figureOf_116 r9.symm
    · refine lv_iconst (v := (1 : Int32)) hx hb dX0_figureOf_111 (by decide) ?_
      refine lv_goto (tgt := 116) hx hb dX0_figureOf_112 (by decide) ?_
      have r10 : f_figureOf u p0 = (1 : Int32) := by
        rw [f_figureOf, if_neg c_1_0, if_neg c_1_1, if_neg c_1_2, if_neg c_1_3, if_neg c_1_4, if_neg c_1_5, if_neg c_1_6, if_neg c_1_7, if_pos c_1_8, if_pos c_108]
      exact kr_i hx hb hr hlk dX0_figureOf_116 r10.symm
  by_cases c_1_9 : p0 = (9 : Int32)
  · refine lv_tableIn (off := 116) (tgt := 117) hx hb dX0_figureOf_1 (by rw [c_1_9]; decide) (by rw [c_1_9]; decide) (by rw [c_1_9]; rfl) (by decide) ?_
    refine lv_aload_n hx hb dX0_figureOf_117 rfl (lv_at hl 0 rfl) ?_
    refine kc_v (As := []) (rest := []) S (v := .int (f_greatestDistance u)) (c_X0_greatestDistance l dC dI cI cZ cO h0 q u) gX0_figureOf_X0_greatestDistance mi_X0_greatestDistance ⟨rfl, rfl⟩ ⟨Nat.le_of_ble_eq_true rfl, Nat.le_of_ble_eq_true rfl⟩ hK hP 0 rfl rfl ⟨Nat.le_refl _, Nat.le_refl _⟩ dX0_figureOf_118 rfl hl.1 rfl (Nat.le_of_ble_eq_true rfl) ?_
    have r11 : f_figureOf u p0 = f_greatestDistance u := by
      rw [f_figureOf, if_neg c_1_0, if_neg c_1_1, if_neg c_1_2, if_neg c_1_3, if_neg c_1_4, if_neg c_1_5, if_neg c_1_6, if_neg c_1_7, if_neg c_1_8, if_pos c_1_9]
    exact kr_i hx hb hr hlk dX0_figureOf_121 r11.symm
  refine lv_tableOut (tgt := 122) hx hb dX0_figureOf_1 (by have e_0 := lv_neT c_1_0 (a := 0) (by decide); have e_1 := lv_neT c_1_1 (a := 1) (by decide); have e_2 := lv_neT c_1_2 (a := 2) (by decide); have e_3 := lv_neT c_1_3 (a := 3) (by decide); have e_4 := lv_neT c_1_4 (a := 4) (by decide); have e_5 := lv_neT c_1_5 (a := 5) (by decide); have e_6 := lv_neT c_1_6 (a := 6) (by decide); have e_7 := lv_neT c_1_7 (a := 7) (by decide); have e_8 := lv_neT c_1_8 (a := 8) (by decide); have e_9 := lv_neT c_1_9 (a := 9) (by decide); omega) (by decide) ?_
  refine lv_aload_n hx hb dX0_figureOf_122 rfl (lv_at hl 0 rfl) ?_
  refine va_get (D := (dC, dI)) (ci := 0) (v := .int (u 13 0)) (C := RX0) (T := TX0) (N := 14) hx hb hts inX0 hown hK hP 0 rfl rfl 13 (by decide) (hts (.fieldLink RX0 53 "BoardMetronomes$Bench" "stepsTogether" "I") (by decide +kernel)) (fun _ h9 => h9) rfl dX0_figureOf_123 ?_
  have r12 : f_figureOf u p0 = u 13 0 := by
    rw [f_figureOf, if_neg c_1_0, if_neg c_1_1, if_neg c_1_2, if_neg c_1_3, if_neg c_1_4, if_neg c_1_5, if_neg c_1_6, if_neg c_1_7, if_neg c_1_8, if_neg c_1_9]
  exact kr_i hx hb hr hlk dX0_figureOf_126 r12.symm

def rm_X5_in : Room := { frames := 0, cells := 0, slots := 0, locals := 0 }
theorem mi_X5_in : kM yX5_in wsX5_in cX5_in 3 (some .boolean) 3 := ⟨⟨_, rfl⟩, by decide, by decide, by decide +kernel⟩
def f_Min (p0 : Int32) (p1 : Int32) (p2 : Int32) : Bool := if p0 < p1 then false else if p2 < p0 then false else true
set_option maxHeartbeats 1000000 in
set_option maxRecDepth 100000 in
theorem c_X5_in (l : Launch) (p0 : Int32) (p1 : Int32) (p2 : Int32) : Met l yX5_in wsX5_in rm_X5_in (va_Pc [.int p0, .int p1, .int p2] (fun _ => True)) (kQ (some (.int (bI (f_Min p0 p1 p2))))) 0 0 (fun _ => False) := by
  refine kofP (cc := cX5_in) (maxL := 3) (ret := some .boolean) (by decide) rfl (Nat.le_of_ble_eq_true rfl) ?_
  intro p e s m args below meth c ls S hr hlk hl
  obtain ⟨hx, hb, hml, hown, hts⟩ := id S
  have hl : lv_has ls 3 [(0, .int p0), (1, .int p1), (2, .int p2)] := hl
  refine lv_iload_n hx hb dX5_in_0 rfl (lv_at hl 0 rfl) ?_
  refine lv_iload_n hx hb dX5_in_1 rfl (lv_at hl 1 rfl) ?_
  refine lv_icmp_lt (tgt := 14) hx hb dX5_in_2 (by decide) (fun c_2 => ?_) (fun c_2 => ?_)
  · refine lv_iconst (v := (0 : Int32)) hx hb dX5_in_14 (by decide) ?_
    have r1 : f_Min p0 p1 p2 = false := by
      rw [f_Min, if_pos c_2]
    exact kr_z (x := false) hx hb hr hlk dX5_in_15 rfl r1
  · refine lv_iload_n hx hb dX5_in_5 rfl (lv_at hl 0 rfl) ?_
    refine lv_iload_n hx hb dX5_in_6 rfl (lv_at hl 2 rfl) ?_
    refine lv_icmp_gt (tgt := 14) hx hb dX5_in_7 (by decide) (fun c_7 => ?_) (fun c_7 => ?_)
    · refine lv_iconst (v := (0 : Int32)) hx hb dX5_in_14 (by decide) ?_
      have r2 : f_Min p0 p1 p2 = false := by
        rw [f_Min, if_neg c_2, if_pos c_7]
      exact kr_z (x := false) hx hb hr hlk dX5_in_15 rfl r2
    · refine lv_iconst (v := (1 : Int32)) hx hb dX5_in_10 (by decide) ?_
      refine lv_goto (tgt := 15) hx hb dX5_in_11 (by decide) ?_
      have r3 : f_Min p0 p1 p2 = true := by
        rw [f_Min, if_neg c_2, if_neg c_7]
      exact kr_z (x := true) hx hb hr hlk dX5_in_15 rfl r3

def rm_X5_swing : Room := { frames := 0, cells := 0, slots := 0, locals := 0 }
theorem mi_X5_swing : kM yX5_swing wsX5_swing cX5_swing 3 (some .int) 1 := ⟨⟨_, rfl⟩, by decide, by decide, by decide +kernel⟩
def f_Mswing (p0 : Int32) : Int32 := if (1800 : Int32) ≤ p0 then (-(((p0 - p0 / (1800 : Int32) * (1800 : Int32)) * ((1800 : Int32) - (p0 - p0 / (1800 : Int32) * (1800 : Int32)))) / (810 : Int32))) else ((p0 - p0 / (1800 : Int32) * (1800 : Int32)) * ((1800 : Int32) - (p0 - p0 / (1800 : Int32) * (1800 : Int32)))) / (810 : Int32)
set_option maxHeartbeats 1000000 in
set_option maxRecDepth 100000 in
theorem c_X5_swing (l : Launch) (p0 : Int32) : Met l yX5_swing wsX5_swing rm_X5_swing (va_Pc [.int p0] (fun _ => True)) (kQ (some (.int (f_Mswing p0)))) 0 0 (fun _ => False) := by
  refine kofP (cc := cX5_swing) (maxL := 3) (ret := some .int) (by decide) rfl (Nat.le_of_ble_eq_true rfl) ?_
  intro p e s m args below meth c ls S hr hlk hl
  obtain ⟨hx, hb, hml, hown, hts⟩ := id S
  have hl : lv_has ls 3 [(0, .int p0)] := hl
  refine lv_iload_n hx hb dX5_swing_0 rfl (lv_at hl 0 rfl) ?_
  refine lv_sipush (v := (1800 : Int32)) hx hb dX5_swing_1 (by decide) ?_
  refine lv_irem hx hb dX5_swing_4 (by decide) ?_
  refine lv_istore_n (lv' := [(1, .int (p0 - p0 / (1800 : Int32) * (1800 : Int32))), (0, .int p0)]) hx hb dX5_swing_5 rfl hl (by decide) rfl (fun ls hl => ?_)
  refine lv_iload_n hx hb dX5_swing_6 rfl (lv_at hl 0 rfl) ?_
  refine lv_sipush (v := (1800 : Int32)) hx hb dX5_swing_7 (by decide) ?_
  refine lv_iload_n hx hb dX5_swing_10 rfl (lv_at hl 0 rfl) ?_
  refine lv_isub hx hb dX5_swing_11 ?_
  refine lv_imul hx hb dX5_swing_12 ?_
  refine lv_sipush (v := (810 : Int32)) hx hb dX5_swing_13 (by decide) ?_
  refine lv_idiv hx hb dX5_swing_16 (by decide) ?_
  refine lv_istore_n (lv' := [(2, .int (((p0 - p0 / (1800 : Int32) * (1800 : Int32)) * ((1800 : Int32) - (p0 - p0 / (1800 : Int32) * (1800 : Int32)))) / (810 : Int32))), (1, .int (p0 - p0 / (1800 : Int32) * (1800 : Int32))), (0, .int p0)]) hx hb dX5_swing_17 rfl hl (by decide) rfl (fun ls hl => ?_)
  refine lv_iload_n hx hb dX5_swing_18 rfl (lv_at hl 2 rfl) ?_
  refine lv_sipush (v := (1800 : Int32)) hx hb dX5_swing_19 (by decide) ?_
  refine lv_icmp_ge (tgt := 29) hx hb dX5_swing_22 (by decide) (fun c_22 => ?_) (fun c_22 => ?_)
  · refine lv_iload_n hx hb dX5_swing_29 rfl (lv_at hl 0 rfl) ?_
    refine lv_ineg hx hb dX5_swing_30 ?_
    have r1 : f_Mswing p0 = -(((p0 - p0 / (1800 : Int32) * (1800 : Int32)) * ((1800 : Int32) - (p0 - p0 / (1800 : Int32) * (1800 : Int32)))) / (810 : Int32)) := by
      rw [f_Mswing, if_pos c_22]
    exact kr_i hx hb hr hlk dX5_swing_31 r1.symm
  · refine lv_iload_n hx hb dX5_swing_25 rfl (lv_at hl 0 rfl) ?_
    refine lv_goto (tgt := 31) hx hb dX5_swing_26 (by decide) ?_
    have r2 : f_Mswing p0 = ((p0 - p0 / (1800 : Int32) * (1800 : Int32)) * ((1800 : Int32) - (p0 - p0 / (1800 : Int32) * (1800 : Int32)))) / (810 : Int32) := by
      rw [f_Mswing, if_neg c_22]
    exact kr_i hx hb hr hlk dX5_swing_31 r2.symm

def rm_X5_turn : Room := { frames := 1, cells := 0, slots := 0, locals := 22 }
theorem mi_X5_turn : kM yX5_turn wsX5_turn cX5_turn 1 (some .int) 1 := ⟨⟨_, rfl⟩, by decide, by decide, by decide +kernel⟩
def f_Mturn (p0 : Int32) : Int32 := f_Mswing ((p0 + (900 : Int32)) - (p0 + (900 : Int32)) / (3600 : Int32) * (3600 : Int32))
set_option maxHeartbeats 1000000 in
set_option maxRecDepth 100000 in
theorem c_X5_turn (l : Launch) (p0 : Int32) : Met l yX5_turn wsX5_turn rm_X5_turn (va_Pc [.int p0] (fun _ => True)) (kQ (some (.int (f_Mturn p0)))) 0 0 (fun _ => False) := by
  refine kofP (cc := cX5_turn) (maxL := 1) (ret := some .int) (by decide) rfl (Nat.le_of_ble_eq_true rfl) ?_
  intro p e s m args below meth c ls S hr hlk hl
  obtain ⟨hx, hb, hml, hown, hts⟩ := id S
  have hl : lv_has ls 1 [(0, .int p0)] := hl
  refine lv_iload_n hx hb dX5_turn_0 rfl (lv_at hl 0 rfl) ?_
  refine lv_sipush (v := (900 : Int32)) hx hb dX5_turn_1 (by decide) ?_
  refine lv_iadd hx hb dX5_turn_4 ?_
  refine lv_sipush (v := (3600 : Int32)) hx hb dX5_turn_5 (by decide) ?_
  refine lv_irem hx hb dX5_turn_8 (by decide) ?_
  refine kc_p (y := yX5_swing) (As := [.int ((p0 + (900 : Int32)) - (p0 + (900 : Int32)) / (3600 : Int32) * (3600 : Int32))]) (rest := []) rfl S (v := .int (f_Mswing ((p0 + (900 : Int32)) - (p0 + (900 : Int32)) / (3600 : Int32) * (3600 : Int32)))) (c_X5_swing l ((p0 + (900 : Int32)) - (p0 + (900 : Int32)) / (3600 : Int32) * (3600 : Int32))) gX5_turn_X5_swing mi_X5_swing ⟨rfl, rfl⟩ ⟨Nat.le_of_ble_eq_true rfl, Nat.le_of_ble_eq_true rfl⟩ ⟨Nat.le_refl _, Nat.le_refl _⟩ dX5_turn_9 rfl hl.1 rfl (Nat.le_of_ble_eq_true rfl) ?_
  have r1 : f_Mturn p0 = f_Mswing ((p0 + (900 : Int32)) - (p0 + (900 : Int32)) / (3600 : Int32) * (3600 : Int32)) := by
    rw [f_Mturn]
  exact kr_i hx hb hr hlk dX5_turn_12 r1.symm

def rm_X5_size : Room := { frames := 0, cells := 0, slots := 0, locals := 0 }
theorem mi_X5_size : kM yX5_size wsX5_size cX5_size 1 (some .int) 1 := ⟨⟨_, rfl⟩, by decide, by decide, by decide +kernel⟩
def f_Msize (p0 : Int32) : Int32 := if 0 ≤ p0 then p0 else -p0
set_option maxHeartbeats 1000000 in
set_option maxRecDepth 100000 in
theorem c_X5_size (l : Launch) (p0 : Int32) : Met l yX5_size wsX5_size rm_X5_size (va_Pc [.int p0] (fun _ => True)) (kQ (some (.int (f_Msize p0)))) 0 0 (fun _ => False) := by
  refine kofP (cc := cX5_size) (maxL := 1) (ret := some .int) (by decide) rfl (Nat.le_of_ble_eq_true rfl) ?_
  intro p e s m args below meth c ls S hr hlk hl
  obtain ⟨hx, hb, hml, hown, hts⟩ := id S
  have hl : lv_has ls 1 [(0, .int p0)] := hl
  refine lv_iload_n hx hb dX5_size_0 rfl (lv_at hl 0 rfl) ?_
  refine lv_if_ge (tgt := 9) hx hb dX5_size_1 (by decide) (fun c_1 => ?_) (fun c_1 => ?_)
  · refine lv_iload_n hx hb dX5_size_9 rfl (lv_at hl 0 rfl) ?_
    have r1 : f_Msize p0 = p0 := by
      rw [f_Msize, if_pos c_1]
    exact kr_i hx hb hr hlk dX5_size_10 r1.symm
  · refine lv_iload_n hx hb dX5_size_4 rfl (lv_at hl 0 rfl) ?_
    refine lv_ineg hx hb dX5_size_5 ?_
    refine lv_goto (tgt := 10) hx hb dX5_size_6 (by decide) ?_
    have r2 : f_Msize p0 = -p0 := by
      rw [f_Msize, if_neg c_1]
    exact kr_i hx hb hr hlk dX5_size_10 r2.symm

def rm_X5_isOne : Room := { frames := 1, cells := 0, slots := 0, locals := 22 }
theorem mi_X5_isOne : kM yX5_isOne wsX5_isOne cX5_isOne 3 (some .boolean) 3 := ⟨⟨_, rfl⟩, by decide, by decide, by decide +kernel⟩
def f_MisOne (p0 : Int32) (p1 : Int32) (p2 : Int32) : Bool := if (f_Min p0 (40 : Int32) (208 : Int32)) = true then (if (f_Min p1 (0 : Int32) (3599 : Int32)) = true then (if (f_Min p2 (0 : Int32) (999 : Int32)) = true then true else false) else false) else false
set_option maxHeartbeats 1000000 in
set_option maxRecDepth 100000 in
theorem c_X5_isOne (l : Launch) (p0 : Int32) (p1 : Int32) (p2 : Int32) : Met l yX5_isOne wsX5_isOne rm_X5_isOne (va_Pc [.int p0, .int p1, .int p2] (fun _ => True)) (kQ (some (.int (bI (f_MisOne p0 p1 p2))))) 0 0 (fun _ => False) := by
  refine kofP (cc := cX5_isOne) (maxL := 3) (ret := some .boolean) (by decide) rfl (Nat.le_of_ble_eq_true rfl) ?_
  intro p e s m args below meth c ls S hr hlk hl
  obtain ⟨hx, hb, hml, hown, hts⟩ := id S
  have hl : lv_has ls 3 [(0, .int p0), (1, .int p1), (2, .int p2)] := hl
  refine lv_iload_n hx hb dX5_isOne_0 rfl (lv_at hl 0 rfl) ?_
  refine lv_bipush (v := (40 : Int32)) hx hb dX5_isOne_1 (by decide) ?_
  refine lv_sipush (v := (208 : Int32)) hx hb dX5_isOne_3 (by decide) ?_
  refine kc_p (y := yX5_in) (As := [.int p0, .int (40 : Int32), .int (208 : Int32)]) (rest := []) rfl S (v := .int (bI (f_Min p0 (40 : Int32) (208 : Int32)))) (c_X5_in l p0 (40 : Int32) (208 : Int32)) gX5_isOne_X5_in mi_X5_in ⟨rfl, rfl⟩ ⟨Nat.le_of_ble_eq_true rfl, Nat.le_of_ble_eq_true rfl⟩ ⟨Nat.le_refl _, Nat.le_refl _⟩ dX5_isOne_6 rfl hl.1 rfl (Nat.le_of_ble_eq_true rfl) ?_
  refine kb_eq (tgt := 38) hx hb dX5_isOne_9 (by decide) (fun c_9 => ?_) (fun c_9 => ?_)
  · refine lv_iconst (v := (0 : Int32)) hx hb dX5_isOne_38 (by decide) ?_
    have r1 : f_MisOne p0 p1 p2 = false := by
      rw [f_MisOne, if_neg c_9]
    exact kr_z (x := false) hx hb hr hlk dX5_isOne_39 rfl r1
  · refine lv_iload_n hx hb dX5_isOne_12 rfl (lv_at hl 1 rfl) ?_
    refine lv_iconst (v := (0 : Int32)) hx hb dX5_isOne_13 (by decide) ?_
    refine lv_sipush (v := (3599 : Int32)) hx hb dX5_isOne_14 (by decide) ?_
    refine kc_p (y := yX5_in) (As := [.int p1, .int (0 : Int32), .int (3599 : Int32)]) (rest := []) rfl S (v := .int (bI (f_Min p1 (0 : Int32) (3599 : Int32)))) (c_X5_in l p1 (0 : Int32) (3599 : Int32)) gX5_isOne_X5_in mi_X5_in ⟨rfl, rfl⟩ ⟨Nat.le_of_ble_eq_true rfl, Nat.le_of_ble_eq_true rfl⟩ ⟨Nat.le_refl _, Nat.le_refl _⟩ dX5_isOne_17 rfl hl.1 rfl (Nat.le_of_ble_eq_true rfl) ?_
    refine kb_eq (tgt := 38) hx hb dX5_isOne_20 (by decide) (fun c_20 => ?_) (fun c_20 => ?_)
    · refine lv_iconst (v := (0 : Int32)) hx hb dX5_isOne_38 (by decide) ?_
      have r2 : f_MisOne p0 p1 p2 = false := by
        rw [f_MisOne, if_pos c_9, if_neg c_20]
      exact kr_z (x := false) hx hb hr hlk dX5_isOne_39 rfl r2
    · refine lv_iload_n hx hb dX5_isOne_23 rfl (lv_at hl 2 rfl) ?_
      refine lv_iconst (v := (0 : Int32)) hx hb dX5_isOne_24 (by decide) ?_
      refine lv_sipush (v := (999 : Int32)) hx hb dX5_isOne_25 (by decide) ?_
      refine kc_p (y := yX5_in) (As := [.int p2, .int (0 : Int32), .int (999 : Int32)]) (rest := []) rfl S (v := .int (bI (f_Min p2 (0 : Int32) (999 : Int32)))) (c_X5_in l p2 (0 : Int32) (999 : Int32)) gX5_isOne_X5_in mi_X5_in ⟨rfl, rfl⟩ ⟨Nat.le_of_ble_eq_true rfl, Nat.le_of_ble_eq_true rfl⟩ ⟨Nat.le_refl _, Nat.le_refl _⟩ dX5_isOne_28 rfl hl.1 rfl (Nat.le_of_ble_eq_true rfl) ?_
      refine kb_eq (tgt := 38) hx hb dX5_isOne_31 (by decide) (fun c_31 => ?_) (fun c_31 => ?_)
      · refine lv_iconst (v := (0 : Int32)) hx hb dX5_isOne_38 (by decide) ?_
        have r3 : f_MisOne p0 p1 p2 = false := by
          rw [f_MisOne, if_pos c_9, if_pos c_20, if_neg c_31]
        exact kr_z (x := false) hx hb hr hlk dX5_isOne_39 rfl r3
      · refine lv_iconst (v := (1 : Int32)) hx hb dX5_isOne_34 (by decide) ?_
        refine lv_goto (tgt := 39) hx hb dX5_isOne_35 (by decide) ?_
        have r4 : f_MisOne p0 p1 p2 = true := by
          rw [f_MisOne, if_pos c_9, if_pos c_20, if_pos c_31]
        exact kr_z (x := true) hx hb hr hlk dX5_isOne_39 rfl r4

def rm_X5_canBe : Room := { frames := 0, cells := 0, slots := 0, locals := 0 }
theorem mi_X5_canBe : kM yX5_canBe wsX5_canBe cX5_canBe 7 (some .boolean) 3 := ⟨⟨_, rfl⟩, by decide, by decide, by decide +kernel⟩
def f_McanBe_L11 (p0 : Int32) (p1 : Int32) (p2 : Int32) (j0 : Nat) (x0 : (Int32 × Int32 × Bool)) : Int32 × Int32 × Bool := if x0.2.2 = true then ((10 : Int32) * x0.1, ((10 : Int32) * x0.2.1) + (9 : Int32), true) else if p2 < x0.1 then ((10 : Int32) * x0.1, ((10 : Int32) * x0.2.1) + (9 : Int32), false) else if x0.2.1 < p1 then ((10 : Int32) * x0.1, ((10 : Int32) * x0.2.1) + (9 : Int32), false) else ((10 : Int32) * x0.1, ((10 : Int32) * x0.2.1) + (9 : Int32), true)
def f_McanBe (p0 : Int32) (p1 : Int32) (p2 : Int32) : Bool := (it 4 (f_McanBe_L11 p0 p1 p2) (p0, p0, false)).2.2
set_option maxHeartbeats 1000000 in
set_option maxRecDepth 100000 in
theorem c_X5_canBe (l : Launch) (p0 : Int32) (p1 : Int32) (p2 : Int32) : Met l yX5_canBe wsX5_canBe rm_X5_canBe (va_Pc [.int p0, .int p1, .int p2] (fun _ => True)) (kQ (some (.int (bI (f_McanBe p0 p1 p2))))) 0 0 (fun _ => False) := by
  refine kofP (cc := cX5_canBe) (maxL := 7) (ret := some .boolean) (by decide) rfl (Nat.le_of_ble_eq_true rfl) ?_
  intro p e s m args below meth c ls S hr hlk hl
  obtain ⟨hx, hb, hml, hown, hts⟩ := id S
  have hl : lv_has ls 7 [(0, .int p0), (1, .int p1), (2, .int p2)] := hl
  refine lv_iload_n hx hb dX5_canBe_0 rfl (lv_at hl 0 rfl) ?_
  refine lv_istore_n (lv' := [(3, .int p0), (0, .int p0), (1, .int p1), (2, .int p2)]) hx hb dX5_canBe_1 rfl hl (by decide) rfl (fun ls hl => ?_)
  refine lv_iload_n hx hb dX5_canBe_2 rfl (lv_at hl 1 rfl) ?_
  refine lv_istore (lv' := [(4, .int p0), (3, .int p0), (0, .int p0), (1, .int p1), (2, .int p2)]) hx hb dX5_canBe_3 hl (by decide) rfl (fun ls hl => ?_)
  refine lv_iconst (v := (0 : Int32)) hx hb dX5_canBe_5 (by decide) ?_
  refine lv_istore (lv' := [(5, .int (0 : Int32)), (4, .int p0), (3, .int p0), (0, .int p0), (1, .int p1), (2, .int p2)]) hx hb dX5_canBe_6 hl (by decide) rfl (fun ls hl => ?_)
  refine lv_iconst (v := (0 : Int32)) hx hb dX5_canBe_8 (by decide) ?_
  refine lv_istore (lv' := [(6, .int (0 : Int32)), (5, .int (0 : Int32)), (4, .int p0), (3, .int p0), (0, .int p0), (1, .int p1), (2, .int p2)]) hx hb dX5_canBe_9 hl (by decide) rfl (fun ls hl => ?_)
  have L1 : ∀ (n j0 : Nat), j0 + n = 4 → ∀ (ls : Array Slot), lv_has ls 7 [(0, .int p0), (1, .int p1), (2, .int p2), (3, .int ((it j0 (f_McanBe_L11 p0 p1 p2) (p0, p0, false)).1)), (4, .int ((it j0 (f_McanBe_L11 p0 p1 p2) (p0, p0, false)).2.1)), (5, .int (bI ((it j0 (f_McanBe_L11 p0 p1 p2) (p0, p0, false)).2.2))), (6, .int (nI j0))] → W p l e rm_X5_canBe s m args below meth c s.heap [] 0 0 (MQ below (kQ (some (.int (bI (f_McanBe p0 p1 p2))))) args s 0 0 (fun _ => False)) (F0 m 11 ls []) := by
    intro n
    induction n with
    | zero =>
      intro j0 hj1 ls hl
      obtain rfl : j0 = 4 := by omega
      refine lv_iload hx hb dX5_canBe_11 (lv_at hl 6 rfl) ?_
      refine lv_iconst (v := (4 : Int32)) hx hb dX5_canBe_13 (by decide) ?_
      refine lv_icmp_ge (tgt := 61) hx hb dX5_canBe_14 (by decide) (fun c_14 => ?_) (fun c_14 => ?_)
      · refine lv_iload hx hb dX5_canBe_61 (lv_at hl 5 rfl) ?_
        have r2 : f_McanBe p0 p1 p2 = (it 4 (f_McanBe_L11 p0 p1 p2) (p0, p0, false)).2.2 := by
          rw [f_McanBe]
        exact kr_z (x := ((it 4 (f_McanBe_L11 p0 p1 p2) (p0, p0, false)).2.2)) hx hb hr hlk dX5_canBe_63 rfl r2
      · exact absurd (nI_le (a := 4) (by omega) (by omega)) c_14
    | succ n ih1 =>
      intro j0 hj1 ls hl
      refine lv_iload hx hb dX5_canBe_11 (lv_at hl 6 rfl) ?_
      refine lv_iconst (v := (4 : Int32)) hx hb dX5_canBe_13 (by decide) ?_
      refine lv_icmp_ge (tgt := 61) hx hb dX5_canBe_14 (by decide) (fun c_14 => ?_) (fun c_14 => ?_)
      · exact absurd c_14 (nI_ge (b := 4) (by omega) (by decide))
      · refine lv_iload hx hb dX5_canBe_17 (lv_at hl 5 rfl) ?_
        refine kb_ne (tgt := 33) hx hb dX5_canBe_19 (by decide) (fun c_19 => ?_) (fun c_19 => ?_)
        · refine lv_iconst (v := (1 : Int32)) hx hb dX5_canBe_33 (by decide) ?_
          refine lv_goto (tgt := 38) hx hb dX5_canBe_34 (by decide) ?_
          refine lv_istore (lv' := [(5, .int (1 : Int32)), (0, .int p0), (1, .int p1), (2, .int p2), (3, .int ((it j0 (f_McanBe_L11 p0 p1 p2) (p0, p0, false)).1)), (4, .int ((it j0 (f_McanBe_L11 p0 p1 p2) (p0, p0, false)).2.1)), (6, .int (nI j0))]) hx hb dX5_canBe_38 hl (by decide) rfl (fun ls hl => ?_)
          refine lv_bipush (v := (10 : Int32)) hx hb dX5_canBe_40 (by decide) ?_
          refine lv_iload_n hx hb dX5_canBe_42 rfl (lv_at hl 4 rfl) ?_
          refine lv_imul hx hb dX5_canBe_43 ?_
          refine lv_istore_n (lv' := [(3, .int ((10 : Int32) * ((it j0 (f_McanBe_L11 p0 p1 p2) (p0, p0, false)).1))), (5, .int (1 : Int32)), (0, .int p0), (1, .int p1), (2, .int p2), (4, .int ((it j0 (f_McanBe_L11 p0 p1 p2) (p0, p0, false)).2.1)), (6, .int (nI j0))]) hx hb dX5_canBe_44 rfl hl (by decide) rfl (fun ls hl => ?_)
          refine lv_bipush (v := (10 : Int32)) hx hb dX5_canBe_45 (by decide) ?_
          refine lv_iload hx hb dX5_canBe_47 (lv_at hl 5 rfl) ?_
          refine lv_imul hx hb dX5_canBe_49 ?_
          refine lv_bipush (v := (9 : Int32)) hx hb dX5_canBe_50 (by decide) ?_
          refine lv_iadd hx hb dX5_canBe_52 ?_
          refine lv_istore (lv' := [(4, .int (((10 : Int32) * ((it j0 (f_McanBe_L11 p0 p1 p2) (p0, p0, false)).2.1)) + (9 : Int32))), (3, .int ((10 : Int32) * ((it j0 (f_McanBe_L11 p0 p1 p2) (p0, p0, false)).1))), (5, .int (1 : Int32)), (0, .int p0), (1, .int p1), (2, .int p2), (6, .int (nI j0))]) hx hb dX5_canBe_53 hl (by decide) rfl (fun ls hl => ?_)
          refine lv_iinc (v := nI (j0 + 1)) (lv' := [(6, .int (nI (j0 + 1))), (4, .int (((10 : Int32) * ((it j0 (f_McanBe_L11 p0 p1 p2) (p0, p0, false)).2.1)) + (9 : Int32))), (3, .int ((10 : Int32) * ((it j0 (f_McanBe_L11 p0 p1 p2) (p0, p0, false)).1))), (5, .int (1 : Int32)), (0, .int p0), (1, .int p1), (2, .int p2)]) hx hb dX5_canBe_55 hl (k := 6) rfl (nI_add j0 1) (by decide) rfl (fun ls hl => ?_)
          refine lv_goto (tgt := 11) hx hb dX5_canBe_58 (by decide) ?_
          have b3 : f_McanBe_L11 p0 p1 p2 j0 (it j0 (f_McanBe_L11 p0 p1 p2) (p0, p0, false)) = ((10 : Int32) * ((it j0 (f_McanBe_L11 p0 p1 p2) (p0, p0, false)).1), ((10 : Int32) * ((it j0 (f_McanBe_L11 p0 p1 p2) (p0, p0, false)).2.1)) + (9 : Int32), true) := by
            rw [f_McanBe_L11, if_pos c_19]
          have e3 : it (j0 + 1) (f_McanBe_L11 p0 p1 p2) (p0, p0, false) = ((10 : Int32) * ((it j0 (f_McanBe_L11 p0 p1 p2) (p0, p0, false)).1), ((10 : Int32) * ((it j0 (f_McanBe_L11 p0 p1 p2) (p0, p0, false)).2.1)) + (9 : Int32), true) := (it_s _ _ _).trans b3
          exact ih1 (j0 + 1) (by omega) ls (by rw [e3]; exact lv_sub hl [4, 5, 6, 2, 1, 3, 0] rfl)
        · refine lv_iload_n hx hb dX5_canBe_22 rfl (lv_at hl 3 rfl) ?_
          refine lv_iload_n hx hb dX5_canBe_23 rfl (lv_at hl 2 rfl) ?_
          refine lv_icmp_gt (tgt := 37) hx hb dX5_canBe_24 (by decide) (fun c_24 => ?_) (fun c_24 => ?_)
          · refine lv_iconst (v := (0 : Int32)) hx hb dX5_canBe_37 (by decide) ?_
            refine lv_istore (lv' := [(5, .int (0 : Int32)), (0, .int p0), (1, .int p1), (2, .int p2), (3, .int ((it j0 (f_McanBe_L11 p0 p1 p2) (p0, p0, false)).1)), (4, .int ((it j0 (f_McanBe_L11 p0 p1 p2) (p0, p0, false)).2.1)), (6, .int (nI j0))]) hx hb dX5_canBe_38 hl (by decide) rfl (fun ls hl => ?_)
            refine lv_bipush (v := (10 : Int32)) hx hb dX5_canBe_40 (by decide) ?_
            refine lv_iload_n hx hb dX5_canBe_42 rfl (lv_at hl 4 rfl) ?_
            refine lv_imul hx hb dX5_canBe_43 ?_
            refine lv_istore_n (lv' := [(3, .int ((10 : Int32) * ((it j0 (f_McanBe_L11 p0 p1 p2) (p0, p0, false)).1))), (5, .int (0 : Int32)), (0, .int p0), (1, .int p1), (2, .int p2), (4, .int ((it j0 (f_McanBe_L11 p0 p1 p2) (p0, p0, false)).2.1)), (6, .int (nI j0))]) hx hb dX5_canBe_44 rfl hl (by decide) rfl (fun ls hl => ?_)
            refine lv_bipush (v := (10 : Int32)) hx hb dX5_canBe_45 (by decide) ?_
            refine lv_iload hx hb dX5_canBe_47 (lv_at hl 5 rfl) ?_
            refine lv_imul hx hb dX5_canBe_49 ?_
            refine lv_bipush (v := (9 : Int32)) hx hb dX5_canBe_50 (by decide) ?_
            refine lv_iadd hx hb dX5_canBe_52 ?_
            refine lv_istore (lv' := [(4, .int (((10 : Int32) * ((it j0 (f_McanBe_L11 p0 p1 p2) (p0, p0, false)).2.1)) + (9 : Int32))), (3, .int ((10 : Int32) * ((it j0 (f_McanBe_L11 p0 p1 p2) (p0, p0, false)).1))), (5, .int (0 : Int32)), (0, .int p0), (1, .int p1), (2, .int p2), (6, .int (nI j0))]) hx hb dX5_canBe_53 hl (by decide) rfl (fun ls hl => ?_)
            refine lv_iinc (v := nI (j0 + 1)) (lv' := [(6, .int (nI (j0 + 1))), (4, .int (((10 : Int32) * ((it j0 (f_McanBe_L11 p0 p1 p2) (p0, p0, false)).2.1)) + (9 : Int32))), (3, .int ((10 : Int32) * ((it j0 (f_McanBe_L11 p0 p1 p2) (p0, p0, false)).1))), (5, .int (0 : Int32)), (0, .int p0), (1, .int p1), (2, .int p2)]) hx hb dX5_canBe_55 hl (k := 6) rfl (nI_add j0 1) (by decide) rfl (fun ls hl => ?_)
            refine lv_goto (tgt := 11) hx hb dX5_canBe_58 (by decide) ?_
            have b4 : f_McanBe_L11 p0 p1 p2 j0 (it j0 (f_McanBe_L11 p0 p1 p2) (p0, p0, false)) = ((10 : Int32) * ((it j0 (f_McanBe_L11 p0 p1 p2) (p0, p0, false)).1), ((10 : Int32) * ((it j0 (f_McanBe_L11 p0 p1 p2) (p0, p0, false)).2.1)) + (9 : Int32), false) := by
              rw [f_McanBe_L11, if_neg c_19, if_pos c_24]
            have e4 : it (j0 + 1) (f_McanBe_L11 p0 p1 p2) (p0, p0, false) = ((10 : Int32) * ((it j0 (f_McanBe_L11 p0 p1 p2) (p0, p0, false)).1), ((10 : Int32) * ((it j0 (f_McanBe_L11 p0 p1 p2) (p0, p0, false)).2.1)) + (9 : Int32), false) := (it_s _ _ _).trans b4
            exact ih1 (j0 + 1) (by omega) ls (by rw [e4]; exact lv_sub hl [4, 5, 6, 2, 1, 3, 0] rfl)
          · refine lv_iload hx hb dX5_canBe_27 (lv_at hl 4 rfl) ?_
            refine lv_iload_n hx hb dX5_canBe_29 rfl (lv_at hl 1 rfl) ?_
            refine lv_icmp_lt (tgt := 37) hx hb dX5_canBe_30 (by decide) (fun c_30 => ?_) (fun c_30 => ?_)
            · refine lv_iconst (v := (0 : Int32)) hx hb dX5_canBe_37 (by decide) ?_
              refine lv_istore (lv' := [(5, .int (0 : Int32)), (0, .int p0), (1, .int p1), (2, .int p2), (3, .int ((it j0 (f_McanBe_L11 p0 p1 p2) (p0, p0, false)).1)), (4, .int ((it j0 (f_McanBe_L11 p0 p1 p2) (p0, p0, false)).2.1)), (6, .int (nI j0))]) hx hb dX5_canBe_38 hl (by decide) rfl (fun ls hl => ?_)
              refine lv_bipush (v := (10 : Int32)) hx hb dX5_canBe_40 (by decide) ?_
              refine lv_iload_n hx hb dX5_canBe_42 rfl (lv_at hl 4 rfl) ?_
              refine lv_imul hx hb dX5_canBe_43 ?_
              refine lv_istore_n (lv' := [(3, .int ((10 : Int32) * ((it j0 (f_McanBe_L11 p0 p1 p2) (p0, p0, false)).1))), (5, .int (0 : Int32)), (0, .int p0), (1, .int p1), (2, .int p2), (4, .int ((it j0 (f_McanBe_L11 p0 p1 p2) (p0, p0, false)).2.1)), (6, .int (nI j0))]) hx hb dX5_canBe_44 rfl hl (by decide) rfl (fun ls hl => ?_)
              refine lv_bipush (v := (10 : Int32)) hx hb dX5_canBe_45 (by decide) ?_
              refine lv_iload hx hb dX5_canBe_47 (lv_at hl 5 rfl) ?_
              refine lv_imul hx hb dX5_canBe_49 ?_
              refine lv_bipush (v := (9 : Int32)) hx hb dX5_canBe_50 (by decide) ?_
              refine lv_iadd hx hb dX5_canBe_52 ?_
              refine lv_istore (lv' := [(4, .int (((10 : Int32) * ((it j0 (f_McanBe_L11 p0 p1 p2) (p0, p0, false)).2.1)) + (9 : Int32))), (3, .int ((10 : Int32) * ((it j0 (f_McanBe_L11 p0 p1 p2) (p0, p0, false)).1))), (5, .int (0 : Int32)), (0, .int p0), (1, .int p1), (2, .int p2), (6, .int (nI j0))]) hx hb dX5_canBe_53 hl (by decide) rfl (fun ls hl => ?_)
              refine lv_iinc (v := nI (j0 + 1)) (lv' := [(6, .int (nI (j0 + 1))), (4, .int (((10 : Int32) * ((it j0 (f_McanBe_L11 p0 p1 p2) (p0, p0, false)).2.1)) + (9 : Int32))), (3, .int ((10 : Int32) * ((it j0 (f_McanBe_L11 p0 p1 p2) (p0, p0, false)).1))), (5, .int (0 : Int32)), (0, .int p0), (1, .int p1), (2, .int p2)]) hx hb dX5_canBe_55 hl (k := 6) rfl (nI_add j0 1) (by decide) rfl (fun ls hl => ?_)
              refine lv_goto (tgt := 11) hx hb dX5_canBe_58 (by decide) ?_
              have b5 : f_McanBe_L11 p0 p1 p2 j0 (it j0 (f_McanBe_L11 p0 p1 p2) (p0, p0, false)) = ((10 : Int32) * ((it j0 (f_McanBe_L11 p0 p1 p2) (p0, p0, false)).1), ((10 : Int32) * ((it j0 (f_McanBe_L11 p0 p1 p2) (p0, p0, false)).2.1)) + (9 : Int32), false) := by
                rw [f_McanBe_L11, if_neg c_19, if_neg c_24, if_pos c_30]
              have e5 : it (j0 + 1) (f_McanBe_L11 p0 p1 p2) (p0, p0, false) = ((10 : Int32) * ((it j0 (f_McanBe_L11 p0 p1 p2) (p0, p0, false)).1), ((10 : Int32) * ((it j0 (f_McanBe_L11 p0 p1 p2) (p0, p0, false)).2.1)) + (9 : Int32), false) := (it_s _ _ _).trans b5
              exact ih1 (j0 + 1) (by omega) ls (by rw [e5]; exact lv_sub hl [4, 5, 6, 2, 1, 3, 0] rfl)
            · refine lv_iconst (v := (1 : Int32)) hx hb dX5_canBe_33 (by decide) ?_
              refine lv_goto (tgt := 38) hx hb dX5_canBe_34 (by decide) ?_
              refine lv_istore (lv' := [(5, .int (1 : Int32)), (0, .int p0), (1, .int p1), (2, .int p2), (3, .int ((it j0 (f_McanBe_L11 p0 p1 p2) (p0, p0, false)).1)), (4, .int ((it j0 (f_McanBe_L11 p0 p1 p2) (p0, p0, false)).2.1)), (6, .int (nI j0))]) hx hb dX5_canBe_38 hl (by decide) rfl (fun ls hl => ?_)
              refine lv_bipush (v := (10 : Int32)) hx hb dX5_canBe_40 (by decide) ?_
              refine lv_iload_n hx hb dX5_canBe_42 rfl (lv_at hl 4 rfl) ?_
              refine lv_imul hx hb dX5_canBe_43 ?_
              refine lv_istore_n (lv' := [(3, .int ((10 : Int32) * ((it j0 (f_McanBe_L11 p0 p1 p2) (p0, p0, false)).1))), (5, .int (1 : Int32)), (0, .int p0), (1, .int p1), (2, .int p2), (4, .int ((it j0 (f_McanBe_L11 p0 p1 p2) (p0, p0, false)).2.1)), (6, .int (nI j0))]) hx hb dX5_canBe_44 rfl hl (by decide) rfl (fun ls hl => ?_)
              refine lv_bipush (v := (10 : Int32)) hx hb dX5_canBe_45 (by decide) ?_
              refine lv_iload hx hb dX5_canBe_47 (lv_at hl 5 rfl) ?_
              refine lv_imul hx hb dX5_canBe_49 ?_
              refine lv_bipush (v := (9 : Int32)) hx hb dX5_canBe_50 (by decide) ?_
              refine lv_iadd hx hb dX5_canBe_52 ?_
              refine lv_istore (lv' := [(4, .int (((10 : Int32) * ((it j0 (f_McanBe_L11 p0 p1 p2) (p0, p0, false)).2.1)) + (9 : Int32))), (3, .int ((10 : Int32) * ((it j0 (f_McanBe_L11 p0 p1 p2) (p0, p0, false)).1))), (5, .int (1 : Int32)), (0, .int p0), (1, .int p1), (2, .int p2), (6, .int (nI j0))]) hx hb dX5_canBe_53 hl (by decide) rfl (fun ls hl => ?_)
              refine lv_iinc (v := nI (j0 + 1)) (lv' := [(6, .int (nI (j0 + 1))), (4, .int (((10 : Int32) * ((it j0 (f_McanBe_L11 p0 p1 p2) (p0, p0, false)).2.1)) + (9 : Int32))), (3, .int ((10 : Int32) * ((it j0 (f_McanBe_L11 p0 p1 p2) (p0, p0, false)).1))), (5, .int (1 : Int32)), (0, .int p0), (1, .int p1), (2, .int p2)]) hx hb dX5_canBe_55 hl (k := 6) rfl (nI_add j0 1) (by decide) rfl (fun ls hl => ?_)
              refine lv_goto (tgt := 11) hx hb dX5_canBe_58 (by decide) ?_
              have b6 : f_McanBe_L11 p0 p1 p2 j0 (it j0 (f_McanBe_L11 p0 p1 p2) (p0, p0, false)) = ((10 : Int32) * ((it j0 (f_McanBe_L11 p0 p1 p2) (p0, p0, false)).1), ((10 : Int32) * ((it j0 (f_McanBe_L11 p0 p1 p2) (p0, p0, false)).2.1)) + (9 : Int32), true) := by
                rw [f_McanBe_L11, if_neg c_19, if_neg c_24, if_neg c_30]
              have e6 : it (j0 + 1) (f_McanBe_L11 p0 p1 p2) (p0, p0, false) = ((10 : Int32) * ((it j0 (f_McanBe_L11 p0 p1 p2) (p0, p0, false)).1), ((10 : Int32) * ((it j0 (f_McanBe_L11 p0 p1 p2) (p0, p0, false)).2.1)) + (9 : Int32), true) := (it_s _ _ _).trans b6
              exact ih1 (j0 + 1) (by omega) ls (by rw [e6]; exact lv_sub hl [4, 5, 6, 2, 1, 3, 0] rfl)
  exact L1 4 0 (by omega) ls (lv_sub hl [4, 5, 6, 3, 2, 1, 0] rfl)

def rm_X5_of : Room := { frames := 0, cells := 0, slots := 0, locals := 0 }
theorem mi_X5_of : kM yX5_of wsX5_of cX5_of 3 (some .int) 3 := ⟨⟨_, rfl⟩, by decide, by decide, by decide +kernel⟩
def f_Mof (f : (Nat → Int32)) (k1 : Nat) (k2 : Nat) : Int32 := f ((9 + (5 * k1)) + k2)
set_option maxHeartbeats 1000000 in
set_option maxRecDepth 100000 in
theorem c_X5_of (l : Launch) (dC : Nat → ClassId) (dI : Nat → Nat → Nat) (cI cZ cO : ClassId) (a0 : Nat) (f : (Nat → Int32)) (k1 : Nat) (k2 : Nat) (hk1 : k1 < 6) (hk2 : k2 < 5) : Met l yX5_of wsX5_of rm_X5_of (va_Pc [.ref a0, .int (nI k1), .int (nI k2)] (fun U => va_P (dC, dI) vwCl (AW cI 39 a0 f) U.heap ∧ va_K (dC, dI) vwCl (TY cI cZ cO) U)) (kQ (some (.int (f_Mof f k1 k2)))) 0 0 (fun _ => False) := by
  refine kofR (cc := cX5_of) (maxL := 3) (ret := some .int) (by decide) rfl (Nat.le_of_ble_eq_true rfl) ?_
  intro p e s m args below meth c ls S hr hlk hP hK hl
  obtain ⟨hx, hb, hml, hown, hts⟩ := id S
  have hl : lv_has ls 3 [(0, .ref a0), (1, .int (nI k1)), (2, .int (nI k2))] := hl
  refine lv_aload_n hx hb dX5_of_0 rfl (lv_at hl 0 rfl) ?_
  refine lv_bipush (v := (9 : Int32)) hx hb dX5_of_1 (by decide) ?_
  refine lv_iconst (v := (5 : Int32)) hx hb dX5_of_3 (by decide) ?_
  refine lv_iload_n hx hb dX5_of_4 rfl (lv_at hl 1 rfl) ?_
  refine k_imuln (x := 5) (y := k1) hx hb dX5_of_5 ?_
  refine k_iaddn (x := 9) (y := 5 * k1) hx hb dX5_of_6 ?_
  refine lv_iload_n hx hb dX5_of_7 rfl (lv_at hl 2 rfl) ?_
  refine k_iaddn (x := 9 + (5 * k1)) (y := k2) hx hb dX5_of_8 ?_
  refine k_iald (D := (dC, dI)) hx hb hK hP 0 0 rfl rfl (j := ((9 + (5 * k1)) + k2)) (by omega) (by decide) dX5_of_9 ?_
  have r1 : f_Mof f k1 k2 = f ((9 + (5 * k1)) + k2) := by
    rw [f_Mof]
  exact kr_i hx hb hr hlk dX5_of_10 r1.symm

def rm_X5_goes : Room := { frames := 1, cells := 0, slots := 0, locals := 22 }
theorem mi_X5_goes : kM yX5_goes wsX5_goes cX5_goes 2 (some .boolean) 2 := ⟨⟨_, rfl⟩, by decide, by decide, by decide +kernel⟩
def f_Mgoes (f : (Nat → Int32)) (k1 : Nat) : Bool := if (f_Mof f k1 3) = 0 then (if (f_Mof f k1 2) ≤ 0 then false else true) else false
set_option maxHeartbeats 1000000 in
set_option maxRecDepth 100000 in
theorem c_X5_goes (l : Launch) (dC : Nat → ClassId) (dI : Nat → Nat → Nat) (cI cZ cO : ClassId) (a0 : Nat) (f : (Nat → Int32)) (k1 : Nat) (hk1 : k1 < 6) : Met l yX5_goes wsX5_goes rm_X5_goes (va_Pc [.ref a0, .int (nI k1)] (fun U => va_P (dC, dI) vwCl (AW cI 39 a0 f) U.heap ∧ va_K (dC, dI) vwCl (TY cI cZ cO) U)) (kQ (some (.int (bI (f_Mgoes f k1))))) 0 0 (fun _ => False) := by
  refine kofR (cc := cX5_goes) (maxL := 2) (ret := some .boolean) (by decide) rfl (Nat.le_of_ble_eq_true rfl) ?_
  intro p e s m args below meth c ls S hr hlk hP hK hl
  obtain ⟨hx, hb, hml, hown, hts⟩ := id S
  have hl : lv_has ls 2 [(0, .ref a0), (1, .int (nI k1))] := hl
  refine lv_aload_n hx hb dX5_goes_0 rfl (lv_at hl 0 rfl) ?_
  refine lv_iload_n hx hb dX5_goes_1 rfl (lv_at hl 1 rfl) ?_
  refine lv_iconst (v := (3 : Int32)) hx hb dX5_goes_2 (by decide) ?_
  refine kc_s (y := yX5_of) (As := [.ref a0, .int (nI k1), .int (nI 3)]) (rest := []) rfl S (v := .int (f_Mof f k1 3)) (c_X5_of l dC dI cI cZ cO a0 f k1 3 (by omega) (by omega)) gX5_goes_X5_of mi_X5_of ⟨rfl, rfl⟩ ⟨Nat.le_of_ble_eq_true rfl, Nat.le_of_ble_eq_true rfl⟩ hK hP ⟨Nat.le_refl _, Nat.le_refl _⟩ dX5_goes_3 rfl hl.1 rfl (Nat.le_of_ble_eq_true rfl) ?_
  refine lv_if_ne (tgt := 22) hx hb dX5_goes_6 (by decide) (fun c_6 => ?_) (fun c_6 => ?_)
  · refine lv_iconst (v := (0 : Int32)) hx hb dX5_goes_22 (by decide) ?_
    have r1 : f_Mgoes f k1 = false := by
      rw [f_Mgoes, if_neg c_6]
    exact kr_z (x := false) hx hb hr hlk dX5_goes_23 rfl r1
  · refine lv_aload_n hx hb dX5_goes_9 rfl (lv_at hl 0 rfl) ?_
    refine lv_iload_n hx hb dX5_goes_10 rfl (lv_at hl 1 rfl) ?_
    refine lv_iconst (v := (2 : Int32)) hx hb dX5_goes_11 (by decide) ?_
    refine kc_s (y := yX5_of) (As := [.ref a0, .int (nI k1), .int (nI 2)]) (rest := []) rfl S (v := .int (f_Mof f k1 2)) (c_X5_of l dC dI cI cZ cO a0 f k1 2 (by omega) (by omega)) gX5_goes_X5_of mi_X5_of ⟨rfl, rfl⟩ ⟨Nat.le_of_ble_eq_true rfl, Nat.le_of_ble_eq_true rfl⟩ hK hP ⟨Nat.le_refl _, Nat.le_refl _⟩ dX5_goes_12 rfl hl.1 rfl (Nat.le_of_ble_eq_true rfl) ?_
    refine lv_if_le (tgt := 22) hx hb dX5_goes_15 (by decide) (fun c_15 => ?_) (fun c_15 => ?_)
    · refine lv_iconst (v := (0 : Int32)) hx hb dX5_goes_22 (by decide) ?_
      have r2 : f_Mgoes f k1 = false := by
        rw [f_Mgoes, if_pos c_6, if_pos c_15]
      exact kr_z (x := false) hx hb hr hlk dX5_goes_23 rfl r2
    · refine lv_iconst (v := (1 : Int32)) hx hb dX5_goes_18 (by decide) ?_
      refine lv_goto (tgt := 23) hx hb dX5_goes_19 (by decide) ?_
      have r3 : f_Mgoes f k1 = true := by
        rw [f_Mgoes, if_pos c_6, if_neg c_15]
      exact kr_z (x := true) hx hb hr hlk dX5_goes_23 rfl r3

def rm_X5_pull : Room := { frames := 2, cells := 0, slots := 0, locals := 42 }
theorem mi_X5_pull : kM yX5_pull wsX5_pull cX5_pull 3 (some .int) 2 := ⟨⟨_, rfl⟩, by decide, by decide, by decide +kernel⟩
def f_Mpull (f : (Nat → Int32)) (k1 : Nat) : Int32 := ((f 1) * (((f 7) * (f_Mturn (f_Mof f k1 1))) - ((f 8) * (f_Mswing (f_Mof f k1 1))))) / (100000 : Int32)
set_option maxHeartbeats 1000000 in
set_option maxRecDepth 100000 in
theorem c_X5_pull (l : Launch) (dC : Nat → ClassId) (dI : Nat → Nat → Nat) (cI cZ cO : ClassId) (a0 : Nat) (f : (Nat → Int32)) (k1 : Nat) (hk1 : k1 < 6) : Met l yX5_pull wsX5_pull rm_X5_pull (va_Pc [.ref a0, .int (nI k1)] (fun U => va_P (dC, dI) vwCl (AW cI 39 a0 f) U.heap ∧ va_K (dC, dI) vwCl (TY cI cZ cO) U)) (kQ (some (.int (f_Mpull f k1)))) 0 0 (fun _ => False) := by
  refine kofR (cc := cX5_pull) (maxL := 3) (ret := some .int) (by decide) rfl (Nat.le_of_ble_eq_true rfl) ?_
  intro p e s m args below meth c ls S hr hlk hP hK hl
  obtain ⟨hx, hb, hml, hown, hts⟩ := id S
  have hl : lv_has ls 3 [(0, .ref a0), (1, .int (nI k1))] := hl
  refine lv_aload_n hx hb dX5_pull_0 rfl (lv_at hl 0 rfl) ?_
  refine lv_iload_n hx hb dX5_pull_1 rfl (lv_at hl 1 rfl) ?_
  refine lv_iconst (v := (1 : Int32)) hx hb dX5_pull_2 (by decide) ?_
  refine kc_s (y := yX5_of) (As := [.ref a0, .int (nI k1), .int (nI 1)]) (rest := []) rfl S (v := .int (f_Mof f k1 1)) (c_X5_of l dC dI cI cZ cO a0 f k1 1 (by omega) (by omega)) gX5_pull_X5_of mi_X5_of ⟨rfl, rfl⟩ ⟨Nat.le_of_ble_eq_true rfl, Nat.le_of_ble_eq_true rfl⟩ hK hP ⟨Nat.le_refl _, Nat.le_refl _⟩ dX5_pull_3 rfl hl.1 rfl (Nat.le_of_ble_eq_true rfl) ?_
  refine lv_istore_n (lv' := [(2, .int (f_Mof f k1 1)), (0, .ref a0), (1, .int (nI k1))]) hx hb dX5_pull_6 rfl hl (by decide) rfl (fun ls hl => ?_)
  refine lv_aload_n hx hb dX5_pull_7 rfl (lv_at hl 1 rfl) ?_
  refine lv_iconst (v := (1 : Int32)) hx hb dX5_pull_8 (by decide) ?_
  refine k_iald (D := (dC, dI)) hx hb hK hP 0 0 rfl rfl (j := 1) (by omega) (by decide) dX5_pull_9 ?_
  refine lv_aload_n hx hb dX5_pull_10 rfl (lv_at hl 1 rfl) ?_
  refine lv_bipush (v := (7 : Int32)) hx hb dX5_pull_11 (by decide) ?_
  refine k_iald (D := (dC, dI)) hx hb hK hP 0 0 rfl rfl (j := 7) (by omega) (by decide) dX5_pull_13 ?_
  refine lv_iload_n hx hb dX5_pull_14 rfl (lv_at hl 0 rfl) ?_
  refine kc_p (y := yX5_turn) (As := [.int (f_Mof f k1 1)]) (rest := [.int (f 7), .int (f 1)]) rfl S (v := .int (f_Mturn (f_Mof f k1 1))) (c_X5_turn l (f_Mof f k1 1)) gX5_pull_X5_turn mi_X5_turn ⟨rfl, rfl⟩ ⟨Nat.le_of_ble_eq_true rfl, Nat.le_of_ble_eq_true rfl⟩ ⟨Nat.le_refl _, Nat.le_refl _⟩ dX5_pull_15 rfl hl.1 rfl (Nat.le_of_ble_eq_true rfl) ?_
  refine lv_imul hx hb dX5_pull_18 ?_
  refine lv_aload_n hx hb dX5_pull_19 rfl (lv_at hl 1 rfl) ?_
  refine lv_bipush (v := (8 : Int32)) hx hb dX5_pull_20 (by decide) ?_
  refine k_iald (D := (dC, dI)) hx hb hK hP 0 0 rfl rfl (j := 8) (by omega) (by decide) dX5_pull_22 ?_
  refine lv_iload_n hx hb dX5_pull_23 rfl (lv_at hl 0 rfl) ?_
  refine kc_p (y := yX5_swing) (As := [.int (f_Mof f k1 1)]) (rest := [.int (f 8), .int ((f 7) * (f_Mturn (f_Mof f k1 1))), .int (f 1)]) rfl S (v := .int (f_Mswing (f_Mof f k1 1))) (c_X5_swing l (f_Mof f k1 1)) gX5_pull_X5_swing mi_X5_swing ⟨rfl, rfl⟩ ⟨Nat.le_of_ble_eq_true rfl, Nat.le_of_ble_eq_true rfl⟩ ⟨Nat.le_refl _, Nat.le_refl _⟩ dX5_pull_24 rfl hl.1 rfl (Nat.le_of_ble_eq_true rfl) ?_
  refine lv_imul hx hb dX5_pull_27 ?_
  refine lv_isub hx hb dX5_pull_28 ?_
  refine lv_imul hx hb dX5_pull_29 ?_
  refine lv_ldc (v := (100000 : Int32)) hx hb hown (hts (.constant RX5 64 (100000)) (by decide +kernel)) dX5_pull_30 ?_
  refine lv_idiv hx hb dX5_pull_32 (by decide) ?_
  have r1 : f_Mpull f k1 = ((f 1) * (((f 7) * (f_Mturn (f_Mof f k1 1))) - ((f 8) * (f_Mswing (f_Mof f k1 1))))) / (100000 : Int32) := by
    rw [f_Mpull]
  exact kr_i hx hb hr hlk dX5_pull_33 r1.symm

def rm_X5_apartBy : Room := { frames := 1, cells := 0, slots := 0, locals := 22 }
theorem mi_X5_apartBy : kM yX5_apartBy wsX5_apartBy cX5_apartBy 4 (some .int) 3 := ⟨⟨_, rfl⟩, by decide, by decide, by decide +kernel⟩
def f_MapartBy (f : (Nat → Int32)) (k1 : Nat) (k2 : Nat) : Int32 := if 0 ≤ ((f_Mof f k1 1) - (f_Mof f k2 1)) then (if ((f_Mof f k1 1) - (f_Mof f k2 1)) ≤ (1800 : Int32) then ((f_Mof f k1 1) - (f_Mof f k2 1)) else (3600 : Int32) - ((f_Mof f k1 1) - (f_Mof f k2 1))) else if (-((f_Mof f k1 1) - (f_Mof f k2 1))) ≤ (1800 : Int32) then (-((f_Mof f k1 1) - (f_Mof f k2 1))) else (3600 : Int32) - (-((f_Mof f k1 1) - (f_Mof f k2 1)))
set_option maxHeartbeats 1000000 in
set_option maxRecDepth 100000 in
theorem c_X5_apartBy (l : Launch) (dC : Nat → ClassId) (dI : Nat → Nat → Nat) (cI cZ cO : ClassId) (a0 : Nat) (f : (Nat → Int32)) (k1 : Nat) (k2 : Nat) (hk1 : k1 < 6) (hk2 : k2 < 6) : Met l yX5_apartBy wsX5_apartBy rm_X5_apartBy (va_Pc [.ref a0, .int (nI k1), .int (nI k2)] (fun U => va_P (dC, dI) vwCl (AW cI 39 a0 f) U.heap ∧ va_K (dC, dI) vwCl (TY cI cZ cO) U)) (kQ (some (.int (f_MapartBy f k1 k2)))) 0 0 (fun _ => False) := by
  refine kofR (cc := cX5_apartBy) (maxL := 4) (ret := some .int) (by decide) rfl (Nat.le_of_ble_eq_true rfl) ?_
  intro p e s m args below meth c ls S hr hlk hP hK hl
  obtain ⟨hx, hb, hml, hown, hts⟩ := id S
  have hl : lv_has ls 4 [(0, .ref a0), (1, .int (nI k1)), (2, .int (nI k2))] := hl
  refine lv_aload_n hx hb dX5_apartBy_0 rfl (lv_at hl 0 rfl) ?_
  refine lv_iload_n hx hb dX5_apartBy_1 rfl (lv_at hl 1 rfl) ?_
  refine lv_iconst (v := (1 : Int32)) hx hb dX5_apartBy_2 (by decide) ?_
  refine kc_s (y := yX5_of) (As := [.ref a0, .int (nI k1), .int (nI 1)]) (rest := []) rfl S (v := .int (f_Mof f k1 1)) (c_X5_of l dC dI cI cZ cO a0 f k1 1 (by omega) (by omega)) gX5_apartBy_X5_of mi_X5_of ⟨rfl, rfl⟩ ⟨Nat.le_of_ble_eq_true rfl, Nat.le_of_ble_eq_true rfl⟩ hK hP ⟨Nat.le_refl _, Nat.le_refl _⟩ dX5_apartBy_3 rfl hl.1 rfl (Nat.le_of_ble_eq_true rfl) ?_
  refine lv_aload_n hx hb dX5_apartBy_6 rfl (lv_at hl 0 rfl) ?_
  refine lv_iload_n hx hb dX5_apartBy_7 rfl (lv_at hl 2 rfl) ?_
  refine lv_iconst (v := (1 : Int32)) hx hb dX5_apartBy_8 (by decide) ?_
  refine kc_s (y := yX5_of) (As := [.ref a0, .int (nI k2), .int (nI 1)]) (rest := [.int (f_Mof f k1 1)]) rfl S (v := .int (f_Mof f k2 1)) (c_X5_of l dC dI cI cZ cO a0 f k2 1 (by omega) (by omega)) gX5_apartBy_X5_of mi_X5_of ⟨rfl, rfl⟩ ⟨Nat.le_of_ble_eq_true rfl, Nat.le_of_ble_eq_true rfl⟩ hK hP ⟨Nat.le_refl _, Nat.le_refl _⟩ dX5_apartBy_9 rfl hl.1 rfl (Nat.le_of_ble_eq_true rfl) ?_
  refine lv_isub hx hb dX5_apartBy_12 ?_
  refine lv_istore_n (lv' := [(3, .int ((f_Mof f k1 1) - (f_Mof f k2 1))), (0, .ref a0), (1, .int (nI k1)), (2, .int (nI k2))]) hx hb dX5_apartBy_13 rfl hl (by decide) rfl (fun ls hl => ?_)
  refine lv_iload_n hx hb dX5_apartBy_14 rfl (lv_at hl 0 rfl) ?_
  refine lv_if_ge (tgt := 23) hx hb dX5_apartBy_15 (by decide) (fun c_15 => ?_) (fun c_15 => ?_)
  · refine lv_iload_n hx hb dX5_apartBy_23 rfl (lv_at hl 0 rfl) ?_
    refine lv_istore_n (lv' := [(3, .int ((f_Mof f k1 1) - (f_Mof f k2 1))), (0, .ref a0), (1, .int (nI k1)), (2, .int (nI k2))]) hx hb dX5_apartBy_24 rfl hl (by decide) rfl (fun ls hl => ?_)
    refine lv_iload_n hx hb dX5_apartBy_25 rfl (lv_at hl 0 rfl) ?_
    refine lv_sipush (v := (1800 : Int32)) hx hb dX5_apartBy_26 (by decide) ?_
    refine lv_icmp_le (tgt := 40) hx hb dX5_apartBy_29 (by decide) (fun c_29 => ?_) (fun c_29 => ?_)
    · refine lv_iload_n hx hb dX5_apartBy_40 rfl (lv_at hl 0 rfl) ?_
      have r1 : f_MapartBy f k1 k2 = (f_Mof f k1 1) - (f_Mof f k2 1) := by
        rw [f_MapartBy, if_pos c_15, if_pos c_29]
      exact kr_i hx hb hr hlk dX5_apartBy_41 r1.symm
    · refine lv_sipush (v := (3600 : Int32)) hx hb dX5_apartBy_32 (by decide) ?_
      refine lv_iload_n hx hb dX5_apartBy_35 rfl (lv_at hl 0 rfl) ?_
      refine lv_isub hx hb dX5_apartBy_36 ?_
      refine lv_goto (tgt := 41) hx hb dX5_apartBy_37 (by decide) ?_
      have r2 : f_MapartBy f k1 k2 = (3600 : Int32) - ((f_Mof f k1 1) - (f_Mof f k2 1)) := by
        rw [f_MapartBy, if_pos c_15, if_neg c_29]
      exact kr_i hx hb hr hlk dX5_apartBy_41 r2.symm
  · refine lv_iload_n hx hb dX5_apartBy_18 rfl (lv_at hl 0 rfl) ?_
    refine lv_ineg hx hb dX5_apartBy_19 ?_
    refine lv_goto (tgt := 24) hx hb dX5_apartBy_20 (by decide) ?_
    refine lv_istore_n (lv' := [(3, .int (-((f_Mof f k1 1) - (f_Mof f k2 1)))), (0, .ref a0), (1, .int (nI k1)), (2, .int (nI k2))]) hx hb dX5_apartBy_24 rfl hl (by decide) rfl (fun ls hl => ?_)
    refine lv_iload_n hx hb dX5_apartBy_25 rfl (lv_at hl 0 rfl) ?_
    refine lv_sipush (v := (1800 : Int32)) hx hb dX5_apartBy_26 (by decide) ?_
    refine lv_icmp_le (tgt := 40) hx hb dX5_apartBy_29 (by decide) (fun c_29 => ?_) (fun c_29 => ?_)
    · refine lv_iload_n hx hb dX5_apartBy_40 rfl (lv_at hl 0 rfl) ?_
      have r3 : f_MapartBy f k1 k2 = -((f_Mof f k1 1) - (f_Mof f k2 1)) := by
        rw [f_MapartBy, if_neg c_15, if_pos c_29]
      exact kr_i hx hb hr hlk dX5_apartBy_41 r3.symm
    · refine lv_sipush (v := (3600 : Int32)) hx hb dX5_apartBy_32 (by decide) ?_
      refine lv_iload_n hx hb dX5_apartBy_35 rfl (lv_at hl 0 rfl) ?_
      refine lv_isub hx hb dX5_apartBy_36 ?_
      refine lv_goto (tgt := 41) hx hb dX5_apartBy_37 (by decide) ?_
      have r4 : f_MapartBy f k1 k2 = (3600 : Int32) - (-((f_Mof f k1 1) - (f_Mof f k2 1))) := by
        rw [f_MapartBy, if_neg c_15, if_neg c_29]
      exact kr_i hx hb hr hlk dX5_apartBy_41 r4.symm

def rm_X5_sum : Room := { frames := 2, cells := 0, slots := 0, locals := 43 }
theorem mi_X5_sum : kM yX5_sum wsX5_sum cX5_sum 4 (some .int) 2 := ⟨⟨_, rfl⟩, by decide, by decide, by decide +kernel⟩
def f_Msum_L4 (f : (Nat → Int32)) (p1 : Bool) (j0 : Nat) (x0 : Int32) : Int32 := if (f_Mgoes f j0) = true then (if p1 = true then (x0 + (f_Mturn (f_Mof f j0 1))) else x0 + (f_Mswing (f_Mof f j0 1))) else x0 + (0 : Int32)
def f_Msum (f : (Nat → Int32)) (p1 : Bool) : Int32 := it ((f 3).toNatClampNeg) (f_Msum_L4 f p1) (0 : Int32)
set_option maxHeartbeats 1000000 in
set_option maxRecDepth 100000 in
theorem c_X5_sum (l : Launch) (dC : Nat → ClassId) (dI : Nat → Nat → Nat) (cI cZ cO : ClassId) (a0 : Nat) (f : (Nat → Int32)) (p1 : Bool) (hs : vp_in (f 3) 7) : Met l yX5_sum wsX5_sum rm_X5_sum (va_Pc [.ref a0, .int (bI p1)] (fun U => va_P (dC, dI) vwCl (AW cI 39 a0 f) U.heap ∧ va_K (dC, dI) vwCl (TY cI cZ cO) U)) (kQ (some (.int (f_Msum f p1)))) 0 0 (fun _ => False) := by
  refine kofR (cc := cX5_sum) (maxL := 4) (ret := some .int) (by decide) rfl (Nat.le_of_ble_eq_true rfl) ?_
  intro p e s m args below meth c ls S hr hlk hP hK hl
  obtain ⟨hx, hb, hml, hown, hts⟩ := id S
  have hs6 : (f 3).toNatClampNeg < 7 := vp_lt hs
  have hl : lv_has ls 4 [(0, .ref a0), (1, .int (bI p1))] := hl
  refine lv_iconst (v := (0 : Int32)) hx hb dX5_sum_0 (by decide) ?_
  refine lv_istore_n (lv' := [(2, .int (0 : Int32)), (0, .ref a0), (1, .int (bI p1))]) hx hb dX5_sum_1 rfl hl (by decide) rfl (fun ls hl => ?_)
  refine lv_iconst (v := (0 : Int32)) hx hb dX5_sum_2 (by decide) ?_
  refine lv_istore_n (lv' := [(3, .int (0 : Int32)), (2, .int (0 : Int32)), (0, .ref a0), (1, .int (bI p1))]) hx hb dX5_sum_3 rfl hl (by decide) rfl (fun ls hl => ?_)
  have L1 : ∀ (n j0 : Nat), j0 + n = (f 3).toNatClampNeg → ∀ (ls : Array Slot), lv_has ls 4 [(0, .ref a0), (1, .int (bI p1)), (2, .int (it j0 (f_Msum_L4 f p1) (0 : Int32))), (3, .int (nI j0))] → W p l e rm_X5_sum s m args below meth c s.heap [] 0 0 (MQ below (kQ (some (.int (f_Msum f p1)))) args s 0 0 (fun _ => False)) (F0 m 4 ls []) := by
    intro n
    induction n with
    | zero =>
      intro j0 hj1 ls hl
      obtain rfl : j0 = (f 3).toNatClampNeg := by omega
      refine lv_iload_n hx hb dX5_sum_4 rfl (lv_at hl 3 rfl) ?_
      refine lv_aload_n hx hb dX5_sum_5 rfl (lv_at hl 0 rfl) ?_
      refine lv_iconst (v := (3 : Int32)) hx hb dX5_sum_6 (by decide) ?_
      refine k_iald (D := (dC, dI)) hx hb hK hP 0 0 rfl rfl (j := 3) (by omega) (by decide) dX5_sum_7 ?_
      refine lv_icmp_ge (tgt := 57) hx hb dX5_sum_8 (by decide) (fun c_8 => ?_) (fun c_8 => ?_)
      · refine lv_iload_n hx hb dX5_sum_57 rfl (lv_at hl 2 rfl) ?_
        have r2 : f_Msum f p1 = it ((f 3).toNatClampNeg) (f_Msum_L4 f p1) (0 : Int32) := by
          rw [f_Msum]
        exact kr_i hx hb hr hlk dX5_sum_58 r2.symm
      · exact absurd (kn_ge (f 3)) c_8
    | succ n ih1 =>
      intro j0 hj1 ls hl
      refine lv_iload_n hx hb dX5_sum_4 rfl (lv_at hl 3 rfl) ?_
      refine lv_aload_n hx hb dX5_sum_5 rfl (lv_at hl 0 rfl) ?_
      refine lv_iconst (v := (3 : Int32)) hx hb dX5_sum_6 (by decide) ?_
      refine k_iald (D := (dC, dI)) hx hb hK hP 0 0 rfl rfl (j := 3) (by omega) (by decide) dX5_sum_7 ?_
      refine lv_icmp_ge (tgt := 57) hx hb dX5_sum_8 (by decide) (fun c_8 => ?_) (fun c_8 => ?_)
      · exact absurd c_8 (kn_lt (b := f 3) (by omega))
      · refine lv_iload_n hx hb dX5_sum_11 rfl (lv_at hl 2 rfl) ?_
        refine lv_aload_n hx hb dX5_sum_12 rfl (lv_at hl 0 rfl) ?_
        refine lv_iload_n hx hb dX5_sum_13 rfl (lv_at hl 3 rfl) ?_
        refine kc_s (y := yX5_goes) (As := [.ref a0, .int (nI j0)]) (rest := [.int (it j0 (f_Msum_L4 f p1) (0 : Int32))]) rfl S (v := .int (bI (f_Mgoes f j0))) (c_X5_goes l dC dI cI cZ cO a0 f j0 (by omega)) gX5_sum_X5_goes mi_X5_goes ⟨rfl, rfl⟩ ⟨Nat.le_of_ble_eq_true rfl, Nat.le_of_ble_eq_true rfl⟩ hK hP ⟨Nat.le_refl _, Nat.le_refl _⟩ dX5_sum_14 rfl hl.1 rfl (Nat.le_of_ble_eq_true rfl) ?_
        refine kb_ne (tgt := 24) hx hb dX5_sum_17 (by decide) (fun c_17 => ?_) (fun c_17 => ?_)
        · refine lv_iload_n hx hb dX5_sum_24 rfl (lv_at hl 1 rfl) ?_
          refine kb_eq (tgt := 40) hx hb dX5_sum_25 (by decide) (fun c_25 => ?_) (fun c_25 => ?_)
          · refine lv_aload_n hx hb dX5_sum_40 rfl (lv_at hl 0 rfl) ?_
            refine lv_iload_n hx hb dX5_sum_41 rfl (lv_at hl 3 rfl) ?_
            refine lv_iconst (v := (1 : Int32)) hx hb dX5_sum_42 (by decide) ?_
            refine kc_s (y := yX5_of) (As := [.ref a0, .int (nI j0), .int (nI 1)]) (rest := [.int (it j0 (f_Msum_L4 f p1) (0 : Int32))]) rfl S (v := .int (f_Mof f j0 1)) (c_X5_of l dC dI cI cZ cO a0 f j0 1 (by omega) (by omega)) gX5_sum_X5_of mi_X5_of ⟨rfl, rfl⟩ ⟨Nat.le_of_ble_eq_true rfl, Nat.le_of_ble_eq_true rfl⟩ hK hP ⟨Nat.le_refl _, Nat.le_refl _⟩ dX5_sum_43 rfl hl.1 rfl (Nat.le_of_ble_eq_true rfl) ?_
            refine kc_p (y := yX5_swing) (As := [.int (f_Mof f j0 1)]) (rest := [.int (it j0 (f_Msum_L4 f p1) (0 : Int32))]) rfl S (v := .int (f_Mswing (f_Mof f j0 1))) (c_X5_swing l (f_Mof f j0 1)) gX5_sum_X5_swing mi_X5_swing ⟨rfl, rfl⟩ ⟨Nat.le_of_ble_eq_true rfl, Nat.le_of_ble_eq_true rfl⟩ ⟨Nat.le_refl _, Nat.le_refl _⟩ dX5_sum_46 rfl hl.1 rfl (Nat.le_of_ble_eq_true rfl) ?_
            refine lv_iadd hx hb dX5_sum_49 ?_
            refine lv_istore_n (lv' := [(2, .int ((it j0 (f_Msum_L4 f p1) (0 : Int32)) + (f_Mswing (f_Mof f j0 1)))), (0, .ref a0), (1, .int (bI p1)), (3, .int (nI j0))]) hx hb dX5_sum_50 rfl hl (by decide) rfl (fun ls hl => ?_)
            refine lv_iinc (v := nI (j0 + 1)) (lv' := [(3, .int (nI (j0 + 1))), (2, .int ((it j0 (f_Msum_L4 f p1) (0 : Int32)) + (f_Mswing (f_Mof f j0 1)))), (0, .ref a0), (1, .int (bI p1))]) hx hb dX5_sum_51 hl (k := 3) rfl (nI_add j0 1) (by decide) rfl (fun ls hl => ?_)
            refine lv_goto (tgt := 4) hx hb dX5_sum_54 (by decide) ?_
            have b3 : f_Msum_L4 f p1 j0 (it j0 (f_Msum_L4 f p1) (0 : Int32)) = (it j0 (f_Msum_L4 f p1) (0 : Int32)) + (f_Mswing (f_Mof f j0 1)) := by
              rw [f_Msum_L4, if_pos c_17, if_neg c_25]
            have e3 : it (j0 + 1) (f_Msum_L4 f p1) (0 : Int32) = (it j0 (f_Msum_L4 f p1) (0 : Int32)) + (f_Mswing (f_Mof f j0 1)) := (it_s _ _ _).trans b3
            exact ih1 (j0 + 1) (by omega) ls (by rw [e3]; exact lv_sub hl [2, 3, 1, 0] rfl)
          · refine lv_aload_n hx hb dX5_sum_28 rfl (lv_at hl 0 rfl) ?_
            refine lv_iload_n hx hb dX5_sum_29 rfl (lv_at hl 3 rfl) ?_
            refine lv_iconst (v := (1 : Int32)) hx hb dX5_sum_30 (by decide) ?_
            refine kc_s (y := yX5_of) (As := [.ref a0, .int (nI j0), .int (nI 1)]) (rest := [.int (it j0 (f_Msum_L4 f p1) (0 : Int32))]) rfl S (v := .int (f_Mof f j0 1)) (c_X5_of l dC dI cI cZ cO a0 f j0 1 (by omega) (by omega)) gX5_sum_X5_of mi_X5_of ⟨rfl, rfl⟩ ⟨Nat.le_of_ble_eq_true rfl, Nat.le_of_ble_eq_true rfl⟩ hK hP ⟨Nat.le_refl _, Nat.le_refl _⟩ dX5_sum_31 rfl hl.1 rfl (Nat.le_of_ble_eq_true rfl) ?_
            refine kc_p (y := yX5_turn) (As := [.int (f_Mof f j0 1)]) (rest := [.int (it j0 (f_Msum_L4 f p1) (0 : Int32))]) rfl S (v := .int (f_Mturn (f_Mof f j0 1))) (c_X5_turn l (f_Mof f j0 1)) gX5_sum_X5_turn mi_X5_turn ⟨rfl, rfl⟩ ⟨Nat.le_of_ble_eq_true rfl, Nat.le_of_ble_eq_true rfl⟩ ⟨Nat.le_refl _, Nat.le_refl _⟩ dX5_sum_34 rfl hl.1 rfl (Nat.le_of_ble_eq_true rfl) ?_
            refine lv_goto (tgt := 49) hx hb dX5_sum_37 (by decide) ?_
            refine lv_iadd hx hb dX5_sum_49 ?_
            refine lv_istore_n (lv' := [(2, .int ((it j0 (f_Msum_L4 f p1) (0 : Int32)) + (f_Mturn (f_Mof f j0 1)))), (0, .ref a0), (1, .int (bI p1)), (3, .int (nI j0))]) hx hb dX5_sum_50 rfl hl (by decide) rfl (fun ls hl => ?_)
            refine lv_iinc (v := nI (j0 + 1)) (lv' := [(3, .int (nI (j0 + 1))), (2, .int ((it j0 (f_Msum_L4 f p1) (0 : Int32)) + (f_Mturn (f_Mof f j0 1)))), (0, .ref a0), (1, .int (bI p1))]) hx hb dX5_sum_51 hl (k := 3) rfl (nI_add j0 1) (by decide) rfl (fun ls hl => ?_)
            refine lv_goto (tgt := 4) hx hb dX5_sum_54 (by decide) ?_
            have b4 : f_Msum_L4 f p1 j0 (it j0 (f_Msum_L4 f p1) (0 : Int32)) = (it j0 (f_Msum_L4 f p1) (0 : Int32)) + (f_Mturn (f_Mof f j0 1)) := by
              rw [f_Msum_L4, if_pos c_17, if_pos c_25]
            have e4 : it (j0 + 1) (f_Msum_L4 f p1) (0 : Int32) = (it j0 (f_Msum_L4 f p1) (0 : Int32)) + (f_Mturn (f_Mof f j0 1)) := (it_s _ _ _).trans b4
            exact ih1 (j0 + 1) (by omega) ls (by rw [e4]; exact lv_sub hl [2, 3, 1, 0] rfl)
        · refine lv_iconst (v := (0 : Int32)) hx hb dX5_sum_20 (by decide) ?_
          refine lv_goto (tgt := 49) hx hb dX5_sum_21 (by decide) ?_
          refine lv_iadd hx hb dX5_sum_49 ?_
          refine lv_istore_n (lv' := [(2, .int ((it j0 (f_Msum_L4 f p1) (0 : Int32)) + (0 : Int32))), (0, .ref a0), (1, .int (bI p1)), (3, .int (nI j0))]) hx hb dX5_sum_50 rfl hl (by decide) rfl (fun ls hl => ?_)
          refine lv_iinc (v := nI (j0 + 1)) (lv' := [(3, .int (nI (j0 + 1))), (2, .int ((it j0 (f_Msum_L4 f p1) (0 : Int32)) + (0 : Int32))), (0, .ref a0), (1, .int (bI p1))]) hx hb dX5_sum_51 hl (k := 3) rfl (nI_add j0 1) (by decide) rfl (fun ls hl => ?_)
          refine lv_goto (tgt := 4) hx hb dX5_sum_54 (by decide) ?_
          have b5 : f_Msum_L4 f p1 j0 (it j0 (f_Msum_L4 f p1) (0 : Int32)) = (it j0 (f_Msum_L4 f p1) (0 : Int32)) + (0 : Int32) := by
            rw [f_Msum_L4, if_neg c_17]
          have e5 : it (j0 + 1) (f_Msum_L4 f p1) (0 : Int32) = (it j0 (f_Msum_L4 f p1) (0 : Int32)) + (0 : Int32) := (it_s _ _ _).trans b5
          exact ih1 (j0 + 1) (by omega) ls (by rw [e5]; exact lv_sub hl [2, 3, 1, 0] rfl)
  exact L1 ((f 3).toNatClampNeg) 0 (by omega) ls (lv_sub hl [2, 3, 1, 0] rfl)

def rm_X5_going : Room := { frames := 2, cells := 0, slots := 0, locals := 43 }
theorem mi_X5_going : kM yX5_going wsX5_going cX5_going 3 (some .int) 1 := ⟨⟨_, rfl⟩, by decide, by decide, by decide +kernel⟩
def f_Mgoing_L4 (f : (Nat → Int32)) (j0 : Nat) (x0 : Int32) : Int32 := if (f_Mgoes f j0) = true then (x0 + (1 : Int32)) else x0 + (0 : Int32)
def f_Mgoing (f : (Nat → Int32)) : Int32 := it ((f 3).toNatClampNeg) (f_Mgoing_L4 f) (0 : Int32)
set_option maxHeartbeats 1000000 in
set_option maxRecDepth 100000 in
theorem c_X5_going (l : Launch) (dC : Nat → ClassId) (dI : Nat → Nat → Nat) (cI cZ cO : ClassId) (a0 : Nat) (f : (Nat → Int32)) (hs : vp_in (f 3) 7) : Met l yX5_going wsX5_going rm_X5_going (va_Pc [.ref a0] (fun U => va_P (dC, dI) vwCl (AW cI 39 a0 f) U.heap ∧ va_K (dC, dI) vwCl (TY cI cZ cO) U)) (kQ (some (.int (f_Mgoing f)))) 0 0 (fun _ => False) := by
  refine kofR (cc := cX5_going) (maxL := 3) (ret := some .int) (by decide) rfl (Nat.le_of_ble_eq_true rfl) ?_
  intro p e s m args below meth c ls S hr hlk hP hK hl
  obtain ⟨hx, hb, hml, hown, hts⟩ := id S
  have hs6 : (f 3).toNatClampNeg < 7 := vp_lt hs
  have hl : lv_has ls 3 [(0, .ref a0)] := hl
  refine lv_iconst (v := (0 : Int32)) hx hb dX5_going_0 (by decide) ?_
  refine lv_istore_n (lv' := [(1, .int (0 : Int32)), (0, .ref a0)]) hx hb dX5_going_1 rfl hl (by decide) rfl (fun ls hl => ?_)
  refine lv_iconst (v := (0 : Int32)) hx hb dX5_going_2 (by decide) ?_
  refine lv_istore_n (lv' := [(2, .int (0 : Int32)), (1, .int (0 : Int32)), (0, .ref a0)]) hx hb dX5_going_3 rfl hl (by decide) rfl (fun ls hl => ?_)
  have L1 : ∀ (n j0 : Nat), j0 + n = (f 3).toNatClampNeg → ∀ (ls : Array Slot), lv_has ls 3 [(0, .ref a0), (1, .int (it j0 (f_Mgoing_L4 f) (0 : Int32))), (2, .int (nI j0))] → W p l e rm_X5_going s m args below meth c s.heap [] 0 0 (MQ below (kQ (some (.int (f_Mgoing f)))) args s 0 0 (fun _ => False)) (F0 m 4 ls []) := by
    intro n
    induction n with
    | zero =>
      intro j0 hj1 ls hl
      obtain rfl : j0 = (f 3).toNatClampNeg := by omega
      refine lv_iload_n hx hb dX5_going_4 rfl (lv_at hl 2 rfl) ?_
      refine lv_aload_n hx hb dX5_going_5 rfl (lv_at hl 0 rfl) ?_
      refine lv_iconst (v := (3 : Int32)) hx hb dX5_going_6 (by decide) ?_
      refine k_iald (D := (dC, dI)) hx hb hK hP 0 0 rfl rfl (j := 3) (by omega) (by decide) dX5_going_7 ?_
      refine lv_icmp_ge (tgt := 33) hx hb dX5_going_8 (by decide) (fun c_8 => ?_) (fun c_8 => ?_)
      · refine lv_iload_n hx hb dX5_going_33 rfl (lv_at hl 1 rfl) ?_
        have r2 : f_Mgoing f = it ((f 3).toNatClampNeg) (f_Mgoing_L4 f) (0 : Int32) := by
          rw [f_Mgoing]
        exact kr_i hx hb hr hlk dX5_going_34 r2.symm
      · exact absurd (kn_ge (f 3)) c_8
    | succ n ih1 =>
      intro j0 hj1 ls hl
      refine lv_iload_n hx hb dX5_going_4 rfl (lv_at hl 2 rfl) ?_
      refine lv_aload_n hx hb dX5_going_5 rfl (lv_at hl 0 rfl) ?_
      refine lv_iconst (v := (3 : Int32)) hx hb dX5_going_6 (by decide) ?_
      refine k_iald (D := (dC, dI)) hx hb hK hP 0 0 rfl rfl (j := 3) (by omega) (by decide) dX5_going_7 ?_
      refine lv_icmp_ge (tgt := 33) hx hb dX5_going_8 (by decide) (fun c_8 => ?_) (fun c_8 => ?_)
      · exact absurd c_8 (kn_lt (b := f 3) (by omega))
      · refine lv_iload_n hx hb dX5_going_11 rfl (lv_at hl 1 rfl) ?_
        refine lv_aload_n hx hb dX5_going_12 rfl (lv_at hl 0 rfl) ?_
        refine lv_iload_n hx hb dX5_going_13 rfl (lv_at hl 2 rfl) ?_
        refine kc_s (y := yX5_goes) (As := [.ref a0, .int (nI j0)]) (rest := [.int (it j0 (f_Mgoing_L4 f) (0 : Int32))]) rfl S (v := .int (bI (f_Mgoes f j0))) (c_X5_goes l dC dI cI cZ cO a0 f j0 (by omega)) gX5_going_X5_goes mi_X5_goes ⟨rfl, rfl⟩ ⟨Nat.le_of_ble_eq_true rfl, Nat.le_of_ble_eq_true rfl⟩ hK hP ⟨Nat.le_refl _, Nat.le_refl _⟩ dX5_going_14 rfl hl.1 rfl (Nat.le_of_ble_eq_true rfl) ?_
        refine kb_eq (tgt := 24) hx hb dX5_going_17 (by decide) (fun c_17 => ?_) (fun c_17 => ?_)
        · refine lv_iconst (v := (0 : Int32)) hx hb dX5_going_24 (by decide) ?_
          refine lv_iadd hx hb dX5_going_25 ?_
          refine lv_istore_n (lv' := [(1, .int ((it j0 (f_Mgoing_L4 f) (0 : Int32)) + (0 : Int32))), (0, .ref a0), (2, .int (nI j0))]) hx hb dX5_going_26 rfl hl (by decide) rfl (fun ls hl => ?_)
          refine lv_iinc (v := nI (j0 + 1)) (lv' := [(2, .int (nI (j0 + 1))), (1, .int ((it j0 (f_Mgoing_L4 f) (0 : Int32)) + (0 : Int32))), (0, .ref a0)]) hx hb dX5_going_27 hl (k := 2) rfl (nI_add j0 1) (by decide) rfl (fun ls hl => ?_)
          refine lv_goto (tgt := 4) hx hb dX5_going_30 (by decide) ?_
          have b3 : f_Mgoing_L4 f j0 (it j0 (f_Mgoing_L4 f) (0 : Int32)) = (it j0 (f_Mgoing_L4 f) (0 : Int32)) + (0 : Int32) := by
            rw [f_Mgoing_L4, if_neg c_17]
          have e3 : it (j0 + 1) (f_Mgoing_L4 f) (0 : Int32) = (it j0 (f_Mgoing_L4 f) (0 : Int32)) + (0 : Int32) := (it_s _ _ _).trans b3
          exact ih1 (j0 + 1) (by omega) ls (by rw [e3]; exact lv_sub hl [2, 1, 0] rfl)
        · refine lv_iconst (v := (1 : Int32)) hx hb dX5_going_20 (by decide) ?_
          refine lv_goto (tgt := 25) hx hb dX5_going_21 (by decide) ?_
          refine lv_iadd hx hb dX5_going_25 ?_
          refine lv_istore_n (lv' := [(1, .int ((it j0 (f_Mgoing_L4 f) (0 : Int32)) + (1 : Int32))), (0, .ref a0), (2, .int (nI j0))]) hx hb dX5_going_26 rfl hl (by decide) rfl (fun ls hl => ?_)
          refine lv_iinc (v := nI (j0 + 1)) (lv' := [(2, .int (nI (j0 + 1))), (1, .int ((it j0 (f_Mgoing_L4 f) (0 : Int32)) + (1 : Int32))), (0, .ref a0)]) hx hb dX5_going_27 hl (k := 2) rfl (nI_add j0 1) (by decide) rfl (fun ls hl => ?_)
          refine lv_goto (tgt := 4) hx hb dX5_going_30 (by decide) ?_
          have b4 : f_Mgoing_L4 f j0 (it j0 (f_Mgoing_L4 f) (0 : Int32)) = (it j0 (f_Mgoing_L4 f) (0 : Int32)) + (1 : Int32) := by
            rw [f_Mgoing_L4, if_pos c_17]
          have e4 : it (j0 + 1) (f_Mgoing_L4 f) (0 : Int32) = (it j0 (f_Mgoing_L4 f) (0 : Int32)) + (1 : Int32) := (it_s _ _ _).trans b4
          exact ih1 (j0 + 1) (by omega) ls (by rw [e4]; exact lv_sub hl [2, 1, 0] rfl)
  exact L1 ((f 3).toNatClampNeg) 0 (by omega) ls (lv_sub hl [2, 1, 0] rfl)

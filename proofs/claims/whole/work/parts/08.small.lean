def rm_X3_isFull : Room := { frames := 0, cells := 0, slots := 0, locals := 0 }
theorem mi_X3_isFull : kM yX3_isFull wsX3_isFull cX3_isFull 1 (some .boolean) 0 := ⟨⟨_, rfl⟩, by decide, by decide, by decide +kernel⟩
def f_TisFull (u : BS) : Bool := if (u 1 0) < (60 : Int32) then false else true
set_option maxHeartbeats 1000000 in
set_option maxRecDepth 100000 in
theorem c_X3_isFull (l : Launch) (dC : Nat → ClassId) (dI : Nat → Nat → Nat) (cI cZ cO : ClassId) (h0 : Nat) (q : Nat → Nat) (u : BS) : Met l yX3_isFull wsX3_isFull rm_X3_isFull (va_Pc [.ref h0] (fun U => va_P (dC, dI) vwCl (TW cI cZ h0 q u) U.heap ∧ va_K (dC, dI) vwCl (TY cI cZ cO) U)) (kQ (some (.int (bI (f_TisFull u))))) 0 0 (fun _ => False) := by
  refine kofR (cc := cX3_isFull) (maxL := 1) (ret := some .boolean) (by decide) rfl (Nat.le_of_ble_eq_true rfl) ?_
  intro p e s m args below meth c ls S hr hlk hP hK hl
  obtain ⟨hx, hb, hml, hown, hts⟩ := id S
  have inX3 : ∀ w ∈ wsX30, w ∈ wsX3_isFull := fun w h => List.mem_cons_of_mem _ (List.mem_append_right _ h)
  have hl : lv_has ls 1 [(0, .ref h0)] := hl
  refine lv_aload_n hx hb dX3_isFull_0 rfl (lv_at hl 0 rfl) ?_
  refine va_get (D := (dC, dI)) (ci := 3) (v := .int (u 1 0)) (C := RX3) (T := TX3) (N := 2) hx hb hts inX3 hown hK hP 0 rfl rfl 1 (by decide) (hts (.fieldLink RX3 15 "BoardMetronomes$Text" "size" "I") (by decide +kernel)) (fun _ h9 => h9) rfl dX3_isFull_1 ?_
  refine lv_bipush (v := (60 : Int32)) hx hb dX3_isFull_4 (by decide) ?_
  refine lv_icmp_lt (tgt := 13) hx hb dX3_isFull_6 (by decide) (fun c_6 => ?_) (fun c_6 => ?_)
  · refine lv_iconst (v := (0 : Int32)) hx hb dX3_isFull_13 (by decide) ?_
    have r1 : f_TisFull u = false := by
      rw [f_TisFull, if_pos c_6]
    exact kr_z (x := false) hx hb hr hlk dX3_isFull_14 rfl r1
  · refine lv_iconst (v := (1 : Int32)) hx hb dX3_isFull_9 (by decide) ?_
    refine lv_goto (tgt := 14) hx hb dX3_isFull_10 (by decide) ?_
    have r2 : f_TisFull u = true := by
      rw [f_TisFull, if_neg c_6]
    exact kr_z (x := true) hx hb hr hlk dX3_isFull_14 rfl r2

def rm_X3_size : Room := { frames := 0, cells := 0, slots := 0, locals := 0 }
theorem mi_X3_size : kM yX3_size wsX3_size cX3_size 1 (some .int) 0 := ⟨⟨_, rfl⟩, by decide, by decide, by decide +kernel⟩
def f_Tsize (u : BS) : Int32 := u 1 0
set_option maxHeartbeats 1000000 in
set_option maxRecDepth 100000 in
theorem c_X3_size (l : Launch) (dC : Nat → ClassId) (dI : Nat → Nat → Nat) (cI cZ cO : ClassId) (h0 : Nat) (q : Nat → Nat) (u : BS) : Met l yX3_size wsX3_size rm_X3_size (va_Pc [.ref h0] (fun U => va_P (dC, dI) vwCl (TW cI cZ h0 q u) U.heap ∧ va_K (dC, dI) vwCl (TY cI cZ cO) U)) (kQ (some (.int (f_Tsize u)))) 0 0 (fun _ => False) := by
  refine kofR (cc := cX3_size) (maxL := 1) (ret := some .int) (by decide) rfl (Nat.le_of_ble_eq_true rfl) ?_
  intro p e s m args below meth c ls S hr hlk hP hK hl
  obtain ⟨hx, hb, hml, hown, hts⟩ := id S
  have inX3 : ∀ w ∈ wsX30, w ∈ wsX3_size := fun w h => List.mem_cons_of_mem _ (List.mem_append_right _ h)
  have hl : lv_has ls 1 [(0, .ref h0)] := hl
  refine lv_aload_n hx hb dX3_size_0 rfl (lv_at hl 0 rfl) ?_
  refine va_get (D := (dC, dI)) (ci := 3) (v := .int (u 1 0)) (C := RX3) (T := TX3) (N := 2) hx hb hts inX3 hown hK hP 0 rfl rfl 1 (by decide) (hts (.fieldLink RX3 15 "BoardMetronomes$Text" "size" "I") (by decide +kernel)) (fun _ h9 => h9) rfl dX3_size_1 ?_
  have r1 : f_Tsize u = u 1 0 := by
    rw [f_Tsize]
  exact kr_i hx hb hr hlk dX3_size_4 r1.symm

def rm_X3_signAt : Room := { frames := 0, cells := 0, slots := 0, locals := 0 }
theorem mi_X3_signAt : kM yX3_signAt wsX3_signAt cX3_signAt 2 (some .int) 1 := ⟨⟨_, rfl⟩, by decide, by decide, by decide +kernel⟩
def f_TsignAt (u : BS) (p0 : Int32) : Int32 := if p0 < 0 then (-1 : Int32) else if (u 1 0) ≤ p0 then (-1 : Int32) else if (60 : Int32) ≤ p0 then (-1 : Int32) else u 0 p0.toNatClampNeg
set_option maxHeartbeats 1000000 in
set_option maxRecDepth 100000 in
theorem c_X3_signAt (l : Launch) (dC : Nat → ClassId) (dI : Nat → Nat → Nat) (cI cZ cO : ClassId) (h0 : Nat) (q : Nat → Nat) (u : BS) (p0 : Int32) : Met l yX3_signAt wsX3_signAt rm_X3_signAt (va_Pc [.ref h0, .int p0] (fun U => va_P (dC, dI) vwCl (TW cI cZ h0 q u) U.heap ∧ va_K (dC, dI) vwCl (TY cI cZ cO) U)) (kQ (some (.int (f_TsignAt u p0)))) 0 0 (fun _ => False) := by
  refine kofR (cc := cX3_signAt) (maxL := 2) (ret := some .int) (by decide) rfl (Nat.le_of_ble_eq_true rfl) ?_
  intro p e s m args below meth c ls S hr hlk hP hK hl
  obtain ⟨hx, hb, hml, hown, hts⟩ := id S
  have inX3 : ∀ w ∈ wsX30, w ∈ wsX3_signAt := fun w h => List.mem_cons_of_mem _ (List.mem_append_right _ h)
  have hl : lv_has ls 2 [(0, .ref h0), (1, .int p0)] := hl
  refine lv_iload_n hx hb dX3_signAt_0 rfl (lv_at hl 1 rfl) ?_
  refine lv_if_lt (tgt := 27) hx hb dX3_signAt_1 (by decide) (fun c_1 => ?_) (fun c_1 => ?_)
  · refine lv_iconst (v := (-1 : Int32)) hx hb dX3_signAt_27 (by decide) ?_
    have r1 : f_TsignAt u p0 = (-1 : Int32) := by
      rw [f_TsignAt, if_pos c_1]
    exact kr_i hx hb hr hlk dX3_signAt_28 r1.symm
  · refine lv_iload_n hx hb dX3_signAt_4 rfl (lv_at hl 1 rfl) ?_
    refine lv_aload_n hx hb dX3_signAt_5 rfl (lv_at hl 0 rfl) ?_
    refine va_get (D := (dC, dI)) (ci := 3) (v := .int (u 1 0)) (C := RX3) (T := TX3) (N := 2) hx hb hts inX3 hown hK hP 0 rfl rfl 1 (by decide) (hts (.fieldLink RX3 15 "BoardMetronomes$Text" "size" "I") (by decide +kernel)) (fun _ h9 => h9) rfl dX3_signAt_6 ?_
    refine lv_icmp_ge (tgt := 27) hx hb dX3_signAt_9 (by decide) (fun c_9 => ?_) (fun c_9 => ?_)
    · refine lv_iconst (v := (-1 : Int32)) hx hb dX3_signAt_27 (by decide) ?_
      have r2 : f_TsignAt u p0 = (-1 : Int32) := by
        rw [f_TsignAt, if_neg c_1, if_pos c_9]
      exact kr_i hx hb hr hlk dX3_signAt_28 r2.symm
    · refine lv_iload_n hx hb dX3_signAt_12 rfl (lv_at hl 1 rfl) ?_
      refine lv_bipush (v := (60 : Int32)) hx hb dX3_signAt_13 (by decide) ?_
      refine lv_icmp_ge (tgt := 27) hx hb dX3_signAt_15 (by decide) (fun c_15 => ?_) (fun c_15 => ?_)
      · refine lv_iconst (v := (-1 : Int32)) hx hb dX3_signAt_27 (by decide) ?_
        have r3 : f_TsignAt u p0 = (-1 : Int32) := by
          rw [f_TsignAt, if_neg c_1, if_neg c_9, if_pos c_15]
        exact kr_i hx hb hr hlk dX3_signAt_28 r3.symm
      · refine lv_aload_n hx hb dX3_signAt_18 rfl (lv_at hl 0 rfl) ?_
        refine va_get (D := (dC, dI)) (ci := 3) (v := .ref (q 0)) (C := RX3) (T := TX3) (N := 2) hx hb hts inX3 hown hK hP 0 rfl rfl 0 (by decide) (hts (.fieldLink RX3 9 "BoardMetronomes$Text" "signs" "[I") (by decide +kernel)) (fun _ h9 => h9) rfl dX3_signAt_19 ?_
        refine lv_iload_n hx hb dX3_signAt_22 rfl (lv_at hl 1 rfl) ?_
        refine va_iald (D := (dC, dI)) hx hb hK hP 1 0 rfl rfl (kin_of c_1 c_15 (by decide)) dX3_signAt_23 ?_
        refine lv_goto (tgt := 28) hx hb dX3_signAt_24 (by decide) ?_
        have r4 : f_TsignAt u p0 = u 0 p0.toNatClampNeg := by
          rw [f_TsignAt, if_neg c_1, if_neg c_9, if_neg c_15]
        exact kr_i hx hb hr hlk dX3_signAt_28 r4.symm

def rm_X3_add : Room := { frames := 0, cells := 0, slots := 0, locals := 0 }
theorem mi_X3_add : kM yX3_add wsX3_add cX3_add 2 (some .int) 1 := ⟨⟨_, rfl⟩, by decide, by decide, by decide +kernel⟩
def f_Tadd (u : BS) (p0 : Int32) : Int32 × BS := if (u 1 0) < 0 then (u 1 0, u) else if (60 : Int32) ≤ (u 1 0) then (u 1 0, u) else ((u 1 0) + (1 : Int32), upA (upA u 0 ((u 1 0).toNatClampNeg) p0) 1 0 ((u 1 0) + (1 : Int32)))
set_option maxHeartbeats 1000000 in
set_option maxRecDepth 100000 in
theorem c_X3_add (l : Launch) (dC : Nat → ClassId) (dI : Nat → Nat → Nat) (cI cZ cO : ClassId) (h0 : Nat) (q : Nat → Nat) (u : BS) (p0 : Int32) (sz : Nat) : Met l yX3_add wsX3_add rm_X3_add (va_Pc [.ref h0, .int p0] (fun U => U.heap.size = sz ∧ va_P (dC, dI) vwCl (TW cI cZ h0 q u) U.heap ∧ va_K (dC, dI) vwCl (TY cI cZ cO) U ∧ va_D (fun _ => True) (TW cI cZ h0 q u))) (kQw (some (.int (f_Tadd u p0).1)) (dC, dI) vwCl (TW cI cZ h0 q ((f_Tadd u p0).2)) (va_A (TW cI cZ h0 q u) sz)) 0 0 (va_A (TW cI cZ h0 q u) sz) := by
  refine kofW (cc := cX3_add) (maxL := 2) (ret := some .int) (by decide) rfl (Nat.le_of_ble_eq_true rfl) ?_
  intro p e s m args below meth c ls S hr hlk hnm hsz hP hK hD hS hA hl
  generalize hA0 : va_A (TW cI cZ h0 q u) sz = A0 at hD hS hA ⊢
  subst hsz
  obtain ⟨hx, hb, hml, hown, hts⟩ := id S
  have inX3 : ∀ w ∈ wsX30, w ∈ wsX3_add := fun w h => List.mem_cons_of_mem _ (List.mem_append_right _ h)
  have hl : lv_has ls 2 [(0, .ref h0), (1, .int p0)] := hl
  refine lv_aload_n hx hb dX3_add_0 rfl (lv_at hl 0 rfl) ?_
  refine va_get (D := (dC, dI)) (ci := 3) (v := .int (u 1 0)) (C := RX3) (T := TX3) (N := 2) hx hb hts inX3 hown hK hP 0 rfl rfl 1 (by decide) (hts (.fieldLink RX3 15 "BoardMetronomes$Text" "size" "I") (by decide +kernel)) (fun _ h9 => h9) rfl dX3_add_1 ?_
  refine lv_if_lt (tgt := 36) hx hb dX3_add_4 (by decide) (fun c_4 => ?_) (fun c_4 => ?_)
  · refine lv_aload_n hx hb dX3_add_36 rfl (lv_at hl 0 rfl) ?_
    refine va_get (D := (dC, dI)) (ci := 3) (v := .int (u 1 0)) (C := RX3) (T := TX3) (N := 2) hx hb hts inX3 hown hK hP 0 rfl rfl 1 (by decide) (hts (.fieldLink RX3 15 "BoardMetronomes$Text" "size" "I") (by decide +kernel)) (fun _ h9 => h9) rfl dX3_add_37 ?_
    have r1 : f_Tadd u p0 = (u 1 0, u) := by
      rw [f_Tadd, if_pos c_4]
    exact kw_i hx hb hr hlk hP hS dX3_add_40 (by rw [r1]) (by rw [r1])
  · refine lv_aload_n hx hb dX3_add_7 rfl (lv_at hl 0 rfl) ?_
    refine va_get (D := (dC, dI)) (ci := 3) (v := .int (u 1 0)) (C := RX3) (T := TX3) (N := 2) hx hb hts inX3 hown hK hP 0 rfl rfl 1 (by decide) (hts (.fieldLink RX3 15 "BoardMetronomes$Text" "size" "I") (by decide +kernel)) (fun _ h9 => h9) rfl dX3_add_8 ?_
    refine lv_bipush (v := (60 : Int32)) hx hb dX3_add_11 (by decide) ?_
    refine lv_icmp_ge (tgt := 36) hx hb dX3_add_13 (by decide) (fun c_13 => ?_) (fun c_13 => ?_)
    · refine lv_aload_n hx hb dX3_add_36 rfl (lv_at hl 0 rfl) ?_
      refine va_get (D := (dC, dI)) (ci := 3) (v := .int (u 1 0)) (C := RX3) (T := TX3) (N := 2) hx hb hts inX3 hown hK hP 0 rfl rfl 1 (by decide) (hts (.fieldLink RX3 15 "BoardMetronomes$Text" "size" "I") (by decide +kernel)) (fun _ h9 => h9) rfl dX3_add_37 ?_
      have r2 : f_Tadd u p0 = (u 1 0, u) := by
        rw [f_Tadd, if_neg c_4, if_pos c_13]
      exact kw_i hx hb hr hlk hP hS dX3_add_40 (by rw [r2]) (by rw [r2])
    · refine lv_aload_n hx hb dX3_add_16 rfl (lv_at hl 0 rfl) ?_
      refine va_get (D := (dC, dI)) (ci := 3) (v := .ref (q 0)) (C := RX3) (T := TX3) (N := 2) hx hb hts inX3 hown hK hP 0 rfl rfl 0 (by decide) (hts (.fieldLink RX3 9 "BoardMetronomes$Text" "signs" "[I") (by decide +kernel)) (fun _ h9 => h9) rfl dX3_add_17 ?_
      refine lv_aload_n hx hb dX3_add_20 rfl (lv_at hl 0 rfl) ?_
      refine va_get (D := (dC, dI)) (ci := 3) (v := .int (u 1 0)) (C := RX3) (T := TX3) (N := 2) hx hb hts inX3 hown hK hP 0 rfl rfl 1 (by decide) (hts (.fieldLink RX3 15 "BoardMetronomes$Text" "size" "I") (by decide +kernel)) (fun _ h9 => h9) rfl dX3_add_21 ?_
      refine lv_iload_n hx hb dX3_add_24 rfl (lv_at hl 1 rfl) ?_
      refine kv_iast (D := (dC, dI)) hx hb hK hP hD hS 1 0 rfl rfl (kin_of c_4 c_13 (by decide)) dX3_add_25 (fun H locs hP hD hS => ?_)
      have hP : va_P (dC, dI) vwCl (TW cI cZ h0 q (upA u 0 ((u 1 0).toNatClampNeg) p0)) H := Eq.mp (congrArg (fun w => va_P (dC, dI) vwCl w H) TW_a0) hP
      have hD : va_D A0 (TW cI cZ h0 q (upA u 0 ((u 1 0).toNatClampNeg) p0)) := Eq.mp (congrArg (fun w => va_D A0 w) TW_a0) hD
      refine lv_aload_n hx hb dX3_add_26 rfl (lv_at hl 0 rfl) ?_
      refine lv_dup hx hb dX3_add_27 rfl ?_
      refine va_get (D := (dC, dI)) (ci := 3) (v := .int (u 1 0)) (C := RX3) (T := TX3) (N := 2) hx hb hts inX3 hown hK hP 0 rfl rfl 1 (by decide) (hts (.fieldLink RX3 15 "BoardMetronomes$Text" "size" "I") (by decide +kernel)) (fun _ h9 => h9) (congrArg (fun z => some (Value.int z)) (show (upA u 0 ((u 1 0).toNatClampNeg) p0) 1 0 = u 1 0 by rw [upA_o (show (1 : Nat) ≠ 0 by decide)])) dX3_add_28 ?_
      refine lv_iconst (v := (1 : Int32)) hx hb dX3_add_31 (by decide) ?_
      refine lv_iadd hx hb dX3_add_32 ?_
      refine va_put (D := (dC, dI)) (ci := 3) (v := .int ((u 1 0) + (1 : Int32))) (ty := .int) (C := RX3) (T := TX3) (N := 2) hx hb hts inX3 tyX3 tyX3_ok nmX3 hown hK hP hD hS 0 rfl rfl 1 (by decide) (hts (.fieldLink RX3 15 "BoardMetronomes$Text" "size" "I") (by decide +kernel)) (fun _ h9 => h9) rfl (by decide +kernel) rfl rfl (Nat.le_of_ble_eq_true rfl) dX3_add_33 (fun H locs hP hD hS => ?_)
      have hP : va_P (dC, dI) vwCl (TW cI cZ h0 q (upA (upA u 0 ((u 1 0).toNatClampNeg) p0) 1 0 ((u 1 0) + (1 : Int32)))) H := Eq.mp (congrArg (fun w => va_P (dC, dI) vwCl w H) TW_s1) hP
      have hD : va_D A0 (TW cI cZ h0 q (upA (upA u 0 ((u 1 0).toNatClampNeg) p0) 1 0 ((u 1 0) + (1 : Int32)))) := Eq.mp (congrArg (fun w => va_D A0 w) TW_s1) hD
      refine lv_aload_n hx hb dX3_add_36 rfl (lv_at hl 0 rfl) ?_
      refine va_get (D := (dC, dI)) (ci := 3) (v := .int ((u 1 0) + (1 : Int32))) (C := RX3) (T := TX3) (N := 2) hx hb hts inX3 hown hK hP 0 rfl rfl 1 (by decide) (hts (.fieldLink RX3 15 "BoardMetronomes$Text" "size" "I") (by decide +kernel)) (fun _ h9 => h9) (congrArg (fun z => some (Value.int z)) (show (upA (upA u 0 ((u 1 0).toNatClampNeg) p0) 1 0 ((u 1 0) + (1 : Int32))) 1 0 = (u 1 0) + (1 : Int32) by rw [upA_s])) dX3_add_37 ?_
      have r3 : f_Tadd u p0 = ((u 1 0) + (1 : Int32), upA (upA u 0 ((u 1 0).toNatClampNeg) p0) 1 0 ((u 1 0) + (1 : Int32))) := by
        rw [f_Tadd, if_neg c_4, if_neg c_13]
      exact kw_i hx hb hr hlk hP hS dX3_add_40 (by rw [r3]) (by rw [r3])

def rm_X3_empty : Room := { frames := 0, cells := 0, slots := 0, locals := 0 }
theorem mi_X3_empty : kM yX3_empty wsX3_empty cX3_empty 2 (some .int) 0 := ⟨⟨_, rfl⟩, by decide, by decide, by decide +kernel⟩
def f_Tempty (u : BS) : Int32 × BS := (u 1 0, upA u 1 0 (0 : Int32))
set_option maxHeartbeats 1000000 in
set_option maxRecDepth 100000 in
theorem c_X3_empty (l : Launch) (dC : Nat → ClassId) (dI : Nat → Nat → Nat) (cI cZ cO : ClassId) (h0 : Nat) (q : Nat → Nat) (u : BS) (sz : Nat) : Met l yX3_empty wsX3_empty rm_X3_empty (va_Pc [.ref h0] (fun U => U.heap.size = sz ∧ va_P (dC, dI) vwCl (TW cI cZ h0 q u) U.heap ∧ va_K (dC, dI) vwCl (TY cI cZ cO) U ∧ va_D (fun _ => True) (TW cI cZ h0 q u))) (kQw (some (.int (f_Tempty u).1)) (dC, dI) vwCl (TW cI cZ h0 q ((f_Tempty u).2)) (va_A (TW cI cZ h0 q u) sz)) 0 0 (va_A (TW cI cZ h0 q u) sz) := by
  refine kofW (cc := cX3_empty) (maxL := 2) (ret := some .int) (by decide) rfl (Nat.le_of_ble_eq_true rfl) ?_
  intro p e s m args below meth c ls S hr hlk hnm hsz hP hK hD hS hA hl
  generalize hA0 : va_A (TW cI cZ h0 q u) sz = A0 at hD hS hA ⊢
  subst hsz
  obtain ⟨hx, hb, hml, hown, hts⟩ := id S
  have inX3 : ∀ w ∈ wsX30, w ∈ wsX3_empty := fun w h => List.mem_cons_of_mem _ (List.mem_append_right _ h)
  have hl : lv_has ls 2 [(0, .ref h0)] := hl
  refine lv_aload_n hx hb dX3_empty_0 rfl (lv_at hl 0 rfl) ?_
  refine va_get (D := (dC, dI)) (ci := 3) (v := .int (u 1 0)) (C := RX3) (T := TX3) (N := 2) hx hb hts inX3 hown hK hP 0 rfl rfl 1 (by decide) (hts (.fieldLink RX3 15 "BoardMetronomes$Text" "size" "I") (by decide +kernel)) (fun _ h9 => h9) rfl dX3_empty_1 ?_
  refine lv_istore_n (lv' := [(1, .int (u 1 0)), (0, .ref h0)]) hx hb dX3_empty_4 rfl hl (by decide) rfl (fun ls hl => ?_)
  refine lv_aload_n hx hb dX3_empty_5 rfl (lv_at hl 1 rfl) ?_
  refine lv_iconst (v := (0 : Int32)) hx hb dX3_empty_6 (by decide) ?_
  refine va_put (D := (dC, dI)) (ci := 3) (v := .int (0 : Int32)) (ty := .int) (C := RX3) (T := TX3) (N := 2) hx hb hts inX3 tyX3 tyX3_ok nmX3 hown hK hP hD hS 0 rfl rfl 1 (by decide) (hts (.fieldLink RX3 15 "BoardMetronomes$Text" "size" "I") (by decide +kernel)) (fun _ h9 => h9) rfl (by decide +kernel) rfl rfl (Nat.le_of_ble_eq_true rfl) dX3_empty_7 (fun H locs hP hD hS => ?_)
  have hP : va_P (dC, dI) vwCl (TW cI cZ h0 q (upA u 1 0 (0 : Int32))) H := Eq.mp (congrArg (fun w => va_P (dC, dI) vwCl w H) TW_s1) hP
  have hD : va_D A0 (TW cI cZ h0 q (upA u 1 0 (0 : Int32))) := Eq.mp (congrArg (fun w => va_D A0 w) TW_s1) hD
  refine lv_iload_n hx hb dX3_empty_10 rfl (lv_at hl 0 rfl) ?_
  have r1 : f_Tempty u = (u 1 0, upA u 1 0 (0 : Int32)) := by
    rw [f_Tempty]
  exact kw_i hx hb hr hlk hP hS dX3_empty_11 (by rw [r1]) (by rw [r1])

def rm_X1_kind : Room := { frames := 0, cells := 0, slots := 0, locals := 0 }
theorem mi_X1_kind : kM yX1_kind wsX1_kind cX1_kind 1 (some .int) 0 := ⟨⟨_, rfl⟩, by decide, by decide, by decide +kernel⟩
def f_Rkind (u : BS) : Int32 := u 5 0
set_option maxHeartbeats 1000000 in
set_option maxRecDepth 100000 in
theorem c_X1_kind (l : Launch) (dC : Nat → ClassId) (dI : Nat → Nat → Nat) (cI cZ cO : ClassId) (h0 : Nat) (q : Nat → Nat) (u : BS) : Met l yX1_kind wsX1_kind rm_X1_kind (va_Pc [.ref h0] (fun U => va_P (dC, dI) vwCl (RW cI cZ h0 q u) U.heap ∧ va_K (dC, dI) vwCl (TY cI cZ cO) U)) (kQ (some (.int (f_Rkind u)))) 0 0 (fun _ => False) := by
  refine kofR (cc := cX1_kind) (maxL := 1) (ret := some .int) (by decide) rfl (Nat.le_of_ble_eq_true rfl) ?_
  intro p e s m args below meth c ls S hr hlk hP hK hl
  obtain ⟨hx, hb, hml, hown, hts⟩ := id S
  have inX1 : ∀ w ∈ wsX10, w ∈ wsX1_kind := fun w h => List.mem_cons_of_mem _ (List.mem_append_right _ h)
  have hl : lv_has ls 1 [(0, .ref h0)] := hl
  refine lv_aload_n hx hb dX1_kind_0 rfl (lv_at hl 0 rfl) ?_
  refine va_get (D := (dC, dI)) (ci := 1) (v := .int (u 5 0)) (C := RX1) (T := TX1) (N := 10) hx hb hts inX1 hown hK hP 0 rfl rfl 5 (by decide) (hts (.fieldLink RX1 15 "BoardMetronomes$OrderReader" "kind" "I") (by decide +kernel)) (fun _ h9 => h9) rfl dX1_kind_1 ?_
  have r1 : f_Rkind u = u 5 0 := by
    rw [f_Rkind]
  exact kr_i hx hb hr hlk dX1_kind_4 r1.symm

def rm_X1_beat : Room := { frames := 0, cells := 0, slots := 0, locals := 0 }
theorem mi_X1_beat : kM yX1_beat wsX1_beat cX1_beat 1 (some .int) 0 := ⟨⟨_, rfl⟩, by decide, by decide, by decide +kernel⟩
def f_Rbeat (u : BS) : Int32 := u 6 0
set_option maxHeartbeats 1000000 in
set_option maxRecDepth 100000 in
theorem c_X1_beat (l : Launch) (dC : Nat → ClassId) (dI : Nat → Nat → Nat) (cI cZ cO : ClassId) (h0 : Nat) (q : Nat → Nat) (u : BS) : Met l yX1_beat wsX1_beat rm_X1_beat (va_Pc [.ref h0] (fun U => va_P (dC, dI) vwCl (RW cI cZ h0 q u) U.heap ∧ va_K (dC, dI) vwCl (TY cI cZ cO) U)) (kQ (some (.int (f_Rbeat u)))) 0 0 (fun _ => False) := by
  refine kofR (cc := cX1_beat) (maxL := 1) (ret := some .int) (by decide) rfl (Nat.le_of_ble_eq_true rfl) ?_
  intro p e s m args below meth c ls S hr hlk hP hK hl
  obtain ⟨hx, hb, hml, hown, hts⟩ := id S
  have inX1 : ∀ w ∈ wsX10, w ∈ wsX1_beat := fun w h => List.mem_cons_of_mem _ (List.mem_append_right _ h)
  have hl : lv_has ls 1 [(0, .ref h0)] := hl
  refine lv_aload_n hx hb dX1_beat_0 rfl (lv_at hl 0 rfl) ?_
  refine va_get (D := (dC, dI)) (ci := 1) (v := .int (u 6 0)) (C := RX1) (T := TX1) (N := 10) hx hb hts inX1 hown hK hP 0 rfl rfl 6 (by decide) (hts (.fieldLink RX1 18 "BoardMetronomes$OrderReader" "beat" "I") (by decide +kernel)) (fun _ h9 => h9) rfl dX1_beat_1 ?_
  have r1 : f_Rbeat u = u 6 0 := by
    rw [f_Rbeat]
  exact kr_i hx hb hr hlk dX1_beat_4 r1.symm

def rm_X1_phase : Room := { frames := 0, cells := 0, slots := 0, locals := 0 }
theorem mi_X1_phase : kM yX1_phase wsX1_phase cX1_phase 1 (some .int) 0 := ⟨⟨_, rfl⟩, by decide, by decide, by decide +kernel⟩
def f_Rphase (u : BS) : Int32 := u 7 0
set_option maxHeartbeats 1000000 in
set_option maxRecDepth 100000 in
theorem c_X1_phase (l : Launch) (dC : Nat → ClassId) (dI : Nat → Nat → Nat) (cI cZ cO : ClassId) (h0 : Nat) (q : Nat → Nat) (u : BS) : Met l yX1_phase wsX1_phase rm_X1_phase (va_Pc [.ref h0] (fun U => va_P (dC, dI) vwCl (RW cI cZ h0 q u) U.heap ∧ va_K (dC, dI) vwCl (TY cI cZ cO) U)) (kQ (some (.int (f_Rphase u)))) 0 0 (fun _ => False) := by
  refine kofR (cc := cX1_phase) (maxL := 1) (ret := some .int) (by decide) rfl (Nat.le_of_ble_eq_true rfl) ?_
  intro p e s m args below meth c ls S hr hlk hP hK hl
  obtain ⟨hx, hb, hml, hown, hts⟩ := id S
  have inX1 : ∀ w ∈ wsX10, w ∈ wsX1_phase := fun w h => List.mem_cons_of_mem _ (List.mem_append_right _ h)
  have hl : lv_has ls 1 [(0, .ref h0)] := hl
  refine lv_aload_n hx hb dX1_phase_0 rfl (lv_at hl 0 rfl) ?_
  refine va_get (D := (dC, dI)) (ci := 1) (v := .int (u 7 0)) (C := RX1) (T := TX1) (N := 10) hx hb hts inX1 hown hK hP 0 rfl rfl 7 (by decide) (hts (.fieldLink RX1 21 "BoardMetronomes$OrderReader" "phase" "I") (by decide +kernel)) (fun _ h9 => h9) rfl dX1_phase_1 ?_
  have r1 : f_Rphase u = u 7 0 := by
    rw [f_Rphase]
  exact kr_i hx hb hr hlk dX1_phase_4 r1.symm

def rm_X1_spring : Room := { frames := 0, cells := 0, slots := 0, locals := 0 }
theorem mi_X1_spring : kM yX1_spring wsX1_spring cX1_spring 1 (some .int) 0 := ⟨⟨_, rfl⟩, by decide, by decide, by decide +kernel⟩
def f_Rspring (u : BS) : Int32 := u 8 0
set_option maxHeartbeats 1000000 in
set_option maxRecDepth 100000 in
theorem c_X1_spring (l : Launch) (dC : Nat → ClassId) (dI : Nat → Nat → Nat) (cI cZ cO : ClassId) (h0 : Nat) (q : Nat → Nat) (u : BS) : Met l yX1_spring wsX1_spring rm_X1_spring (va_Pc [.ref h0] (fun U => va_P (dC, dI) vwCl (RW cI cZ h0 q u) U.heap ∧ va_K (dC, dI) vwCl (TY cI cZ cO) U)) (kQ (some (.int (f_Rspring u)))) 0 0 (fun _ => False) := by
  refine kofR (cc := cX1_spring) (maxL := 1) (ret := some .int) (by decide) rfl (Nat.le_of_ble_eq_true rfl) ?_
  intro p e s m args below meth c ls S hr hlk hP hK hl
  obtain ⟨hx, hb, hml, hown, hts⟩ := id S
  have inX1 : ∀ w ∈ wsX10, w ∈ wsX1_spring := fun w h => List.mem_cons_of_mem _ (List.mem_append_right _ h)
  have hl : lv_has ls 1 [(0, .ref h0)] := hl
  refine lv_aload_n hx hb dX1_spring_0 rfl (lv_at hl 0 rfl) ?_
  refine va_get (D := (dC, dI)) (ci := 1) (v := .int (u 8 0)) (C := RX1) (T := TX1) (N := 10) hx hb hts inX1 hown hK hP 0 rfl rfl 8 (by decide) (hts (.fieldLink RX1 24 "BoardMetronomes$OrderReader" "spring" "I") (by decide +kernel)) (fun _ h9 => h9) rfl dX1_spring_1 ?_
  have r1 : f_Rspring u = u 8 0 := by
    rw [f_Rspring]
  exact kr_i hx hb hr hlk dX1_spring_4 r1.symm

def rm_X1_number : Room := { frames := 0, cells := 0, slots := 0, locals := 0 }
theorem mi_X1_number : kM yX1_number wsX1_number cX1_number 1 (some .int) 0 := ⟨⟨_, rfl⟩, by decide, by decide, by decide +kernel⟩
def f_Rnumber (u : BS) : Int32 := u 9 0
set_option maxHeartbeats 1000000 in
set_option maxRecDepth 100000 in
theorem c_X1_number (l : Launch) (dC : Nat → ClassId) (dI : Nat → Nat → Nat) (cI cZ cO : ClassId) (h0 : Nat) (q : Nat → Nat) (u : BS) : Met l yX1_number wsX1_number rm_X1_number (va_Pc [.ref h0] (fun U => va_P (dC, dI) vwCl (RW cI cZ h0 q u) U.heap ∧ va_K (dC, dI) vwCl (TY cI cZ cO) U)) (kQ (some (.int (f_Rnumber u)))) 0 0 (fun _ => False) := by
  refine kofR (cc := cX1_number) (maxL := 1) (ret := some .int) (by decide) rfl (Nat.le_of_ble_eq_true rfl) ?_
  intro p e s m args below meth c ls S hr hlk hP hK hl
  obtain ⟨hx, hb, hml, hown, hts⟩ := id S
  have inX1 : ∀ w ∈ wsX10, w ∈ wsX1_number := fun w h => List.mem_cons_of_mem _ (List.mem_append_right _ h)
  have hl : lv_has ls 1 [(0, .ref h0)] := hl
  refine lv_aload_n hx hb dX1_number_0 rfl (lv_at hl 0 rfl) ?_
  refine va_get (D := (dC, dI)) (ci := 1) (v := .int (u 9 0)) (C := RX1) (T := TX1) (N := 10) hx hb hts inX1 hown hK hP 0 rfl rfl 9 (by decide) (hts (.fieldLink RX1 27 "BoardMetronomes$OrderReader" "number" "I") (by decide +kernel)) (fun _ h9 => h9) rfl dX1_number_1 ?_
  have r1 : f_Rnumber u = u 9 0 := by
    rw [f_Rnumber]
  exact kr_i hx hb hr hlk dX1_number_4 r1.symm

def rm_X1_beginText : Room := { frames := 0, cells := 0, slots := 0, locals := 0 }
theorem mi_X1_beginText : kM yX1_beginText wsX1_beginText cX1_beginText 1 none 0 := ⟨⟨_, rfl⟩, by decide, by decide, by decide +kernel⟩
def f_RbeginText (u : BS) : BS := upA u 0 0 (0 : Int32)
set_option maxHeartbeats 1000000 in
set_option maxRecDepth 100000 in
theorem c_X1_beginText (l : Launch) (dC : Nat → ClassId) (dI : Nat → Nat → Nat) (cI cZ cO : ClassId) (h0 : Nat) (q : Nat → Nat) (u : BS) (sz : Nat) : Met l yX1_beginText wsX1_beginText rm_X1_beginText (va_Pc [.ref h0] (fun U => U.heap.size = sz ∧ va_P (dC, dI) vwCl (RW cI cZ h0 q u) U.heap ∧ va_K (dC, dI) vwCl (TY cI cZ cO) U ∧ va_D (fun _ => True) (RW cI cZ h0 q u))) (kQw none (dC, dI) vwCl (RW cI cZ h0 q (f_RbeginText u)) (va_A (RW cI cZ h0 q u) sz)) 0 0 (va_A (RW cI cZ h0 q u) sz) := by
  refine kofW (cc := cX1_beginText) (maxL := 1) (ret := none) (by decide) rfl (Nat.le_of_ble_eq_true rfl) ?_
  intro p e s m args below meth c ls S hr hlk hnm hsz hP hK hD hS hA hl
  generalize hA0 : va_A (RW cI cZ h0 q u) sz = A0 at hD hS hA ⊢
  subst hsz
  obtain ⟨hx, hb, hml, hown, hts⟩ := id S
  have inX1 : ∀ w ∈ wsX10, w ∈ wsX1_beginText := fun w h => List.mem_cons_of_mem _ (List.mem_append_right _ h)
  have hl : lv_has ls 1 [(0, .ref h0)] := hl
  refine lv_aload_n hx hb dX1_beginText_0 rfl (lv_at hl 0 rfl) ?_
  refine lv_iconst (v := (0 : Int32)) hx hb dX1_beginText_1 (by decide) ?_
  refine va_put (D := (dC, dI)) (ci := 1) (v := .int (0 : Int32)) (ty := .int) (C := RX1) (T := TX1) (N := 10) hx hb hts inX1 tyX1 tyX1_ok nmX1 hown hK hP hD hS 0 rfl rfl 0 (by decide) (hts (.fieldLink RX1 11 "BoardMetronomes$OrderReader" "place" "I") (by decide +kernel)) (fun _ h9 => h9) rfl (by decide +kernel) rfl rfl (Nat.le_of_ble_eq_true rfl) dX1_beginText_2 (fun H locs hP hD hS => ?_)
  have hP : va_P (dC, dI) vwCl (RW cI cZ h0 q (upA u 0 0 (0 : Int32))) H := Eq.mp (congrArg (fun w => va_P (dC, dI) vwCl w H) RW_s0) hP
  have hD : va_D A0 (RW cI cZ h0 q (upA u 0 0 (0 : Int32))) := Eq.mp (congrArg (fun w => va_D A0 w) RW_s0) hD
  have r1 : f_RbeginText u = upA u 0 0 (0 : Int32) := by
    rw [f_RbeginText]
  exact kw_v hx hb hr hlk hP hS dX1_beginText_5 (by rw [r1])

def rm_X1_expectNumber : Room := { frames := 0, cells := 0, slots := 0, locals := 0 }
theorem mi_X1_expectNumber : kM yX1_expectNumber wsX1_expectNumber cX1_expectNumber 4 (some .boolean) 3 := ⟨⟨_, rfl⟩, by decide, by decide, by decide +kernel⟩
def f_RexpectNumber (u : BS) (p0 : Int32) (p1 : Int32) (p2 : Int32) : Bool × BS := (true, upA (upA (upA (upA (upA u 0 0 p0) 1 0 p1) 2 0 p2) 3 0 (0 : Int32)) 4 0 (0 : Int32))
set_option maxHeartbeats 1000000 in
set_option maxRecDepth 100000 in
theorem c_X1_expectNumber (l : Launch) (dC : Nat → ClassId) (dI : Nat → Nat → Nat) (cI cZ cO : ClassId) (h0 : Nat) (q : Nat → Nat) (u : BS) (p0 : Int32) (p1 : Int32) (p2 : Int32) (sz : Nat) : Met l yX1_expectNumber wsX1_expectNumber rm_X1_expectNumber (va_Pc [.ref h0, .int p0, .int p1, .int p2] (fun U => U.heap.size = sz ∧ va_P (dC, dI) vwCl (RW cI cZ h0 q u) U.heap ∧ va_K (dC, dI) vwCl (TY cI cZ cO) U ∧ va_D (fun _ => True) (RW cI cZ h0 q u))) (kQw (some (.int (bI (f_RexpectNumber u p0 p1 p2).1))) (dC, dI) vwCl (RW cI cZ h0 q ((f_RexpectNumber u p0 p1 p2).2)) (va_A (RW cI cZ h0 q u) sz)) 0 0 (va_A (RW cI cZ h0 q u) sz) := by
  refine kofW (cc := cX1_expectNumber) (maxL := 4) (ret := some .boolean) (by decide) rfl (Nat.le_of_ble_eq_true rfl) ?_
  intro p e s m args below meth c ls S hr hlk hnm hsz hP hK hD hS hA hl
  generalize hA0 : va_A (RW cI cZ h0 q u) sz = A0 at hD hS hA ⊢
  subst hsz
  obtain ⟨hx, hb, hml, hown, hts⟩ := id S
  have inX1 : ∀ w ∈ wsX10, w ∈ wsX1_expectNumber := fun w h => List.mem_cons_of_mem _ (List.mem_append_right _ h)
  have hl : lv_has ls 4 [(0, .ref h0), (1, .int p0), (2, .int p1), (3, .int p2)] := hl
  refine lv_aload_n hx hb dX1_expectNumber_0 rfl (lv_at hl 0 rfl) ?_
  refine lv_iload_n hx hb dX1_expectNumber_1 rfl (lv_at hl 1 rfl) ?_
  refine va_put (D := (dC, dI)) (ci := 1) (v := .int p0) (ty := .int) (C := RX1) (T := TX1) (N := 10) hx hb hts inX1 tyX1 tyX1_ok nmX1 hown hK hP hD hS 0 rfl rfl 0 (by decide) (hts (.fieldLink RX1 11 "BoardMetronomes$OrderReader" "place" "I") (by decide +kernel)) (fun _ h9 => h9) rfl (by decide +kernel) rfl rfl (Nat.le_of_ble_eq_true rfl) dX1_expectNumber_2 (fun H locs hP hD hS => ?_)
  have hP : va_P (dC, dI) vwCl (RW cI cZ h0 q (upA u 0 0 p0)) H := Eq.mp (congrArg (fun w => va_P (dC, dI) vwCl w H) RW_s0) hP
  have hD : va_D A0 (RW cI cZ h0 q (upA u 0 0 p0)) := Eq.mp (congrArg (fun w => va_D A0 w) RW_s0) hD
  refine lv_aload_n hx hb dX1_expectNumber_5 rfl (lv_at hl 0 rfl) ?_
  refine lv_iload_n hx hb dX1_expectNumber_6 rfl (lv_at hl 2 rfl) ?_
  refine va_put (D := (dC, dI)) (ci := 1) (v := .int p1) (ty := .int) (C := RX1) (T := TX1) (N := 10) hx hb hts inX1 tyX1 tyX1_ok nmX1 hown hK hP hD hS 0 rfl rfl 1 (by decide) (hts (.fieldLink RX1 43 "BoardMetronomes$OrderReader" "lowest" "I") (by decide +kernel)) (fun _ h9 => h9) rfl (by decide +kernel) rfl rfl (Nat.le_of_ble_eq_true rfl) dX1_expectNumber_7 (fun H locs hP hD hS => ?_)
  have hP : va_P (dC, dI) vwCl (RW cI cZ h0 q (upA (upA u 0 0 p0) 1 0 p1)) H := Eq.mp (congrArg (fun w => va_P (dC, dI) vwCl w H) RW_s1) hP
  have hD : va_D A0 (RW cI cZ h0 q (upA (upA u 0 0 p0) 1 0 p1)) := Eq.mp (congrArg (fun w => va_D A0 w) RW_s1) hD
  refine lv_aload_n hx hb dX1_expectNumber_10 rfl (lv_at hl 0 rfl) ?_
  refine lv_iload_n hx hb dX1_expectNumber_11 rfl (lv_at hl 3 rfl) ?_
  refine va_put (D := (dC, dI)) (ci := 1) (v := .int p2) (ty := .int) (C := RX1) (T := TX1) (N := 10) hx hb hts inX1 tyX1 tyX1_ok nmX1 hown hK hP hD hS 0 rfl rfl 2 (by decide) (hts (.fieldLink RX1 53 "BoardMetronomes$OrderReader" "highest" "I") (by decide +kernel)) (fun _ h9 => h9) rfl (by decide +kernel) rfl rfl (Nat.le_of_ble_eq_true rfl) dX1_expectNumber_12 (fun H locs hP hD hS => ?_)
  have hP : va_P (dC, dI) vwCl (RW cI cZ h0 q (upA (upA (upA u 0 0 p0) 1 0 p1) 2 0 p2)) H := Eq.mp (congrArg (fun w => va_P (dC, dI) vwCl w H) RW_s2) hP
  have hD : va_D A0 (RW cI cZ h0 q (upA (upA (upA u 0 0 p0) 1 0 p1) 2 0 p2)) := Eq.mp (congrArg (fun w => va_D A0 w) RW_s2) hD
  refine lv_aload_n hx hb dX1_expectNumber_15 rfl (lv_at hl 0 rfl) ?_
  refine lv_iconst (v := (0 : Int32)) hx hb dX1_expectNumber_16 (by decide) ?_
  refine va_put (D := (dC, dI)) (ci := 1) (v := .int (0 : Int32)) (ty := .int) (C := RX1) (T := TX1) (N := 10) hx hb hts inX1 tyX1 tyX1_ok nmX1 hown hK hP hD hS 0 rfl rfl 3 (by decide) (hts (.fieldLink RX1 40 "BoardMetronomes$OrderReader" "value" "I") (by decide +kernel)) (fun _ h9 => h9) rfl (by decide +kernel) rfl rfl (Nat.le_of_ble_eq_true rfl) dX1_expectNumber_17 (fun H locs hP hD hS => ?_)
  have hP : va_P (dC, dI) vwCl (RW cI cZ h0 q (upA (upA (upA (upA u 0 0 p0) 1 0 p1) 2 0 p2) 3 0 (0 : Int32))) H := Eq.mp (congrArg (fun w => va_P (dC, dI) vwCl w H) RW_s3) hP
  have hD : va_D A0 (RW cI cZ h0 q (upA (upA (upA (upA u 0 0 p0) 1 0 p1) 2 0 p2) 3 0 (0 : Int32))) := Eq.mp (congrArg (fun w => va_D A0 w) RW_s3) hD
  refine lv_aload_n hx hb dX1_expectNumber_20 rfl (lv_at hl 0 rfl) ?_
  refine lv_iconst (v := (0 : Int32)) hx hb dX1_expectNumber_21 (by decide) ?_
  refine va_put (D := (dC, dI)) (ci := 1) (v := .int (0 : Int32)) (ty := .int) (C := RX1) (T := TX1) (N := 10) hx hb hts inX1 tyX1 tyX1_ok nmX1 hown hK hP hD hS 0 rfl rfl 4 (by decide) (hts (.fieldLink RX1 37 "BoardMetronomes$OrderReader" "digits" "I") (by decide +kernel)) (fun _ h9 => h9) rfl (by decide +kernel) rfl rfl (Nat.le_of_ble_eq_true rfl) dX1_expectNumber_22 (fun H locs hP hD hS => ?_)
  have hP : va_P (dC, dI) vwCl (RW cI cZ h0 q (upA (upA (upA (upA (upA u 0 0 p0) 1 0 p1) 2 0 p2) 3 0 (0 : Int32)) 4 0 (0 : Int32))) H := Eq.mp (congrArg (fun w => va_P (dC, dI) vwCl w H) RW_s4) hP
  have hD : va_D A0 (RW cI cZ h0 q (upA (upA (upA (upA (upA u 0 0 p0) 1 0 p1) 2 0 p2) 3 0 (0 : Int32)) 4 0 (0 : Int32))) := Eq.mp (congrArg (fun w => va_D A0 w) RW_s4) hD
  refine lv_iconst (v := (1 : Int32)) hx hb dX1_expectNumber_25 (by decide) ?_
  have r1 : f_RexpectNumber u p0 p1 p2 = (true, upA (upA (upA (upA (upA u 0 0 p0) 1 0 p1) 2 0 p2) 3 0 (0 : Int32)) 4 0 (0 : Int32)) := by
    rw [f_RexpectNumber]
  exact kw_z (x := true) hx hb hr hlk hP hS dX1_expectNumber_26 rfl (by rw [r1]) (by rw [r1])

def rm_X1_readsLetter : Room := { frames := 1, cells := 0, slots := 0, locals := 23 }
theorem mi_X1_readsLetter : kM yX1_readsLetter wsX1_readsLetter cX1_readsLetter 2 (some .boolean) 1 := ⟨⟨_, rfl⟩, by decide, by decide, by decide +kernel⟩
def f_RreadsLetter (u : BS) (p0 : Int32) : Bool × BS := if p0 = (104 : Int32) then (((f_RexpectNumber (upA u 5 0 p0) (4 : Int32) (0 : Int32) (5 : Int32)).1), (f_RexpectNumber (upA u 5 0 p0) (4 : Int32) (0 : Int32) (5 : Int32)).2) else if p0 = (109 : Int32) then (((f_RexpectNumber (upA u 5 0 p0) (1 : Int32) (40 : Int32) (208 : Int32)).1), (f_RexpectNumber (upA u 5 0 p0) (1 : Int32) (40 : Int32) (208 : Int32)).2) else if p0 = (115 : Int32) then (((f_RexpectNumber (upA u 5 0 p0) (4 : Int32) (1 : Int32) (500 : Int32)).1), (f_RexpectNumber (upA u 5 0 p0) (4 : Int32) (1 : Int32) (500 : Int32)).2) else (false, upA u 5 0 p0)
set_option maxHeartbeats 1000000 in
set_option maxRecDepth 100000 in
theorem c_X1_readsLetter (l : Launch) (dC : Nat → ClassId) (dI : Nat → Nat → Nat) (cI cZ cO : ClassId) (h0 : Nat) (q : Nat → Nat) (u : BS) (p0 : Int32) (sz : Nat) : Met l yX1_readsLetter wsX1_readsLetter rm_X1_readsLetter (va_Pc [.ref h0, .int p0] (fun U => U.heap.size = sz ∧ va_P (dC, dI) vwCl (RW cI cZ h0 q u) U.heap ∧ va_K (dC, dI) vwCl (TY cI cZ cO) U ∧ va_D (fun _ => True) (RW cI cZ h0 q u))) (kQw (some (.int (bI (f_RreadsLetter u p0).1))) (dC, dI) vwCl (RW cI cZ h0 q ((f_RreadsLetter u p0).2)) (va_A (RW cI cZ h0 q u) sz)) 0 0 (va_A (RW cI cZ h0 q u) sz) := by
  refine kofW (cc := cX1_readsLetter) (maxL := 2) (ret := some .boolean) (by decide) rfl (Nat.le_of_ble_eq_true rfl) ?_
  intro p e s m args below meth c ls S hr hlk hnm hsz hP hK hD hS hA hl
  generalize hA0 : va_A (RW cI cZ h0 q u) sz = A0 at hD hS hA ⊢
  subst hsz
  obtain ⟨hx, hb, hml, hown, hts⟩ := id S
  have inX1 : ∀ w ∈ wsX10, w ∈ wsX1_readsLetter := fun w h => List.mem_cons_of_mem _ (List.mem_append_right _ h)
  have hl : lv_has ls 2 [(0, .ref h0), (1, .int p0)] := hl
  refine lv_aload_n hx hb dX1_readsLetter_0 rfl (lv_at hl 0 rfl) ?_
  refine lv_iload_n hx hb dX1_readsLetter_1 rfl (lv_at hl 1 rfl) ?_
  refine va_put (D := (dC, dI)) (ci := 1) (v := .int p0) (ty := .int) (C := RX1) (T := TX1) (N := 10) hx hb hts inX1 tyX1 tyX1_ok nmX1 hown hK hP hD hS 0 rfl rfl 5 (by decide) (hts (.fieldLink RX1 15 "BoardMetronomes$OrderReader" "kind" "I") (by decide +kernel)) (fun _ h9 => h9) rfl (by decide +kernel) rfl rfl (Nat.le_of_ble_eq_true rfl) dX1_readsLetter_2 (fun H locs hP hD hS => ?_)
  have hP : va_P (dC, dI) vwCl (RW cI cZ h0 q (upA u 5 0 p0)) H := Eq.mp (congrArg (fun w => va_P (dC, dI) vwCl w H) RW_s5) hP
  have hD : va_D A0 (RW cI cZ h0 q (upA u 5 0 p0)) := Eq.mp (congrArg (fun w => va_D A0 w) RW_s5) hD
  refine lv_iload_n hx hb dX1_readsLetter_5 rfl (lv_at hl 1 rfl) ?_
  by_cases c_6_104 : p0 = (104 : Int32)
  · refine lv_lookup (off := 55) (tgt := 61) hx hb dX1_readsLetter_6 (by decide) (by rw [c_6_104]; rfl) (by decide) ?_
    refine lv_aload_n hx hb dX1_readsLetter_61 rfl (lv_at hl 0 rfl) ?_
    refine lv_iconst (v := (4 : Int32)) hx hb dX1_readsLetter_62 (by decide) ?_
    refine lv_iconst (v := (0 : Int32)) hx hb dX1_readsLetter_63 (by decide) ?_
    refine lv_iconst (v := (5 : Int32)) hx hb dX1_readsLetter_64 (by decide) ?_
    refine kc_w (As := [.int (4 : Int32), .int (0 : Int32), .int (5 : Int32)]) (rest := []) S (v := (some (.int (bI ((f_RexpectNumber (upA u 5 0 p0) (4 : Int32) (0 : Int32) (5 : Int32)).1))))) (c_X1_expectNumber l dC dI cI cZ cO h0 q (upA u 5 0 p0) (4 : Int32) (0 : Int32) (5 : Int32) H.size) gX1_readsLetter_X1_expectNumber mi_X1_expectNumber ⟨rfl, rfl⟩ ⟨Nat.le_of_ble_eq_true rfl, Nat.le_of_ble_eq_true rfl⟩ hK hP hD hS hA [0] RW_all RW_fst rfl 0 rfl rfl ⟨Nat.le_refl _, Nat.le_refl _⟩ dX1_readsLetter_65 rfl hl.1 rfl (Nat.le_of_ble_eq_true rfl) (fun H locs hP hD hS => ?_)
    have hP : va_P (dC, dI) vwCl (RW cI cZ h0 q ((f_RexpectNumber (upA u 5 0 p0) (4 : Int32) (0 : Int32) (5 : Int32)).2)) H := Eq.mp (congrArg (fun w => va_P (dC, dI) vwCl w H) RW_ks) hP
    have hD : va_D A0 (RW cI cZ h0 q ((f_RexpectNumber (upA u 5 0 p0) (4 : Int32) (0 : Int32) (5 : Int32)).2)) := Eq.mp (congrArg (fun w => va_D A0 w) RW_ks) hD
    have r1 : f_RreadsLetter u p0 = (((f_RexpectNumber (upA u 5 0 p0) (4 : Int32) (0 : Int32) (5 : Int32)).1), (f_RexpectNumber (upA u 5 0 p0) (4 : Int32) (0 : Int32) (5 : Int32)).2) := by
      rw [f_RreadsLetter, if_pos c_6_104]
    exact kw_z (x := ((f_RexpectNumber (upA u 5 0 p0) (4 : Int32) (0 : Int32) (5 : Int32)).1)) hx hb hr hlk hP hS dX1_readsLetter_68 rfl (by rw [r1]) (by rw [r1])
  by_cases c_6_109 : p0 = (109 : Int32)
  · refine lv_lookup (off := 34) (tgt := 40) hx hb dX1_readsLetter_6 (by decide) (by rw [c_6_109]; rfl) (by decide) ?_
    refine lv_aload_n hx hb dX1_readsLetter_40 rfl (lv_at hl 0 rfl) ?_
    refine lv_iconst (v := (1 : Int32)) hx hb dX1_readsLetter_41 (by decide) ?_
    refine lv_bipush (v := (40 : Int32)) hx hb dX1_readsLetter_42 (by decide) ?_
    refine lv_sipush (v := (208 : Int32)) hx hb dX1_readsLetter_44 (by decide) ?_
    refine kc_w (As := [.int (1 : Int32), .int (40 : Int32), .int (208 : Int32)]) (rest := []) S (v := (some (.int (bI ((f_RexpectNumber (upA u 5 0 p0) (1 : Int32) (40 : Int32) (208 : Int32)).1))))) (c_X1_expectNumber l dC dI cI cZ cO h0 q (upA u 5 0 p0) (1 : Int32) (40 : Int32) (208 : Int32) H.size) gX1_readsLetter_X1_expectNumber mi_X1_expectNumber ⟨rfl, rfl⟩ ⟨Nat.le_of_ble_eq_true rfl, Nat.le_of_ble_eq_true rfl⟩ hK hP hD hS hA [0] RW_all RW_fst rfl 0 rfl rfl ⟨Nat.le_refl _, Nat.le_refl _⟩ dX1_readsLetter_47 rfl hl.1 rfl (Nat.le_of_ble_eq_true rfl) (fun H locs hP hD hS => ?_)
    have hP : va_P (dC, dI) vwCl (RW cI cZ h0 q ((f_RexpectNumber (upA u 5 0 p0) (1 : Int32) (40 : Int32) (208 : Int32)).2)) H := Eq.mp (congrArg (fun w => va_P (dC, dI) vwCl w H) RW_ks) hP
    have hD : va_D A0 (RW cI cZ h0 q ((f_RexpectNumber (upA u 5 0 p0) (1 : Int32) (40 : Int32) (208 : Int32)).2)) := Eq.mp (congrArg (fun w => va_D A0 w) RW_ks) hD
    have r2 : f_RreadsLetter u p0 = (((f_RexpectNumber (upA u 5 0 p0) (1 : Int32) (40 : Int32) (208 : Int32)).1), (f_RexpectNumber (upA u 5 0 p0) (1 : Int32) (40 : Int32) (208 : Int32)).2) := by
      rw [f_RreadsLetter, if_neg c_6_104, if_pos c_6_109]
    exact kw_z (x := ((f_RexpectNumber (upA u 5 0 p0) (1 : Int32) (40 : Int32) (208 : Int32)).1)) hx hb hr hlk hP hS dX1_readsLetter_50 rfl (by rw [r2]) (by rw [r2])
  by_cases c_6_115 : p0 = (115 : Int32)
  · refine lv_lookup (off := 45) (tgt := 51) hx hb dX1_readsLetter_6 (by decide) (by rw [c_6_115]; rfl) (by decide) ?_
    refine lv_aload_n hx hb dX1_readsLetter_51 rfl (lv_at hl 0 rfl) ?_
    refine lv_iconst (v := (4 : Int32)) hx hb dX1_readsLetter_52 (by decide) ?_
    refine lv_iconst (v := (1 : Int32)) hx hb dX1_readsLetter_53 (by decide) ?_
    refine lv_sipush (v := (500 : Int32)) hx hb dX1_readsLetter_54 (by decide) ?_
    refine kc_w (As := [.int (4 : Int32), .int (1 : Int32), .int (500 : Int32)]) (rest := []) S (v := (some (.int (bI ((f_RexpectNumber (upA u 5 0 p0) (4 : Int32) (1 : Int32) (500 : Int32)).1))))) (c_X1_expectNumber l dC dI cI cZ cO h0 q (upA u 5 0 p0) (4 : Int32) (1 : Int32) (500 : Int32) H.size) gX1_readsLetter_X1_expectNumber mi_X1_expectNumber ⟨rfl, rfl⟩ ⟨Nat.le_of_ble_eq_true rfl, Nat.le_of_ble_eq_true rfl⟩ hK hP hD hS hA [0] RW_all RW_fst rfl 0 rfl rfl ⟨Nat.le_refl _, Nat.le_refl _⟩ dX1_readsLetter_57 rfl hl.1 rfl (Nat.le_of_ble_eq_true rfl) (fun H locs hP hD hS => ?_)
    have hP : va_P (dC, dI) vwCl (RW cI cZ h0 q ((f_RexpectNumber (upA u 5 0 p0) (4 : Int32) (1 : Int32) (500 : Int32)).2)) H := Eq.mp (congrArg (fun w => va_P (dC, dI) vwCl w H) RW_ks) hP
    have hD : va_D A0 (RW cI cZ h0 q ((f_RexpectNumber (upA u 5 0 p0) (4 : Int32) (1 : Int32) (500 : Int32)).2)) := Eq.mp (congrArg (fun w => va_D A0 w) RW_ks) hD
    have r3 : f_RreadsLetter u p0 = (((f_RexpectNumber (upA u 5 0 p0) (4 : Int32) (1 : Int32) (500 : Int32)).1), (f_RexpectNumber (upA u 5 0 p0) (4 : Int32) (1 : Int32) (500 : Int32)).2) := by
      rw [f_RreadsLetter, if_neg c_6_104, if_neg c_6_109, if_pos c_6_115]
    exact kw_z (x := ((f_RexpectNumber (upA u 5 0 p0) (4 : Int32) (1 : Int32) (500 : Int32)).1)) hx hb hr hlk hP hS dX1_readsLetter_60 rfl (by rw [r3]) (by rw [r3])
  refine lv_lookup (off := 63) (tgt := 69) hx hb dX1_readsLetter_6 (by decide) (by rw [lv_osw (a := 104) (k := (104 : Int32)) c_6_104 (by decide)]; rw [lv_osw (a := 109) (k := (109 : Int32)) c_6_109 (by decide)]; rw [lv_osw (a := 115) (k := (115 : Int32)) c_6_115 (by decide)]; rfl) (by decide) ?_
  refine lv_iconst (v := (0 : Int32)) hx hb dX1_readsLetter_69 (by decide) ?_
  have r4 : f_RreadsLetter u p0 = (false, upA u 5 0 p0) := by
    rw [f_RreadsLetter, if_neg c_6_104, if_neg c_6_109, if_neg c_6_115]
  exact kw_z (x := false) hx hb hr hlk hP hS dX1_readsLetter_70 rfl (by rw [r4]) (by rw [r4])

def rm_X1_leadsIntoRange : Room := { frames := 0, cells := 0, slots := 0, locals := 0 }
theorem mi_X1_leadsIntoRange : kM yX1_leadsIntoRange wsX1_leadsIntoRange cX1_leadsIntoRange 5 (some .boolean) 1 := ⟨⟨_, rfl⟩, by decide, by decide, by decide +kernel⟩
def f_RleadsIntoRange_R24 (u : BS) (p0 : Int32) : Nat → Nat → Int32 → Int32 → Bool
  | 0, j24_, y24_0, y24_1 => false
  | n + 1, j24_, y24_0, y24_1 => if (u 2 0) < y24_0 then (f_RleadsIntoRange_R24 u p0 n (j24_ + 1) (y24_0 * (10 : Int32)) ((y24_1 * (10 : Int32)) + (9 : Int32))) else if y24_1 < (u 1 0) then (f_RleadsIntoRange_R24 u p0 n (j24_ + 1) (y24_0 * (10 : Int32)) ((y24_1 * (10 : Int32)) + (9 : Int32))) else true
def f_RleadsIntoRange (u : BS) (p0 : Int32) : Bool := if p0 = 0 then (if (u 1 0) = 0 then true else false) else f_RleadsIntoRange_R24 u p0 4 0 p0 p0
set_option maxHeartbeats 1000000 in
set_option maxRecDepth 100000 in
theorem c_X1_leadsIntoRange (l : Launch) (dC : Nat → ClassId) (dI : Nat → Nat → Nat) (cI cZ cO : ClassId) (h0 : Nat) (q : Nat → Nat) (u : BS) (p0 : Int32) : Met l yX1_leadsIntoRange wsX1_leadsIntoRange rm_X1_leadsIntoRange (va_Pc [.ref h0, .int p0] (fun U => va_P (dC, dI) vwCl (RW cI cZ h0 q u) U.heap ∧ va_K (dC, dI) vwCl (TY cI cZ cO) U)) (kQ (some (.int (bI (f_RleadsIntoRange u p0))))) 0 0 (fun _ => False) := by
  refine kofR (cc := cX1_leadsIntoRange) (maxL := 5) (ret := some .boolean) (by decide) rfl (Nat.le_of_ble_eq_true rfl) ?_
  intro p e s m args below meth c ls S hr hlk hP hK hl
  obtain ⟨hx, hb, hml, hown, hts⟩ := id S
  have inX1 : ∀ w ∈ wsX10, w ∈ wsX1_leadsIntoRange := fun w h => List.mem_cons_of_mem _ (List.mem_append_right _ h)
  have hl : lv_has ls 5 [(0, .ref h0), (1, .int p0)] := hl
  refine lv_iload_n hx hb dX1_leadsIntoRange_0 rfl (lv_at hl 1 rfl) ?_
  refine lv_if_ne (tgt := 17) hx hb dX1_leadsIntoRange_1 (by decide) (fun c_1 => ?_) (fun c_1 => ?_)
  · refine lv_iload_n hx hb dX1_leadsIntoRange_17 rfl (lv_at hl 1 rfl) ?_
    refine lv_istore_n (lv' := [(2, .int p0), (0, .ref h0), (1, .int p0)]) hx hb dX1_leadsIntoRange_18 rfl hl (by decide) rfl (fun ls hl => ?_)
    refine lv_iload_n hx hb dX1_leadsIntoRange_19 rfl (lv_at hl 2 rfl) ?_
    refine lv_istore_n (lv' := [(3, .int p0), (2, .int p0), (0, .ref h0), (1, .int p0)]) hx hb dX1_leadsIntoRange_20 rfl hl (by decide) rfl (fun ls hl => ?_)
    refine lv_iconst (v := (0 : Int32)) hx hb dX1_leadsIntoRange_21 (by decide) ?_
    refine lv_istore (lv' := [(4, .int (0 : Int32)), (3, .int p0), (2, .int p0), (0, .ref h0), (1, .int p0)]) hx hb dX1_leadsIntoRange_22 hl (by decide) rfl (fun ls hl => ?_)
    have L1 : ∀ (n j24_ : Nat), j24_ + n = 4 → ∀ (y24_0 : Int32) (y24_1 : Int32), f_RleadsIntoRange u p0 = f_RleadsIntoRange_R24 u p0 n j24_ y24_0 y24_1 → ∀ (ls : Array Slot), lv_has ls 5 [(0, .ref h0), (1, .int p0), (2, .int y24_0), (3, .int y24_1), (4, .int (nI j24_))] → W p l e rm_X1_leadsIntoRange s m args below meth c s.heap [] 0 0 (MQ below (kQ (some (.int (bI (f_RleadsIntoRange u p0))))) args s 0 0 (fun _ => False)) (F0 m 24 ls []) := by
      intro n
      induction n with
      | zero =>
        intro j24_ hj1 y24_0 y24_1 hv1 ls hl
        refine lv_iload hx hb dX1_leadsIntoRange_24 (lv_at hl 4 rfl) ?_
        refine lv_iconst (v := (4 : Int32)) hx hb dX1_leadsIntoRange_26 (by decide) ?_
        refine lv_icmp_ge (tgt := 67) hx hb dX1_leadsIntoRange_27 (by decide) (fun c_27 => ?_) (fun c_27 => ?_)
        · refine lv_iconst (v := (0 : Int32)) hx hb dX1_leadsIntoRange_67 (by decide) ?_
          have r2 : f_RleadsIntoRange u p0 = false := by
            rw [hv1, f_RleadsIntoRange_R24]
          exact kr_z (x := false) hx hb hr hlk dX1_leadsIntoRange_68 rfl r2
        · exact absurd (nI_le (a := 4) (by omega) (by omega)) c_27
      | succ n ih1 =>
        intro j24_ hj1 y24_0 y24_1 hv1 ls hl
        refine lv_iload hx hb dX1_leadsIntoRange_24 (lv_at hl 4 rfl) ?_
        refine lv_iconst (v := (4 : Int32)) hx hb dX1_leadsIntoRange_26 (by decide) ?_
        refine lv_icmp_ge (tgt := 67) hx hb dX1_leadsIntoRange_27 (by decide) (fun c_27 => ?_) (fun c_27 => ?_)
        · exact absurd c_27 (nI_ge (b := 4) (by omega) (by decide))
        · refine lv_iload_n hx hb dX1_leadsIntoRange_30 rfl (lv_at hl 2 rfl) ?_
          refine lv_aload_n hx hb dX1_leadsIntoRange_31 rfl (lv_at hl 0 rfl) ?_
          refine va_get (D := (dC, dI)) (ci := 1) (v := .int (u 2 0)) (C := RX1) (T := TX1) (N := 10) hx hb hts inX1 hown hK hP 0 rfl rfl 2 (by decide) (hts (.fieldLink RX1 53 "BoardMetronomes$OrderReader" "highest" "I") (by decide +kernel)) (fun _ h9 => h9) rfl dX1_leadsIntoRange_32 ?_
          refine lv_icmp_gt (tgt := 48) hx hb dX1_leadsIntoRange_35 (by decide) (fun c_35 => ?_) (fun c_35 => ?_)
          · refine lv_iload_n hx hb dX1_leadsIntoRange_48 rfl (lv_at hl 2 rfl) ?_
            refine lv_bipush (v := (10 : Int32)) hx hb dX1_leadsIntoRange_49 (by decide) ?_
            refine lv_imul hx hb dX1_leadsIntoRange_51 ?_
            refine lv_istore_n (lv' := [(2, .int (y24_0 * (10 : Int32))), (0, .ref h0), (1, .int p0), (3, .int y24_1), (4, .int (nI j24_))]) hx hb dX1_leadsIntoRange_52 rfl hl (by decide) rfl (fun ls hl => ?_)
            refine lv_iload_n hx hb dX1_leadsIntoRange_53 rfl (lv_at hl 3 rfl) ?_
            refine lv_bipush (v := (10 : Int32)) hx hb dX1_leadsIntoRange_54 (by decide) ?_
            refine lv_imul hx hb dX1_leadsIntoRange_56 ?_
            refine lv_bipush (v := (9 : Int32)) hx hb dX1_leadsIntoRange_57 (by decide) ?_
            refine lv_iadd hx hb dX1_leadsIntoRange_59 ?_
            refine lv_istore_n (lv' := [(3, .int ((y24_1 * (10 : Int32)) + (9 : Int32))), (2, .int (y24_0 * (10 : Int32))), (0, .ref h0), (1, .int p0), (4, .int (nI j24_))]) hx hb dX1_leadsIntoRange_60 rfl hl (by decide) rfl (fun ls hl => ?_)
            refine lv_iinc (v := nI (j24_ + 1)) (lv' := [(4, .int (nI (j24_ + 1))), (3, .int ((y24_1 * (10 : Int32)) + (9 : Int32))), (2, .int (y24_0 * (10 : Int32))), (0, .ref h0), (1, .int p0)]) hx hb dX1_leadsIntoRange_61 hl (k := 4) rfl (nI_add j24_ 1) (by decide) rfl (fun ls hl => ?_)
            refine lv_goto (tgt := 24) hx hb dX1_leadsIntoRange_64 (by decide) ?_
            exact ih1 (j24_ + 1) (by omega) (y24_0 * (10 : Int32)) ((y24_1 * (10 : Int32)) + (9 : Int32)) (by rw [hv1, f_RleadsIntoRange_R24, if_pos c_35]) ls (lv_sub hl [3, 4, 2, 1, 0] rfl)
          · refine lv_iload_n hx hb dX1_leadsIntoRange_38 rfl (lv_at hl 3 rfl) ?_
            refine lv_aload_n hx hb dX1_leadsIntoRange_39 rfl (lv_at hl 0 rfl) ?_
            refine va_get (D := (dC, dI)) (ci := 1) (v := .int (u 1 0)) (C := RX1) (T := TX1) (N := 10) hx hb hts inX1 hown hK hP 0 rfl rfl 1 (by decide) (hts (.fieldLink RX1 43 "BoardMetronomes$OrderReader" "lowest" "I") (by decide +kernel)) (fun _ h9 => h9) rfl dX1_leadsIntoRange_40 ?_
            refine lv_icmp_lt (tgt := 48) hx hb dX1_leadsIntoRange_43 (by decide) (fun c_43 => ?_) (fun c_43 => ?_)
            · refine lv_iload_n hx hb dX1_leadsIntoRange_48 rfl (lv_at hl 2 rfl) ?_
              refine lv_bipush (v := (10 : Int32)) hx hb dX1_leadsIntoRange_49 (by decide) ?_
              refine lv_imul hx hb dX1_leadsIntoRange_51 ?_
              refine lv_istore_n (lv' := [(2, .int (y24_0 * (10 : Int32))), (0, .ref h0), (1, .int p0), (3, .int y24_1), (4, .int (nI j24_))]) hx hb dX1_leadsIntoRange_52 rfl hl (by decide) rfl (fun ls hl => ?_)
              refine lv_iload_n hx hb dX1_leadsIntoRange_53 rfl (lv_at hl 3 rfl) ?_
              refine lv_bipush (v := (10 : Int32)) hx hb dX1_leadsIntoRange_54 (by decide) ?_
              refine lv_imul hx hb dX1_leadsIntoRange_56 ?_
              refine lv_bipush (v := (9 : Int32)) hx hb dX1_leadsIntoRange_57 (by decide) ?_
              refine lv_iadd hx hb dX1_leadsIntoRange_59 ?_
              refine lv_istore_n (lv' := [(3, .int ((y24_1 * (10 : Int32)) + (9 : Int32))), (2, .int (y24_0 * (10 : Int32))), (0, .ref h0), (1, .int p0), (4, .int (nI j24_))]) hx hb dX1_leadsIntoRange_60 rfl hl (by decide) rfl (fun ls hl => ?_)
              refine lv_iinc (v := nI (j24_ + 1)) (lv' := [(4, .int (nI (j24_ + 1))), (3, .int ((y24_1 * (10 : Int32)) + (9 : Int32))), (2, .int (y24_0 * (10 : Int32))), (0, .ref h0), (1, .int p0)]) hx hb dX1_leadsIntoRange_61 hl (k := 4) rfl (nI_add j24_ 1) (by decide) rfl (fun ls hl => ?_)
              refine lv_goto (tgt := 24) hx hb dX1_leadsIntoRange_64 (by decide) ?_
              exact ih1 (j24_ + 1) (by omega) (y24_0 * (10 : Int32)) ((y24_1 * (10 : Int32)) + (9 : Int32)) (by rw [hv1, f_RleadsIntoRange_R24, if_neg c_35, if_pos c_43]) ls (lv_sub hl [3, 4, 2, 1, 0] rfl)
            · refine lv_iconst (v := (1 : Int32)) hx hb dX1_leadsIntoRange_46 (by decide) ?_
              have r3 : f_RleadsIntoRange u p0 = true := by
                rw [hv1, f_RleadsIntoRange_R24, if_neg c_35, if_neg c_43]
              exact kr_z (x := true) hx hb hr hlk dX1_leadsIntoRange_47 rfl r3
    exact L1 4 0 (by omega) p0 p0 (by rw [f_RleadsIntoRange, if_neg c_1]) ls (lv_sub hl [3, 4, 2, 1, 0] rfl)
  · refine lv_aload_n hx hb dX1_leadsIntoRange_4 rfl (lv_at hl 0 rfl) ?_
    refine va_get (D := (dC, dI)) (ci := 1) (v := .int (u 1 0)) (C := RX1) (T := TX1) (N := 10) hx hb hts inX1 hown hK hP 0 rfl rfl 1 (by decide) (hts (.fieldLink RX1 43 "BoardMetronomes$OrderReader" "lowest" "I") (by decide +kernel)) (fun _ h9 => h9) rfl dX1_leadsIntoRange_5 ?_
    refine lv_if_ne (tgt := 15) hx hb dX1_leadsIntoRange_8 (by decide) (fun c_8 => ?_) (fun c_8 => ?_)
    · refine lv_iconst (v := (0 : Int32)) hx hb dX1_leadsIntoRange_15 (by decide) ?_
      have r4 : f_RleadsIntoRange u p0 = false := by
        rw [f_RleadsIntoRange, if_pos c_1, if_neg c_8]
      exact kr_z (x := false) hx hb hr hlk dX1_leadsIntoRange_16 rfl r4
    · refine lv_iconst (v := (1 : Int32)) hx hb dX1_leadsIntoRange_11 (by decide) ?_
      refine lv_goto (tgt := 16) hx hb dX1_leadsIntoRange_12 (by decide) ?_
      have r5 : f_RleadsIntoRange u p0 = true := by
        rw [f_RleadsIntoRange, if_pos c_1, if_pos c_8]
      exact kr_z (x := true) hx hb hr hlk dX1_leadsIntoRange_16 rfl r5

def rm_X1_readsDigit : Room := { frames := 1, cells := 0, slots := 0, locals := 24 }
theorem mi_X1_readsDigit : kM yX1_readsDigit wsX1_readsDigit cX1_readsDigit 4 (some .boolean) 1 := ⟨⟨_, rfl⟩, by decide, by decide, by decide +kernel⟩
def f_RreadsDigit (u : BS) (p0 : Int32) : Bool × BS := if (u 4 0) ≤ 0 then (if (f_RleadsIntoRange u (((u 3 0) * (10 : Int32)) + p0)) = true then (true, upA (upA u 3 0 (((u 3 0) * (10 : Int32)) + p0)) 4 0 ((u 4 0) + (1 : Int32))) else (false, u)) else if (u 3 0) = 0 then (false, u) else if (f_RleadsIntoRange u (((u 3 0) * (10 : Int32)) + p0)) = true then (true, upA (upA u 3 0 (((u 3 0) * (10 : Int32)) + p0)) 4 0 ((u 4 0) + (1 : Int32))) else (false, u)
set_option maxHeartbeats 1000000 in
set_option maxRecDepth 100000 in
theorem c_X1_readsDigit (l : Launch) (dC : Nat → ClassId) (dI : Nat → Nat → Nat) (cI cZ cO : ClassId) (h0 : Nat) (q : Nat → Nat) (u : BS) (p0 : Int32) (sz : Nat) : Met l yX1_readsDigit wsX1_readsDigit rm_X1_readsDigit (va_Pc [.ref h0, .int p0] (fun U => U.heap.size = sz ∧ va_P (dC, dI) vwCl (RW cI cZ h0 q u) U.heap ∧ va_K (dC, dI) vwCl (TY cI cZ cO) U ∧ va_D (fun _ => True) (RW cI cZ h0 q u))) (kQw (some (.int (bI (f_RreadsDigit u p0).1))) (dC, dI) vwCl (RW cI cZ h0 q ((f_RreadsDigit u p0).2)) (va_A (RW cI cZ h0 q u) sz)) 0 0 (va_A (RW cI cZ h0 q u) sz) := by
  refine kofW (cc := cX1_readsDigit) (maxL := 4) (ret := some .boolean) (by decide) rfl (Nat.le_of_ble_eq_true rfl) ?_
  intro p e s m args below meth c ls S hr hlk hnm hsz hP hK hD hS hA hl
  generalize hA0 : va_A (RW cI cZ h0 q u) sz = A0 at hD hS hA ⊢
  subst hsz
  obtain ⟨hx, hb, hml, hown, hts⟩ := id S
  have inX1 : ∀ w ∈ wsX10, w ∈ wsX1_readsDigit := fun w h => List.mem_cons_of_mem _ (List.mem_append_right _ h)
  have hl : lv_has ls 4 [(0, .ref h0), (1, .int p0)] := hl
  refine lv_aload_n hx hb dX1_readsDigit_0 rfl (lv_at hl 0 rfl) ?_
  refine va_get (D := (dC, dI)) (ci := 1) (v := .int (u 4 0)) (C := RX1) (T := TX1) (N := 10) hx hb hts inX1 hown hK hP 0 rfl rfl 4 (by decide) (hts (.fieldLink RX1 37 "BoardMetronomes$OrderReader" "digits" "I") (by decide +kernel)) (fun _ h9 => h9) rfl dX1_readsDigit_1 ?_
  refine lv_if_le (tgt := 18) hx hb dX1_readsDigit_4 (by decide) (fun c_4 => ?_) (fun c_4 => ?_)
  · refine lv_iconst (v := (0 : Int32)) hx hb dX1_readsDigit_18 (by decide) ?_
    refine lv_istore_n (lv' := [(2, .int (0 : Int32)), (0, .ref h0), (1, .int p0)]) hx hb dX1_readsDigit_19 rfl hl (by decide) rfl (fun ls hl => ?_)
    refine lv_aload_n hx hb dX1_readsDigit_20 rfl (lv_at hl 1 rfl) ?_
    refine va_get (D := (dC, dI)) (ci := 1) (v := .int (u 3 0)) (C := RX1) (T := TX1) (N := 10) hx hb hts inX1 hown hK hP 0 rfl rfl 3 (by decide) (hts (.fieldLink RX1 40 "BoardMetronomes$OrderReader" "value" "I") (by decide +kernel)) (fun _ h9 => h9) rfl dX1_readsDigit_21 ?_
    refine lv_bipush (v := (10 : Int32)) hx hb dX1_readsDigit_24 (by decide) ?_
    refine lv_imul hx hb dX1_readsDigit_26 ?_
    refine lv_iload_n hx hb dX1_readsDigit_27 rfl (lv_at hl 2 rfl) ?_
    refine lv_iadd hx hb dX1_readsDigit_28 ?_
    refine lv_istore_n (lv' := [(3, .int (((u 3 0) * (10 : Int32)) + p0)), (2, .int (0 : Int32)), (0, .ref h0), (1, .int p0)]) hx hb dX1_readsDigit_29 rfl hl (by decide) rfl (fun ls hl => ?_)
    refine lv_iload_n hx hb dX1_readsDigit_30 rfl (lv_at hl 1 rfl) ?_
    refine lv_if_ne (tgt := 42) hx hb dX1_readsDigit_31 (by decide) (fun c_31 => ?_) (fun c_31 => ?_)
    · exact absurd (by decide) c_31
    · refine lv_aload_n hx hb dX1_readsDigit_34 rfl (lv_at hl 2 rfl) ?_
      refine lv_iload_n hx hb dX1_readsDigit_35 rfl (lv_at hl 0 rfl) ?_
      refine kc_v (As := [.int (((u 3 0) * (10 : Int32)) + p0)]) (rest := []) S (v := .int (bI (f_RleadsIntoRange u (((u 3 0) * (10 : Int32)) + p0)))) (c_X1_leadsIntoRange l dC dI cI cZ cO h0 q u (((u 3 0) * (10 : Int32)) + p0)) gX1_readsDigit_X1_leadsIntoRange mi_X1_leadsIntoRange ⟨rfl, rfl⟩ ⟨Nat.le_of_ble_eq_true rfl, Nat.le_of_ble_eq_true rfl⟩ hK hP 0 rfl rfl ⟨Nat.le_refl _, Nat.le_refl _⟩ dX1_readsDigit_36 rfl hl.1 rfl (Nat.le_of_ble_eq_true rfl) ?_
      refine kb_ne (tgt := 44) hx hb dX1_readsDigit_39 (by decide) (fun c_39 => ?_) (fun c_39 => ?_)
      · refine lv_aload_n hx hb dX1_readsDigit_44 rfl (lv_at hl 2 rfl) ?_
        refine lv_iload_n hx hb dX1_readsDigit_45 rfl (lv_at hl 0 rfl) ?_
        refine va_put (D := (dC, dI)) (ci := 1) (v := .int (((u 3 0) * (10 : Int32)) + p0)) (ty := .int) (C := RX1) (T := TX1) (N := 10) hx hb hts inX1 tyX1 tyX1_ok nmX1 hown hK hP hD hS 0 rfl rfl 3 (by decide) (hts (.fieldLink RX1 40 "BoardMetronomes$OrderReader" "value" "I") (by decide +kernel)) (fun _ h9 => h9) rfl (by decide +kernel) rfl rfl (Nat.le_of_ble_eq_true rfl) dX1_readsDigit_46 (fun H locs hP hD hS => ?_)
        have hP : va_P (dC, dI) vwCl (RW cI cZ h0 q (upA u 3 0 (((u 3 0) * (10 : Int32)) + p0))) H := Eq.mp (congrArg (fun w => va_P (dC, dI) vwCl w H) RW_s3) hP
        have hD : va_D A0 (RW cI cZ h0 q (upA u 3 0 (((u 3 0) * (10 : Int32)) + p0))) := Eq.mp (congrArg (fun w => va_D A0 w) RW_s3) hD
        refine lv_aload_n hx hb dX1_readsDigit_49 rfl (lv_at hl 2 rfl) ?_
        refine lv_dup hx hb dX1_readsDigit_50 rfl ?_
        refine va_get (D := (dC, dI)) (ci := 1) (v := .int (u 4 0)) (C := RX1) (T := TX1) (N := 10) hx hb hts inX1 hown hK hP 0 rfl rfl 4 (by decide) (hts (.fieldLink RX1 37 "BoardMetronomes$OrderReader" "digits" "I") (by decide +kernel)) (fun _ h9 => h9) (congrArg (fun z => some (Value.int z)) (show (upA u 3 0 (((u 3 0) * (10 : Int32)) + p0)) 4 0 = u 4 0 by rw [upA_o (show (4 : Nat) ≠ 3 by decide)])) dX1_readsDigit_51 ?_
        refine lv_iconst (v := (1 : Int32)) hx hb dX1_readsDigit_54 (by decide) ?_
        refine lv_iadd hx hb dX1_readsDigit_55 ?_
        refine va_put (D := (dC, dI)) (ci := 1) (v := .int ((u 4 0) + (1 : Int32))) (ty := .int) (C := RX1) (T := TX1) (N := 10) hx hb hts inX1 tyX1 tyX1_ok nmX1 hown hK hP hD hS 0 rfl rfl 4 (by decide) (hts (.fieldLink RX1 37 "BoardMetronomes$OrderReader" "digits" "I") (by decide +kernel)) (fun _ h9 => h9) rfl (by decide +kernel) rfl rfl (Nat.le_of_ble_eq_true rfl) dX1_readsDigit_56 (fun H locs hP hD hS => ?_)
        have hP : va_P (dC, dI) vwCl (RW cI cZ h0 q (upA (upA u 3 0 (((u 3 0) * (10 : Int32)) + p0)) 4 0 ((u 4 0) + (1 : Int32)))) H := Eq.mp (congrArg (fun w => va_P (dC, dI) vwCl w H) RW_s4) hP
        have hD : va_D A0 (RW cI cZ h0 q (upA (upA u 3 0 (((u 3 0) * (10 : Int32)) + p0)) 4 0 ((u 4 0) + (1 : Int32)))) := Eq.mp (congrArg (fun w => va_D A0 w) RW_s4) hD
        refine lv_iconst (v := (1 : Int32)) hx hb dX1_readsDigit_59 (by decide) ?_
        have r1 : f_RreadsDigit u p0 = (true, upA (upA u 3 0 (((u 3 0) * (10 : Int32)) + p0)) 4 0 ((u 4 0) + (1 : Int32))) := by
          rw [f_RreadsDigit, if_pos c_4, if_pos c_39]
        exact kw_z (x := true) hx hb hr hlk hP hS dX1_readsDigit_60 rfl (by rw [r1]) (by rw [r1])
      · refine lv_iconst (v := (0 : Int32)) hx hb dX1_readsDigit_42 (by decide) ?_
        have r2 : f_RreadsDigit u p0 = (false, u) := by
          rw [f_RreadsDigit, if_pos c_4, if_neg c_39]
        exact kw_z (x := false) hx hb hr hlk hP hS dX1_readsDigit_43 rfl (by rw [r2]) (by rw [r2])
  · refine lv_aload_n hx hb dX1_readsDigit_7 rfl (lv_at hl 0 rfl) ?_
    refine va_get (D := (dC, dI)) (ci := 1) (v := .int (u 3 0)) (C := RX1) (T := TX1) (N := 10) hx hb hts inX1 hown hK hP 0 rfl rfl 3 (by decide) (hts (.fieldLink RX1 40 "BoardMetronomes$OrderReader" "value" "I") (by decide +kernel)) (fun _ h9 => h9) rfl dX1_readsDigit_8 ?_
    refine lv_if_ne (tgt := 18) hx hb dX1_readsDigit_11 (by decide) (fun c_11 => ?_) (fun c_11 => ?_)
    · refine lv_iconst (v := (0 : Int32)) hx hb dX1_readsDigit_18 (by decide) ?_
      refine lv_istore_n (lv' := [(2, .int (0 : Int32)), (0, .ref h0), (1, .int p0)]) hx hb dX1_readsDigit_19 rfl hl (by decide) rfl (fun ls hl => ?_)
      refine lv_aload_n hx hb dX1_readsDigit_20 rfl (lv_at hl 1 rfl) ?_
      refine va_get (D := (dC, dI)) (ci := 1) (v := .int (u 3 0)) (C := RX1) (T := TX1) (N := 10) hx hb hts inX1 hown hK hP 0 rfl rfl 3 (by decide) (hts (.fieldLink RX1 40 "BoardMetronomes$OrderReader" "value" "I") (by decide +kernel)) (fun _ h9 => h9) rfl dX1_readsDigit_21 ?_
      refine lv_bipush (v := (10 : Int32)) hx hb dX1_readsDigit_24 (by decide) ?_
      refine lv_imul hx hb dX1_readsDigit_26 ?_
      refine lv_iload_n hx hb dX1_readsDigit_27 rfl (lv_at hl 2 rfl) ?_
      refine lv_iadd hx hb dX1_readsDigit_28 ?_
      refine lv_istore_n (lv' := [(3, .int (((u 3 0) * (10 : Int32)) + p0)), (2, .int (0 : Int32)), (0, .ref h0), (1, .int p0)]) hx hb dX1_readsDigit_29 rfl hl (by decide) rfl (fun ls hl => ?_)
      refine lv_iload_n hx hb dX1_readsDigit_30 rfl (lv_at hl 1 rfl) ?_
      refine lv_if_ne (tgt := 42) hx hb dX1_readsDigit_31 (by decide) (fun c_31 => ?_) (fun c_31 => ?_)
      · exact absurd (by decide) c_31
      · refine lv_aload_n hx hb dX1_readsDigit_34 rfl (lv_at hl 2 rfl) ?_
        refine lv_iload_n hx hb dX1_readsDigit_35 rfl (lv_at hl 0 rfl) ?_
        refine kc_v (As := [.int (((u 3 0) * (10 : Int32)) + p0)]) (rest := []) S (v := .int (bI (f_RleadsIntoRange u (((u 3 0) * (10 : Int32)) + p0)))) (c_X1_leadsIntoRange l dC dI cI cZ cO h0 q u (((u 3 0) * (10 : Int32)) + p0)) gX1_readsDigit_X1_leadsIntoRange mi_X1_leadsIntoRange ⟨rfl, rfl⟩ ⟨Nat.le_of_ble_eq_true rfl, Nat.le_of_ble_eq_true rfl⟩ hK hP 0 rfl rfl ⟨Nat.le_refl _, Nat.le_refl _⟩ dX1_readsDigit_36 rfl hl.1 rfl (Nat.le_of_ble_eq_true rfl) ?_
        refine kb_ne (tgt := 44) hx hb dX1_readsDigit_39 (by decide) (fun c_39 => ?_) (fun c_39 => ?_)
        · refine lv_aload_n hx hb dX1_readsDigit_44 rfl (lv_at hl 2 rfl) ?_
          refine lv_iload_n hx hb dX1_readsDigit_45 rfl (lv_at hl 0 rfl) ?_
          refine va_put (D := (dC, dI)) (ci := 1) (v := .int (((u 3 0) * (10 : Int32)) + p0)) (ty := .int) (C := RX1) (T := TX1) (N := 10) hx hb hts inX1 tyX1 tyX1_ok nmX1 hown hK hP hD hS 0 rfl rfl 3 (by decide) (hts (.fieldLink RX1 40 "BoardMetronomes$OrderReader" "value" "I") (by decide +kernel)) (fun _ h9 => h9) rfl (by decide +kernel) rfl rfl (Nat.le_of_ble_eq_true rfl) dX1_readsDigit_46 (fun H locs hP hD hS => ?_)
          have hP : va_P (dC, dI) vwCl (RW cI cZ h0 q (upA u 3 0 (((u 3 0) * (10 : Int32)) + p0))) H := Eq.mp (congrArg (fun w => va_P (dC, dI) vwCl w H) RW_s3) hP
          have hD : va_D A0 (RW cI cZ h0 q (upA u 3 0 (((u 3 0) * (10 : Int32)) + p0))) := Eq.mp (congrArg (fun w => va_D A0 w) RW_s3) hD
          refine lv_aload_n hx hb dX1_readsDigit_49 rfl (lv_at hl 2 rfl) ?_
          refine lv_dup hx hb dX1_readsDigit_50 rfl ?_
          refine va_get (D := (dC, dI)) (ci := 1) (v := .int (u 4 0)) (C := RX1) (T := TX1) (N := 10) hx hb hts inX1 hown hK hP 0 rfl rfl 4 (by decide) (hts (.fieldLink RX1 37 "BoardMetronomes$OrderReader" "digits" "I") (by decide +kernel)) (fun _ h9 => h9) (congrArg (fun z => some (Value.int z)) (show (upA u 3 0 (((u 3 0) * (10 : Int32)) + p0)) 4 0 = u 4 0 by rw [upA_o (show (4 : Nat) ≠ 3 by decide)])) dX1_readsDigit_51 ?_
          refine lv_iconst (v := (1 : Int32)) hx hb dX1_readsDigit_54 (by decide) ?_
          refine lv_iadd hx hb dX1_readsDigit_55 ?_
          refine va_put (D := (dC, dI)) (ci := 1) (v := .int ((u 4 0) + (1 : Int32))) (ty := .int) (C := RX1) (T := TX1) (N := 10) hx hb hts inX1 tyX1 tyX1_ok nmX1 hown hK hP hD hS 0 rfl rfl 4 (by decide) (hts (.fieldLink RX1 37 "BoardMetronomes$OrderReader" "digits" "I") (by decide +kernel)) (fun _ h9 => h9) rfl (by decide +kernel) rfl rfl (Nat.le_of_ble_eq_true rfl) dX1_readsDigit_56 (fun H locs hP hD hS => ?_)
          have hP : va_P (dC, dI) vwCl (RW cI cZ h0 q (upA (upA u 3 0 (((u 3 0) * (10 : Int32)) + p0)) 4 0 ((u 4 0) + (1 : Int32)))) H := Eq.mp (congrArg (fun w => va_P (dC, dI) vwCl w H) RW_s4) hP
          have hD : va_D A0 (RW cI cZ h0 q (upA (upA u 3 0 (((u 3 0) * (10 : Int32)) + p0)) 4 0 ((u 4 0) + (1 : Int32)))) := Eq.mp (congrArg (fun w => va_D A0 w) RW_s4) hD
          refine lv_iconst (v := (1 : Int32)) hx hb dX1_readsDigit_59 (by decide) ?_
          have r3 : f_RreadsDigit u p0 = (true, upA (upA u 3 0 (((u 3 0) * (10 : Int32)) + p0)) 4 0 ((u 4 0) + (1 : Int32))) := by
            rw [f_RreadsDigit, if_neg c_4, if_neg c_11, if_pos c_39]
          exact kw_z (x := true) hx hb hr hlk hP hS dX1_readsDigit_60 rfl (by rw [r3]) (by rw [r3])
        · refine lv_iconst (v := (0 : Int32)) hx hb dX1_readsDigit_42 (by decide) ?_
          have r4 : f_RreadsDigit u p0 = (false, u) := by
            rw [f_RreadsDigit, if_neg c_4, if_neg c_11, if_neg c_39]
          exact kw_z (x := false) hx hb hr hlk hP hS dX1_readsDigit_43 rfl (by rw [r4]) (by rw [r4])
    · refine lv_iconst (v := (1 : Int32)) hx hb dX1_readsDigit_14 (by decide) ?_
      refine lv_goto (tgt := 19) hx hb dX1_readsDigit_15 (by decide) ?_
      refine lv_istore_n (lv' := [(2, .int (1 : Int32)), (0, .ref h0), (1, .int p0)]) hx hb dX1_readsDigit_19 rfl hl (by decide) rfl (fun ls hl => ?_)
      refine lv_aload_n hx hb dX1_readsDigit_20 rfl (lv_at hl 1 rfl) ?_
      refine va_get (D := (dC, dI)) (ci := 1) (v := .int (u 3 0)) (C := RX1) (T := TX1) (N := 10) hx hb hts inX1 hown hK hP 0 rfl rfl 3 (by decide) (hts (.fieldLink RX1 40 "BoardMetronomes$OrderReader" "value" "I") (by decide +kernel)) (fun _ h9 => h9) rfl dX1_readsDigit_21 ?_
      refine lv_bipush (v := (10 : Int32)) hx hb dX1_readsDigit_24 (by decide) ?_
      refine lv_imul hx hb dX1_readsDigit_26 ?_
      refine lv_iload_n hx hb dX1_readsDigit_27 rfl (lv_at hl 2 rfl) ?_
      refine lv_iadd hx hb dX1_readsDigit_28 ?_
      refine lv_istore_n (lv' := [(3, .int (((u 3 0) * (10 : Int32)) + p0)), (2, .int (1 : Int32)), (0, .ref h0), (1, .int p0)]) hx hb dX1_readsDigit_29 rfl hl (by decide) rfl (fun ls hl => ?_)
      refine lv_iload_n hx hb dX1_readsDigit_30 rfl (lv_at hl 1 rfl) ?_
      refine lv_if_ne (tgt := 42) hx hb dX1_readsDigit_31 (by decide) (fun c_31 => ?_) (fun c_31 => ?_)
      · refine lv_iconst (v := (0 : Int32)) hx hb dX1_readsDigit_42 (by decide) ?_
        have r5 : f_RreadsDigit u p0 = (false, u) := by
          rw [f_RreadsDigit, if_neg c_4, if_pos c_11]
        exact kw_z (x := false) hx hb hr hlk hP hS dX1_readsDigit_43 rfl (by rw [r5]) (by rw [r5])
      · exact absurd c_31 (by decide)

def rm_X1_readsEndOfNumber : Room := { frames := 1, cells := 0, slots := 0, locals := 23 }
theorem mi_X1_readsEndOfNumber : kM yX1_readsEndOfNumber wsX1_readsEndOfNumber cX1_readsEndOfNumber 2 (some .boolean) 1 := ⟨⟨_, rfl⟩, by decide, by decide, by decide +kernel⟩
def f_RreadsEndOfNumber (u : BS) (p0 : Int32) : Bool × BS := if (u 0 0) = (1 : Int32) then (if p0 = (64 : Int32) then (if ((f_RexpectNumber (upA u 6 0 (u 3 0)) (2 : Int32) (0 : Int32) (3599 : Int32)).1) = true then (true, (f_RexpectNumber (upA u 6 0 (u 3 0)) (2 : Int32) (0 : Int32) (3599 : Int32)).2) else (false, (f_RexpectNumber (upA u 6 0 (u 3 0)) (2 : Int32) (0 : Int32) (3599 : Int32)).2)) else (false, upA u 6 0 (u 3 0))) else if (u 0 0) = (2 : Int32) then (if p0 = (42 : Int32) then (((f_RexpectNumber (upA (upA u 7 0 (u 3 0)) 8 0 (500 : Int32)) (3 : Int32) (1 : Int32) (999 : Int32)).1), (f_RexpectNumber (upA (upA u 7 0 (u 3 0)) 8 0 (500 : Int32)) (3 : Int32) (1 : Int32) (999 : Int32)).2) else if p0 = (59 : Int32) then (true, upA (upA (upA u 7 0 (u 3 0)) 8 0 (500 : Int32)) 0 0 (0 : Int32)) else (false, upA (upA (upA u 7 0 (u 3 0)) 8 0 (500 : Int32)) 0 0 (0 : Int32))) else if (u 0 0) = (3 : Int32) then (if p0 = (59 : Int32) then (true, upA (upA u 8 0 (u 3 0)) 0 0 (0 : Int32)) else (false, upA (upA u 8 0 (u 3 0)) 0 0 (0 : Int32))) else if p0 = (59 : Int32) then (true, upA (upA u 9 0 (u 3 0)) 0 0 (0 : Int32)) else (false, upA (upA u 9 0 (u 3 0)) 0 0 (0 : Int32))
set_option maxHeartbeats 1000000 in
set_option maxRecDepth 100000 in
theorem c_X1_readsEndOfNumber (l : Launch) (dC : Nat → ClassId) (dI : Nat → Nat → Nat) (cI cZ cO : ClassId) (h0 : Nat) (q : Nat → Nat) (u : BS) (p0 : Int32) (sz : Nat) : Met l yX1_readsEndOfNumber wsX1_readsEndOfNumber rm_X1_readsEndOfNumber (va_Pc [.ref h0, .int p0] (fun U => U.heap.size = sz ∧ va_P (dC, dI) vwCl (RW cI cZ h0 q u) U.heap ∧ va_K (dC, dI) vwCl (TY cI cZ cO) U ∧ va_D (fun _ => True) (RW cI cZ h0 q u))) (kQw (some (.int (bI (f_RreadsEndOfNumber u p0).1))) (dC, dI) vwCl (RW cI cZ h0 q ((f_RreadsEndOfNumber u p0).2)) (va_A (RW cI cZ h0 q u) sz)) 0 0 (va_A (RW cI cZ h0 q u) sz) := by
  refine kofW (cc := cX1_readsEndOfNumber) (maxL := 2) (ret := some .boolean) (by decide) rfl (Nat.le_of_ble_eq_true rfl) ?_
  intro p e s m args below meth c ls S hr hlk hnm hsz hP hK hD hS hA hl
  generalize hA0 : va_A (RW cI cZ h0 q u) sz = A0 at hD hS hA ⊢
  subst hsz
  obtain ⟨hx, hb, hml, hown, hts⟩ := id S
  have inX1 : ∀ w ∈ wsX10, w ∈ wsX1_readsEndOfNumber := fun w h => List.mem_cons_of_mem _ (List.mem_append_right _ h)
  have hl : lv_has ls 2 [(0, .ref h0), (1, .int p0)] := hl
  refine lv_aload_n hx hb dX1_readsEndOfNumber_0 rfl (lv_at hl 0 rfl) ?_
  refine va_get (D := (dC, dI)) (ci := 1) (v := .int (u 0 0)) (C := RX1) (T := TX1) (N := 10) hx hb hts inX1 hown hK hP 0 rfl rfl 0 (by decide) (hts (.fieldLink RX1 11 "BoardMetronomes$OrderReader" "place" "I") (by decide +kernel)) (fun _ h9 => h9) rfl dX1_readsEndOfNumber_1 ?_
  by_cases c_4_1 : (u 0 0) = (1 : Int32)
  · refine lv_tableIn (off := 28) (tgt := 32) hx hb dX1_readsEndOfNumber_4 (by rw [c_4_1]; decide) (by rw [c_4_1]; decide) (by rw [c_4_1]; rfl) (by decide) ?_
    refine lv_aload_n hx hb dX1_readsEndOfNumber_32 rfl (lv_at hl 0 rfl) ?_
    refine lv_aload_n hx hb dX1_readsEndOfNumber_33 rfl (lv_at hl 0 rfl) ?_
    refine va_get (D := (dC, dI)) (ci := 1) (v := .int (u 3 0)) (C := RX1) (T := TX1) (N := 10) hx hb hts inX1 hown hK hP 0 rfl rfl 3 (by decide) (hts (.fieldLink RX1 40 "BoardMetronomes$OrderReader" "value" "I") (by decide +kernel)) (fun _ h9 => h9) rfl dX1_readsEndOfNumber_34 ?_
    refine va_put (D := (dC, dI)) (ci := 1) (v := .int (u 3 0)) (ty := .int) (C := RX1) (T := TX1) (N := 10) hx hb hts inX1 tyX1 tyX1_ok nmX1 hown hK hP hD hS 0 rfl rfl 6 (by decide) (hts (.fieldLink RX1 18 "BoardMetronomes$OrderReader" "beat" "I") (by decide +kernel)) (fun _ h9 => h9) rfl (by decide +kernel) rfl rfl (Nat.le_of_ble_eq_true rfl) dX1_readsEndOfNumber_37 (fun H locs hP hD hS => ?_)
    have hP : va_P (dC, dI) vwCl (RW cI cZ h0 q (upA u 6 0 (u 3 0))) H := Eq.mp (congrArg (fun w => va_P (dC, dI) vwCl w H) RW_s6) hP
    have hD : va_D A0 (RW cI cZ h0 q (upA u 6 0 (u 3 0))) := Eq.mp (congrArg (fun w => va_D A0 w) RW_s6) hD
    refine lv_iload_n hx hb dX1_readsEndOfNumber_40 rfl (lv_at hl 1 rfl) ?_
    refine lv_bipush (v := (64 : Int32)) hx hb dX1_readsEndOfNumber_41 (by decide) ?_
    refine lv_icmp_ne (tgt := 62) hx hb dX1_readsEndOfNumber_43 (by decide) (fun c_43 => ?_) (fun c_43 => ?_)
    · refine lv_iconst (v := (0 : Int32)) hx hb dX1_readsEndOfNumber_62 (by decide) ?_
      have r1 : f_RreadsEndOfNumber u p0 = (false, upA u 6 0 (u 3 0)) := by
        rw [f_RreadsEndOfNumber, if_pos c_4_1, if_neg c_43]
      exact kw_z (x := false) hx hb hr hlk hP hS dX1_readsEndOfNumber_63 rfl (by rw [r1]) (by rw [r1])
    · refine lv_aload_n hx hb dX1_readsEndOfNumber_46 rfl (lv_at hl 0 rfl) ?_
      refine lv_iconst (v := (2 : Int32)) hx hb dX1_readsEndOfNumber_47 (by decide) ?_
      refine lv_iconst (v := (0 : Int32)) hx hb dX1_readsEndOfNumber_48 (by decide) ?_
      refine lv_sipush (v := (3599 : Int32)) hx hb dX1_readsEndOfNumber_49 (by decide) ?_
      refine kc_w (As := [.int (2 : Int32), .int (0 : Int32), .int (3599 : Int32)]) (rest := []) S (v := (some (.int (bI ((f_RexpectNumber (upA u 6 0 (u 3 0)) (2 : Int32) (0 : Int32) (3599 : Int32)).1))))) (c_X1_expectNumber l dC dI cI cZ cO h0 q (upA u 6 0 (u 3 0)) (2 : Int32) (0 : Int32) (3599 : Int32) H.size) gX1_readsEndOfNumber_X1_expectNumber mi_X1_expectNumber ⟨rfl, rfl⟩ ⟨Nat.le_of_ble_eq_true rfl, Nat.le_of_ble_eq_true rfl⟩ hK hP hD hS hA [0] RW_all RW_fst rfl 0 rfl rfl ⟨Nat.le_refl _, Nat.le_refl _⟩ dX1_readsEndOfNumber_52 rfl hl.1 rfl (Nat.le_of_ble_eq_true rfl) (fun H locs hP hD hS => ?_)
      have hP : va_P (dC, dI) vwCl (RW cI cZ h0 q ((f_RexpectNumber (upA u 6 0 (u 3 0)) (2 : Int32) (0 : Int32) (3599 : Int32)).2)) H := Eq.mp (congrArg (fun w => va_P (dC, dI) vwCl w H) RW_ks) hP
      have hD : va_D A0 (RW cI cZ h0 q ((f_RexpectNumber (upA u 6 0 (u 3 0)) (2 : Int32) (0 : Int32) (3599 : Int32)).2)) := Eq.mp (congrArg (fun w => va_D A0 w) RW_ks) hD
      refine kb_eq (tgt := 62) hx hb dX1_readsEndOfNumber_55 (by decide) (fun c_55 => ?_) (fun c_55 => ?_)
      · refine lv_iconst (v := (0 : Int32)) hx hb dX1_readsEndOfNumber_62 (by decide) ?_
        have r2 : f_RreadsEndOfNumber u p0 = (false, (f_RexpectNumber (upA u 6 0 (u 3 0)) (2 : Int32) (0 : Int32) (3599 : Int32)).2) := by
          rw [f_RreadsEndOfNumber, if_pos c_4_1, if_pos c_43, if_neg c_55]
        exact kw_z (x := false) hx hb hr hlk hP hS dX1_readsEndOfNumber_63 rfl (by rw [r2]) (by rw [r2])
      · refine lv_iconst (v := (1 : Int32)) hx hb dX1_readsEndOfNumber_58 (by decide) ?_
        refine lv_goto (tgt := 63) hx hb dX1_readsEndOfNumber_59 (by decide) ?_
        have r3 : f_RreadsEndOfNumber u p0 = (true, (f_RexpectNumber (upA u 6 0 (u 3 0)) (2 : Int32) (0 : Int32) (3599 : Int32)).2) := by
          rw [f_RreadsEndOfNumber, if_pos c_4_1, if_pos c_43, if_pos c_55]
        exact kw_z (x := true) hx hb hr hlk hP hS dX1_readsEndOfNumber_63 rfl (by rw [r3]) (by rw [r3])
  by_cases c_4_2 : (u 0 0) = (2 : Int32)
  · refine lv_tableIn (off := 60) (tgt := 64) hx hb dX1_readsEndOfNumber_4 (by rw [c_4_2]; decide) (by rw [c_4_2]; decide) (by rw [c_4_2]; rfl) (by decide) ?_
    refine lv_aload_n hx hb dX1_readsEndOfNumber_64 rfl (lv_at hl 0 rfl) ?_
    refine lv_aload_n hx hb dX1_readsEndOfNumber_65 rfl (lv_at hl 0 rfl) ?_
    refine va_get (D := (dC, dI)) (ci := 1) (v := .int (u 3 0)) (C := RX1) (T := TX1) (N := 10) hx hb hts inX1 hown hK hP 0 rfl rfl 3 (by decide) (hts (.fieldLink RX1 40 "BoardMetronomes$OrderReader" "value" "I") (by decide +kernel)) (fun _ h9 => h9) rfl dX1_readsEndOfNumber_66 ?_
    refine va_put (D := (dC, dI)) (ci := 1) (v := .int (u 3 0)) (ty := .int) (C := RX1) (T := TX1) (N := 10) hx hb hts inX1 tyX1 tyX1_ok nmX1 hown hK hP hD hS 0 rfl rfl 7 (by decide) (hts (.fieldLink RX1 21 "BoardMetronomes$OrderReader" "phase" "I") (by decide +kernel)) (fun _ h9 => h9) rfl (by decide +kernel) rfl rfl (Nat.le_of_ble_eq_true rfl) dX1_readsEndOfNumber_69 (fun H locs hP hD hS => ?_)
    have hP : va_P (dC, dI) vwCl (RW cI cZ h0 q (upA u 7 0 (u 3 0))) H := Eq.mp (congrArg (fun w => va_P (dC, dI) vwCl w H) RW_s7) hP
    have hD : va_D A0 (RW cI cZ h0 q (upA u 7 0 (u 3 0))) := Eq.mp (congrArg (fun w => va_D A0 w) RW_s7) hD
    refine lv_aload_n hx hb dX1_readsEndOfNumber_72 rfl (lv_at hl 0 rfl) ?_
    refine lv_sipush (v := (500 : Int32)) hx hb dX1_readsEndOfNumber_73 (by decide) ?_
    refine va_put (D := (dC, dI)) (ci := 1) (v := .int (500 : Int32)) (ty := .int) (C := RX1) (T := TX1) (N := 10) hx hb hts inX1 tyX1 tyX1_ok nmX1 hown hK hP hD hS 0 rfl rfl 8 (by decide) (hts (.fieldLink RX1 24 "BoardMetronomes$OrderReader" "spring" "I") (by decide +kernel)) (fun _ h9 => h9) rfl (by decide +kernel) rfl rfl (Nat.le_of_ble_eq_true rfl) dX1_readsEndOfNumber_76 (fun H locs hP hD hS => ?_)
    have hP : va_P (dC, dI) vwCl (RW cI cZ h0 q (upA (upA u 7 0 (u 3 0)) 8 0 (500 : Int32))) H := Eq.mp (congrArg (fun w => va_P (dC, dI) vwCl w H) RW_s8) hP
    have hD : va_D A0 (RW cI cZ h0 q (upA (upA u 7 0 (u 3 0)) 8 0 (500 : Int32))) := Eq.mp (congrArg (fun w => va_D A0 w) RW_s8) hD
    refine lv_iload_n hx hb dX1_readsEndOfNumber_79 rfl (lv_at hl 1 rfl) ?_
    refine lv_bipush (v := (42 : Int32)) hx hb dX1_readsEndOfNumber_80 (by decide) ?_
    refine lv_icmp_ne (tgt := 114) hx hb dX1_readsEndOfNumber_82 (by decide) (fun c_82 => ?_) (fun c_82 => ?_)
    · refine lv_aload_n hx hb dX1_readsEndOfNumber_114 rfl (lv_at hl 0 rfl) ?_
      refine lv_iconst (v := (0 : Int32)) hx hb dX1_readsEndOfNumber_115 (by decide) ?_
      refine va_put (D := (dC, dI)) (ci := 1) (v := .int (0 : Int32)) (ty := .int) (C := RX1) (T := TX1) (N := 10) hx hb hts inX1 tyX1 tyX1_ok nmX1 hown hK hP hD hS 0 rfl rfl 0 (by decide) (hts (.fieldLink RX1 11 "BoardMetronomes$OrderReader" "place" "I") (by decide +kernel)) (fun _ h9 => h9) rfl (by decide +kernel) rfl rfl (Nat.le_of_ble_eq_true rfl) dX1_readsEndOfNumber_116 (fun H locs hP hD hS => ?_)
      have hP : va_P (dC, dI) vwCl (RW cI cZ h0 q (upA (upA (upA u 7 0 (u 3 0)) 8 0 (500 : Int32)) 0 0 (0 : Int32))) H := Eq.mp (congrArg (fun w => va_P (dC, dI) vwCl w H) RW_s0) hP
      have hD : va_D A0 (RW cI cZ h0 q (upA (upA (upA u 7 0 (u 3 0)) 8 0 (500 : Int32)) 0 0 (0 : Int32))) := Eq.mp (congrArg (fun w => va_D A0 w) RW_s0) hD
      refine lv_iload_n hx hb dX1_readsEndOfNumber_119 rfl (lv_at hl 1 rfl) ?_
      refine lv_bipush (v := (59 : Int32)) hx hb dX1_readsEndOfNumber_120 (by decide) ?_
      refine lv_icmp_ne (tgt := 129) hx hb dX1_readsEndOfNumber_122 (by decide) (fun c_122 => ?_) (fun c_122 => ?_)
      · refine lv_iconst (v := (0 : Int32)) hx hb dX1_readsEndOfNumber_129 (by decide) ?_
        have r4 : f_RreadsEndOfNumber u p0 = (false, upA (upA (upA u 7 0 (u 3 0)) 8 0 (500 : Int32)) 0 0 (0 : Int32)) := by
          rw [f_RreadsEndOfNumber, if_neg c_4_1, if_pos c_4_2, if_neg c_82, if_neg c_122]
        exact kw_z (x := false) hx hb hr hlk hP hS dX1_readsEndOfNumber_130 rfl (by rw [r4]) (by rw [r4])
      · refine lv_iconst (v := (1 : Int32)) hx hb dX1_readsEndOfNumber_125 (by decide) ?_
        refine lv_goto (tgt := 130) hx hb dX1_readsEndOfNumber_126 (by decide) ?_
        have r5 : f_RreadsEndOfNumber u p0 = (true, upA (upA (upA u 7 0 (u 3 0)) 8 0 (500 : Int32)) 0 0 (0 : Int32)) := by
          rw [f_RreadsEndOfNumber, if_neg c_4_1, if_pos c_4_2, if_neg c_82, if_pos c_122]
        exact kw_z (x := true) hx hb hr hlk hP hS dX1_readsEndOfNumber_130 rfl (by rw [r5]) (by rw [r5])
    · refine lv_aload_n hx hb dX1_readsEndOfNumber_85 rfl (lv_at hl 0 rfl) ?_
      refine lv_iconst (v := (3 : Int32)) hx hb dX1_readsEndOfNumber_86 (by decide) ?_
      refine lv_iconst (v := (1 : Int32)) hx hb dX1_readsEndOfNumber_87 (by decide) ?_
      refine lv_sipush (v := (999 : Int32)) hx hb dX1_readsEndOfNumber_88 (by decide) ?_
      refine kc_w (As := [.int (3 : Int32), .int (1 : Int32), .int (999 : Int32)]) (rest := []) S (v := (some (.int (bI ((f_RexpectNumber (upA (upA u 7 0 (u 3 0)) 8 0 (500 : Int32)) (3 : Int32) (1 : Int32) (999 : Int32)).1))))) (c_X1_expectNumber l dC dI cI cZ cO h0 q (upA (upA u 7 0 (u 3 0)) 8 0 (500 : Int32)) (3 : Int32) (1 : Int32) (999 : Int32) H.size) gX1_readsEndOfNumber_X1_expectNumber mi_X1_expectNumber ⟨rfl, rfl⟩ ⟨Nat.le_of_ble_eq_true rfl, Nat.le_of_ble_eq_true rfl⟩ hK hP hD hS hA [0] RW_all RW_fst rfl 0 rfl rfl ⟨Nat.le_refl _, Nat.le_refl _⟩ dX1_readsEndOfNumber_91 rfl hl.1 rfl (Nat.le_of_ble_eq_true rfl) (fun H locs hP hD hS => ?_)
      have hP : va_P (dC, dI) vwCl (RW cI cZ h0 q ((f_RexpectNumber (upA (upA u 7 0 (u 3 0)) 8 0 (500 : Int32)) (3 : Int32) (1 : Int32) (999 : Int32)).2)) H := Eq.mp (congrArg (fun w => va_P (dC, dI) vwCl w H) RW_ks) hP
      have hD : va_D A0 (RW cI cZ h0 q ((f_RexpectNumber (upA (upA u 7 0 (u 3 0)) 8 0 (500 : Int32)) (3 : Int32) (1 : Int32) (999 : Int32)).2)) := Eq.mp (congrArg (fun w => va_D A0 w) RW_ks) hD
      have r6 : f_RreadsEndOfNumber u p0 = (((f_RexpectNumber (upA (upA u 7 0 (u 3 0)) 8 0 (500 : Int32)) (3 : Int32) (1 : Int32) (999 : Int32)).1), (f_RexpectNumber (upA (upA u 7 0 (u 3 0)) 8 0 (500 : Int32)) (3 : Int32) (1 : Int32) (999 : Int32)).2) := by
        rw [f_RreadsEndOfNumber, if_neg c_4_1, if_pos c_4_2, if_pos c_82]
      exact kw_z (x := ((f_RexpectNumber (upA (upA u 7 0 (u 3 0)) 8 0 (500 : Int32)) (3 : Int32) (1 : Int32) (999 : Int32)).1)) hx hb hr hlk hP hS dX1_readsEndOfNumber_94 rfl (by rw [r6]) (by rw [r6])
  by_cases c_4_3 : (u 0 0) = (3 : Int32)
  · refine lv_tableIn (off := 91) (tgt := 95) hx hb dX1_readsEndOfNumber_4 (by rw [c_4_3]; decide) (by rw [c_4_3]; decide) (by rw [c_4_3]; rfl) (by decide) ?_
    refine lv_aload_n hx hb dX1_readsEndOfNumber_95 rfl (lv_at hl 0 rfl) ?_
    refine lv_aload_n hx hb dX1_readsEndOfNumber_96 rfl (lv_at hl 0 rfl) ?_
    refine va_get (D := (dC, dI)) (ci := 1) (v := .int (u 3 0)) (C := RX1) (T := TX1) (N := 10) hx hb hts inX1 hown hK hP 0 rfl rfl 3 (by decide) (hts (.fieldLink RX1 40 "BoardMetronomes$OrderReader" "value" "I") (by decide +kernel)) (fun _ h9 => h9) rfl dX1_readsEndOfNumber_97 ?_
    refine va_put (D := (dC, dI)) (ci := 1) (v := .int (u 3 0)) (ty := .int) (C := RX1) (T := TX1) (N := 10) hx hb hts inX1 tyX1 tyX1_ok nmX1 hown hK hP hD hS 0 rfl rfl 8 (by decide) (hts (.fieldLink RX1 24 "BoardMetronomes$OrderReader" "spring" "I") (by decide +kernel)) (fun _ h9 => h9) rfl (by decide +kernel) rfl rfl (Nat.le_of_ble_eq_true rfl) dX1_readsEndOfNumber_100 (fun H locs hP hD hS => ?_)
    have hP : va_P (dC, dI) vwCl (RW cI cZ h0 q (upA u 8 0 (u 3 0))) H := Eq.mp (congrArg (fun w => va_P (dC, dI) vwCl w H) RW_s8) hP
    have hD : va_D A0 (RW cI cZ h0 q (upA u 8 0 (u 3 0))) := Eq.mp (congrArg (fun w => va_D A0 w) RW_s8) hD
    refine lv_goto (tgt := 114) hx hb dX1_readsEndOfNumber_103 (by decide) ?_
    refine lv_aload_n hx hb dX1_readsEndOfNumber_114 rfl (lv_at hl 0 rfl) ?_
    refine lv_iconst (v := (0 : Int32)) hx hb dX1_readsEndOfNumber_115 (by decide) ?_
    refine va_put (D := (dC, dI)) (ci := 1) (v := .int (0 : Int32)) (ty := .int) (C := RX1) (T := TX1) (N := 10) hx hb hts inX1 tyX1 tyX1_ok nmX1 hown hK hP hD hS 0 rfl rfl 0 (by decide) (hts (.fieldLink RX1 11 "BoardMetronomes$OrderReader" "place" "I") (by decide +kernel)) (fun _ h9 => h9) rfl (by decide +kernel) rfl rfl (Nat.le_of_ble_eq_true rfl) dX1_readsEndOfNumber_116 (fun H locs hP hD hS => ?_)
    have hP : va_P (dC, dI) vwCl (RW cI cZ h0 q (upA (upA u 8 0 (u 3 0)) 0 0 (0 : Int32))) H := Eq.mp (congrArg (fun w => va_P (dC, dI) vwCl w H) RW_s0) hP
    have hD : va_D A0 (RW cI cZ h0 q (upA (upA u 8 0 (u 3 0)) 0 0 (0 : Int32))) := Eq.mp (congrArg (fun w => va_D A0 w) RW_s0) hD
    refine lv_iload_n hx hb dX1_readsEndOfNumber_119 rfl (lv_at hl 1 rfl) ?_
    refine lv_bipush (v := (59 : Int32)) hx hb dX1_readsEndOfNumber_120 (by decide) ?_
    refine lv_icmp_ne (tgt := 129) hx hb dX1_readsEndOfNumber_122 (by decide) (fun c_122 => ?_) (fun c_122 => ?_)
    · refine lv_iconst (v := (0 : Int32)) hx hb dX1_readsEndOfNumber_129 (by decide) ?_
      have r7 : f_RreadsEndOfNumber u p0 = (false, upA (upA u 8 0 (u 3 0)) 0 0 (0 : Int32)) := by
        rw [f_RreadsEndOfNumber, if_neg c_4_1, if_neg c_4_2, if_pos c_4_3, if_neg c_122]
      exact kw_z (x := false) hx hb hr hlk hP hS dX1_readsEndOfNumber_130 rfl (by rw [r7]) (by rw [r7])
    · refine lv_iconst (v := (1 : Int32)) hx hb dX1_readsEndOfNumber_125 (by decide) ?_
      refine lv_goto (tgt := 130) hx hb dX1_readsEndOfNumber_126 (by decide) ?_
      have r8 : f_RreadsEndOfNumber u p0 = (true, upA (upA u 8 0 (u 3 0)) 0 0 (0 : Int32)) := by
        rw [f_RreadsEndOfNumber, if_neg c_4_1, if_neg c_4_2, if_pos c_4_3, if_pos c_122]
      exact kw_z (x := true) hx hb hr hlk hP hS dX1_readsEndOfNumber_130 rfl (by rw [r8]) (by rw [r8])
  refine lv_tableOut (tgt := 106) hx hb dX1_readsEndOfNumber_4 (by have e_0 := lv_neT c_4_1 (a := 1) (by decide); have e_1 := lv_neT c_4_2 (a := 2) (by decide); have e_2 := lv_neT c_4_3 (a := 3) (by decide); omega) (by decide) ?_
  refine lv_aload_n hx hb dX1_readsEndOfNumber_106 rfl (lv_at hl 0 rfl) ?_
  refine lv_aload_n hx hb dX1_readsEndOfNumber_107 rfl (lv_at hl 0 rfl) ?_
  refine va_get (D := (dC, dI)) (ci := 1) (v := .int (u 3 0)) (C := RX1) (T := TX1) (N := 10) hx hb hts inX1 hown hK hP 0 rfl rfl 3 (by decide) (hts (.fieldLink RX1 40 "BoardMetronomes$OrderReader" "value" "I") (by decide +kernel)) (fun _ h9 => h9) rfl dX1_readsEndOfNumber_108 ?_
  refine va_put (D := (dC, dI)) (ci := 1) (v := .int (u 3 0)) (ty := .int) (C := RX1) (T := TX1) (N := 10) hx hb hts inX1 tyX1 tyX1_ok nmX1 hown hK hP hD hS 0 rfl rfl 9 (by decide) (hts (.fieldLink RX1 27 "BoardMetronomes$OrderReader" "number" "I") (by decide +kernel)) (fun _ h9 => h9) rfl (by decide +kernel) rfl rfl (Nat.le_of_ble_eq_true rfl) dX1_readsEndOfNumber_111 (fun H locs hP hD hS => ?_)
  have hP : va_P (dC, dI) vwCl (RW cI cZ h0 q (upA u 9 0 (u 3 0))) H := Eq.mp (congrArg (fun w => va_P (dC, dI) vwCl w H) RW_s9) hP
  have hD : va_D A0 (RW cI cZ h0 q (upA u 9 0 (u 3 0))) := Eq.mp (congrArg (fun w => va_D A0 w) RW_s9) hD
  refine lv_aload_n hx hb dX1_readsEndOfNumber_114 rfl (lv_at hl 0 rfl) ?_
  refine lv_iconst (v := (0 : Int32)) hx hb dX1_readsEndOfNumber_115 (by decide) ?_
  refine va_put (D := (dC, dI)) (ci := 1) (v := .int (0 : Int32)) (ty := .int) (C := RX1) (T := TX1) (N := 10) hx hb hts inX1 tyX1 tyX1_ok nmX1 hown hK hP hD hS 0 rfl rfl 0 (by decide) (hts (.fieldLink RX1 11 "BoardMetronomes$OrderReader" "place" "I") (by decide +kernel)) (fun _ h9 => h9) rfl (by decide +kernel) rfl rfl (Nat.le_of_ble_eq_true rfl) dX1_readsEndOfNumber_116 (fun H locs hP hD hS => ?_)
  have hP : va_P (dC, dI) vwCl (RW cI cZ h0 q (upA (upA u 9 0 (u 3 0)) 0 0 (0 : Int32))) H := Eq.mp (congrArg (fun w => va_P (dC, dI) vwCl w H) RW_s0) hP
  have hD : va_D A0 (RW cI cZ h0 q (upA (upA u 9 0 (u 3 0)) 0 0 (0 : Int32))) := Eq.mp (congrArg (fun w => va_D A0 w) RW_s0) hD
  refine lv_iload_n hx hb dX1_readsEndOfNumber_119 rfl (lv_at hl 1 rfl) ?_
  refine lv_bipush (v := (59 : Int32)) hx hb dX1_readsEndOfNumber_120 (by decide) ?_
  refine lv_icmp_ne (tgt := 129) hx hb dX1_readsEndOfNumber_122 (by decide) (fun c_122 => ?_) (fun c_122 => ?_)
  · refine lv_iconst (v := (0 : Int32)) hx hb dX1_readsEndOfNumber_129 (by decide) ?_
    have r9 : f_RreadsEndOfNumber u p0 = (false, upA (upA u 9 0 (u 3 0)) 0 0 (0 : Int32)) := by
      rw [f_RreadsEndOfNumber, if_neg c_4_1, if_neg c_4_2, if_neg c_4_3, if_neg c_122]
    exact kw_z (x := false) hx hb hr hlk hP hS dX1_readsEndOfNumber_130 rfl (by rw [r9]) (by rw [r9])
  · refine lv_iconst (v := (1 : Int32)) hx hb dX1_readsEndOfNumber_125 (by decide) ?_
    refine lv_goto (tgt := 130) hx hb dX1_readsEndOfNumber_126 (by decide) ?_
    have r10 : f_RreadsEndOfNumber u p0 = (true, upA (upA u 9 0 (u 3 0)) 0 0 (0 : Int32)) := by
      rw [f_RreadsEndOfNumber, if_neg c_4_1, if_neg c_4_2, if_neg c_4_3, if_pos c_122]
    exact kw_z (x := true) hx hb hr hlk hP hS dX1_readsEndOfNumber_130 rfl (by rw [r10]) (by rw [r10])

def rm_X1_reads : Room := { frames := 2, cells := 0, slots := 0, locals := 47 }
theorem mi_X1_reads : kM yX1_reads wsX1_reads cX1_reads 2 (some .boolean) 1 := ⟨⟨_, rfl⟩, by decide, by decide, by decide +kernel⟩
def f_Rreads (u : BS) (p0 : Int32) : Bool × BS := if (u 0 0) = 0 then (((f_RreadsLetter u p0).1), (f_RreadsLetter u p0).2) else if p0 < (48 : Int32) then (if (u 4 0) ≤ 0 then (false, u) else if (u 3 0) < (u 1 0) then (false, u) else if ((f_RreadsEndOfNumber u p0).1) = true then (true, (f_RreadsEndOfNumber u p0).2) else (false, (f_RreadsEndOfNumber u p0).2)) else if (57 : Int32) < p0 then (if (u 4 0) ≤ 0 then (false, u) else if (u 3 0) < (u 1 0) then (false, u) else if ((f_RreadsEndOfNumber u p0).1) = true then (true, (f_RreadsEndOfNumber u p0).2) else (false, (f_RreadsEndOfNumber u p0).2)) else (((f_RreadsDigit u (p0 - (48 : Int32))).1), (f_RreadsDigit u (p0 - (48 : Int32))).2)
set_option maxHeartbeats 1000000 in
set_option maxRecDepth 100000 in
theorem c_X1_reads (l : Launch) (dC : Nat → ClassId) (dI : Nat → Nat → Nat) (cI cZ cO : ClassId) (h0 : Nat) (q : Nat → Nat) (u : BS) (p0 : Int32) (sz : Nat) : Met l yX1_reads wsX1_reads rm_X1_reads (va_Pc [.ref h0, .int p0] (fun U => U.heap.size = sz ∧ va_P (dC, dI) vwCl (RW cI cZ h0 q u) U.heap ∧ va_K (dC, dI) vwCl (TY cI cZ cO) U ∧ va_D (fun _ => True) (RW cI cZ h0 q u))) (kQw (some (.int (bI (f_Rreads u p0).1))) (dC, dI) vwCl (RW cI cZ h0 q ((f_Rreads u p0).2)) (va_A (RW cI cZ h0 q u) sz)) 0 0 (va_A (RW cI cZ h0 q u) sz) := by
  refine kofW (cc := cX1_reads) (maxL := 2) (ret := some .boolean) (by decide) rfl (Nat.le_of_ble_eq_true rfl) ?_
  intro p e s m args below meth c ls S hr hlk hnm hsz hP hK hD hS hA hl
  generalize hA0 : va_A (RW cI cZ h0 q u) sz = A0 at hD hS hA ⊢
  subst hsz
  obtain ⟨hx, hb, hml, hown, hts⟩ := id S
  have inX1 : ∀ w ∈ wsX10, w ∈ wsX1_reads := fun w h => List.mem_cons_of_mem _ (List.mem_append_right _ h)
  have hl : lv_has ls 2 [(0, .ref h0), (1, .int p0)] := hl
  refine lv_aload_n hx hb dX1_reads_0 rfl (lv_at hl 0 rfl) ?_
  refine va_get (D := (dC, dI)) (ci := 1) (v := .int (u 0 0)) (C := RX1) (T := TX1) (N := 10) hx hb hts inX1 hown hK hP 0 rfl rfl 0 (by decide) (hts (.fieldLink RX1 11 "BoardMetronomes$OrderReader" "place" "I") (by decide +kernel)) (fun _ h9 => h9) rfl dX1_reads_1 ?_
  refine lv_if_ne (tgt := 13) hx hb dX1_reads_4 (by decide) (fun c_4 => ?_) (fun c_4 => ?_)
  · refine lv_iload_n hx hb dX1_reads_13 rfl (lv_at hl 1 rfl) ?_
    refine lv_bipush (v := (48 : Int32)) hx hb dX1_reads_14 (by decide) ?_
    refine lv_icmp_lt (tgt := 34) hx hb dX1_reads_16 (by decide) (fun c_16 => ?_) (fun c_16 => ?_)
    · refine lv_aload_n hx hb dX1_reads_34 rfl (lv_at hl 0 rfl) ?_
      refine va_get (D := (dC, dI)) (ci := 1) (v := .int (u 4 0)) (C := RX1) (T := TX1) (N := 10) hx hb hts inX1 hown hK hP 0 rfl rfl 4 (by decide) (hts (.fieldLink RX1 37 "BoardMetronomes$OrderReader" "digits" "I") (by decide +kernel)) (fun _ h9 => h9) rfl dX1_reads_35 ?_
      refine lv_if_le (tgt := 64) hx hb dX1_reads_38 (by decide) (fun c_38 => ?_) (fun c_38 => ?_)
      · refine lv_iconst (v := (0 : Int32)) hx hb dX1_reads_64 (by decide) ?_
        have r1 : f_Rreads u p0 = (false, u) := by
          rw [f_Rreads, if_neg c_4, if_pos c_16, if_pos c_38]
        exact kw_z (x := false) hx hb hr hlk hP hS dX1_reads_65 rfl (by rw [r1]) (by rw [r1])
      · refine lv_aload_n hx hb dX1_reads_41 rfl (lv_at hl 0 rfl) ?_
        refine va_get (D := (dC, dI)) (ci := 1) (v := .int (u 3 0)) (C := RX1) (T := TX1) (N := 10) hx hb hts inX1 hown hK hP 0 rfl rfl 3 (by decide) (hts (.fieldLink RX1 40 "BoardMetronomes$OrderReader" "value" "I") (by decide +kernel)) (fun _ h9 => h9) rfl dX1_reads_42 ?_
        refine lv_aload_n hx hb dX1_reads_45 rfl (lv_at hl 0 rfl) ?_
        refine va_get (D := (dC, dI)) (ci := 1) (v := .int (u 1 0)) (C := RX1) (T := TX1) (N := 10) hx hb hts inX1 hown hK hP 0 rfl rfl 1 (by decide) (hts (.fieldLink RX1 43 "BoardMetronomes$OrderReader" "lowest" "I") (by decide +kernel)) (fun _ h9 => h9) rfl dX1_reads_46 ?_
        refine lv_icmp_lt (tgt := 64) hx hb dX1_reads_49 (by decide) (fun c_49 => ?_) (fun c_49 => ?_)
        · refine lv_iconst (v := (0 : Int32)) hx hb dX1_reads_64 (by decide) ?_
          have r2 : f_Rreads u p0 = (false, u) := by
            rw [f_Rreads, if_neg c_4, if_pos c_16, if_neg c_38, if_pos c_49]
          exact kw_z (x := false) hx hb hr hlk hP hS dX1_reads_65 rfl (by rw [r2]) (by rw [r2])
        · refine lv_aload_n hx hb dX1_reads_52 rfl (lv_at hl 0 rfl) ?_
          refine lv_iload_n hx hb dX1_reads_53 rfl (lv_at hl 1 rfl) ?_
          refine kc_w (As := [.int p0]) (rest := []) S (v := (some (.int (bI ((f_RreadsEndOfNumber u p0).1))))) (c_X1_readsEndOfNumber l dC dI cI cZ cO h0 q u p0 s.heap.size) gX1_reads_X1_readsEndOfNumber mi_X1_readsEndOfNumber ⟨rfl, rfl⟩ ⟨Nat.le_of_ble_eq_true rfl, Nat.le_of_ble_eq_true rfl⟩ hK hP hD hS hA [0] RW_all RW_fst rfl 0 rfl rfl ⟨Nat.le_refl _, Nat.le_refl _⟩ dX1_reads_54 rfl hl.1 rfl (Nat.le_of_ble_eq_true rfl) (fun H locs hP hD hS => ?_)
          have hP : va_P (dC, dI) vwCl (RW cI cZ h0 q ((f_RreadsEndOfNumber u p0).2)) H := Eq.mp (congrArg (fun w => va_P (dC, dI) vwCl w H) RW_ks) hP
          have hD : va_D A0 (RW cI cZ h0 q ((f_RreadsEndOfNumber u p0).2)) := Eq.mp (congrArg (fun w => va_D A0 w) RW_ks) hD
          refine kb_eq (tgt := 64) hx hb dX1_reads_57 (by decide) (fun c_57 => ?_) (fun c_57 => ?_)
          · refine lv_iconst (v := (0 : Int32)) hx hb dX1_reads_64 (by decide) ?_
            have r3 : f_Rreads u p0 = (false, (f_RreadsEndOfNumber u p0).2) := by
              rw [f_Rreads, if_neg c_4, if_pos c_16, if_neg c_38, if_neg c_49, if_neg c_57]
            exact kw_z (x := false) hx hb hr hlk hP hS dX1_reads_65 rfl (by rw [r3]) (by rw [r3])
          · refine lv_iconst (v := (1 : Int32)) hx hb dX1_reads_60 (by decide) ?_
            refine lv_goto (tgt := 65) hx hb dX1_reads_61 (by decide) ?_
            have r4 : f_Rreads u p0 = (true, (f_RreadsEndOfNumber u p0).2) := by
              rw [f_Rreads, if_neg c_4, if_pos c_16, if_neg c_38, if_neg c_49, if_pos c_57]
            exact kw_z (x := true) hx hb hr hlk hP hS dX1_reads_65 rfl (by rw [r4]) (by rw [r4])
    · refine lv_iload_n hx hb dX1_reads_19 rfl (lv_at hl 1 rfl) ?_
      refine lv_bipush (v := (57 : Int32)) hx hb dX1_reads_20 (by decide) ?_
      refine lv_icmp_gt (tgt := 34) hx hb dX1_reads_22 (by decide) (fun c_22 => ?_) (fun c_22 => ?_)
      · refine lv_aload_n hx hb dX1_reads_34 rfl (lv_at hl 0 rfl) ?_
        refine va_get (D := (dC, dI)) (ci := 1) (v := .int (u 4 0)) (C := RX1) (T := TX1) (N := 10) hx hb hts inX1 hown hK hP 0 rfl rfl 4 (by decide) (hts (.fieldLink RX1 37 "BoardMetronomes$OrderReader" "digits" "I") (by decide +kernel)) (fun _ h9 => h9) rfl dX1_reads_35 ?_
        refine lv_if_le (tgt := 64) hx hb dX1_reads_38 (by decide) (fun c_38 => ?_) (fun c_38 => ?_)
        · refine lv_iconst (v := (0 : Int32)) hx hb dX1_reads_64 (by decide) ?_
          have r5 : f_Rreads u p0 = (false, u) := by
            rw [f_Rreads, if_neg c_4, if_neg c_16, if_pos c_22, if_pos c_38]
          exact kw_z (x := false) hx hb hr hlk hP hS dX1_reads_65 rfl (by rw [r5]) (by rw [r5])
        · refine lv_aload_n hx hb dX1_reads_41 rfl (lv_at hl 0 rfl) ?_
          refine va_get (D := (dC, dI)) (ci := 1) (v := .int (u 3 0)) (C := RX1) (T := TX1) (N := 10) hx hb hts inX1 hown hK hP 0 rfl rfl 3 (by decide) (hts (.fieldLink RX1 40 "BoardMetronomes$OrderReader" "value" "I") (by decide +kernel)) (fun _ h9 => h9) rfl dX1_reads_42 ?_
          refine lv_aload_n hx hb dX1_reads_45 rfl (lv_at hl 0 rfl) ?_
          refine va_get (D := (dC, dI)) (ci := 1) (v := .int (u 1 0)) (C := RX1) (T := TX1) (N := 10) hx hb hts inX1 hown hK hP 0 rfl rfl 1 (by decide) (hts (.fieldLink RX1 43 "BoardMetronomes$OrderReader" "lowest" "I") (by decide +kernel)) (fun _ h9 => h9) rfl dX1_reads_46 ?_
          refine lv_icmp_lt (tgt := 64) hx hb dX1_reads_49 (by decide) (fun c_49 => ?_) (fun c_49 => ?_)
          · refine lv_iconst (v := (0 : Int32)) hx hb dX1_reads_64 (by decide) ?_
            have r6 : f_Rreads u p0 = (false, u) := by
              rw [f_Rreads, if_neg c_4, if_neg c_16, if_pos c_22, if_neg c_38, if_pos c_49]
            exact kw_z (x := false) hx hb hr hlk hP hS dX1_reads_65 rfl (by rw [r6]) (by rw [r6])
          · refine lv_aload_n hx hb dX1_reads_52 rfl (lv_at hl 0 rfl) ?_
            refine lv_iload_n hx hb dX1_reads_53 rfl (lv_at hl 1 rfl) ?_
            refine kc_w (As := [.int p0]) (rest := []) S (v := (some (.int (bI ((f_RreadsEndOfNumber u p0).1))))) (c_X1_readsEndOfNumber l dC dI cI cZ cO h0 q u p0 s.heap.size) gX1_reads_X1_readsEndOfNumber mi_X1_readsEndOfNumber ⟨rfl, rfl⟩ ⟨Nat.le_of_ble_eq_true rfl, Nat.le_of_ble_eq_true rfl⟩ hK hP hD hS hA [0] RW_all RW_fst rfl 0 rfl rfl ⟨Nat.le_refl _, Nat.le_refl _⟩ dX1_reads_54 rfl hl.1 rfl (Nat.le_of_ble_eq_true rfl) (fun H locs hP hD hS => ?_)
            have hP : va_P (dC, dI) vwCl (RW cI cZ h0 q ((f_RreadsEndOfNumber u p0).2)) H := Eq.mp (congrArg (fun w => va_P (dC, dI) vwCl w H) RW_ks) hP
            have hD : va_D A0 (RW cI cZ h0 q ((f_RreadsEndOfNumber u p0).2)) := Eq.mp (congrArg (fun w => va_D A0 w) RW_ks) hD
            refine kb_eq (tgt := 64) hx hb dX1_reads_57 (by decide) (fun c_57 => ?_) (fun c_57 => ?_)
            · refine lv_iconst (v := (0 : Int32)) hx hb dX1_reads_64 (by decide) ?_
              have r7 : f_Rreads u p0 = (false, (f_RreadsEndOfNumber u p0).2) := by
                rw [f_Rreads, if_neg c_4, if_neg c_16, if_pos c_22, if_neg c_38, if_neg c_49, if_neg c_57]
              exact kw_z (x := false) hx hb hr hlk hP hS dX1_reads_65 rfl (by rw [r7]) (by rw [r7])
            · refine lv_iconst (v := (1 : Int32)) hx hb dX1_reads_60 (by decide) ?_
              refine lv_goto (tgt := 65) hx hb dX1_reads_61 (by decide) ?_
              have r8 : f_Rreads u p0 = (true, (f_RreadsEndOfNumber u p0).2) := by
                rw [f_Rreads, if_neg c_4, if_neg c_16, if_pos c_22, if_neg c_38, if_neg c_49, if_pos c_57]
              exact kw_z (x := true) hx hb hr hlk hP hS dX1_reads_65 rfl (by rw [r8]) (by rw [r8])
      · refine lv_aload_n hx hb dX1_reads_25 rfl (lv_at hl 0 rfl) ?_
        refine lv_iload_n hx hb dX1_reads_26 rfl (lv_at hl 1 rfl) ?_
        refine lv_bipush (v := (48 : Int32)) hx hb dX1_reads_27 (by decide) ?_
        refine lv_isub hx hb dX1_reads_29 ?_
        refine kc_w (As := [.int (p0 - (48 : Int32))]) (rest := []) S (v := (some (.int (bI ((f_RreadsDigit u (p0 - (48 : Int32))).1))))) (c_X1_readsDigit l dC dI cI cZ cO h0 q u (p0 - (48 : Int32)) s.heap.size) gX1_reads_X1_readsDigit mi_X1_readsDigit ⟨rfl, rfl⟩ ⟨Nat.le_of_ble_eq_true rfl, Nat.le_of_ble_eq_true rfl⟩ hK hP hD hS hA [0] RW_all RW_fst rfl 0 rfl rfl ⟨Nat.le_refl _, Nat.le_refl _⟩ dX1_reads_30 rfl hl.1 rfl (Nat.le_of_ble_eq_true rfl) (fun H locs hP hD hS => ?_)
        have hP : va_P (dC, dI) vwCl (RW cI cZ h0 q ((f_RreadsDigit u (p0 - (48 : Int32))).2)) H := Eq.mp (congrArg (fun w => va_P (dC, dI) vwCl w H) RW_ks) hP
        have hD : va_D A0 (RW cI cZ h0 q ((f_RreadsDigit u (p0 - (48 : Int32))).2)) := Eq.mp (congrArg (fun w => va_D A0 w) RW_ks) hD
        have r9 : f_Rreads u p0 = (((f_RreadsDigit u (p0 - (48 : Int32))).1), (f_RreadsDigit u (p0 - (48 : Int32))).2) := by
          rw [f_Rreads, if_neg c_4, if_neg c_16, if_neg c_22]
        exact kw_z (x := ((f_RreadsDigit u (p0 - (48 : Int32))).1)) hx hb hr hlk hP hS dX1_reads_33 rfl (by rw [r9]) (by rw [r9])
  · refine lv_aload_n hx hb dX1_reads_7 rfl (lv_at hl 0 rfl) ?_
    refine lv_iload_n hx hb dX1_reads_8 rfl (lv_at hl 1 rfl) ?_
    refine kc_w (As := [.int p0]) (rest := []) S (v := (some (.int (bI ((f_RreadsLetter u p0).1))))) (c_X1_readsLetter l dC dI cI cZ cO h0 q u p0 s.heap.size) gX1_reads_X1_readsLetter mi_X1_readsLetter ⟨rfl, rfl⟩ ⟨Nat.le_of_ble_eq_true rfl, Nat.le_of_ble_eq_true rfl⟩ hK hP hD hS hA [0] RW_all RW_fst rfl 0 rfl rfl ⟨Nat.le_refl _, Nat.le_refl _⟩ dX1_reads_9 rfl hl.1 rfl (Nat.le_of_ble_eq_true rfl) (fun H locs hP hD hS => ?_)
    have hP : va_P (dC, dI) vwCl (RW cI cZ h0 q ((f_RreadsLetter u p0).2)) H := Eq.mp (congrArg (fun w => va_P (dC, dI) vwCl w H) RW_ks) hP
    have hD : va_D A0 (RW cI cZ h0 q ((f_RreadsLetter u p0).2)) := Eq.mp (congrArg (fun w => va_D A0 w) RW_ks) hD
    have r10 : f_Rreads u p0 = (((f_RreadsLetter u p0).1), (f_RreadsLetter u p0).2) := by
      rw [f_Rreads, if_pos c_4]
    exact kw_z (x := ((f_RreadsLetter u p0).1)) hx hb hr hlk hP hS dX1_reads_12 rfl (by rw [r10]) (by rw [r10])

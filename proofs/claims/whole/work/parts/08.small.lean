def rm_X3_isFull : Room := { frames := 0, cells := 0, slots := 0, locals := 0 }
theorem mi_X3_isFull : kM yX3_isFull wsX3_isFull cX3_isFull 1 (some .boolean) 0 := ⟨⟨_, rfl⟩, by decide, by decide, by decide +kernel⟩
def f_TisFull (u : BS) : Bool := if (u 1 0) < (60 : Int32) then false else true
set_option maxHeartbeats 1000000 in
set_option maxRecDepth 100000 in
theorem c_X3_isFull (l : Launch) (dC : Nat → ClassId) (dI : Nat → Nat → Nat) (cI cZ cO : ClassId) (h0 : Nat) (q : Nat → Nat) (u : BS) : Met l yX3_isFull wsX3_isFull rm_X3_isFull (va_Pc [.ref h0] (fun U => va_P (dC, dI) vwCl (TW cI cZ h0 q u) U.heap ∧ va_K (dC, dI) vwCl (TY cI cZ cO) U)) (kQ (some (.int (bI (f_TisFull u))))) 0 0 (fun _ => False) := by
  refine kofR (cc := cX3_isFull) (maxL := 1) (ret := some .boolean) (by decide) rfl (Nat.le_of_ble_eq_true rfl) ?_
  intro p e s m args below meth c ls S hr hlk hP hK hl
  obtain ⟨hx, hb, hml, hown, hts⟩ := id S
  have inX3 : ∀ w ∈ wsX30, w ∈ wsX3_isFull := fun w h => List.mem_cons_of_mem _ (List.mem_append_right _ h)
  have hl : lv_has ls 1 [(0, .ref h0)] := hl
  refine lv_aload_n hx hb dX3_isFull_0 rfl (lv_at hl 0 rfl) ?_
  refine va_get (D := (dC, dI)) (ci := 3) (v := .int (u 1 0)) (C := RX3) (T := TX3) (N := 2) hx hb hts inX3 hown hK hP 0 rfl rfl 1 (by decide) (hts (.fieldLink RX3 15 "BoardMetronomes$Text" "size" "I") (by decide +kernel)) (fun _ h9 => h9) rfl dX3_isFull_1 ?_
  refine lv_bipush (v := (60 : Int32)) hx hb dX3_isFull_4 (by decide) ?_
  refine lv_icmp_lt (tgt := 13) hx hb dX3_isFull_6 (by decide) (fun c_6 => ?_) (fun c_6 => ?_)
  · refine lv_iconst (v := (0 : Int32)) hx hb dX3_isFull_13 (by decide) ?_
    have r1 : f_TisFull u = false := by
      rw [f_TisFull, if_pos c_6]
    exact kr_z (x := false) hx hb hr hlk dX3_isFull_14 rfl r1
  · refine lv_iconst (v := (1 : Int32)) hx hb dX3_isFull_9 (by decide) ?_
    refine lv_goto (tgt := 14) hx hb dX3_isFull_10 (by decide) ?_
    have r2 : f_TisFull u = true := by
      rw [f_TisFull, if_neg c_6]
    exact kr_z (x := true) hx hb hr hlk dX3_isFull_14 rfl r2

def rm_X3_size : Room := { frames := 0, cells := 0, slots := 0, locals := 0 }
theorem mi_X3_size : kM yX3_size wsX3_size cX3_size 1 (some .int) 0 := ⟨⟨_, rfl⟩, by decide, by decide, by decide +kernel⟩
def f_Tsize (u : BS) : Int32 := u 1 0
set_option maxHeartbeats 1000000 in
set_option maxRecDepth 100000 in
theorem c_X3_size (l : Launch) (dC : Nat → ClassId) (dI : Nat → Nat → Nat) (cI cZ cO : ClassId) (h0 : Nat) (q : Nat → Nat) (u : BS) : Met l yX3_size wsX3_size rm_X3_size (va_Pc [.ref h0] (fun U => va_P (dC, dI) vwCl (TW cI cZ h0 q u) U.heap ∧ va_K (dC, dI) vwCl (TY cI cZ cO) U)) (kQ (some (.int (f_Tsize u)))) 0 0 (fun _ => False) := by
  refine kofR (cc := cX3_size) (maxL := 1) (ret := some .int) (by decide) rfl (Nat.le_of_ble_eq_true rfl) ?_
  intro p e s m args below meth c ls S hr hlk hP hK hl
  obtain ⟨hx, hb, hml, hown, hts⟩ := id S
  have inX3 : ∀ w ∈ wsX30, w ∈ wsX3_size := fun w h => List.mem_cons_of_mem _ (List.mem_append_right _ h)
  have hl : lv_has ls 1 [(0, .ref h0)] := hl
  refine lv_aload_n hx hb dX3_size_0 rfl (lv_at hl 0 rfl) ?_
  refine va_get (D := (dC, dI)) (ci := 3) (v := .int (u 1 0)) (C := RX3) (T := TX3) (N := 2) hx hb hts inX3 hown hK hP 0 rfl rfl 1 (by decide) (hts (.fieldLink RX3 15 "BoardMetronomes$Text" "size" "I") (by decide +kernel)) (fun _ h9 => h9) rfl dX3_size_1 ?_
  have r1 : f_Tsize u = u 1 0 := by
    rw [f_Tsize]
  exact kr_i hx hb hr hlk dX3_size_4 r1.symm

def rm_X3_signAt : Room := { frames := 0, cells := 0, slots := 0, locals := 0 }
theorem mi_X3_signAt : kM yX3_signAt wsX3_signAt cX3_signAt 2 (some .int) 1 := ⟨⟨_, rfl⟩, by decide, by decide, by decide +kernel⟩
def f_TsignAt (u : BS) (p0 : Int32) : Int32 := if p0 < 0 then (-1 : Int32) else if (u 1 0) ≤ p0 then (-1 : Int32) else if (60 : Int32) ≤ p0 then (-1 : Int32) else u 0 p0.toNatClampNeg
set_option maxHeartbeats 1000000 in
set_option maxRecDepth 100000 in
theorem c_X3_signAt (l : Launch) (dC : Nat → ClassId) (dI : Nat → Nat → Nat) (cI cZ cO : ClassId) (h0 : Nat) (q : Nat → Nat) (u : BS) (p0 : Int32) : Met l yX3_signAt wsX3_signAt rm_X3_signAt (va_Pc [.ref h0, .int p0] (fun U => va_P (dC, dI) vwCl (TW cI cZ h0 q u) U.heap ∧ va_K (dC, dI) vwCl (TY cI cZ cO) U)) (kQ (some (.int (f_TsignAt u p0)))) 0 0 (fun _ => False) := by
  refine kofR (cc := cX3_signAt) (maxL := 2) (ret := some .int) (by decide) rfl (Nat.le_of_ble_eq_true rfl) ?_
  intro p e s m args below meth c ls S hr hlk hP hK hl
  obtain ⟨hx, hb, hml, hown, hts⟩ := id S
  have inX3 : ∀ w ∈ wsX30, w ∈ wsX3_signAt := fun w h => List.mem_cons_of_mem _ (List.mem_append_right _ h)
  have hl : lv_has ls 2 [(0, .ref h0), (1, .int p0)] := hl
  refine lv_iload_n hx hb dX3_signAt_0 rfl (lv_at hl 1 rfl) ?_
  refine lv_if_lt (tgt := 27) hx hb dX3_signAt_1 (by decide) (fun c_1 => ?_) (fun c_1 => ?_)
  · refine lv_iconst (v := (-1 : Int32)) hx hb dX3_signAt_27 (by decide) ?_
    have r1 : f_TsignAt u p0 = (-1 : Int32) := by
      rw [f_TsignAt, if_pos c_1]
    exact kr_i hx hb hr hlk dX3_signAt_28 r1.symm
  · refine lv_iload_n hx hb dX3_signAt_4 rfl (lv_at hl 1 rfl) ?_
    refine lv_aload_n hx hb dX3_signAt_5 rfl (lv_at hl 0 rfl) ?_
    refine va_get (D := (dC, dI)) (ci := 3) (v := .int (u 1 0)) (C := RX3) (T := TX3) (N := 2) hx hb hts inX3 hown hK hP 0 rfl rfl 1 (by decide) (hts (.fieldLink RX3 15 "BoardMetronomes$Text" "size" "I") (by decide +kernel)) (fun _ h9 => h9) rfl dX3_signAt_6 ?_
    refine lv_icmp_ge (tgt := 27) hx hb dX3_signAt_9 (by decide) (fun c_9 => ?_) (fun c_9 => ?_)
    · refine lv_iconst (v := (-1 : Int32)) hx hb dX3_signAt_27 (by decide) ?_
      have r2 : f_TsignAt u p0 = (-1 : Int32) := by
        rw [f_TsignAt, if_neg c_1, if_pos c_9]
      exact kr_i hx hb hr hlk dX3_signAt_28 r2.symm
    · refine lv_iload_n hx hb dX3_signAt_12 rfl (lv_at hl 1 rfl) ?_
      refine lv_bipush (v := (60 : Int32)) hx hb dX3_signAt_13 (by decide) ?_
      refine lv_icmp_ge (tgt := 27) hx hb dX3_signAt_15 (by decide) (fun c_15 => ?_) (fun c_15 => ?_)
      · refine lv_iconst (v := (-1 : Int32)) hx hb dX3_signAt_27 (by decide) ?_
        have r3 : f_TsignAt u p0 = (-1 : Int32) := by
          rw [f_TsignAt, if_neg c_1, if_neg c_9, if_pos c_15]
        exact kr_i hx hb hr hlk dX3_signAt_28 r3.symm
      · refine lv_aload_n hx hb dX3_signAt_18 rfl (lv_at hl 0 rfl) ?_
        refine va_get (D := (dC, dI)) (ci := 3) (v := .ref (q 0)) (C := RX3) (T := TX3) (N := 2) hx hb hts inX3 hown hK hP 0 rfl rfl 0 (by decide) (hts (.fieldLink RX3 9 "BoardMetronomes$Text" "signs" "[I") (by decide +kernel)) (fun _ h9 => h9) rfl dX3_signAt_19 ?_
        refine lv_iload_n hx hb dX3_signAt_22 rfl (lv_at hl 1 rfl) ?_
        refine va_iald (D := (dC, dI)) hx hb hK hP 1 0 rfl rfl (kin_of c_1 c_15 (by decide)) dX3_signAt_23 ?_
        refine lv_goto (tgt := 28) hx hb dX3_signAt_24 (by decide) ?_
        have r4 : f_TsignAt u p0 = u 0 p0.toNatClampNeg := by
          rw [f_TsignAt, if_neg c_1, if_neg c_9, if_neg c_15]
        exact kr_i hx hb hr hlk dX3_signAt_28 r4.symm

def rm_X3_add : Room := { frames := 0, cells := 0, slots := 0, locals := 0 }
theorem mi_X3_add : kM yX3_add wsX3_add cX3_add 2 (some .int) 1 := ⟨⟨_, rfl⟩, by decide, by decide, by decide +kernel⟩
def f_Tadd (u : BS) (p0 : Int32) : Int32 × BS := if (u 1 0) < 0 then (u 1 0, u) else if (60 : Int32) ≤ (u 1 0) then (u 1 0, u) else ((u 1 0) + (1 : Int32), upA (upA u 0 ((u 1 0).toNatClampNeg) p0) 1 0 ((u 1 0) + (1 : Int32)))
set_option maxHeartbeats 1000000 in
set_option maxRecDepth 100000 in
theorem c_X3_add (l : Launch) (dC : Nat → ClassId) (dI : Nat → Nat → Nat) (cI cZ cO : ClassId) (h0 : Nat) (q : Nat → Nat) (u : BS) (p0 : Int32) (sz : Nat) : Met l yX3_add wsX3_add rm_X3_add (va_Pc [.ref h0, .int p0] (fun U => U.heap.size = sz ∧ va_P (dC, dI) vwCl (TW cI cZ h0 q u) U.heap ∧ va_K (dC, dI) vwCl (TY cI cZ cO) U ∧ va_D (fun _ => True) (TW cI cZ h0 q u))) (kQw (some (.int (f_Tadd u p0).1)) (dC, dI) vwCl (TW cI cZ h0 q ((f_Tadd u p0).2)) (va_A (TW cI cZ h0 q u) sz)) 0 0 (va_A (TW cI cZ h0 q u) sz) := by
  refine kofW (cc := cX3_add) (maxL := 2) (ret := some .int) (by decide) rfl (Nat.le_of_ble_eq_true rfl) ?_
  intro p e s m args below meth c ls S hr hlk hnm hsz hP hK hD hS hA hl
  generalize hA0 : va_A (TW cI cZ h0 q u) sz = A0 at hD hS hA ⊢
  subst hsz
  obtain ⟨hx, hb, hml, hown, hts⟩ := id S
  have inX3 : ∀ w ∈ wsX30, w ∈ wsX3_add := fun w h => List.mem_cons_of_mem _ (List.mem_append_right _ h)
  have hl : lv_has ls 2 [(0, .ref h0), (1, .int p0)] := hl
  refine lv_aload_n hx hb dX3_add_0 rfl (lv_at hl 0 rfl) ?_
  refine va_get (D := (dC, dI)) (ci := 3) (v := .int (u 1 0)) (C := RX3) (T := TX3) (N := 2) hx hb hts inX3 hown hK hP 0 rfl rfl 1 (by decide) (hts (.fieldLink RX3 15 "BoardMetronomes$Text" "size" "I") (by decide +kernel)) (fun _ h9 => h9) rfl dX3_add_1 ?_
  refine lv_if_lt (tgt := 36) hx hb dX3_add_4 (by decide) (fun c_4 => ?_) (fun c_4 => ?_)
  · refine lv_aload_n hx hb dX3_add_36 rfl (lv_at hl 0 rfl) ?_
    refine va_get (D := (dC, dI)) (ci := 3) (v := .int (u 1 0)) (C := RX3) (T := TX3) (N := 2) hx hb hts inX3 hown hK hP 0 rfl rfl 1 (by decide) (hts (.fieldLink RX3 15 "BoardMetronomes$Text" "size" "I") (by decide +kernel)) (fun _ h9 => h9) rfl dX3_add_37 ?_
    have r1 : f_Tadd u p0 = (u 1 0, u) := by
      rw [f_Tadd, if_pos c_4]
    exact kw_i hx hb hr hlk hP hS dX3_add_40 (by rw [r1]) (by rw [r1])
  · refine lv_aload_n hx hb dX3_add_7 rfl (lv_at hl 0 rfl) ?_
    refine va_get (D := (dC, dI)) (ci := 3) (v := .int (u 1 0)) (C := RX3) (T := TX3) (N := 2) hx hb hts inX3 hown hK hP 0 rfl rfl 1 (by decide) (hts (.fieldLink RX3 15 "BoardMetronomes$Text" "size" "I") (by decide +kernel)) (fun _ h9 => h9) rfl dX3_add_8 ?_
    refine lv_bipush (v := (60 : Int32)) hx hb dX3_add_11 (by decide) ?_
    refine lv_icmp_ge (tgt := 36) hx hb dX3_add_13 (by decide) (fun c_13 => ?_) (fun c_13 => ?_)
    · refine lv_aload_n hx hb dX3_add_36 rfl (lv_at hl 0 rfl) ?_
      refine va_get (D := (dC, dI)) (ci := 3) (v := .int (u 1 0)) (C := RX3) (T := TX3) (N := 2) hx hb hts inX3 hown hK hP 0 rfl rfl 1 (by decide) (hts (.fieldLink RX3 15 "BoardMetronomes$Text" "size" "I") (by decide +kernel)) (fun _ h9 => h9) rfl dX3_add_37 ?_
      have r2 : f_Tadd u p0 = (u 1 0, u) := by
        rw [f_Tadd, if_neg c_4, if_pos c_13]
      exact kw_i hx hb hr hlk hP hS dX3_add_40 (by rw [r2]) (by rw [r2])
    · refine lv_aload_n hx hb dX3_add_16 rfl (lv_at hl 0 rfl) ?_
      refine va_get (D := (dC, dI)) (ci := 3) (v := .ref (q 0)) (C := RX3) (T := TX3) (N := 2) hx hb hts inX3 hown hK hP 0 rfl rfl 0 (by decide) (hts (.fieldLink RX3 9 "BoardMetronomes$Text" "signs" "[I") (by decide +kernel)) (fun _ h9 => h9) rfl dX3_add_17 ?_
      refine lv_aload_n hx hb dX3_add_20 rfl (lv_at hl 0 rfl) ?_
      refine va_get (D := (dC, dI)) (ci := 3) (v := .int (u 1 0)) (C := RX3) (T := TX3) (N := 2) hx hb hts inX3 hown hK hP 0 rfl rfl 1 (by decide) (hts (.fieldLink RX3 15 "BoardMetronomes$Text" "size" "I") (by decide +kernel)) (fun _ h9 => h9) rfl dX3_add_21 ?_
      refine lv_iload_n hx hb dX3_add_24 rfl (lv_at hl 1 rfl) ?_
      refine kv_iast (D := (dC, dI)) hx hb hK hP hD hS 1 0 rfl rfl (kin_of c_4 c_13 (by decide)) dX3_add_25 (fun H locs hP hD hS => ?_)
      have hP : va_P (dC, dI) vwCl (TW cI cZ h0 q (upA u 0 ((u 1 0).toNatClampNeg) p0)) H := Eq.mp (congrArg (fun w => va_P (dC, dI) vwCl w H) TW_a0) hP
      have hD : va_D A0 (TW cI cZ h0 q (upA u 0 ((u 1 0).toNatClampNeg) p0)) := Eq.mp (congrArg (fun w => va_D A0 w) TW_a0) hD
      refine lv_aload_n hx hb dX3_add_26 rfl (lv_at hl 0 rfl) ?_
      refine lv_dup hx hb dX3_add_27 rfl ?_
      refine va_get (D := (dC, dI)) (ci := 3) (v := .int (u 1 0)) (C := RX3) (T := TX3) (N := 2) hx hb hts inX3 hown hK hP 0 rfl rfl 1 (by decide) (hts (.fieldLink RX3 15 "BoardMetronomes$Text" "size" "I") (by decide +kernel)) (fun _ h9 => h9) (congrArg (fun z => some (Value.int z)) (show (upA u 0 ((u 1 0).toNatClampNeg) p0) 1 0 = u 1 0 by rw [upA_o (show (1 : Nat) ≠ 0 by decide)])) dX3_add_28 ?_
      refine lv_iconst (v := (1 : Int32)) hx hb dX3_add_31 (by decide) ?_
      refine lv_iadd hx hb dX3_add_32 ?_
      refine va_put (D := (dC, dI)) (ci := 3) (v := .int ((u 1 0) + (1 : Int32))) (ty := .int) (C := RX3) (T := TX3) (N := 2) hx hb hts inX3 tyX3 tyX3_ok nmX3 hown hK hP hD hS 0 rfl rfl 1 (by decide) (hts (.fieldLink RX3 15 "BoardMetronomes$Text" "size" "I") (by decide +kernel)) (fun _ h9 => h9) rfl (by decide +kernel) rfl rfl (Nat.le_of_ble_eq_true rfl) dX3_add_33 (fun H locs hP hD hS => ?_)
      have hP : va_P (dC, dI) vwCl (TW cI cZ h0 q (upA (upA u 0 ((u 1 0).toNatClampNeg) p0) 1 0 ((u 1 0) + (1 : Int32)))) H := Eq.mp (congrArg (fun w => va_P (dC, dI) vwCl w H) TW_s1) hP
      have hD : va_D A0 (TW cI cZ h0 q (upA (upA u 0 ((u 1 0).toNatClampNeg) p0) 1 0 ((u 1 0) + (1 : Int32)))) := Eq.mp (congrArg (fun w => va_D A0 w) TW_s1) hD
      refine lv_aload_n hx hb dX3_add_36 rfl (lv_at hl 0 rfl) ?_
      refine va_get (D := (dC, dI)) (ci := 3) (v := .int ((u 1 0) + (1 : Int32))) (C := RX3) (T := TX3) (N := 2) hx hb hts inX3 hown hK hP 0 rfl rfl 1 (by decide) (hts (.fieldLink RX3 15 "BoardMetronomes$Text" "size" "I") (by decide +kernel)) (fun _ h9 => h9) (congrArg (fun z => some (Value.int z)) (show (upA (upA u 0 ((u 1 0).toNatClampNeg) p0) 1 0 ((u 1 0) + (1 : Int32))) 1 0 = (u 1 0) + (1 : Int32) by rw [upA_s])) dX3_add_37 ?_
      have r3 : f_Tadd u p0 = ((u 1 0) + (1 : Int32), upA (upA u 0 ((u 1 0).toNatClampNeg) p0) 1 0 ((u 1 0) + (1 : Int32))) := by
        rw [f_Tadd, if_neg c_4, if_neg c_13]
      exact kw_i hx hb hr hlk hP hS dX3_add_40 (by rw [r3]) (by rw [r3])

def rm_X3_empty : Room := { frames := 0, cells := 0, slots := 0, locals := 0 }
theorem mi_X3_empty : kM yX3_empty wsX3_empty cX3_empty 2 (some .int) 0 := ⟨⟨_, rfl⟩, by decide, by decide, by decide +kernel⟩
def f_Tempty (u : BS) : Int32 × BS := (u 1 0, upA u 1 0 (0 : Int32))
set_option maxHeartbeats 1000000 in
set_option maxRecDepth 100000 in
theorem c_X3_empty (l : Launch) (dC : Nat → ClassId) (dI : Nat → Nat → Nat) (cI cZ cO : ClassId) (h0 : Nat) (q : Nat → Nat) (u : BS) (sz : Nat) : Met l yX3_empty wsX3_empty rm_X3_empty (va_Pc [.ref h0] (fun U => U.heap.size = sz ∧ va_P (dC, dI) vwCl (TW cI cZ h0 q u) U.heap ∧ va_K (dC, dI) vwCl (TY cI cZ cO) U ∧ va_D (fun _ => True) (TW cI cZ h0 q u))) (kQw (some (.int (f_Tempty u).1)) (dC, dI) vwCl (TW cI cZ h0 q ((f_Tempty u).2)) (va_A (TW cI cZ h0 q u) sz)) 0 0 (va_A (TW cI cZ h0 q u) sz) := by
  refine kofW (cc := cX3_empty) (maxL := 2) (ret := some .int) (by decide) rfl (Nat.le_of_ble_eq_true rfl) ?_
  intro p e s m args below meth c ls S hr hlk hnm hsz hP hK hD hS hA hl
  generalize hA0 : va_A (TW cI cZ h0 q u) sz = A0 at hD hS hA ⊢
  subst hsz
  obtain ⟨hx, hb, hml, hown, hts⟩ := id S
  have inX3 : ∀ w ∈ wsX30, w ∈ wsX3_empty := fun w h => List.mem_cons_of_mem _ (List.mem_append_right _ h)
  have hl : lv_has ls 2 [(0, .ref h0)] := hl
  refine lv_aload_n hx hb dX3_empty_0 rfl (lv_at hl 0 rfl) ?_
  refine va_get (D := (dC, dI)) (ci := 3) (v := .int (u 1 0)) (C := RX3) (T := TX3) (N := 2) hx hb hts inX3 hown hK hP 0 rfl rfl 1 (by decide) (hts (.fieldLink RX3 15 "BoardMetronomes$Text" "size" "I") (by decide +kernel)) (fun _ h9 => h9) rfl dX3_empty_1 ?_
  refine lv_istore_n (lv' := [(1, .int (u 1 0)), (0, .ref h0)]) hx hb dX3_empty_4 rfl hl (by decide) rfl (fun ls hl => ?_)
  refine lv_aload_n hx hb dX3_empty_5 rfl (lv_at hl 1 rfl) ?_
  refine lv_iconst (v := (0 : Int32)) hx hb dX3_empty_6 (by decide) ?_
  refine va_put (D := (dC, dI)) (ci := 3) (v := .int (0 : Int32)) (ty := .int) (C := RX3) (T := TX3) (N := 2) hx hb hts inX3 tyX3 tyX3_ok nmX3 hown hK hP hD hS 0 rfl rfl 1 (by decide) (hts (.fieldLink RX3 15 "BoardMetronomes$Text" "size" "I") (by decide +kernel)) (fun _ h9 => h9) rfl (by decide +kernel) rfl rfl (Nat.le_of_ble_eq_true rfl) dX3_empty_7 (fun H locs hP hD hS => ?_)
  have hP : va_P (dC, dI) vwCl (TW cI cZ h0 q (upA u 1 0 (0 : Int32))) H := Eq.mp (congrArg (fun w => va_P (dC, dI) vwCl w H) TW_s1) hP
  have hD : va_D A0 (TW cI cZ h0 q (upA u 1 0 (0 : Int32))) := Eq.mp (congrArg (fun w => va_D A0 w) TW_s1) hD
  refine lv_iload_n hx hb dX3_empty_10 rfl (lv_at hl 0 rfl) ?_
  have r1 : f_Tempty u = (u 1 0, upA u 1 0 (0 : Int32)) := by
    rw [f_Tempty]
  exact kw_i hx hb hr hlk hP hS dX3_empty_11 (by rw [r1]) (by rw [r1])

def rm_X1_kind : Room := { frames := 0, cells := 0, slots := 0, locals := 0 }
theorem mi_X1_kind : kM yX1_kind wsX1_kind cX1_kind 1 (some .int) 0 := ⟨⟨_, rfl⟩, by decide, by decide, by decide +kernel⟩
def f_Rkind (u : BS) : Int32 := u 5 0
set_option maxHeartbeats 1000000 in
set_option maxRecDepth 100000 in
theorem c_X1_kind (l : Launch) (dC : Nat → ClassId) (dI : Nat → Nat → Nat) (cI cZ cO : ClassId) (h0 : Nat) (q : Nat → Nat) (u : BS) : Met l yX1_kind wsX1_kind rm_X1_kind (va_Pc [.ref h0] (fun U => va_P (dC, dI) vwCl (RW cI cZ h0 q u) U.heap ∧ va_K (dC, dI) vwCl (TY cI cZ cO) U)) (kQ (some (.int (f_Rkind u)))) 0 0 (fun _ => False) := by
  refine kofR (cc := cX1_kind) (maxL := 1) (ret := some .int) (by decide) rfl (Nat.le_of_ble_eq_true rfl) ?_
  intro p e s m args below meth c ls S hr hlk hP hK hl
  obtain ⟨hx, hb, hml, hown, hts⟩ := id S
  have inX1 : ∀ w ∈ wsX10, w ∈ wsX1_kind := fun w h => List.mem_cons_of_mem _ (List.mem_append_right _ h)
  have hl : lv_has ls 1 [(0, .ref h0)] := hl
  refine lv_aload_n hx hb dX1_kind_0 rfl (lv_at hl 0 rfl) ?_
  refine va_get (D := (dC, dI)) (ci := 1) (v := .int (u 5 0)) (C := RX1) (T := TX1) (N := 10) hx hb hts inX1 hown hK hP 0 rfl rfl 5 (by decide) (hts (.fieldLink RX1 15 "BoardMetronomes$OrderReader" "kind" "I") (by decide +kernel)) (fun _ h9 => h9) rfl dX1_kind_1 ?_
  have r1 : f_Rkind u = u 5 0 := by
    rw [f_Rkind]
  exact kr_i hx hb hr hlk dX1_kind_4 r1.symm

def rm_X1_beat : Room := { frames := 0, cells := 0, slots := 0, locals := 0 }
theorem mi_X1_beat : kM yX1_beat wsX1_beat cX1_beat 1 (some .int) 0 := ⟨⟨_, rfl⟩, by decide, by decide, by decide +kernel⟩
def f_Rbeat (u : BS) : Int32 := u 6 0
set_option maxHeartbeats 1000000 in
set_option maxRecDepth 100000 in
theorem c_X1_beat (l : Launch) (dC : Nat → ClassId) (dI : Nat → Nat → Nat) (cI cZ cO : ClassId) (h0 : Nat) (q : Nat → Nat) (u : BS) : Met l yX1_beat wsX1_beat rm_X1_beat (va_Pc [.ref h0] (fun U => va_P (dC, dI) vwCl (RW cI cZ h0 q u) U.heap ∧ va_K (dC, dI) vwCl (TY cI cZ cO) U)) (kQ (some (.int (f_Rbeat u)))) 0 0 (fun _ => False) := by
  refine kofR (cc := cX1_beat) (maxL := 1) (ret := some .int) (by decide) rfl (Nat.le_of_ble_eq_true rfl) ?_
  intro p e s m args below meth c ls S hr hlk hP hK hl
  obtain ⟨hx, hb, hml, hown, hts⟩ := id S
  have inX1 : ∀ w ∈ wsX10, w ∈ wsX1_beat := fun w h => List.mem_cons_of_mem _ (List.mem_append_right _ h)
  have hl : lv_has ls 1 [(0, .ref h0)] := hl
  refine lv_aload_n hx hb dX1_beat_0 rfl (lv_at hl 0 rfl) ?_
  refine va_get (D := (dC, dI)) (ci := 1) (v := .int (u 6 0)) (C := RX1) (T := TX1) (N := 10) hx hb hts inX1 hown hK hP 0 rfl rfl 6 (by decide) (hts (.fieldLink RX1 18 "BoardMetronomes$OrderReader" "beat" "I") (by decide +kernel)) (fun _ h9 => h9) rfl dX1_beat_1 ?_
  have r1 : f_Rbeat u = u 6 0 := by
    rw [f_Rbeat]
  exact kr_i hx hb hr hlk dX1_beat_4 r1.symm

def rm_X1_phase : Room := { frames := 0, cells := 0, slots := 0, locals := 0 }
theorem mi_X1_phase : kM yX1_phase wsX1_phase cX1_phase 1 (some .int) 0 := ⟨⟨_, rfl⟩, by decide, by decide, by decide +kernel⟩
def f_Rphase (u : BS) : Int32 := u 7 0
set_option maxHeartbeats 1000000 in
set_option maxRecDepth 100000 in
theorem c_X1_phase (l : Launch) (dC : Nat → ClassId) (dI : Nat → Nat → Nat) (cI cZ cO : ClassId) (h0 : Nat) (q : Nat → Nat) (u : BS) : Met l yX1_phase wsX1_phase rm_X1_phase (va_Pc [.ref h0] (fun U => va_P (dC, dI) vwCl (RW cI cZ h0 q u) U.heap ∧ va_K (dC, dI) vwCl (TY cI cZ cO) U)) (kQ (some (.int (f_Rphase u)))) 0 0 (fun _ => False) := by
  refine kofR (cc := cX1_phase) (maxL := 1) (ret := some .int) (by decide) rfl (Nat.le_of_ble_eq_true rfl) ?_
  intro p e s m args below meth c ls S hr hlk hP hK hl
  obtain ⟨hx, hb, hml, hown, hts⟩ := id S
  have inX1 : ∀ w ∈ wsX10, w ∈ wsX1_phase := fun w h => List.mem_cons_of_mem _ (List.mem_append_right _ h)
  have hl : lv_has ls 1 [(0, .ref h0)] := hl
  refine lv_aload_n hx hb dX1_phase_0 rfl (lv_at hl 0 rfl) ?_
  refine va_get (D := (dC, dI)) (ci := 1) (v := .int (u 7 0)) (C := RX1) (T := TX1) (N := 10) hx hb hts inX1 hown hK hP 0 rfl rfl 7 (by decide) (hts (.fieldLink RX1 21 "BoardMetronomes$OrderReader" "phase" "I") (by decide +kernel)) (fun _ h9 => h9) rfl dX1_phase_1 ?_
  have r1 : f_Rphase u = u 7 0 := by
    rw [f_Rphase]
  exact kr_i hx hb hr hlk dX1_phase_4 r1.symm

def rm_X1_spring : Room := { frames := 0, cells := 0, slots := 0, locals := 0 }
theorem mi_X1_spring : kM yX1_spring wsX1_spring cX1_spring 1 (some .int) 0 := ⟨⟨_, rfl⟩, by decide, by decide, by decide +kernel⟩
def f_Rspring (u : BS) : Int32 := u 8 0
set_option maxHeartbeats 1000000 in
set_option maxRecDepth 100000 in
theorem c_X1_spring (l : Launch) (dC : Nat → ClassId) (dI : Nat → Nat → Nat) (cI cZ cO : ClassId) (h0 : Nat) (q : Nat → Nat) (u : BS) : Met l yX1_spring wsX1_spring rm_X1_spring (va_Pc [.ref h0] (fun U => va_P (dC, dI) vwCl (RW cI cZ h0 q u) U.heap ∧ va_K (dC, dI) vwCl (TY cI cZ cO) U)) (kQ (some (.int (f_Rspring u)))) 0 0 (fun _ => False) := by
  refine kofR (cc := cX1_spring) (maxL := 1) (ret := some .int) (by decide) rfl (Nat.le_of_ble_eq_true rfl) ?_
  intro p e s m args below meth c ls S hr hlk hP hK hl
  obtain ⟨hx, hb, hml, hown, hts⟩ := id S
  have inX1 : ∀ w ∈ wsX10, w ∈ wsX1_spring := fun w h => List.mem_cons_of_mem _ (List.mem_append_right _ h)
  have hl : lv_has ls 1 [(0, .ref h0)] := hl
  refine lv_aload_n hx hb dX1_spring_0 rfl (lv_at hl 0 rfl) ?_
  refine va_get (D := (dC, dI)) (ci := 1) (v := .int (u 8 0)) (C := RX1) (T := TX1) (N := 10) hx hb hts inX1 hown hK hP 0 rfl rfl 8 (by decide) (hts (.fieldLink RX1 24 "BoardMetronomes$OrderReader" "spring" "I") (by decide +kernel)) (fun _ h9 => h9) rfl dX1_spring_1 ?_
  have r1 : f_Rspring u = u 8 0 := by
    rw [f_Rspring]
  exact kr_i hx hb hr hlk dX1_spring_4 r1.symm

def rm_X1_number : Room := { frames := 0, cells := 0, slots := 0, locals := 0 }
theorem mi_X1_number : kM yX1_number wsX1_number cX1_number 1 (some .int) 0 := ⟨⟨_, rfl⟩, by decide, by decide, by decide +kernel⟩
def f_Rnumber (u : BS) : Int32 := u 9 0
set_option maxHeartbeats 1000000 in
set_option maxRecDepth 100000 in
theorem c_X1_number (l : Launch) (dC : Nat → ClassId) (dI : Nat → Nat → Nat) (cI cZ cO : ClassId) (h0 : Nat) (q : Nat → Nat) (u : BS) : Met l yX1_number wsX1_number rm_X1_number (va_Pc [.ref h0] (fun U => va_P (dC, dI) vwCl (RW cI cZ h0 q u) U.heap ∧ va_K (dC, dI) vwCl (TY cI cZ cO) U)) (kQ (some (.int (f_Rnumber u)))) 0 0 (fun _ => False) := by
  refine kofR (cc := cX1_number) (maxL := 1) (ret := some .int) (by decide) rfl (Nat.le_of_ble_eq_true rfl) ?_
  intro p e s m args below meth c ls S hr hlk hP hK hl
  obtain ⟨hx, hb, hml, hown, hts⟩ := id S
  have inX1 : ∀ w ∈ wsX10, w ∈ wsX1_number := fun w h => List.mem_cons_of_mem _ (List.mem_append_right _ h)
  have hl : lv_has ls 1 [(0, .ref h0)] := hl
  refine lv_aload_n hx hb dX1_number_0 rfl (lv_at hl 0 rfl) ?_
  refine va_get (D := (dC, dI)) (ci := 1) (v := .int (u 9 0)) (C := RX1) (T := TX1) (N := 10) hx hb hts inX1 hown hK hP 0 rfl rfl 9 (by decide) (hts (.fieldLink RX1 27 "BoardMetronomes$OrderReader" "number" "I") (by decide +kernel)) (fun _ h9 => h9) rfl dX1_number_1 ?_
  have r1 : f_Rnumber u = u 9 0 := by
    rw [f_Rnumber]
  exact kr_i hx hb hr hlk dX1_number_4 r1.symm

def rm_X1_beginText : Room := { frames := 0, cells := 0, slots := 0, locals := 0 }
theorem mi_X1_beginText : kM yX1_beginText wsX1_beginText cX1_beginText 1 none 0 := ⟨⟨_, rfl⟩, by decide, by decide, by decide +kernel⟩
def f_RbeginText (u : BS) : BS := upA u 0 0 (0 : Int32)
set_option maxHeartbeats 1000000 in
set_option maxRecDepth 100000 in
theorem c_X1_beginText (l : Launch) (dC : Nat → ClassId) (dI : Nat → Nat → Nat) (cI cZ cO : ClassId) (h0 : Nat) (q : Nat → Nat) (u : BS) (sz : Nat) : Met l yX1_beginText wsX1_beginText rm_X1_beginText (va_Pc [.ref h0] (fun U => U.heap.size = sz ∧ va_P (dC, dI) vwCl (RW cI cZ h0 q u) U.heap ∧ va_K (dC, dI) vwCl (TY cI cZ cO) U ∧ va_D (fun _ => True) (RW cI cZ h0 q u))) (kQw none (dC, dI) vwCl (RW cI cZ h0 q (f_RbeginText u)) (va_A (RW cI cZ h0 q u) sz)) 0 0 (va_A (RW cI cZ h0 q u) sz) := by
  refine kofW (cc := cX1_beginText) (maxL := 1) (ret := none) (by decide) rfl (Nat.le_of_ble_eq_true rfl) ?_
  intro p e s m args below meth c ls S hr hlk hnm hsz hP hK hD hS hA hl
  generalize hA0 : va_A (RW cI cZ h0 q u) sz = A0 at hD hS hA ⊢
  subst hsz
  obtain ⟨hx, hb, hml, hown, hts⟩ := id S
  have inX1 : ∀ w ∈ wsX10, w ∈ wsX1_beginText := fun w h => List.mem_cons_of_mem _ (List.mem_append_right _ h)
  have hl : lv_has ls 1 [(0, .ref h0)] := hl
  refine lv_aload_n hx hb dX1_beginText_0 rfl (lv_at hl 0 rfl) ?_
  refine lv_iconst (v := (0 : Int32)) hx hb dX1_beginText_1 (by decide) ?_
  refine va_put (D := (dC, dI)) (ci := 1) (v := .int (0 : Int32)) (ty := .int) (C := RX1) (T := TX1) (N := 10) hx hb hts inX1 tyX1 tyX1_ok nmX1 hown hK hP hD hS 0 rfl rfl 0 (by decide) (hts (.fieldLink RX1 11 "BoardMetronomes$OrderReader" "place" "I") (by decide +kernel)) (fun _ h9 => h9) rfl (by decide +kernel) rfl rfl (Nat.le_of_ble_eq_true rfl) dX1_beginText_2 (fun H locs hP hD hS => ?_)
  have hP : va_P (dC, dI) vwCl (RW cI cZ h0 q (upA u 0 0 (0 : Int32))) H := Eq.mp (congrArg (fun w => va_P (dC, dI) vwCl w H) RW_s0) hP
  have hD : va_D A0 (RW cI cZ h0 q (upA u 0 0 (0 : Int32))) := Eq.mp (congrArg (fun w => va_D A0 w) RW_s0) hD
  have r1 : f_RbeginText u = upA u 0 0 (0 : Int32) := by
    rw [f_RbeginText]
  exact kw_v hx hb hr hlk hP hS dX1_beginText_5 (by rw [r1])

def rm_X1_expectNumber : Room := { frames := 0, cells := 0, slots := 0, locals := 0 }
theorem mi_X1_expectNumber : kM yX1_expectNumber wsX1_expectNumber cX1_expectNumber 4 (some .boolean) 3 := ⟨⟨_, rfl⟩, by decide, by decide, by decide +kernel⟩
def f_RexpectNumber (u : BS) (p0 : Int32) (p1 : Int32) (p2 : Int32) : Bool × BS := (true, upA (upA (upA (upA (upA u 0 0 p0) 1 0 p1) 2 0 p2) 3 0 (0 : Int32)) 4 0 (0 : Int32))
set_option maxHeartbeats 1000000 in
set_option maxRecDepth 100000 in
theorem c_X1_expectNumber (l : Launch) (dC : Nat → ClassId) (dI : Nat → Nat → Nat) (cI cZ cO : ClassId) (h0 : Nat) (q : Nat → Nat) (u : BS) (p0 : Int32) (p1 : Int32) (p2 : Int32) (sz : Nat) : Met l yX1_expectNumber wsX1_expectNumber rm_X1_expectNumber (va_Pc [.ref h0, .int p0, .int p1, .int p2] (fun U => U.heap.size = sz ∧ va_P (dC, dI) vwCl (RW cI cZ h0 q u) U.heap ∧ va_K (dC, dI) vwCl (TY cI cZ cO) U ∧ va_D (fun _ => True) (RW cI cZ h0 q u))) (kQw (some (.int (bI (f_RexpectNumber u p0 p1 p2).1))) (dC, dI) vwCl (RW cI cZ h0 q ((f_RexpectNumber u p0 p1 p2).2)) (va_A (RW cI cZ h0 q u) sz)) 0 0 (va_A (RW cI cZ h0 q u) sz) := by
  refine kofW (cc := cX1_expectNumber) (maxL := 4) (ret := some .boolean) (by decide) rfl (Nat.le_of_ble_eq_true rfl) ?_
  intro p e s m args below meth c ls S hr hlk hnm hsz hP hK hD hS hA hl
  generalize hA0 : va_A (RW cI cZ h0 q u) sz = A0 at hD hS hA ⊢
  subst hsz
  obtain ⟨hx, hb, hml, hown, hts⟩ := id S
  have inX1 : ∀ w ∈ wsX10, w ∈ wsX1_expectNumber := fun w h => List.mem_cons_of_mem _ (List.mem_append_right _ h)
  have hl : lv_has ls 4 [(0, .ref h0), (1, .int p0), (2, .int p1), (3, .int p2)] := hl
  refine lv_aload_n hx hb dX1_expectNumber_0 rfl (lv_at hl 0 rfl) ?_
  refine lv_iload_n hx hb dX1_expectNumber_1 rfl (lv_at hl 1 rfl) ?_
  refine va_put (D := (dC, dI)) (ci := 1) (v := .int p0) (ty := .int) (C := RX1) (T := TX1) (N := 10) hx hb hts inX1 tyX1 tyX1_ok nmX1 hown hK hP hD hS 0 rfl rfl 0 (by decide) (hts (.fieldLink RX1 11 "BoardMetronomes$OrderReader" "place" "I") (by decide +kernel)) (fun _ h9 => h9) rfl (by decide +kernel) rfl rfl (Nat.le_of_ble_eq_true rfl) dX1_expectNumber_2 (fun H locs hP hD hS => ?_)
  have hP : va_P (dC, dI) vwCl (RW cI cZ h0 q (upA u 0 0 p0)) H := Eq.mp (congrArg (fun w => va_P (dC, dI) vwCl w H) RW_s0) hP
  have hD : va_D A0 (RW cI cZ h0 q (upA u 0 0 p0)) := Eq.mp (congrArg (fun w => va_D A0 w) RW_s0) hD
  refine lv_aload_n hx hb dX1_expectNumber_5 rfl (lv_at hl 0 rfl) ?_
  refine lv_iload_n hx hb dX1_expectNumber_6 rfl (lv_at hl 2 rfl) ?_
  refine va_put (D := (dC, dI)) (ci := 1) (v := .int p1) (ty := .int) (C := RX1) (T := TX1) (N := 10) hx hb hts inX1 tyX1 tyX1_ok nmX1 hown hK hP hD hS 0 rfl rfl 1 (by decide) (hts (.fieldLink RX1 43 "BoardMetronomes$OrderReader" "lowest" "I") (by decide +kernel)) (fun _ h9 => h9) rfl (by decide +kernel) rfl rfl (Nat.le_of_ble_eq_true rfl) dX1_expectNumber_7 (fun H locs hP hD hS => ?_)
  have hP : va_P (dC, dI) vwCl (RW cI cZ h0 q (upA (upA u 0 0 p0) 1 0 p1)) H := Eq.mp (congrArg (fun w => va_P (dC, dI) vwCl w H) RW_s1) hP
  have hD : va_D A0 (RW cI cZ h0 q (upA (upA u 0 0 p0) 1 0 p1)) := Eq.mp (congrArg (fun w => va_D A0 w) RW_s1) hD
  refine lv_aload_n hx hb dX1_expectNumber_10 rfl (lv_at hl 0 rfl) ?_
  refine lv_iload_n hx hb dX1_expectNumber_11 rfl (lv_at hl 3 rfl) ?_
  refine va_put (D := (dC, dI)) (ci := 1) (v := .int p2) (ty := .int) (C := RX1) (T := TX1) (N := 10) hx hb hts inX1 tyX1 tyX1_ok nmX1 hown hK hP hD hS 0 rfl rfl 2 (by decide) (hts (.fieldLink RX1 53 "BoardMetronomes$OrderReader" "highest" "I") (by decide +kernel)) (fun _ h9 => h9) rfl (by decide +kernel) rfl rfl (Nat.le_of_ble_eq_true rfl) dX1_expectNumber_12 (fun H locs hP hD hS => ?_)
  have hP : va_P (dC, dI) vwCl (RW cI cZ h0 q (upA (upA (upA u 0 0 p0) 1 0 p1) 2 0 p2)) H := Eq.mp (congrArg (fun w => va_P (dC, dI) vwCl w H) RW_s2) hP
  have hD : va_D A0 (RW cI cZ h0 q (upA (upA (upA u 0 0 p0) 1 0 p1) 2 0 p2)) := Eq.mp (congrArg (fun w => va_D A0 w) RW_s2) hD
  refine lv_aload_n hx hb dX1_expectNumber_15 rfl (lv_at hl 0 rfl) ?_
  refine lv_iconst (v := (0 : Int32)) hx hb dX1_expectNumber_16 (by decide) ?_
  refine va_put (D := (dC, dI)) (ci := 1) (v := .int (0 : Int32)) (ty := .int) (C := RX1) (T := TX1) (N := 10) hx hb hts inX1 tyX1 tyX1_ok nmX1 hown hK hP hD hS 0 rfl rfl 3 (by decide) (hts (.fieldLink RX1 40 "BoardMetronomes$OrderReader" "value" "I") (by decide +kernel)) (fun _ h9 => h9) rfl (by decide +kernel) rfl rfl (Nat.le_of_ble_eq_true rfl) dX1_expectNumber_17 (fun H locs hP hD hS => ?_)
  have hP : va_P (dC, dI) vwCl (RW cI cZ h0 q (upA (upA (upA (upA u 0 0 p0) 1 0 p1) 2 0 p2) 3 0 (0 : Int32))) H := Eq.mp (congrArg (fun w => va_P (dC, dI) vwCl w H) RW_s3) hP
  have hD : va_D A0 (RW cI cZ h0 q (upA (upA (upA (upA u 0 0 p0) 1 0 p1) 2 0 p2) 3 0 (0 : Int32))) := Eq.mp (congrArg (fun w => va_D A0 w) RW_s3) hD
  refine lv_aload_n hx hb dX1_expectNumber_20 rfl (lv_at hl 0 rfl) ?_
  refine lv_iconst (v := (0 : Int32)) hx hb dX1_expectNumber_21 (by decide) ?_
  refine va_put (D := (dC, dI)) (ci := 1) (v := .int (0 : Int32)) (ty := .int) (C := RX1) (T := TX1) (N := 10) hx hb hts inX1 tyX1 tyX1_ok nmX1 hown hK hP hD hS 0 rfl rfl 4 (by decide) (hts (.fieldLink RX1 37 "BoardMetronomes$OrderReader" "digits" "I") (by decide +kernel)) (fun _ h9 => h9) rfl (by decide +kernel) rfl rfl (Nat.le_of_ble_eq_true rfl) dX1_expectNumber_22 (fun H locs hP hD hS => ?_)
  have hP : va_P (dC, dI) vwCl (RW cI cZ h0 q (upA (upA (upA (upA (upA u 0 0 p0) 1 0 p1) 2 0 p2) 3 0 (0 : Int32)) 4 0 (0 : Int32))) H := Eq.mp (congrArg (fun w => va_P (dC, dI) vwCl w H) RW_s4) hP
  have hD : va_D A0 (RW cI cZ h0 q (upA (upA (upA (upA (upA u 0 0 p0) 1 0 p1) 2 0 p2) 3 0 (0 : Int32)) 4 0 (0 : Int32))) := Eq.mp (congrArg (fun w => va_D A0 w) RW_s4) hD
  refine lv_iconst (v := (1 : Int32)) hx hb dX1_expectNumber_25 (by decide) ?_
  have r1 : f_RexpectNumber u p0 p1 p2 = (true, upA (upA (upA (upA (upA u 0 0 p0) 1 0 p1) 2 0 p2) 3 0 (0 : Int32)) 4 0 (0 : Int32)) := by
    rw [f_RexpectNumber]
  exact kw_z (x := true) hx hb hr hlk hP hS dX1_expectNumber_26 rfl (by rw [r1]) (by rw [r1])

def rm_X1_readsLetter : Room := { frames := 1, cells := 0, slots := 0, locals := 23 }
theorem mi_X1_readsLetter : kM yX1_readsLetter wsX1_readsLetter cX1_readsLetter 2 (some .boolean) 1 := ⟨⟨_, rfl⟩, by decide, by decide, by decide +kernel⟩
def f_RreadsLetter (u : BS) (p0 : Int32) : Bool × BS := if p0 = (104 : Int32) then (((f_RexpectNumber (upA u 5 0 p0) (4 : Int32) (0 : Int32) (5 : Int32)).1), (f_RexpectNumber (upA u 5 0 p0) (4 : Int32) (0 : Int32) (5 : Int32)).2) else if p0 = (109 : Int32) then (((f_RexpectNumber (upA u 5 0 p0) (1 : Int32) (40 : Int32) (208 : Int32)).1), (f_RexpectNumber (upA u 5 0 p0) (1 : Int32) (40 : Int32) (208 : Int32)).2) else if p0 = (115 : Int32) then (((f_RexpectNumber (upA u 5 0 p0) (4 : Int32) (1 : Int32) (500 : Int32)).1), (f_RexpectNumber (upA u 5 0 p0) (4 : Int32) (1 : Int32) (500 : Int32)).2) else (false, upA u 5 0 p0)
set_option maxHeartbeats 1000000 in
set_option maxRecDepth 100000 in
theorem c_X1_readsLetter (l : Launch) (dC : Nat → ClassId) (dI : Nat → Nat → Nat) (cI cZ cO : ClassId) (h0 : Nat) (q : Nat → Nat) (u : BS) (p0 : Int32) (sz : Nat) : Met l yX1_readsLetter wsX1_readsLetter rm_X1_readsLetter (va_Pc [.ref h0, .int p0] (fun U => U.heap.size = sz ∧ va_P (dC, dI) vwCl (RW cI cZ h0 q u) U.heap ∧ va_K (dC, dI) vwCl (TY cI cZ cO) U ∧ va_D (fun _ => True) (RW cI cZ h0 q u))) (kQw (some (.int (bI (f_RreadsLetter u p0).1))) (dC, dI) vwCl (RW cI cZ h0 q ((f_RreadsLetter u p0).2)) (va_A (RW cI cZ h0 q u) sz)) 0 0 (va_A (RW cI cZ h0 q u) sz) := by
  refine kofW (cc := cX1_readsLetter) (maxL := 2) (ret := some .boolean) (by decide) rfl (Nat.le_of_ble_eq_true rfl) ?_
  intro p e s m args below meth c ls S hr hlk hnm hsz hP hK hD hS hA hl
  generalize hA0 : va_A (RW cI cZ h0 q u) sz = A0 at hD hS hA ⊢
  subst hsz
  obtain ⟨hx, hb, hml, hown, hts⟩ := id S
  have inX1 : ∀ w ∈ wsX10, w ∈ wsX1_readsLetter := fun w h => List.mem_cons_of_mem _ (List.mem_append_right _ h)
  have hl : lv_has ls 2 [(0, .ref h0), (1, .int p0)] := hl
  refine lv_aload_n hx hb dX1_readsLetter_0 rfl (lv_at hl 0 rfl) ?_
  refine lv_iload_n hx hb dX1_readsLetter_1 rfl (lv_at hl 1 rfl) ?_
  refine va_put (D := (dC, dI)) (ci := 1) (v := .int p0) (ty := .int) (C := RX1) (T := TX1) (N := 10) hx hb hts inX1 tyX1 tyX1_ok nmX1 hown hK hP hD hS 0 rfl rfl 5 (by decide) (hts (.fieldLink RX1 15 "BoardMetronomes$OrderReader" "kind" "I") (by decide +kernel)) (fun _ h9 => h9) rfl (by decide +kernel) rfl rfl (Nat.le_of_ble_eq_true rfl) dX1_readsLetter_2 (fun H locs hP hD hS => ?_)
  have hP : va_P (dC, dI) vwCl (RW cI cZ h0 q (upA u 5 0 p0)) H := Eq.mp (congrArg (fun w => va_P (dC, dI) vwCl w H) RW_s5) hP
  have hD : va_D A0 (RW cI cZ h0 q (upA u 5 0 p0)) := Eq.mp (congrArg (fun w => va_D A0 w) RW_s5) hD
  refine lv_iload_n hx hb dX1_readsLetter_5 rfl (lv_at hl 1 rfl) ?_
  by_cases c_6_104 : p0 = (104 : Int32)
  · refine lv_lookup (off := 55) (tgt := 61) hx hb dX1_readsLetter_6 (by decide) (by rw [c_6_104]; rfl) (by decide) ?_
    refine lv_aload_n hx hb dX1_readsLetter_61 rfl (lv_at hl 0 rfl) ?_
    refine lv_iconst (v := (4 : Int32)) hx hb dX1_readsLetter_62 (by decide) ?_
    refine lv_iconst (v := (0 : Int32)) hx hb dX1_readsLetter_63 (by decide) ?_
    refine lv_iconst (v := (5 : Int32)) hx hb dX1_readsLetter_64 (by decide) ?_
    refine kc_w (As := [.int (4 : Int32), .int (0 : Int32), .int (5 : Int32)]) (rest := []) S (v := (some (.int (bI ((f_RexpectNumber (upA u 5 0 p0) (4 : Int32) (0 : Int32) (5 : Int32)).1))))) (c_X1_expectNumber l dC dI cI cZ cO h0 q (upA u 5 0 p0) (4 : Int32) (0 : Int32) (5 : Int32) H.size) gX1_readsLetter_X1_expectNumber mi_X1_expectNumber ⟨rfl, rfl⟩ ⟨Nat.le_of_ble_eq_true rfl, Nat.le_of_ble_eq_true rfl⟩ hK hP hD hS hA [0] RW_all RW_fst rfl 0 rfl rfl ⟨Nat.le_refl _, Nat.le_refl _⟩ dX1_readsLetter_65 rfl hl.1 rfl (Nat.le_of_ble_eq_true rfl) (fun H locs hP hD hS => ?_)
    have hP : va_P (dC, dI) vwCl (RW cI cZ h0 q ((f_RexpectNumber (upA u 5 0 p0) (4 : Int32) (0 : Int32) (5 : Int32)).2)) H := Eq.mp (congrArg (fun w => va_P (dC, dI) vwCl w H) RW_ks) hP
    have hD : va_D A0 (RW cI cZ h0 q ((f_RexpectNumber (upA u 5 0 p0) (4 : Int32) (0 : Int32) (5 : Int32)).2)) := Eq.mp (congrArg (fun w => va_D A0 w) RW_ks) hD
    have r1 : f_RreadsLetter u p0 = (((f_RexpectNumber (upA u 5 0 p0) (4 : Int32) (0 : Int32) (5 : Int32)).1), (f_RexpectNumber (upA u 5 0 p0) (4 : Int32) (0 : Int32) (5 : Int32)).2) := by
      rw [f_RreadsLetter, if_pos c_6_104]
    exact kw_z (x := ((f_RexpectNumber (upA u 5 0 p0) (4 : Int32) (0 : Int32) (5 : Int32)).1)) hx hb hr hlk hP hS dX1_readsLetter_68 rfl (by rw [r1]) (by rw [r1])
  by_cases c_6_109 : p0 = (109 : Int32)
  · refine lv_lookup (off := 34) (tgt := 40) hx hb dX1_readsLetter_6 (by decide) (by rw [c_6_109]; rfl) (by decide) ?_
    refine lv_aload_n hx hb dX1_readsLetter_40 rfl (lv_at hl 0 rfl) ?_
    refine lv_iconst (v := (1 : Int32)) hx hb dX1_readsLetter_41 (by decide) ?_
    refine lv_bipush (v := (40 : Int32)) hx hb dX1_readsLetter_42 (by decide) ?_
    refine lv_sipush (v := (208 : Int32)) hx hb dX1_readsLetter_44 (by decide) ?_
    refine kc_w (As := [.int (1 : Int32), .int (40 : Int32), .int (208 : Int32)]) (rest := []) S (v := (some (.int (bI ((f_RexpectNumber (upA u 5 0 p0) (1 : Int32) (40 : Int32) (208 : Int32)).1))))) (c_X1_expectNumber l dC dI cI cZ cO h0 q (upA u 5 0 p0) (1 : Int32) (40 : Int32) (208 : Int32) H.size) gX1_readsLetter_X1_expectNumber mi_X1_expectNumber ⟨rfl, rfl⟩ ⟨Nat.le_of_ble_eq_true rfl, Nat.le_of_ble_eq_true rfl⟩ hK hP hD hS hA [0] RW_all RW_fst rfl 0 rfl rfl ⟨Nat.le_refl _, Nat.le_refl _⟩ dX1_readsLetter_47 rfl hl.1 rfl (Nat.le_of_ble_eq_true rfl) (fun H locs hP hD hS => ?_)
    have hP : va_P (dC, dI) vwCl (RW cI cZ h0 q ((f_RexpectNumber (upA u 5 0 p0) (1 : Int32) (40 : Int32) (208 : Int32)).2)) H := Eq.mp (congrArg (fun w => va_P (dC, dI) vwCl w H) RW_ks) hP
    have hD : va_D A0 (RW cI cZ h0 q ((f_RexpectNumber (upA u 5 0 p0) (1 : Int32) (40 : Int32) (208 : Int32)).2)) := Eq.mp (congrArg (fun w => va_D A0 w) RW_ks) hD
    have r2 : f_RreadsLetter u p0 = (((f_RexpectNumber (upA u 5 0 p0) (1 : Int32) (40 : Int32) (208 : Int32)).1), (f_RexpectNumber (upA u 5 0 p0) (1 : Int32) (40 : Int32) (208 : Int32)).2) := by
      rw [f_RreadsLetter, if_neg c_6_104, if_pos c_6_109]
    exact kw_z (x := ((f_RexpectNumber (upA u 5 0 p0) (1 : Int32) (40 : Int32) (208 : Int32)).1)) hx hb hr hlk hP hS dX1_readsLetter_50 rfl (by rw [r2]) (by rw [r2])
  by_cases c_6_115 : p0 = (115 : Int32)
  · refine lv_lookup (off := 45) (tgt := 51) hx hb dX1_readsLetter_6 (by decide) (by rw [c_6_115]; rfl) (by decide) ?_
    refine lv_aload_n hx hb dX1_readsLetter_51 rfl (lv_at hl 0 rfl) ?_
    refine lv_iconst (v := (4 : Int32)) hx hb dX1_readsLetter_52 (by decide) ?_
    refine lv_iconst (v := (1 : Int32)) hx hb dX1_readsLetter_53 (by decide) ?_
    refine lv_sipush (v := (500 : Int32)) hx hb dX1_readsLetter_54 (by decide) ?_
    refine kc_w (As := [.int (4 : Int32), .int (1 : Int32), .int (500 : Int32)]) (rest := []) S (v := (some (.int (bI ((f_RexpectNumber (upA u 5 0 p0) (4 : Int32) (1 : Int32) (500 : Int32)).1))))) (c_X1_expectNumber l dC dI cI cZ cO h0 q (upA u 5 0 p0) (4 : Int32) (1 : Int32) (500 : Int32) H.size) gX1_readsLetter_X1_expectNumber mi_X1_expectNumber ⟨rfl, rfl⟩ ⟨Nat.le_of_ble_eq_true rfl, Nat.le_of_ble_eq_true rfl⟩ hK hP hD hS hA [0] RW_all RW_fst rfl 0 rfl rfl ⟨Nat.le_refl _, Nat.le_refl _⟩ dX1_readsLetter_57 rfl hl.1 rfl (Nat.le_of_ble_eq_true rfl) (fun H locs hP hD hS => ?_)
    have hP : va_P (dC, dI) vwCl (RW cI cZ h0 q ((f_RexpectNumber (upA u 5 0 p0) (4 : Int32) (1 : Int32) (500 : Int32)).2)) H := Eq.mp (congrArg (fun w => va_P (dC, dI) vwCl w H) RW_ks) hP
    have hD : va_D A0 (RW cI cZ h0 q ((f_RexpectNumber (upA u 5 0 p0) (4 : Int32) (1 : Int32) (500 : Int32)).2)) := Eq.mp (congrArg (fun w => va_D A0 w) RW_ks) hD
    have r3 : f_RreadsLetter u p0 = (((f_RexpectNumber (upA u 5 0 p0) (4 : Int32) (1 : Int32) (500 : Int32)).1), (f_RexpectNumber (upA u 5 0 p0) (4 : Int32) (1 : Int32) (500 : Int32)).2) := by
      rw [f_RreadsLetter, if_neg c_6_104, if_neg c_6_109, if_pos c_6_115]
    exact kw_z (x := ((f_RexpectNumber (upA u 5 0 p0) (4 : Int32) (1 : Int32) (500 : Int32)).1)) hx hb hr hlk hP hS dX1_readsLetter_60 rfl (by rw [r3]) (by rw [r3])
  refine lv_lookup (off := 63) (tgt := 69) hx hb dX1_readsLetter_6 (by decide) (by rw [lv_osw (a := 104) (k := (104 : Int32)) c_6_104 (by decide)]; rw [lv_osw (a := 109) (k := (109 : Int32)) c_6_109 (by decide)]; rw [lv_osw (a := 115) (k := (115 : Int32)) c_6_115 (by decide)]; rfl) (by decide) ?_
  refine lv_iconst (v := (0 : Int32)) hx hb dX1_readsLetter_69 (by decide) ?_
  have r4 : f_RreadsLetter u p0 = (false, upA u 5 0 p0) := by
    rw [f_RreadsLetter, if_neg c_6_104, if_neg c_6_109, if_neg c_6_115]
  exact kw_z (x := false) hx hb hr hlk hP hS dX1_readsLetter_70 rfl (by rw [r4]) (by rw [r4])

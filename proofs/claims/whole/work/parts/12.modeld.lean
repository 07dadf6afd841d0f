def rm_X5_isAt : Room := { frames := 1, cells := 0, slots := 0, locals := 22 }
theorem mi_X5_isAt : kM yX5_isAt wsX5_isAt cX5_isAt 3 (some .boolean) 2 := ⟨⟨_, rfl⟩, by decide, by decide, by decide +kernel⟩
def f_MisAt (u : BS) (p0 : Int32) (p1 : Int32) : Bool := if (nI ((u 7 0).toNatClampNeg)) ≤ (nI ((u 9 0).toNatClampNeg)) then false else if (f_Min (u 6 ((u 9 0).toNatClampNeg)) p0 p1) = true then true else false
set_option maxHeartbeats 1000000 in
set_option maxRecDepth 100000 in
theorem c_X5_isAt (l : Launch) (dC : Nat → ClassId) (dI : Nat → Nat → Nat) (cI cZ cO : ClassId) (h0 : Nat) (q : Nat → Nat) (u : BS) (p0 : Int32) (p1 : Int32) (ha : vp_in (u 9 0) 61) (ht : vp_in (u 7 0) 61) : Met l yX5_isAt wsX5_isAt rm_X5_isAt (va_Pc [.ref h0, .int p0, .int p1] (fun U => va_P (dC, dI) vwCl (MW cI cZ h0 q u) U.heap ∧ va_K (dC, dI) vwCl (TY cI cZ cO) U)) (kQ (some (.int (bI (f_MisAt u p0 p1))))) 0 0 (fun _ => False) := by
  refine kofR (cc := cX5_isAt) (maxL := 3) (ret := some .boolean) (by decide) rfl (Nat.le_of_ble_eq_true rfl) ?_
  intro p e s m args below meth c ls S hr hlk hP hK hl
  obtain ⟨hx, hb, hml, hown, hts⟩ := id S
  have ha_n : (u 9 0).toNatClampNeg < 61 := vp_lt ha
  have ht_n : (u 7 0).toNatClampNeg < 61 := vp_lt ht
  have inX5 : ∀ w ∈ wsX50, w ∈ wsX5_isAt := fun w h => List.mem_cons_of_mem _ (List.mem_append_right _ h)
  have hl : lv_has ls 3 [(0, .ref h0), (1, .int p0), (2, .int p1)] := hl
  refine lv_aload_n hx hb dX5_isAt_0 rfl (lv_at hl 0 rfl) ?_
  refine va_get (D := (dC, dI)) (ci := 5) (v := .int (u 9 0)) (C := RX5) (T := TX5) (N := 14) hx hb hts inX5 hown hK hP 0 rfl rfl 9 (by decide) (hts (.fieldLink RX5 126 "BoardMetronomesModel" "at" "I") (by decide +kernel)) (fun _ h9 => h9) rfl dX5_isAt_1 ?_
  refine kt_i (kcl ha).symm ?_
  refine lv_aload_n hx hb dX5_isAt_4 rfl (lv_at hl 0 rfl) ?_
  refine va_get (D := (dC, dI)) (ci := 5) (v := .int (u 7 0)) (C := RX5) (T := TX5) (N := 14) hx hb hts inX5 hown hK hP 0 rfl rfl 7 (by decide) (hts (.fieldLink RX5 123 "BoardMetronomesModel" "typed" "I") (by decide +kernel)) (fun _ h9 => h9) rfl dX5_isAt_5 ?_
  refine kt_i (kcl ht).symm ?_
  refine lv_icmp_ge (tgt := 32) hx hb dX5_isAt_8 (by decide) (fun c_8 => ?_) (fun c_8 => ?_)
  · have c_8n : ((u 7 0).toNatClampNeg) ≤ ((u 9 0).toNatClampNeg) := (nI_leI (a := ((u 7 0).toNatClampNeg)) (b := ((u 9 0).toNatClampNeg)) (by omega) (by omega)).mp c_8
    refine lv_iconst (v := (0 : Int32)) hx hb dX5_isAt_32 (by decide) ?_
    have r1 : f_MisAt u p0 p1 = false := by
      rw [f_MisAt, if_pos c_8]
    exact kr_z (x := false) hx hb hr hlk dX5_isAt_33 rfl r1
  · have c_8n : ¬ ((u 7 0).toNatClampNeg) ≤ ((u 9 0).toNatClampNeg) := fun z => c_8 ((nI_leI (a := ((u 7 0).toNatClampNeg)) (b := ((u 9 0).toNatClampNeg)) (by omega) (by omega)).mpr z)
    refine lv_aload_n hx hb dX5_isAt_11 rfl (lv_at hl 0 rfl) ?_
    refine va_get (D := (dC, dI)) (ci := 5) (v := .ref (q 6)) (C := RX5) (T := TX5) (N := 14) hx hb hts inX5 hown hK hP 0 rfl rfl 6 (by decide) (hts (.fieldLink RX5 26 "BoardMetronomesModel" "text" "[I") (by decide +kernel)) (fun _ h9 => h9) rfl dX5_isAt_12 ?_
    refine lv_aload_n hx hb dX5_isAt_15 rfl (lv_at hl 0 rfl) ?_
    refine va_get (D := (dC, dI)) (ci := 5) (v := .int (u 9 0)) (C := RX5) (T := TX5) (N := 14) hx hb hts inX5 hown hK hP 0 rfl rfl 9 (by decide) (hts (.fieldLink RX5 126 "BoardMetronomesModel" "at" "I") (by decide +kernel)) (fun _ h9 => h9) rfl dX5_isAt_16 ?_
    refine kt_i (kcl ha).symm ?_
    refine k_iald (D := (dC, dI)) hx hb hK hP 6 0 rfl rfl (j := ((u 9 0).toNatClampNeg)) (by omega) (by decide) dX5_isAt_19 ?_
    refine lv_iload_n hx hb dX5_isAt_20 rfl (lv_at hl 1 rfl) ?_
    refine lv_iload_n hx hb dX5_isAt_21 rfl (lv_at hl 2 rfl) ?_
    refine kc_p (y := yX5_in) (As := [.int (u 6 ((u 9 0).toNatClampNeg)), .int p0, .int p1]) (rest := []) rfl S (v := .int (bI (f_Min (u 6 ((u 9 0).toNatClampNeg)) p0 p1))) (c_X5_in l (u 6 ((u 9 0).toNatClampNeg)) p0 p1) gX5_isAt_X5_in mi_X5_in ⟨rfl, rfl⟩ ⟨Nat.le_of_ble_eq_true rfl, Nat.le_of_ble_eq_true rfl⟩ ⟨Nat.le_refl _, Nat.le_refl _⟩ dX5_isAt_22 rfl hl.1 rfl (Nat.le_of_ble_eq_true rfl) ?_
    refine kb_eq (tgt := 32) hx hb dX5_isAt_25 (by decide) (fun c_25 => ?_) (fun c_25 => ?_)
    · refine lv_iconst (v := (0 : Int32)) hx hb dX5_isAt_32 (by decide) ?_
      have r2 : f_MisAt u p0 p1 = false := by
        rw [f_MisAt, if_neg c_8, if_neg c_25]
      exact kr_z (x := false) hx hb hr hlk dX5_isAt_33 rfl r2
    · refine lv_iconst (v := (1 : Int32)) hx hb dX5_isAt_28 (by decide) ?_
      refine lv_goto (tgt := 33) hx hb dX5_isAt_29 (by decide) ?_
      have r3 : f_MisAt u p0 p1 = true := by
        rw [f_MisAt, if_neg c_8, if_pos c_25]
      exact kr_z (x := true) hx hb hr hlk dX5_isAt_33 rfl r3

theorem f_MisAt_lt {u : BS} {a b : Int32} (ha : vp_in (u 9 0) 61) (ht : vp_in (u 7 0) 61) (h : f_MisAt u a b = true) : (u 9 0).toNatClampNeg < (u 7 0).toNatClampNeg := by
  have h9 := vp_lt ha
  have h7 := vp_lt ht
  rcases Nat.lt_or_ge (u 9 0).toNatClampNeg (u 7 0).toNatClampNeg with q | q
  · exact q
  · rw [f_MisAt, if_pos (nI_le q (by omega))] at h; cases h

def rm_X5_stops : Room := { frames := 0, cells := 0, slots := 0, locals := 0 }
theorem mi_X5_stops : kM yX5_stops wsX5_stops cX5_stops 1 (some .boolean) 0 := ⟨⟨_, rfl⟩, by decide, by decide, by decide +kernel⟩
def f_Mstops (u : BS) : Bool × BS := if (u 7 0) ≤ (u 9 0) then (false, upA u 10 0 (0 : Int32)) else (false, upA u 10 0 (1 : Int32))
theorem f_Mstops_o {u : BS} {k : Nat} (h : k ≠ 10) : (f_Mstops u).2 k = u k := by
  unfold f_Mstops
  split
  all_goals exact upA_o h
set_option maxHeartbeats 1000000 in
set_option maxRecDepth 100000 in
theorem c_X5_stops (l : Launch) (dC : Nat → ClassId) (dI : Nat → Nat → Nat) (cI cZ cO : ClassId) (h0 : Nat) (q : Nat → Nat) (u : BS) (sz : Nat) : Met l yX5_stops wsX5_stops rm_X5_stops (va_Pc [.ref h0] (fun U => U.heap.size = sz ∧ va_P (dC, dI) vwCl (MW cI cZ h0 q u) U.heap ∧ va_K (dC, dI) vwCl (TY cI cZ cO) U ∧ va_D (fun _ => True) (MW cI cZ h0 q u))) (kQw (some (.int (bI (f_Mstops u).1))) (dC, dI) vwCl (MW cI cZ h0 q ((f_Mstops u).2)) (va_A (MW cI cZ h0 q u) sz)) 0 0 (va_A (MW cI cZ h0 q u) sz) := by
  refine kofW (cc := cX5_stops) (maxL := 1) (ret := some .boolean) (by decide) rfl (Nat.le_of_ble_eq_true rfl) ?_
  intro p e s m args below meth c ls S hr hlk hnm hsz hP hK hD hS hA hl
  generalize hA0 : va_A (MW cI cZ h0 q u) sz = A0 at hD hS hA ⊢
  subst hsz
  obtain ⟨hx, hb, hml, hown, hts⟩ := id S
  have inX5 : ∀ w ∈ wsX50, w ∈ wsX5_stops := fun w h => List.mem_cons_of_mem _ (List.mem_append_right _ h)
  have hl : lv_has ls 1 [(0, .ref h0)] := hl
  refine lv_aload_n hx hb dX5_stops_0 rfl (lv_at hl 0 rfl) ?_
  refine lv_aload_n hx hb dX5_stops_1 rfl (lv_at hl 0 rfl) ?_
  refine va_get (D := (dC, dI)) (ci := 5) (v := .int (u 9 0)) (C := RX5) (T := TX5) (N := 14) hx hb hts inX5 hown hK hP 0 rfl rfl 9 (by decide) (hts (.fieldLink RX5 126 "BoardMetronomesModel" "at" "I") (by decide +kernel)) (fun _ h9 => h9) rfl dX5_stops_2 ?_
  refine lv_aload_n hx hb dX5_stops_5 rfl (lv_at hl 0 rfl) ?_
  refine va_get (D := (dC, dI)) (ci := 5) (v := .int (u 7 0)) (C := RX5) (T := TX5) (N := 14) hx hb hts inX5 hown hK hP 0 rfl rfl 7 (by decide) (hts (.fieldLink RX5 123 "BoardMetronomesModel" "typed" "I") (by decide +kernel)) (fun _ h9 => h9) rfl dX5_stops_6 ?_
  refine lv_icmp_ge (tgt := 16) hx hb dX5_stops_9 (by decide) (fun c_9 => ?_) (fun c_9 => ?_)
  · refine lv_iconst (v := (0 : Int32)) hx hb dX5_stops_16 (by decide) ?_
    refine va_put (D := (dC, dI)) (ci := 5) (v := .int (0 : Int32)) (ty := .boolean) (C := RX5) (T := TX5) (N := 14) hx hb hts inX5 tyX5 tyX5_ok nmX5 hown hK hP hD hS 0 rfl rfl 10 (by decide) (hts (.fieldLink RX5 129 "BoardMetronomesModel" "isFault" "Z") (by decide +kernel)) (fun _ h9 => h9) rfl (by decide +kernel) rfl rfl (Nat.le_of_ble_eq_true rfl) dX5_stops_17 (fun H locs hP hD hS => ?_)
    have hP : va_P (dC, dI) vwCl (MW cI cZ h0 q (upA u 10 0 (0 : Int32))) H := Eq.mp (congrArg (fun w => va_P (dC, dI) vwCl w H) MW_s10) hP
    have hD : va_D A0 (MW cI cZ h0 q (upA u 10 0 (0 : Int32))) := Eq.mp (congrArg (fun w => va_D A0 w) MW_s10) hD
    refine lv_iconst (v := (0 : Int32)) hx hb dX5_stops_20 (by decide) ?_
    have r1 : f_Mstops u = (false, upA u 10 0 (0 : Int32)) := by
      rw [f_Mstops, if_pos c_9]
    exact kw_z (x := false) hx hb hr hlk hP hS dX5_stops_21 rfl (by rw [r1]) (by rw [r1])
  · refine lv_iconst (v := (1 : Int32)) hx hb dX5_stops_12 (by decide) ?_
    refine lv_goto (tgt := 17) hx hb dX5_stops_13 (by decide) ?_
    refine va_put (D := (dC, dI)) (ci := 5) (v := .int (1 : Int32)) (ty := .boolean) (C := RX5) (T := TX5) (N := 14) hx hb hts inX5 tyX5 tyX5_ok nmX5 hown hK hP hD hS 0 rfl rfl 10 (by decide) (hts (.fieldLink RX5 129 "BoardMetronomesModel" "isFault" "Z") (by decide +kernel)) (fun _ h9 => h9) rfl (by decide +kernel) rfl rfl (Nat.le_of_ble_eq_true rfl) dX5_stops_17 (fun H locs hP hD hS => ?_)
    have hP : va_P (dC, dI) vwCl (MW cI cZ h0 q (upA u 10 0 (1 : Int32))) H := Eq.mp (congrArg (fun w => va_P (dC, dI) vwCl w H) MW_s10) hP
    have hD : va_D A0 (MW cI cZ h0 q (upA u 10 0 (1 : Int32))) := Eq.mp (congrArg (fun w => va_D A0 w) MW_s10) hD
    refine lv_iconst (v := (0 : Int32)) hx hb dX5_stops_20 (by decide) ?_
    have r2 : f_Mstops u = (false, upA u 10 0 (1 : Int32)) := by
      rw [f_Mstops, if_neg c_9]
    exact kw_z (x := false) hx hb hr hlk hP hS dX5_stops_21 rfl (by rw [r2]) (by rw [r2])

def rm_X5_isSign : Room := { frames := 2, cells := 0, slots := 0, locals := 44 }
theorem mi_X5_isSign : kM yX5_isSign wsX5_isSign cX5_isSign 2 (some .boolean) 1 := ⟨⟨_, rfl⟩, by decide, by decide, by decide +kernel⟩
def f_MisSign (u : BS) (p0 : Int32) : Bool × BS := if (f_MisAt u p0 p0) = true then (true, upA u 9 0 (nI (((u 9 0).toNatClampNeg) + 1))) else (((f_Mstops u).1), (f_Mstops u).2)
set_option maxHeartbeats 1000000 in
set_option maxRecDepth 100000 in
theorem c_X5_isSign (l : Launch) (dC : Nat → ClassId) (dI : Nat → Nat → Nat) (cI cZ cO : ClassId) (h0 : Nat) (q : Nat → Nat) (u : BS) (p0 : Int32) (sz : Nat) (ha : vp_in (u 9 0) 61) (ht : vp_in (u 7 0) 61) : Met l yX5_isSign wsX5_isSign rm_X5_isSign (va_Pc [.ref h0, .int p0] (fun U => U.heap.size = sz ∧ va_P (dC, dI) vwCl (MW cI cZ h0 q u) U.heap ∧ va_K (dC, dI) vwCl (TY cI cZ cO) U ∧ va_D (fun _ => True) (MW cI cZ h0 q u))) (kQw (some (.int (bI (f_MisSign u p0).1))) (dC, dI) vwCl (MW cI cZ h0 q ((f_MisSign u p0).2)) (va_A (MW cI cZ h0 q u) sz)) 0 0 (va_A (MW cI cZ h0 q u) sz) := by
  refine kofW (cc := cX5_isSign) (maxL := 2) (ret := some .boolean) (by decide) rfl (Nat.le_of_ble_eq_true rfl) ?_
  intro p e s m args below meth c ls S hr hlk hnm hsz hP hK hD hS hA hl
  generalize hA0 : va_A (MW cI cZ h0 q u) sz = A0 at hD hS hA ⊢
  subst hsz
  obtain ⟨hx, hb, hml, hown, hts⟩ := id S
  have ha_n : (u 9 0).toNatClampNeg < 61 := vp_lt ha
  have ht_n : (u 7 0).toNatClampNeg < 61 := vp_lt ht
  have inX5 : ∀ w ∈ wsX50, w ∈ wsX5_isSign := fun w h => List.mem_cons_of_mem _ (List.mem_append_right _ h)
  have hl : lv_has ls 2 [(0, .ref h0), (1, .int p0)] := hl
  refine lv_aload_n hx hb dX5_isSign_0 rfl (lv_at hl 0 rfl) ?_
  refine lv_iload_n hx hb dX5_isSign_1 rfl (lv_at hl 1 rfl) ?_
  refine lv_iload_n hx hb dX5_isSign_2 rfl (lv_at hl 1 rfl) ?_
  refine kc_v (As := [.int p0, .int p0]) (rest := []) S (v := .int (bI (f_MisAt u p0 p0))) (c_X5_isAt l dC dI cI cZ cO h0 q u p0 p0 ha ht) gX5_isSign_X5_isAt mi_X5_isAt ⟨rfl, rfl⟩ ⟨Nat.le_of_ble_eq_true rfl, Nat.le_of_ble_eq_true rfl⟩ hK hP 0 rfl rfl ⟨Nat.le_refl _, Nat.le_refl _⟩ dX5_isSign_3 rfl hl.1 rfl (Nat.le_of_ble_eq_true rfl) ?_
  refine kb_ne (tgt := 14) hx hb dX5_isSign_6 (by decide) (fun c_6 => ?_) (fun c_6 => ?_)
  · have c_6n : (u 9 0).toNatClampNeg < (u 7 0).toNatClampNeg := by have z := f_MisAt_lt ha ht c_6; exact z
    refine lv_aload_n hx hb dX5_isSign_14 rfl (lv_at hl 0 rfl) ?_
    refine lv_dup hx hb dX5_isSign_15 rfl ?_
    refine va_get (D := (dC, dI)) (ci := 5) (v := .int (u 9 0)) (C := RX5) (T := TX5) (N := 14) hx hb hts inX5 hown hK hP 0 rfl rfl 9 (by decide) (hts (.fieldLink RX5 126 "BoardMetronomesModel" "at" "I") (by decide +kernel)) (fun _ h9 => h9) rfl dX5_isSign_16 ?_
    refine kt_i (kcl ha).symm ?_
    refine lv_iconst (v := (1 : Int32)) hx hb dX5_isSign_19 (by decide) ?_
    refine k_iaddn (x := (u 9 0).toNatClampNeg) (y := 1) hx hb dX5_isSign_20 ?_
    refine va_put (D := (dC, dI)) (ci := 5) (v := .int (nI (((u 9 0).toNatClampNeg) + 1))) (ty := .int) (C := RX5) (T := TX5) (N := 14) hx hb hts inX5 tyX5 tyX5_ok nmX5 hown hK hP hD hS 0 rfl rfl 9 (by decide) (hts (.fieldLink RX5 126 "BoardMetronomesModel" "at" "I") (by decide +kernel)) (fun _ h9 => h9) rfl (by decide +kernel) rfl rfl (Nat.le_of_ble_eq_true rfl) dX5_isSign_21 (fun H locs hP hD hS => ?_)
    have hP : va_P (dC, dI) vwCl (MW cI cZ h0 q (upA u 9 0 (nI (((u 9 0).toNatClampNeg) + 1)))) H := Eq.mp (congrArg (fun w => va_P (dC, dI) vwCl w H) MW_s9) hP
    have hD : va_D A0 (MW cI cZ h0 q (upA u 9 0 (nI (((u 9 0).toNatClampNeg) + 1)))) := Eq.mp (congrArg (fun w => va_D A0 w) MW_s9) hD
    refine lv_iconst (v := (1 : Int32)) hx hb dX5_isSign_24 (by decide) ?_
    have r1 : f_MisSign u p0 = (true, upA u 9 0 (nI (((u 9 0).toNatClampNeg) + 1))) := by
      rw [f_MisSign, if_pos c_6]
    exact kw_z (x := true) hx hb hr hlk hP hS dX5_isSign_25 rfl (by rw [r1]) (by rw [r1])
  · refine lv_aload_n hx hb dX5_isSign_9 rfl (lv_at hl 0 rfl) ?_
    refine kc_w (As := []) (rest := []) S (v := (some (.int (bI ((f_Mstops u).1))))) (c_X5_stops l dC dI cI cZ cO h0 q u s.heap.size) gX5_isSign_X5_stops mi_X5_stops ⟨rfl, rfl⟩ ⟨Nat.le_of_ble_eq_true rfl, Nat.le_of_ble_eq_true rfl⟩ hK hP hD hS hA [0, 1, 2, 3, 4, 5, 6, 7] MW_all MW_fst rfl 0 rfl rfl ⟨Nat.le_refl _, Nat.le_refl _⟩ dX5_isSign_10 rfl hl.1 rfl (Nat.le_of_ble_eq_true rfl) (fun H locs hP hD hS => ?_)
    have hP : va_P (dC, dI) vwCl (MW cI cZ h0 q ((f_Mstops u).2)) H := Eq.mp (congrArg (fun w => va_P (dC, dI) vwCl w H) MW_ks) hP
    have hD : va_D A0 (MW cI cZ h0 q ((f_Mstops u).2)) := Eq.mp (congrArg (fun w => va_D A0 w) MW_ks) hD
    have r2 : f_MisSign u p0 = (((f_Mstops u).1), (f_Mstops u).2) := by
      rw [f_MisSign, if_neg c_6]
    exact kw_z (x := ((f_Mstops u).1)) hx hb hr hlk hP hS dX5_isSign_13 rfl (by rw [r2]) (by rw [r2])

def rm_X5_isNumber : Room := { frames := 2, cells := 0, slots := 0, locals := 44 }
theorem mi_X5_isNumber : kM yX5_isNumber wsX5_isNumber cX5_isNumber 5 (some .boolean) 3 := ⟨⟨_, rfl⟩, by decide, by decide, by decide +kernel⟩
def f_MisNumber_R83 (u : BS) (k0 : Nat) (p1 : Int32) (p2 : Int32) : Nat → Nat → BS → Bool × BS
  | 0, j83_, y83_0 => (false, y83_0)
  | n + 1, j83_, y83_0 => if (y83_0 11 0) ≤ 0 then (if p1 ≤ (y83_0 11 0) then (true, upA y83_0 12 ((4 * ((y83_0 13 0).toNatClampNeg)) + k0) (y83_0 11 0)) else if ((f_Mstops (upA y83_0 12 ((4 * ((y83_0 13 0).toNatClampNeg)) + k0) (y83_0 11 0))).1) = true then (true, (f_Mstops (upA y83_0 12 ((4 * ((y83_0 13 0).toNatClampNeg)) + k0) (y83_0 11 0))).2) else (false, (f_Mstops (upA y83_0 12 ((4 * ((y83_0 13 0).toNatClampNeg)) + k0) (y83_0 11 0))).2)) else if (f_MisAt y83_0 (48 : Int32) (57 : Int32)) = true then (if (f_McanBe ((((10 : Int32) * (y83_0 11 0)) + (y83_0 6 ((y83_0 9 0).toNatClampNeg))) - (48 : Int32)) p1 p2) = true then (f_MisNumber_R83 u k0 p1 p2 n (j83_ + 1) (upA (upA y83_0 11 0 ((((10 : Int32) * (y83_0 11 0)) + (y83_0 6 ((y83_0 9 0).toNatClampNeg))) - (48 : Int32))) 9 0 (nI (((y83_0 9 0).toNatClampNeg) + 1)))) else if p1 ≤ (y83_0 11 0) then (true, upA y83_0 12 ((4 * ((y83_0 13 0).toNatClampNeg)) + k0) (y83_0 11 0)) else if ((f_Mstops (upA y83_0 12 ((4 * ((y83_0 13 0).toNatClampNeg)) + k0) (y83_0 11 0))).1) = true then (true, (f_Mstops (upA y83_0 12 ((4 * ((y83_0 13 0).toNatClampNeg)) + k0) (y83_0 11 0))).2) else (false, (f_Mstops (upA y83_0 12 ((4 * ((y83_0 13 0).toNatClampNeg)) + k0) (y83_0 11 0))).2)) else if p1 ≤ (y83_0 11 0) then (true, upA y83_0 12 ((4 * ((y83_0 13 0).toNatClampNeg)) + k0) (y83_0 11 0)) else if ((f_Mstops (upA y83_0 12 ((4 * ((y83_0 13 0).toNatClampNeg)) + k0) (y83_0 11 0))).1) = true then (true, (f_Mstops (upA y83_0 12 ((4 * ((y83_0 13 0).toNatClampNeg)) + k0) (y83_0 11 0))).2) else (false, (f_Mstops (upA y83_0 12 ((4 * ((y83_0 13 0).toNatClampNeg)) + k0) (y83_0 11 0))).2)
def f_MisNumber (u : BS) (k0 : Nat) (p1 : Int32) (p2 : Int32) : Bool × BS := if p1 = 0 then (if (f_MisAt u (48 : Int32) (57 : Int32)) = true then (if (f_McanBe ((u 6 ((u 9 0).toNatClampNeg)) - (48 : Int32)) p1 p2) = true then (f_MisNumber_R83 u k0 p1 p2 61 0 (upA (upA u 11 0 ((u 6 ((u 9 0).toNatClampNeg)) - (48 : Int32))) 9 0 (nI (((u 9 0).toNatClampNeg) + 1)))) else (((f_Mstops u).1), (f_Mstops u).2)) else (((f_Mstops u).1), (f_Mstops u).2)) else if (f_MisAt u (49 : Int32) (57 : Int32)) = true then (if (f_McanBe ((u 6 ((u 9 0).toNatClampNeg)) - (48 : Int32)) p1 p2) = true then (f_MisNumber_R83 u k0 p1 p2 61 0 (upA (upA u 11 0 ((u 6 ((u 9 0).toNatClampNeg)) - (48 : Int32))) 9 0 (nI (((u 9 0).toNatClampNeg) + 1)))) else (((f_Mstops u).1), (f_Mstops u).2)) else (((f_Mstops u).1), (f_Mstops u).2)
set_option maxHeartbeats 1000000 in
set_option maxRecDepth 100000 in
theorem c_X5_isNumber (l : Launch) (dC : Nat → ClassId) (dI : Nat → Nat → Nat) (cI cZ cO : ClassId) (h0 : Nat) (q : Nat → Nat) (u : BS) (k0 : Nat) (p1 : Int32) (p2 : Int32) (sz : Nat) (hk0 : k0 < 4) (ha : vp_in (u 9 0) 61) (ht : vp_in (u 7 0) 61) (hd : vp_in (u 13 0) 31) : Met l yX5_isNumber wsX5_isNumber rm_X5_isNumber (va_Pc [.ref h0, .int (nI k0), .int p1, .int p2] (fun U => U.heap.size = sz ∧ va_P (dC, dI) vwCl (MW cI cZ h0 q u) U.heap ∧ va_K (dC, dI) vwCl (TY cI cZ cO) U ∧ va_D (fun _ => True) (MW cI cZ h0 q u))) (kQw (some (.int (bI (f_MisNumber u k0 p1 p2).1))) (dC, dI) vwCl (MW cI cZ h0 q ((f_MisNumber u k0 p1 p2).2)) (va_A (MW cI cZ h0 q u) sz)) 0 0 (va_A (MW cI cZ h0 q u) sz) := by
  refine kofW (cc := cX5_isNumber) (maxL := 5) (ret := some .boolean) (by decide) rfl (Nat.le_of_ble_eq_true rfl) ?_
  intro p e s m args below meth c ls S hr hlk hnm hsz hP hK hD hS hA hl
  generalize hA0 : va_A (MW cI cZ h0 q u) sz = A0 at hD hS hA ⊢
  subst hsz
  obtain ⟨hx, hb, hml, hown, hts⟩ := id S
  have ha_n : (u 9 0).toNatClampNeg < 61 := vp_lt ha
  have ht_n : (u 7 0).toNatClampNeg < 61 := vp_lt ht
  have hd_n : (u 13 0).toNatClampNeg < 31 := vp_lt hd
  have inX5 : ∀ w ∈ wsX50, w ∈ wsX5_isNumber := fun w h => List.mem_cons_of_mem _ (List.mem_append_right _ h)
  have hl : lv_has ls 5 [(0, .ref h0), (1, .int (nI k0)), (2, .int p1), (3, .int p2)] := hl
  refine lv_aload_n hx hb dX5_isNumber_0 rfl (lv_at hl 0 rfl) ?_
  refine lv_iload_n hx hb dX5_isNumber_1 rfl (lv_at hl 2 rfl) ?_
  refine lv_if_ne (tgt := 10) hx hb dX5_isNumber_2 (by decide) (fun c_2 => ?_) (fun c_2 => ?_)
  · refine lv_bipush (v := (49 : Int32)) hx hb dX5_isNumber_10 (by decide) ?_
    refine lv_bipush (v := (57 : Int32)) hx hb dX5_isNumber_12 (by decide) ?_
    refine kc_v (As := [.int (49 : Int32), .int (57 : Int32)]) (rest := []) S (v := .int (bI (f_MisAt u (49 : Int32) (57 : Int32)))) (c_X5_isAt l dC dI cI cZ cO h0 q u (49 : Int32) (57 : Int32) ha ht) gX5_isNumber_X5_isAt mi_X5_isAt ⟨rfl, rfl⟩ ⟨Nat.le_of_ble_eq_true rfl, Nat.le_of_ble_eq_true rfl⟩ hK hP 0 rfl rfl ⟨Nat.le_refl _, Nat.le_refl _⟩ dX5_isNumber_14 rfl hl.1 rfl (Nat.le_of_ble_eq_true rfl) ?_
    refine kb_eq (tgt := 44) hx hb dX5_isNumber_17 (by decide) (fun c_17 => ?_) (fun c_17 => ?_)
    · refine lv_iconst (v := (0 : Int32)) hx hb dX5_isNumber_44 (by decide) ?_
      refine lv_istore (lv' := [(4, .int (0 : Int32)), (0, .ref h0), (1, .int (nI k0)), (2, .int p1), (3, .int p2)]) hx hb dX5_isNumber_45 hl (by decide) rfl (fun ls hl => ?_)
      refine lv_iload hx hb dX5_isNumber_47 (lv_at hl 0 rfl) ?_
      refine lv_if_ne (tgt := 57) hx hb dX5_isNumber_49 (by decide) (fun c_49 => ?_) (fun c_49 => ?_)
      · exact absurd (by decide) c_49
      · refine lv_aload_n hx hb dX5_isNumber_52 rfl (lv_at hl 1 rfl) ?_
        refine kc_w (As := []) (rest := []) S (v := (some (.int (bI ((f_Mstops u).1))))) (c_X5_stops l dC dI cI cZ cO h0 q u s.heap.size) gX5_isNumber_X5_stops mi_X5_stops ⟨rfl, rfl⟩ ⟨Nat.le_of_ble_eq_true rfl, Nat.le_of_ble_eq_true rfl⟩ hK hP hD hS hA [0, 1, 2, 3, 4, 5, 6, 7] MW_all MW_fst rfl 0 rfl rfl ⟨Nat.le_refl _, Nat.le_refl _⟩ dX5_isNumber_53 rfl hl.1 rfl (Nat.le_of_ble_eq_true rfl) (fun H locs hP hD hS => ?_)
        have hP : va_P (dC, dI) vwCl (MW cI cZ h0 q ((f_Mstops u).2)) H := Eq.mp (congrArg (fun w => va_P (dC, dI) vwCl w H) MW_ks) hP
        have hD : va_D A0 (MW cI cZ h0 q ((f_Mstops u).2)) := Eq.mp (congrArg (fun w => va_D A0 w) MW_ks) hD
        have r1 : f_MisNumber u k0 p1 p2 = (((f_Mstops u).1), (f_Mstops u).2) := by
          rw [f_MisNumber, if_neg c_2, if_neg c_17]
        exact kw_z (x := ((f_Mstops u).1)) hx hb hr hlk hP hS dX5_isNumber_56 rfl (by rw [r1]) (by rw [r1])
    · have c_17n : (u 9 0).toNatClampNeg < (u 7 0).toNatClampNeg := by have z := f_MisAt_lt ha ht c_17; exact z
      refine lv_aload_n hx hb dX5_isNumber_20 rfl (lv_at hl 0 rfl) ?_
      refine va_get (D := (dC, dI)) (ci := 5) (v := .ref (q 6)) (C := RX5) (T := TX5) (N := 14) hx hb hts inX5 hown hK hP 0 rfl rfl 6 (by decide) (hts (.fieldLink RX5 26 "BoardMetronomesModel" "text" "[I") (by decide +kernel)) (fun _ h9 => h9) rfl dX5_isNumber_21 ?_
      refine lv_aload_n hx hb dX5_isNumber_24 rfl (lv_at hl 0 rfl) ?_
      refine va_get (D := (dC, dI)) (ci := 5) (v := .int (u 9 0)) (C := RX5) (T := TX5) (N := 14) hx hb hts inX5 hown hK hP 0 rfl rfl 9 (by decide) (hts (.fieldLink RX5 126 "BoardMetronomesModel" "at" "I") (by decide +kernel)) (fun _ h9 => h9) rfl dX5_isNumber_25 ?_
      refine kt_i (kcl ha).symm ?_
      refine k_iald (D := (dC, dI)) hx hb hK hP 6 0 rfl rfl (j := ((u 9 0).toNatClampNeg)) (by omega) (by decide) dX5_isNumber_28 ?_
      refine lv_bipush (v := (48 : Int32)) hx hb dX5_isNumber_29 (by decide) ?_
      refine lv_isub hx hb dX5_isNumber_31 ?_
      refine lv_iload_n hx hb dX5_isNumber_32 rfl (lv_at hl 2 rfl) ?_
      refine lv_iload_n hx hb dX5_isNumber_33 rfl (lv_at hl 3 rfl) ?_
      refine kc_p (y := yX5_canBe) (As := [.int ((u 6 ((u 9 0).toNatClampNeg)) - (48 : Int32)), .int p1, .int p2]) (rest := []) rfl S (v := .int (bI (f_McanBe ((u 6 ((u 9 0).toNatClampNeg)) - (48 : Int32)) p1 p2))) (c_X5_canBe l ((u 6 ((u 9 0).toNatClampNeg)) - (48 : Int32)) p1 p2) gX5_isNumber_X5_canBe mi_X5_canBe ⟨rfl, rfl⟩ ⟨Nat.le_of_ble_eq_true rfl, Nat.le_of_ble_eq_true rfl⟩ ⟨Nat.le_refl _, Nat.le_refl _⟩ dX5_isNumber_34 rfl hl.1 rfl (Nat.le_of_ble_eq_true rfl) ?_
      refine kb_eq (tgt := 44) hx hb dX5_isNumber_37 (by decide) (fun c_37 => ?_) (fun c_37 => ?_)
      · refine lv_iconst (v := (0 : Int32)) hx hb dX5_isNumber_44 (by decide) ?_
        refine lv_istore (lv' := [(4, .int (0 : Int32)), (0, .ref h0), (1, .int (nI k0)), (2, .int p1), (3, .int p2)]) hx hb dX5_isNumber_45 hl (by decide) rfl (fun ls hl => ?_)
        refine lv_iload hx hb dX5_isNumber_47 (lv_at hl 0 rfl) ?_
        refine lv_if_ne (tgt := 57) hx hb dX5_isNumber_49 (by decide) (fun c_49 => ?_) (fun c_49 => ?_)
        · exact absurd (by decide) c_49
        · refine lv_aload_n hx hb dX5_isNumber_52 rfl (lv_at hl 1 rfl) ?_
          refine kc_w (As := []) (rest := []) S (v := (some (.int (bI ((f_Mstops u).1))))) (c_X5_stops l dC dI cI cZ cO h0 q u s.heap.size) gX5_isNumber_X5_stops mi_X5_stops ⟨rfl, rfl⟩ ⟨Nat.le_of_ble_eq_true rfl, Nat.le_of_ble_eq_true rfl⟩ hK hP hD hS hA [0, 1, 2, 3, 4, 5, 6, 7] MW_all MW_fst rfl 0 rfl rfl ⟨Nat.le_refl _, Nat.le_refl _⟩ dX5_isNumber_53 rfl hl.1 rfl (Nat.le_of_ble_eq_true rfl) (fun H locs hP hD hS => ?_)
          have hP : va_P (dC, dI) vwCl (MW cI cZ h0 q ((f_Mstops u).2)) H := Eq.mp (congrArg (fun w => va_P (dC, dI) vwCl w H) MW_ks) hP
          have hD : va_D A0 (MW cI cZ h0 q ((f_Mstops u).2)) := Eq.mp (congrArg (fun w => va_D A0 w) MW_ks) hD
          have r2 : f_MisNumber u k0 p1 p2 = (((f_Mstops u).1), (f_Mstops u).2) := by
            rw [f_MisNumber, if_neg c_2, if_pos c_17, if_neg c_37]
          exact kw_z (x := ((f_Mstops u).1)) hx hb hr hlk hP hS dX5_isNumber_56 rfl (by rw [r2]) (by rw [r2])
      · refine lv_iconst (v := (1 : Int32)) hx hb dX5_isNumber_40 (by decide) ?_
        refine lv_goto (tgt := 45) hx hb dX5_isNumber_41 (by decide) ?_
        refine lv_istore (lv' := [(4, .int (1 : Int32)), (0, .ref h0), (1, .int (nI k0)), (2, .int p1), (3, .int p2)]) hx hb dX5_isNumber_45 hl (by decide) rfl (fun ls hl => ?_)
        refine lv_iload hx hb dX5_isNumber_47 (lv_at hl 0 rfl) ?_
        refine lv_if_ne (tgt := 57) hx hb dX5_isNumber_49 (by decide) (fun c_49 => ?_) (fun c_49 => ?_)
        · refine lv_aload_n hx hb dX5_isNumber_57 rfl (lv_at hl 1 rfl) ?_
          refine lv_aload_n hx hb dX5_isNumber_58 rfl (lv_at hl 1 rfl) ?_
          refine va_get (D := (dC, dI)) (ci := 5) (v := .ref (q 6)) (C := RX5) (T := TX5) (N := 14) hx hb hts inX5 hown hK hP 0 rfl rfl 6 (by decide) (hts (.fieldLink RX5 26 "BoardMetronomesModel" "text" "[I") (by decide +kernel)) (fun _ h9 => h9) rfl dX5_isNumber_59 ?_
          refine lv_aload_n hx hb dX5_isNumber_62 rfl (lv_at hl 1 rfl) ?_
          refine va_get (D := (dC, dI)) (ci := 5) (v := .int (u 9 0)) (C := RX5) (T := TX5) (N := 14) hx hb hts inX5 hown hK hP 0 rfl rfl 9 (by decide) (hts (.fieldLink RX5 126 "BoardMetronomesModel" "at" "I") (by decide +kernel)) (fun _ h9 => h9) rfl dX5_isNumber_63 ?_
          refine kt_i (kcl ha).symm ?_
          refine k_iald (D := (dC, dI)) hx hb hK hP 6 0 rfl rfl (j := ((u 9 0).toNatClampNeg)) (by omega) (by decide) dX5_isNumber_66 ?_
          refine lv_bipush (v := (48 : Int32)) hx hb dX5_isNumber_67 (by decide) ?_
          refine lv_isub hx hb dX5_isNumber_69 ?_
          refine va_put (D := (dC, dI)) (ci := 5) (v := .int ((u 6 ((u 9 0).toNatClampNeg)) - (48 : Int32))) (ty := .int) (C := RX5) (T := TX5) (N := 14) hx hb hts inX5 tyX5 tyX5_ok nmX5 hown hK hP hD hS 0 rfl rfl 11 (by decide) (hts (.fieldLink RX5 144 "BoardMetronomesModel" "value" "I") (by decide +kernel)) (fun _ h9 => h9) rfl (by decide +kernel) rfl rfl (Nat.le_of_ble_eq_true rfl) dX5_isNumber_70 (fun H locs hP hD hS => ?_)
          have hP : va_P (dC, dI) vwCl (MW cI cZ h0 q (upA u 11 0 ((u 6 ((u 9 0).toNatClampNeg)) - (48 : Int32)))) H := Eq.mp (congrArg (fun w => va_P (dC, dI) vwCl w H) MW_s11) hP
          have hD : va_D A0 (MW cI cZ h0 q (upA u 11 0 ((u 6 ((u 9 0).toNatClampNeg)) - (48 : Int32)))) := Eq.mp (congrArg (fun w => va_D A0 w) MW_s11) hD
          refine lv_aload_n hx hb dX5_isNumber_73 rfl (lv_at hl 1 rfl) ?_
          refine lv_dup hx hb dX5_isNumber_74 rfl ?_
          refine va_get (D := (dC, dI)) (ci := 5) (v := .int (u 9 0)) (C := RX5) (T := TX5) (N := 14) hx hb hts inX5 hown hK hP 0 rfl rfl 9 (by decide) (hts (.fieldLink RX5 126 "BoardMetronomesModel" "at" "I") (by decide +kernel)) (fun _ h9 => h9) (congrArg (fun z => some (Value.int z)) (show (upA u 11 0 ((u 6 ((u 9 0).toNatClampNeg)) - (48 : Int32))) 9 0 = u 9 0 by rw [upA_o (show (9 : Nat) ≠ 11 by decide)])) dX5_isNumber_75 ?_
          refine kt_i (kcl ha).symm ?_
          refine lv_iconst (v := (1 : Int32)) hx hb dX5_isNumber_78 (by decide) ?_
          refine k_iaddn (x := (u 9 0).toNatClampNeg) (y := 1) hx hb dX5_isNumber_79 ?_
          refine va_put (D := (dC, dI)) (ci := 5) (v := .int (nI (((u 9 0).toNatClampNeg) + 1))) (ty := .int) (C := RX5) (T := TX5) (N := 14) hx hb hts inX5 tyX5 tyX5_ok nmX5 hown hK hP hD hS 0 rfl rfl 9 (by decide) (hts (.fieldLink RX5 126 "BoardMetronomesModel" "at" "I") (by decide +kernel)) (fun _ h9 => h9) rfl (by decide +kernel) rfl rfl (Nat.le_of_ble_eq_true rfl) dX5_isNumber_80 (fun H locs hP hD hS => ?_)
          have hP : va_P (dC, dI) vwCl (MW cI cZ h0 q (upA (upA u 11 0 ((u 6 ((u 9 0).toNatClampNeg)) - (48 : Int32))) 9 0 (nI (((u 9 0).toNatClampNeg) + 1)))) H := Eq.mp (congrArg (fun w => va_P (dC, dI) vwCl w H) MW_s9) hP
          have hD : va_D A0 (MW cI cZ h0 q (upA (upA u 11 0 ((u 6 ((u 9 0).toNatClampNeg)) - (48 : Int32))) 9 0 (nI (((u 9 0).toNatClampNeg) + 1)))) := Eq.mp (congrArg (fun w => va_D A0 w) MW_s9) hD
          have L3 : ∀ (n j83_ : Nat), j83_ + n = 61 → ∀ (y83_0 : BS), (vp_in (y83_0 9 0) 61 ∧ vp_in (y83_0 7 0) 61 ∧ vp_in (y83_0 13 0) 31 ∧ 60 < (y83_0 9 0).toNatClampNeg + n) → f_MisNumber u k0 p1 p2 = f_MisNumber_R83 u k0 p1 p2 n j83_ y83_0 → ∀ (H : Heap) (locs : List Loc) (ls : Array Slot), va_P (dC, dI) vwCl (MW cI cZ h0 q y83_0) H → va_D A0 (MW cI cZ h0 q y83_0) → va_S A0 s.heap H locs → lv_has ls 5 [(0, .ref h0), (1, .int (nI k0)), (2, .int p1), (3, .int p2), (4, .int (1 : Int32))] → W p l e rm_X5_isNumber s m args below meth c H locs 0 0 (MQ below (kQw (some (.int (bI (f_MisNumber u k0 p1 p2).1))) (dC, dI) vwCl (MW cI cZ h0 q ((f_MisNumber u k0 p1 p2).2)) A0) args s 0 0 A0) (F0 m 83 ls []) := by
            intro n
            induction n with
            | zero =>
              intro j83_ hj3 y83_0 hinv hv3 H locs ls hP hD hS hl
              exact absurd hinv.2.2.2 (by have z := vp_lt hinv.1; omega)
            | succ n ih3 =>
              intro j83_ hj3 y83_0 hinv hv3 H locs ls hP hD hS hl
              have hY9 := vp_lt hinv.1
              have hY7 := vp_lt hinv.2.1
              have hYd := vp_lt hinv.2.2.1
              have hYn := hinv.2.2.2
              refine lv_aload_n hx hb dX5_isNumber_83 rfl (lv_at hl 0 rfl) ?_
              refine va_get (D := (dC, dI)) (ci := 5) (v := .int (y83_0 11 0)) (C := RX5) (T := TX5) (N := 14) hx hb hts inX5 hown hK hP 0 rfl rfl 11 (by decide) (hts (.fieldLink RX5 144 "BoardMetronomesModel" "value" "I") (by decide +kernel)) (fun _ h9 => h9) rfl dX5_isNumber_84 ?_
              refine lv_if_le (tgt := 166) hx hb dX5_isNumber_87 (by decide) (fun c_87 => ?_) (fun c_87 => ?_)
              · refine lv_aload_n hx hb dX5_isNumber_166 rfl (lv_at hl 0 rfl) ?_
                refine va_get (D := (dC, dI)) (ci := 5) (v := .ref (q 12)) (C := RX5) (T := TX5) (N := 14) hx hb hts inX5 hown hK hP 0 rfl rfl 12 (by decide) (hts (.fieldLink RX5 29 "BoardMetronomesModel" "told" "[I") (by decide +kernel)) (fun _ h9 => h9) rfl dX5_isNumber_167 ?_
                refine lv_iconst (v := (4 : Int32)) hx hb dX5_isNumber_170 (by decide) ?_
                refine lv_aload_n hx hb dX5_isNumber_171 rfl (lv_at hl 0 rfl) ?_
                refine va_get (D := (dC, dI)) (ci := 5) (v := .int (y83_0 13 0)) (C := RX5) (T := TX5) (N := 14) hx hb hts inX5 hown hK hP 0 rfl rfl 13 (by decide) (hts (.fieldLink RX5 147 "BoardMetronomesModel" "tolds" "I") (by decide +kernel)) (fun _ h9 => h9) rfl dX5_isNumber_172 ?_
                refine kt_i (kcl hinv.2.2.1).symm ?_
                refine k_imuln (x := 4) (y := (y83_0 13 0).toNatClampNeg) hx hb dX5_isNumber_175 ?_
                refine lv_iload_n hx hb dX5_isNumber_176 rfl (lv_at hl 1 rfl) ?_
                refine k_iaddn (x := 4 * ((y83_0 13 0).toNatClampNeg)) (y := k0) hx hb dX5_isNumber_177 ?_
                refine lv_aload_n hx hb dX5_isNumber_178 rfl (lv_at hl 0 rfl) ?_
                refine va_get (D := (dC, dI)) (ci := 5) (v := .int (y83_0 11 0)) (C := RX5) (T := TX5) (N := 14) hx hb hts inX5 hown hK hP 0 rfl rfl 11 (by decide) (hts (.fieldLink RX5 144 "BoardMetronomesModel" "value" "I") (by decide +kernel)) (fun _ h9 => h9) rfl dX5_isNumber_179 ?_
                refine k_iast (D := (dC, dI)) hx hb hK hP hD hS 7 0 rfl rfl (j := ((4 * ((y83_0 13 0).toNatClampNeg)) + k0)) (by omega) (by decide) dX5_isNumber_182 (fun H locs hP hD hS => ?_)
                have hP : va_P (dC, dI) vwCl (MW cI cZ h0 q (upA y83_0 12 ((4 * ((y83_0 13 0).toNatClampNeg)) + k0) (y83_0 11 0))) H := Eq.mp (congrArg (fun w => va_P (dC, dI) vwCl w H) MW_a12) hP
                have hD : va_D A0 (MW cI cZ h0 q (upA y83_0 12 ((4 * ((y83_0 13 0).toNatClampNeg)) + k0) (y83_0 11 0))) := Eq.mp (congrArg (fun w => va_D A0 w) MW_a12) hD
                refine lv_aload_n hx hb dX5_isNumber_183 rfl (lv_at hl 0 rfl) ?_
                refine va_get (D := (dC, dI)) (ci := 5) (v := .int (y83_0 11 0)) (C := RX5) (T := TX5) (N := 14) hx hb hts inX5 hown hK hP 0 rfl rfl 11 (by decide) (hts (.fieldLink RX5 144 "BoardMetronomesModel" "value" "I") (by decide +kernel)) (fun _ h9 => h9) (congrArg (fun z => some (Value.int z)) (show (upA y83_0 12 ((4 * ((y83_0 13 0).toNatClampNeg)) + k0) (y83_0 11 0)) 11 0 = y83_0 11 0 by rw [upA_o (show (11 : Nat) ≠ 12 by decide)])) dX5_isNumber_184 ?_
                refine lv_iload_n hx hb dX5_isNumber_187 rfl (lv_at hl 2 rfl) ?_
                refine lv_icmp_ge (tgt := 198) hx hb dX5_isNumber_188 (by decide) (fun c_188 => ?_) (fun c_188 => ?_)
                · refine lv_iconst (v := (1 : Int32)) hx hb dX5_isNumber_198 (by decide) ?_
                  refine lv_goto (tgt := 203) hx hb dX5_isNumber_199 (by decide) ?_
                  have r4 : f_MisNumber u k0 p1 p2 = (true, upA y83_0 12 ((4 * ((y83_0 13 0).toNatClampNeg)) + k0) (y83_0 11 0)) := by
                    rw [hv3, f_MisNumber_R83, if_pos c_87, if_pos c_188]
                  exact kw_z (x := true) hx hb hr hlk hP hS dX5_isNumber_203 rfl (by rw [r4]) (by rw [r4])
                · refine lv_aload_n hx hb dX5_isNumber_191 rfl (lv_at hl 0 rfl) ?_
                  refine kc_w (As := []) (rest := []) S (v := (some (.int (bI ((f_Mstops (upA y83_0 12 ((4 * ((y83_0 13 0).toNatClampNeg)) + k0) (y83_0 11 0))).1))))) (c_X5_stops l dC dI cI cZ cO h0 q (upA y83_0 12 ((4 * ((y83_0 13 0).toNatClampNeg)) + k0) (y83_0 11 0)) H.size) gX5_isNumber_X5_stops mi_X5_stops ⟨rfl, rfl⟩ ⟨Nat.le_of_ble_eq_true rfl, Nat.le_of_ble_eq_true rfl⟩ hK hP hD hS hA [0, 1, 2, 3, 4, 5, 6, 7] MW_all MW_fst rfl 0 rfl rfl ⟨Nat.le_refl _, Nat.le_refl _⟩ dX5_isNumber_192 rfl hl.1 rfl (Nat.le_of_ble_eq_true rfl) (fun H locs hP hD hS => ?_)
                  have hP : va_P (dC, dI) vwCl (MW cI cZ h0 q ((f_Mstops (upA y83_0 12 ((4 * ((y83_0 13 0).toNatClampNeg)) + k0) (y83_0 11 0))).2)) H := Eq.mp (congrArg (fun w => va_P (dC, dI) vwCl w H) MW_ks) hP
                  have hD : va_D A0 (MW cI cZ h0 q ((f_Mstops (upA y83_0 12 ((4 * ((y83_0 13 0).toNatClampNeg)) + k0) (y83_0 11 0))).2)) := Eq.mp (congrArg (fun w => va_D A0 w) MW_ks) hD
                  refine kb_eq (tgt := 202) hx hb dX5_isNumber_195 (by decide) (fun c_195 => ?_) (fun c_195 => ?_)
                  · refine lv_iconst (v := (0 : Int32)) hx hb dX5_isNumber_202 (by decide) ?_
                    have r5 : f_MisNumber u k0 p1 p2 = (false, (f_Mstops (upA y83_0 12 ((4 * ((y83_0 13 0).toNatClampNeg)) + k0) (y83_0 11 0))).2) := by
                      rw [hv3, f_MisNumber_R83, if_pos c_87, if_neg c_188, if_neg c_195]
                    exact kw_z (x := false) hx hb hr hlk hP hS dX5_isNumber_203 rfl (by rw [r5]) (by rw [r5])
                  · refine lv_iconst (v := (1 : Int32)) hx hb dX5_isNumber_198 (by decide) ?_
                    refine lv_goto (tgt := 203) hx hb dX5_isNumber_199 (by decide) ?_
                    have r6 : f_MisNumber u k0 p1 p2 = (true, (f_Mstops (upA y83_0 12 ((4 * ((y83_0 13 0).toNatClampNeg)) + k0) (y83_0 11 0))).2) := by
                      rw [hv3, f_MisNumber_R83, if_pos c_87, if_neg c_188, if_pos c_195]
                    exact kw_z (x := true) hx hb hr hlk hP hS dX5_isNumber_203 rfl (by rw [r6]) (by rw [r6])
              · refine lv_aload_n hx hb dX5_isNumber_90 rfl (lv_at hl 0 rfl) ?_
                refine lv_bipush (v := (48 : Int32)) hx hb dX5_isNumber_91 (by decide) ?_
                refine lv_bipush (v := (57 : Int32)) hx hb dX5_isNumber_93 (by decide) ?_
                refine kc_v (As := [.int (48 : Int32), .int (57 : Int32)]) (rest := []) S (v := .int (bI (f_MisAt y83_0 (48 : Int32) (57 : Int32)))) (c_X5_isAt l dC dI cI cZ cO h0 q y83_0 (48 : Int32) (57 : Int32) hinv.1 hinv.2.1) gX5_isNumber_X5_isAt mi_X5_isAt ⟨rfl, rfl⟩ ⟨Nat.le_of_ble_eq_true rfl, Nat.le_of_ble_eq_true rfl⟩ hK hP 0 rfl rfl ⟨Nat.le_refl _, Nat.le_refl _⟩ dX5_isNumber_95 rfl hl.1 rfl (Nat.le_of_ble_eq_true rfl) ?_
                refine kb_eq (tgt := 166) hx hb dX5_isNumber_98 (by decide) (fun c_98 => ?_) (fun c_98 => ?_)
                · refine lv_aload_n hx hb dX5_isNumber_166 rfl (lv_at hl 0 rfl) ?_
                  refine va_get (D := (dC, dI)) (ci := 5) (v := .ref (q 12)) (C := RX5) (T := TX5) (N := 14) hx hb hts inX5 hown hK hP 0 rfl rfl 12 (by decide) (hts (.fieldLink RX5 29 "BoardMetronomesModel" "told" "[I") (by decide +kernel)) (fun _ h9 => h9) rfl dX5_isNumber_167 ?_
                  refine lv_iconst (v := (4 : Int32)) hx hb dX5_isNumber_170 (by decide) ?_
                  refine lv_aload_n hx hb dX5_isNumber_171 rfl (lv_at hl 0 rfl) ?_
                  refine va_get (D := (dC, dI)) (ci := 5) (v := .int (y83_0 13 0)) (C := RX5) (T := TX5) (N := 14) hx hb hts inX5 hown hK hP 0 rfl rfl 13 (by decide) (hts (.fieldLink RX5 147 "BoardMetronomesModel" "tolds" "I") (by decide +kernel)) (fun _ h9 => h9) rfl dX5_isNumber_172 ?_
                  refine kt_i (kcl hinv.2.2.1).symm ?_
                  refine k_imuln (x := 4) (y := (y83_0 13 0).toNatClampNeg) hx hb dX5_isNumber_175 ?_
                  refine lv_iload_n hx hb dX5_isNumber_176 rfl (lv_at hl 1 rfl) ?_
                  refine k_iaddn (x := 4 * ((y83_0 13 0).toNatClampNeg)) (y := k0) hx hb dX5_isNumber_177 ?_
                  refine lv_aload_n hx hb dX5_isNumber_178 rfl (lv_at hl 0 rfl) ?_
                  refine va_get (D := (dC, dI)) (ci := 5) (v := .int (y83_0 11 0)) (C := RX5) (T := TX5) (N := 14) hx hb hts inX5 hown hK hP 0 rfl rfl 11 (by decide) (hts (.fieldLink RX5 144 "BoardMetronomesModel" "value" "I") (by decide +kernel)) (fun _ h9 => h9) rfl dX5_isNumber_179 ?_
                  refine k_iast (D := (dC, dI)) hx hb hK hP hD hS 7 0 rfl rfl (j := ((4 * ((y83_0 13 0).toNatClampNeg)) + k0)) (by omega) (by decide) dX5_isNumber_182 (fun H locs hP hD hS => ?_)
                  have hP : va_P (dC, dI) vwCl (MW cI cZ h0 q (upA y83_0 12 ((4 * ((y83_0 13 0).toNatClampNeg)) + k0) (y83_0 11 0))) H := Eq.mp (congrArg (fun w => va_P (dC, dI) vwCl w H) MW_a12) hP
                  have hD : va_D A0 (MW cI cZ h0 q (upA y83_0 12 ((4 * ((y83_0 13 0).toNatClampNeg)) + k0) (y83_0 11 0))) := Eq.mp (congrArg (fun w => va_D A0 w) MW_a12) hD
                  refine lv_aload_n hx hb dX5_isNumber_183 rfl (lv_at hl 0 rfl) ?_
                  refine va_get (D := (dC, dI)) (ci := 5) (v := .int (y83_0 11 0)) (C := RX5) (T := TX5) (N := 14) hx hb hts inX5 hown hK hP 0 rfl rfl 11 (by decide) (hts (.fieldLink RX5 144 "BoardMetronomesModel" "value" "I") (by decide +kernel)) (fun _ h9 => h9) (congrArg (fun z => some (Value.int z)) (show (upA y83_0 12 ((4 * ((y83_0 13 0).toNatClampNeg)) + k0) (y83_0 11 0)) 11 0 = y83_0 11 0 by rw [upA_o (show (11 : Nat) ≠ 12 by decide)])) dX5_isNumber_184 ?_
                  refine lv_iload_n hx hb dX5_isNumber_187 rfl (lv_at hl 2 rfl) ?_
                  refine lv_icmp_ge (tgt := 198) hx hb dX5_isNumber_188 (by decide) (fun c_188 => ?_) (fun c_188 => ?_)
                  · refine lv_iconst (v := (1 : Int32)) hx hb dX5_isNumber_198 (by decide) ?_
                    refine lv_goto (tgt := 203) hx hb dX5_isNumber_199 (by decide) ?_
                    have r7 : f_MisNumber u k0 p1 p2 = (true, upA y83_0 12 ((4 * ((y83_0 13 0).toNatClampNeg)) + k0) (y83_0 11 0)) := by
                      rw [hv3, f_MisNumber_R83, if_neg c_87, if_neg c_98, if_pos c_188]
                    exact kw_z (x := true) hx hb hr hlk hP hS dX5_isNumber_203 rfl (by rw [r7]) (by rw [r7])
                  · refine lv_aload_n hx hb dX5_isNumber_191 rfl (lv_at hl 0 rfl) ?_
                    refine kc_w (As := []) (rest := []) S (v := (some (.int (bI ((f_Mstops (upA y83_0 12 ((4 * ((y83_0 13 0).toNatClampNeg)) + k0) (y83_0 11 0))).1))))) (c_X5_stops l dC dI cI cZ cO h0 q (upA y83_0 12 ((4 * ((y83_0 13 0).toNatClampNeg)) + k0) (y83_0 11 0)) H.size) gX5_isNumber_X5_stops mi_X5_stops ⟨rfl, rfl⟩ ⟨Nat.le_of_ble_eq_true rfl, Nat.le_of_ble_eq_true rfl⟩ hK hP hD hS hA [0, 1, 2, 3, 4, 5, 6, 7] MW_all MW_fst rfl 0 rfl rfl ⟨Nat.le_refl _, Nat.le_refl _⟩ dX5_isNumber_192 rfl hl.1 rfl (Nat.le_of_ble_eq_true rfl) (fun H locs hP hD hS => ?_)
                    have hP : va_P (dC, dI) vwCl (MW cI cZ h0 q ((f_Mstops (upA y83_0 12 ((4 * ((y83_0 13 0).toNatClampNeg)) + k0) (y83_0 11 0))).2)) H := Eq.mp (congrArg (fun w => va_P (dC, dI) vwCl w H) MW_ks) hP
                    have hD : va_D A0 (MW cI cZ h0 q ((f_Mstops (upA y83_0 12 ((4 * ((y83_0 13 0).toNatClampNeg)) + k0) (y83_0 11 0))).2)) := Eq.mp (congrArg (fun w => va_D A0 w) MW_ks) hD
                    refine kb_eq (tgt := 202) hx hb dX5_isNumber_195 (by decide) (fun c_195 => ?_) (fun c_195 => ?_)
                    · refine lv_iconst (v := (0 : Int32)) hx hb dX5_isNumber_202 (by decide) ?_
                      have r8 : f_MisNumber u k0 p1 p2 = (false, (f_Mstops (upA y83_0 12 ((4 * ((y83_0 13 0).toNatClampNeg)) + k0) (y83_0 11 0))).2) := by
                        rw [hv3, f_MisNumber_R83, if_neg c_87, if_neg c_98, if_neg c_188, if_neg c_195]
                      exact kw_z (x := false) hx hb hr hlk hP hS dX5_isNumber_203 rfl (by rw [r8]) (by rw [r8])
                    · refine lv_iconst (v := (1 : Int32)) hx hb dX5_isNumber_198 (by decide) ?_
                      refine lv_goto (tgt := 203) hx hb dX5_isNumber_199 (by decide) ?_
                      have r9 : f_MisNumber u k0 p1 p2 = (true, (f_Mstops (upA y83_0 12 ((4 * ((y83_0 13 0).toNatClampNeg)) + k0) (y83_0 11 0))).2) := by
                        rw [hv3, f_MisNumber_R83, if_neg c_87, if_neg c_98, if_neg c_188, if_pos c_195]
                      exact kw_z (x := true) hx hb hr hlk hP hS dX5_isNumber_203 rfl (by rw [r9]) (by rw [r9])
                · have c_98n : (y83_0 9 0).toNatClampNeg < (y83_0 7 0).toNatClampNeg := by have z := f_MisAt_lt hinv.1 hinv.2.1 c_98; exact z
                  refine lv_bipush (v := (10 : Int32)) hx hb dX5_isNumber_101 (by decide) ?_
                  refine lv_aload_n hx hb dX5_isNumber_103 rfl (lv_at hl 0 rfl) ?_
                  refine va_get (D := (dC, dI)) (ci := 5) (v := .int (y83_0 11 0)) (C := RX5) (T := TX5) (N := 14) hx hb hts inX5 hown hK hP 0 rfl rfl 11 (by decide) (hts (.fieldLink RX5 144 "BoardMetronomesModel" "value" "I") (by decide +kernel)) (fun _ h9 => h9) rfl dX5_isNumber_104 ?_
                  refine lv_imul hx hb dX5_isNumber_107 ?_
                  refine lv_aload_n hx hb dX5_isNumber_108 rfl (lv_at hl 0 rfl) ?_
                  refine va_get (D := (dC, dI)) (ci := 5) (v := .ref (q 6)) (C := RX5) (T := TX5) (N := 14) hx hb hts inX5 hown hK hP 0 rfl rfl 6 (by decide) (hts (.fieldLink RX5 26 "BoardMetronomesModel" "text" "[I") (by decide +kernel)) (fun _ h9 => h9) rfl dX5_isNumber_109 ?_
                  refine lv_aload_n hx hb dX5_isNumber_112 rfl (lv_at hl 0 rfl) ?_
                  refine va_get (D := (dC, dI)) (ci := 5) (v := .int (y83_0 9 0)) (C := RX5) (T := TX5) (N := 14) hx hb hts inX5 hown hK hP 0 rfl rfl 9 (by decide) (hts (.fieldLink RX5 126 "BoardMetronomesModel" "at" "I") (by decide +kernel)) (fun _ h9 => h9) rfl dX5_isNumber_113 ?_
                  refine kt_i (kcl hinv.1).symm ?_
                  refine k_iald (D := (dC, dI)) hx hb hK hP 6 0 rfl rfl (j := ((y83_0 9 0).toNatClampNeg)) (by omega) (by decide) dX5_isNumber_116 ?_
                  refine lv_iadd hx hb dX5_isNumber_117 ?_
                  refine lv_bipush (v := (48 : Int32)) hx hb dX5_isNumber_118 (by decide) ?_
                  refine lv_isub hx hb dX5_isNumber_120 ?_
                  refine lv_iload_n hx hb dX5_isNumber_121 rfl (lv_at hl 2 rfl) ?_
                  refine lv_iload_n hx hb dX5_isNumber_122 rfl (lv_at hl 3 rfl) ?_
                  refine kc_p (y := yX5_canBe) (As := [.int ((((10 : Int32) * (y83_0 11 0)) + (y83_0 6 ((y83_0 9 0).toNatClampNeg))) - (48 : Int32)), .int p1, .int p2]) (rest := []) rfl S (v := .int (bI (f_McanBe ((((10 : Int32) * (y83_0 11 0)) + (y83_0 6 ((y83_0 9 0).toNatClampNeg))) - (48 : Int32)) p1 p2))) (c_X5_canBe l ((((10 : Int32) * (y83_0 11 0)) + (y83_0 6 ((y83_0 9 0).toNatClampNeg))) - (48 : Int32)) p1 p2) gX5_isNumber_X5_canBe mi_X5_canBe ⟨rfl, rfl⟩ ⟨Nat.le_of_ble_eq_true rfl, Nat.le_of_ble_eq_true rfl⟩ ⟨Nat.le_refl _, Nat.le_refl _⟩ dX5_isNumber_123 rfl hl.1 rfl (Nat.le_of_ble_eq_true rfl) ?_
                  refine kb_eq (tgt := 166) hx hb dX5_isNumber_126 (by decide) (fun c_126 => ?_) (fun c_126 => ?_)
                  · refine lv_aload_n hx hb dX5_isNumber_166 rfl (lv_at hl 0 rfl) ?_
                    refine va_get (D := (dC, dI)) (ci := 5) (v := .ref (q 12)) (C := RX5) (T := TX5) (N := 14) hx hb hts inX5 hown hK hP 0 rfl rfl 12 (by decide) (hts (.fieldLink RX5 29 "BoardMetronomesModel" "told" "[I") (by decide +kernel)) (fun _ h9 => h9) rfl dX5_isNumber_167 ?_
                    refine lv_iconst (v := (4 : Int32)) hx hb dX5_isNumber_170 (by decide) ?_
                    refine lv_aload_n hx hb dX5_isNumber_171 rfl (lv_at hl 0 rfl) ?_
                    refine va_get (D := (dC, dI)) (ci := 5) (v := .int (y83_0 13 0)) (C := RX5) (T := TX5) (N := 14) hx hb hts inX5 hown hK hP 0 rfl rfl 13 (by decide) (hts (.fieldLink RX5 147 "BoardMetronomesModel" "tolds" "I") (by decide +kernel)) (fun _ h9 => h9) rfl dX5_isNumber_172 ?_
                    refine kt_i (kcl hinv.2.2.1).symm ?_
                    refine k_imuln (x := 4) (y := (y83_0 13 0).toNatClampNeg) hx hb dX5_isNumber_175 ?_
                    refine lv_iload_n hx hb dX5_isNumber_176 rfl (lv_at hl 1 rfl) ?_
                    refine k_iaddn (x := 4 * ((y83_0 13 0).toNatClampNeg)) (y := k0) hx hb dX5_isNumber_177 ?_
                    refine lv_aload_n hx hb dX5_isNumber_178 rfl (lv_at hl 0 rfl) ?_
                    refine va_get (D := (dC, dI)) (ci := 5) (v := .int (y83_0 11 0)) (C := RX5) (T := TX5) (N := 14) hx hb hts inX5 hown hK hP 0 rfl rfl 11 (by decide) (hts (.fieldLink RX5 144 "BoardMetronomesModel" "value" "I") (by decide +kernel)) (fun _ h9 => h9) rfl dX5_isNumber_179 ?_
                    refine k_iast (D := (dC, dI)) hx hb hK hP hD hS 7 0 rfl rfl (j := ((4 * ((y83_0 13 0).toNatClampNeg)) + k0)) (by omega) (by decide) dX5_isNumber_182 (fun H locs hP hD hS => ?_)
                    have hP : va_P (dC, dI) vwCl (MW cI cZ h0 q (upA y83_0 12 ((4 * ((y83_0 13 0).toNatClampNeg)) + k0) (y83_0 11 0))) H := Eq.mp (congrArg (fun w => va_P (dC, dI) vwCl w H) MW_a12) hP
                    have hD : va_D A0 (MW cI cZ h0 q (upA y83_0 12 ((4 * ((y83_0 13 0).toNatClampNeg)) + k0) (y83_0 11 0))) := Eq.mp (congrArg (fun w => va_D A0 w) MW_a12) hD
                    refine lv_aload_n hx hb dX5_isNumber_183 rfl (lv_at hl 0 rfl) ?_
                    refine va_get (D := (dC, dI)) (ci := 5) (v := .int (y83_0 11 0)) (C := RX5) (T := TX5) (N := 14) hx hb hts inX5 hown hK hP 0 rfl rfl 11 (by decide) (hts (.fieldLink RX5 144 "BoardMetronomesModel" "value" "I") (by decide +kernel)) (fun _ h9 => h9) (congrArg (fun z => some (Value.int z)) (show (upA y83_0 12 ((4 * ((y83_0 13 0).toNatClampNeg)) + k0) (y83_0 11 0)) 11 0 = y83_0 11 0 by rw [upA_o (show (11 : Nat) ≠ 12 by decide)])) dX5_isNumber_184 ?_
                    refine lv_iload_n hx hb dX5_isNumber_187 rfl (lv_at hl 2 rfl) ?_
                    refine lv_icmp_ge (tgt := 198) hx hb dX5_isNumber_188 (by decide) (fun c_188 => ?_) (fun c_188 => ?_)
                    · refine lv_iconst (v := (1 : Int32)) hx hb dX5_isNumber_198 (by decide) ?_
                      refine lv_goto (tgt := 203) hx hb dX5_isNumber_199 (by decide) ?_
                      have r10 : f_MisNumber u k0 p1 p2 = (true, upA y83_0 12 ((4 * ((y83_0 13 0).toNatClampNeg)) + k0) (y83_0 11 0)) := by
                        rw [hv3, f_MisNumber_R83, if_neg c_87, if_pos c_98, if_neg c_126, if_pos c_188]
                      exact kw_z (x := true) hx hb hr hlk hP hS dX5_isNumber_203 rfl (by rw [r10]) (by rw [r10])
                    · refine lv_aload_n hx hb dX5_isNumber_191 rfl (lv_at hl 0 rfl) ?_
                      refine kc_w (As := []) (rest := []) S (v := (some (.int (bI ((f_Mstops (upA y83_0 12 ((4 * ((y83_0 13 0).toNatClampNeg)) + k0) (y83_0 11 0))).1))))) (c_X5_stops l dC dI cI cZ cO h0 q (upA y83_0 12 ((4 * ((y83_0 13 0).toNatClampNeg)) + k0) (y83_0 11 0)) H.size) gX5_isNumber_X5_stops mi_X5_stops ⟨rfl, rfl⟩ ⟨Nat.le_of_ble_eq_true rfl, Nat.le_of_ble_eq_true rfl⟩ hK hP hD hS hA [0, 1, 2, 3, 4, 5, 6, 7] MW_all MW_fst rfl 0 rfl rfl ⟨Nat.le_refl _, Nat.le_refl _⟩ dX5_isNumber_192 rfl hl.1 rfl (Nat.le_of_ble_eq_true rfl) (fun H locs hP hD hS => ?_)
                      have hP : va_P (dC, dI) vwCl (MW cI cZ h0 q ((f_Mstops (upA y83_0 12 ((4 * ((y83_0 13 0).toNatClampNeg)) + k0) (y83_0 11 0))).2)) H := Eq.mp (congrArg (fun w => va_P (dC, dI) vwCl w H) MW_ks) hP
                      have hD : va_D A0 (MW cI cZ h0 q ((f_Mstops (upA y83_0 12 ((4 * ((y83_0 13 0).toNatClampNeg)) + k0) (y83_0 11 0))).2)) := Eq.mp (congrArg (fun w => va_D A0 w) MW_ks) hD
                      refine kb_eq (tgt := 202) hx hb dX5_isNumber_195 (by decide) (fun c_195 => ?_) (fun c_195 => ?_)
                      · refine lv_iconst (v := (0 : Int32)) hx hb dX5_isNumber_202 (by decide) ?_
                        have r11 : f_MisNumber u k0 p1 p2 = (false, (f_Mstops (upA y83_0 12 ((4 * ((y83_0 13 0).toNatClampNeg)) + k0) (y83_0 11 0))).2) := by
                          rw [hv3, f_MisNumber_R83, if_neg c_87, if_pos c_98, if_neg c_126, if_neg c_188, if_neg c_195]
                        exact kw_z (x := false) hx hb hr hlk hP hS dX5_isNumber_203 rfl (by rw [r11]) (by rw [r11])
                      · refine lv_iconst (v := (1 : Int32)) hx hb dX5_isNumber_198 (by decide) ?_
                        refine lv_goto (tgt := 203) hx hb dX5_isNumber_199 (by decide) ?_
                        have r12 : f_MisNumber u k0 p1 p2 = (true, (f_Mstops (upA y83_0 12 ((4 * ((y83_0 13 0).toNatClampNeg)) + k0) (y83_0 11 0))).2) := by
                          rw [hv3, f_MisNumber_R83, if_neg c_87, if_pos c_98, if_neg c_126, if_neg c_188, if_pos c_195]
                        exact kw_z (x := true) hx hb hr hlk hP hS dX5_isNumber_203 rfl (by rw [r12]) (by rw [r12])
                  · refine lv_aload_n hx hb dX5_isNumber_129 rfl (lv_at hl 0 rfl) ?_
                    refine lv_bipush (v := (10 : Int32)) hx hb dX5_isNumber_130 (by decide) ?_
                    refine lv_aload_n hx hb dX5_isNumber_132 rfl (lv_at hl 0 rfl) ?_
                    refine va_get (D := (dC, dI)) (ci := 5) (v := .int (y83_0 11 0)) (C := RX5) (T := TX5) (N := 14) hx hb hts inX5 hown hK hP 0 rfl rfl 11 (by decide) (hts (.fieldLink RX5 144 "BoardMetronomesModel" "value" "I") (by decide +kernel)) (fun _ h9 => h9) rfl dX5_isNumber_133 ?_
                    refine lv_imul hx hb dX5_isNumber_136 ?_
                    refine lv_aload_n hx hb dX5_isNumber_137 rfl (lv_at hl 0 rfl) ?_
                    refine va_get (D := (dC, dI)) (ci := 5) (v := .ref (q 6)) (C := RX5) (T := TX5) (N := 14) hx hb hts inX5 hown hK hP 0 rfl rfl 6 (by decide) (hts (.fieldLink RX5 26 "BoardMetronomesModel" "text" "[I") (by decide +kernel)) (fun _ h9 => h9) rfl dX5_isNumber_138 ?_
                    refine lv_aload_n hx hb dX5_isNumber_141 rfl (lv_at hl 0 rfl) ?_
                    refine va_get (D := (dC, dI)) (ci := 5) (v := .int (y83_0 9 0)) (C := RX5) (T := TX5) (N := 14) hx hb hts inX5 hown hK hP 0 rfl rfl 9 (by decide) (hts (.fieldLink RX5 126 "BoardMetronomesModel" "at" "I") (by decide +kernel)) (fun _ h9 => h9) rfl dX5_isNumber_142 ?_
                    refine kt_i (kcl hinv.1).symm ?_
                    refine k_iald (D := (dC, dI)) hx hb hK hP 6 0 rfl rfl (j := ((y83_0 9 0).toNatClampNeg)) (by omega) (by decide) dX5_isNumber_145 ?_
                    refine lv_iadd hx hb dX5_isNumber_146 ?_
                    refine lv_bipush (v := (48 : Int32)) hx hb dX5_isNumber_147 (by decide) ?_
                    refine lv_isub hx hb dX5_isNumber_149 ?_
                    refine va_put (D := (dC, dI)) (ci := 5) (v := .int ((((10 : Int32) * (y83_0 11 0)) + (y83_0 6 ((y83_0 9 0).toNatClampNeg))) - (48 : Int32))) (ty := .int) (C := RX5) (T := TX5) (N := 14) hx hb hts inX5 tyX5 tyX5_ok nmX5 hown hK hP hD hS 0 rfl rfl 11 (by decide) (hts (.fieldLink RX5 144 "BoardMetronomesModel" "value" "I") (by decide +kernel)) (fun _ h9 => h9) rfl (by decide +kernel) rfl rfl (Nat.le_of_ble_eq_true rfl) dX5_isNumber_150 (fun H locs hP hD hS => ?_)
                    have hP : va_P (dC, dI) vwCl (MW cI cZ h0 q (upA y83_0 11 0 ((((10 : Int32) * (y83_0 11 0)) + (y83_0 6 ((y83_0 9 0).toNatClampNeg))) - (48 : Int32)))) H := Eq.mp (congrArg (fun w => va_P (dC, dI) vwCl w H) MW_s11) hP
                    have hD : va_D A0 (MW cI cZ h0 q (upA y83_0 11 0 ((((10 : Int32) * (y83_0 11 0)) + (y83_0 6 ((y83_0 9 0).toNatClampNeg))) - (48 : Int32)))) := Eq.mp (congrArg (fun w => va_D A0 w) MW_s11) hD
                    refine lv_aload_n hx hb dX5_isNumber_153 rfl (lv_at hl 0 rfl) ?_
                    refine lv_dup hx hb dX5_isNumber_154 rfl ?_
                    refine va_get (D := (dC, dI)) (ci := 5) (v := .int (y83_0 9 0)) (C := RX5) (T := TX5) (N := 14) hx hb hts inX5 hown hK hP 0 rfl rfl 9 (by decide) (hts (.fieldLink RX5 126 "BoardMetronomesModel" "at" "I") (by decide +kernel)) (fun _ h9 => h9) (congrArg (fun z => some (Value.int z)) (show (upA y83_0 11 0 ((((10 : Int32) * (y83_0 11 0)) + (y83_0 6 ((y83_0 9 0).toNatClampNeg))) - (48 : Int32))) 9 0 = y83_0 9 0 by rw [upA_o (show (9 : Nat) ≠ 11 by decide)])) dX5_isNumber_155 ?_
                    refine kt_i (kcl hinv.1).symm ?_
                    refine lv_iconst (v := (1 : Int32)) hx hb dX5_isNumber_158 (by decide) ?_
                    refine k_iaddn (x := (y83_0 9 0).toNatClampNeg) (y := 1) hx hb dX5_isNumber_159 ?_
                    refine va_put (D := (dC, dI)) (ci := 5) (v := .int (nI (((y83_0 9 0).toNatClampNeg) + 1))) (ty := .int) (C := RX5) (T := TX5) (N := 14) hx hb hts inX5 tyX5 tyX5_ok nmX5 hown hK hP hD hS 0 rfl rfl 9 (by decide) (hts (.fieldLink RX5 126 "BoardMetronomesModel" "at" "I") (by decide +kernel)) (fun _ h9 => h9) rfl (by decide +kernel) rfl rfl (Nat.le_of_ble_eq_true rfl) dX5_isNumber_160 (fun H locs hP hD hS => ?_)
                    have hP : va_P (dC, dI) vwCl (MW cI cZ h0 q (upA (upA y83_0 11 0 ((((10 : Int32) * (y83_0 11 0)) + (y83_0 6 ((y83_0 9 0).toNatClampNeg))) - (48 : Int32))) 9 0 (nI (((y83_0 9 0).toNatClampNeg) + 1)))) H := Eq.mp (congrArg (fun w => va_P (dC, dI) vwCl w H) MW_s9) hP
                    have hD : va_D A0 (MW cI cZ h0 q (upA (upA y83_0 11 0 ((((10 : Int32) * (y83_0 11 0)) + (y83_0 6 ((y83_0 9 0).toNatClampNeg))) - (48 : Int32))) 9 0 (nI (((y83_0 9 0).toNatClampNeg) + 1)))) := Eq.mp (congrArg (fun w => va_D A0 w) MW_s9) hD
                    refine lv_goto (tgt := 83) hx hb dX5_isNumber_163 (by decide) ?_
                    exact ih3 (j83_ + 1) (by omega) (upA (upA y83_0 11 0 ((((10 : Int32) * (y83_0 11 0)) + (y83_0 6 ((y83_0 9 0).toNatClampNeg))) - (48 : Int32))) 9 0 (nI (((y83_0 9 0).toNatClampNeg) + 1))) ⟨by rw [upA_s]; exact vp_in_nI (by omega) (by decide), by rw [upA_o (show (7 : Nat) ≠ 9 by decide), upA_o (show (7 : Nat) ≠ 11 by decide)]; exact hinv.2.1, by rw [upA_o (show (13 : Nat) ≠ 9 by decide), upA_o (show (13 : Nat) ≠ 11 by decide)]; exact hinv.2.2.1, by rw [upA_s, nI_clamp (by omega)]; omega⟩ (by rw [hv3, f_MisNumber_R83, if_neg c_87, if_pos c_98, if_pos c_126]) H locs ls hP hD hS (lv_sub hl [0, 1, 2, 3, 4] rfl)
          exact L3 61 0 (by omega) (upA (upA u 11 0 ((u 6 ((u 9 0).toNatClampNeg)) - (48 : Int32))) 9 0 (nI (((u 9 0).toNatClampNeg) + 1))) ⟨by rw [upA_s]; exact vp_in_nI (by omega) (by decide), by rw [upA_o (show (7 : Nat) ≠ 9 by decide), upA_o (show (7 : Nat) ≠ 11 by decide)]; exact ht, by rw [upA_o (show (13 : Nat) ≠ 9 by decide), upA_o (show (13 : Nat) ≠ 11 by decide)]; exact hd, by rw [upA_s, nI_clamp (by omega)]; omega⟩ (by rw [f_MisNumber, if_neg c_2, if_pos c_17, if_pos c_37]) H locs ls hP hD hS (lv_sub hl [1, 2, 3, 4, 0] rfl)
        · exact absurd c_49 (by decide)
  · refine lv_bipush (v := (48 : Int32)) hx hb dX5_isNumber_5 (by decide) ?_
    refine lv_goto (tgt := 12) hx hb dX5_isNumber_7 (by decide) ?_
    refine lv_bipush (v := (57 : Int32)) hx hb dX5_isNumber_12 (by decide) ?_
    refine kc_v (As := [.int (48 : Int32), .int (57 : Int32)]) (rest := []) S (v := .int (bI (f_MisAt u (48 : Int32) (57 : Int32)))) (c_X5_isAt l dC dI cI cZ cO h0 q u (48 : Int32) (57 : Int32) ha ht) gX5_isNumber_X5_isAt mi_X5_isAt ⟨rfl, rfl⟩ ⟨Nat.le_of_ble_eq_true rfl, Nat.le_of_ble_eq_true rfl⟩ hK hP 0 rfl rfl ⟨Nat.le_refl _, Nat.le_refl _⟩ dX5_isNumber_14 rfl hl.1 rfl (Nat.le_of_ble_eq_true rfl) ?_
    refine kb_eq (tgt := 44) hx hb dX5_isNumber_17 (by decide) (fun c_17 => ?_) (fun c_17 => ?_)
    · refine lv_iconst (v := (0 : Int32)) hx hb dX5_isNumber_44 (by decide) ?_
      refine lv_istore (lv' := [(4, .int (0 : Int32)), (0, .ref h0), (1, .int (nI k0)), (2, .int p1), (3, .int p2)]) hx hb dX5_isNumber_45 hl (by decide) rfl (fun ls hl => ?_)
      refine lv_iload hx hb dX5_isNumber_47 (lv_at hl 0 rfl) ?_
      refine lv_if_ne (tgt := 57) hx hb dX5_isNumber_49 (by decide) (fun c_49 => ?_) (fun c_49 => ?_)
      · exact absurd (by decide) c_49
      · refine lv_aload_n hx hb dX5_isNumber_52 rfl (lv_at hl 1 rfl) ?_
        refine kc_w (As := []) (rest := []) S (v := (some (.int (bI ((f_Mstops u).1))))) (c_X5_stops l dC dI cI cZ cO h0 q u s.heap.size) gX5_isNumber_X5_stops mi_X5_stops ⟨rfl, rfl⟩ ⟨Nat.le_of_ble_eq_true rfl, Nat.le_of_ble_eq_true rfl⟩ hK hP hD hS hA [0, 1, 2, 3, 4, 5, 6, 7] MW_all MW_fst rfl 0 rfl rfl ⟨Nat.le_refl _, Nat.le_refl _⟩ dX5_isNumber_53 rfl hl.1 rfl (Nat.le_of_ble_eq_true rfl) (fun H locs hP hD hS => ?_)
        have hP : va_P (dC, dI) vwCl (MW cI cZ h0 q ((f_Mstops u).2)) H := Eq.mp (congrArg (fun w => va_P (dC, dI) vwCl w H) MW_ks) hP
        have hD : va_D A0 (MW cI cZ h0 q ((f_Mstops u).2)) := Eq.mp (congrArg (fun w => va_D A0 w) MW_ks) hD
        have r13 : f_MisNumber u k0 p1 p2 = (((f_Mstops u).1), (f_Mstops u).2) := by
          rw [f_MisNumber, if_pos c_2, if_neg c_17]
        exact kw_z (x := ((f_Mstops u).1)) hx hb hr hlk hP hS dX5_isNumber_56 rfl (by rw [r13]) (by rw [r13])
    · have c_17n : (u 9 0).toNatClampNeg < (u 7 0).toNatClampNeg := by have z := f_MisAt_lt ha ht c_17; exact z
      refine lv_aload_n hx hb dX5_isNumber_20 rfl (lv_at hl 0 rfl) ?_
      refine va_get (D := (dC, dI)) (ci := 5) (v := .ref (q 6)) (C := RX5) (T := TX5) (N := 14) hx hb hts inX5 hown hK hP 0 rfl rfl 6 (by decide) (hts (.fieldLink RX5 26 "BoardMetronomesModel" "text" "[I") (by decide +kernel)) (fun _ h9 => h9) rfl dX5_isNumber_21 ?_
      refine lv_aload_n hx hb dX5_isNumber_24 rfl (lv_at hl 0 rfl) ?_
      refine va_get (D := (dC, dI)) (ci := 5) (v := .int (u 9 0)) (C := RX5) (T := TX5) (N := 14) hx hb hts inX5 hown hK hP 0 rfl rfl 9 (by decide) (hts (.fieldLink RX5 126 "BoardMetronomesModel" "at" "I") (by decide +kernel)) (fun _ h9 => h9) rfl dX5_isNumber_25 ?_
      refine kt_i (kcl ha).symm ?_
      refine k_iald (D := (dC, dI)) hx hb hK hP 6 0 rfl rfl (j := ((u 9 0).toNatClampNeg)) (by omega) (by decide) dX5_isNumber_28 ?_
      refine lv_bipush (v := (48 : Int32)) hx hb dX5_isNumber_29 (by decide) ?_
      refine lv_isub hx hb dX5_isNumber_31 ?_
      refine lv_iload_n hx hb dX5_isNumber_32 rfl (lv_at hl 2 rfl) ?_
      refine lv_iload_n hx hb dX5_isNumber_33 rfl (lv_at hl 3 rfl) ?_
      refine kc_p (y := yX5_canBe) (As := [.int ((u 6 ((u 9 0).toNatClampNeg)) - (48 : Int32)), .int p1, .int p2]) (rest := []) rfl S (v := .int (bI (f_McanBe ((u 6 ((u 9 0).toNatClampNeg)) - (48 : Int32)) p1 p2))) (c_X5_canBe l ((u 6 ((u 9 0).toNatClampNeg)) - (48 : Int32)) p1 p2) gX5_isNumber_X5_canBe mi_X5_canBe ⟨rfl, rfl⟩ ⟨Nat.le_of_ble_eq_true rfl, Nat.le_of_ble_eq_true rfl⟩ ⟨Nat.le_refl _, Nat.le_refl _⟩ dX5_isNumber_34 rfl hl.1 rfl (Nat.le_of_ble_eq_true rfl) ?_
      refine kb_eq (tgt := 44) hx hb dX5_isNumber_37 (by decide) (fun c_37 => ?_) (fun c_37 => ?_)
      · refine lv_iconst (v := (0 : Int32)) hx hb dX5_isNumber_44 (by decide) ?_
        refine lv_istore (lv' := [(4, .int (0 : Int32)), (0, .ref h0), (1, .int (nI k0)), (2, .int p1), (3, .int p2)]) hx hb dX5_isNumber_45 hl (by decide) rfl (fun ls hl => ?_)
        refine lv_iload hx hb dX5_isNumber_47 (lv_at hl 0 rfl) ?_
        refine lv_if_ne (tgt := 57) hx hb dX5_isNumber_49 (by decide) (fun c_49 => ?_) (fun c_49 => ?_)
        · exact absurd (by decide) c_49
        · refine lv_aload_n hx hb dX5_isNumber_52 rfl (lv_at hl 1 rfl) ?_
          refine kc_w (As := []) (rest := []) S (v := (some (.int (bI ((f_Mstops u).1))))) (c_X5_stops l dC dI cI cZ cO h0 q u s.heap.size) gX5_isNumber_X5_stops mi_X5_stops ⟨rfl, rfl⟩ ⟨Nat.le_of_ble_eq_true rfl, Nat.le_of_ble_eq_true rfl⟩ hK hP hD hS hA [0, 1, 2, 3, 4, 5, 6, 7] MW_all MW_fst rfl 0 rfl rfl ⟨Nat.le_refl _, Nat.le_refl _⟩ dX5_isNumber_53 rfl hl.1 rfl (Nat.le_of_ble_eq_true rfl) (fun H locs hP hD hS => ?_)
          have hP : va_P (dC, dI) vwCl (MW cI cZ h0 q ((f_Mstops u).2)) H := Eq.mp (congrArg (fun w => va_P (dC, dI) vwCl w H) MW_ks) hP
          have hD : va_D A0 (MW cI cZ h0 q ((f_Mstops u).2)) := Eq.mp (congrArg (fun w => va_D A0 w) MW_ks) hD
          have r14 : f_MisNumber u k0 p1 p2 = (((f_Mstops u).1), (f_Mstops u).2) := by
            rw [f_MisNumber, if_pos c_2, if_pos c_17, if_neg c_37]
          exact kw_z (x := ((f_Mstops u).1)) hx hb hr hlk hP hS dX5_isNumber_56 rfl (by rw [r14]) (by rw [r14])
      · refine lv_iconst (v := (1 : Int32)) hx hb dX5_isNumber_40 (by decide) ?_
        refine lv_goto (tgt := 45) hx hb dX5_isNumber_41 (by decide) ?_
        refine lv_istore (lv' := [(4, .int (1 : Int32)), (0, .ref h0), (1, .int (nI k0)), (2, .int p1), (3, .int p2)]) hx hb dX5_isNumber_45 hl (by decide) rfl (fun ls hl => ?_)
        refine lv_iload hx hb dX5_isNumber_47 (lv_at hl 0 rfl) ?_
        refine lv_if_ne (tgt := 57) hx hb dX5_isNumber_49 (by decide) (fun c_49 => ?_) (fun c_49 => ?_)
        · refine lv_aload_n hx hb dX5_isNumber_57 rfl (lv_at hl 1 rfl) ?_
          refine lv_aload_n hx hb dX5_isNumber_58 rfl (lv_at hl 1 rfl) ?_
          refine va_get (D := (dC, dI)) (ci := 5) (v := .ref (q 6)) (C := RX5) (T := TX5) (N := 14) hx hb hts inX5 hown hK hP 0 rfl rfl 6 (by decide) (hts (.fieldLink RX5 26 "BoardMetronomesModel" "text" "[I") (by decide +kernel)) (fun _ h9 => h9) rfl dX5_isNumber_59 ?_
          refine lv_aload_n hx hb dX5_isNumber_62 rfl (lv_at hl 1 rfl) ?_
          refine va_get (D := (dC, dI)) (ci := 5) (v := .int (u 9 0)) (C := RX5) (T := TX5) (N := 14) hx hb hts inX5 hown hK hP 0 rfl rfl 9 (by decide) (hts (.fieldLink RX5 126 "BoardMetronomesModel" "at" "I") (by decide +kernel)) (fun _ h9 => h9) rfl dX5_isNumber_63 ?_
          refine kt_i (kcl ha).symm ?_
          refine k_iald (D := (dC, dI)) hx hb hK hP 6 0 rfl rfl (j := ((u 9 0).toNatClampNeg)) (by omega) (by decide) dX5_isNumber_66 ?_
          refine lv_bipush (v := (48 : Int32)) hx hb dX5_isNumber_67 (by decide) ?_
          refine lv_isub hx hb dX5_isNumber_69 ?_
          refine va_put (D := (dC, dI)) (ci := 5) (v := .int ((u 6 ((u 9 0).toNatClampNeg)) - (48 : Int32))) (ty := .int) (C := RX5) (T := TX5) (N := 14) hx hb hts inX5 tyX5 tyX5_ok nmX5 hown hK hP hD hS 0 rfl rfl 11 (by decide) (hts (.fieldLink RX5 144 "BoardMetronomesModel" "value" "I") (by decide +kernel)) (fun _ h9 => h9) rfl (by decide +kernel) rfl rfl (Nat.le_of_ble_eq_true rfl) dX5_isNumber_70 (fun H locs hP hD hS => ?_)
          have hP : va_P (dC, dI) vwCl (MW cI cZ h0 q (upA u 11 0 ((u 6 ((u 9 0).toNatClampNeg)) - (48 : Int32)))) H := Eq.mp (congrArg (fun w => va_P (dC, dI) vwCl w H) MW_s11) hP
          have hD : va_D A0 (MW cI cZ h0 q (upA u 11 0 ((u 6 ((u 9 0).toNatClampNeg)) - (48 : Int32)))) := Eq.mp (congrArg (fun w => va_D A0 w) MW_s11) hD
          refine lv_aload_n hx hb dX5_isNumber_73 rfl (lv_at hl 1 rfl) ?_
          refine lv_dup hx hb dX5_isNumber_74 rfl ?_
          refine va_get (D := (dC, dI)) (ci := 5) (v := .int (u 9 0)) (C := RX5) (T := TX5) (N := 14) hx hb hts inX5 hown hK hP 0 rfl rfl 9 (by decide) (hts (.fieldLink RX5 126 "BoardMetronomesModel" "at" "I") (by decide +kernel)) (fun _ h9 => h9) (congrArg (fun z => some (Value.int z)) (show (upA u 11 0 ((u 6 ((u 9 0).toNatClampNeg)) - (48 : Int32))) 9 0 = u 9 0 by rw [upA_o (show (9 : Nat) ≠ 11 by decide)])) dX5_isNumber_75 ?_
          refine kt_i (kcl ha).symm ?_
          refine lv_iconst (v := (1 : Int32)) hx hb dX5_isNumber_78 (by decide) ?_
          refine k_iaddn (x := (u 9 0).toNatClampNeg) (y := 1) hx hb dX5_isNumber_79 ?_
          refine va_put (D := (dC, dI)) (ci := 5) (v := .int (nI (((u 9 0).toNatClampNeg) + 1))) (ty := .int) (C := RX5) (T := TX5) (N := 14) hx hb hts inX5 tyX5 tyX5_ok nmX5 hown hK hP hD hS 0 rfl rfl 9 (by decide) (hts (.fieldLink RX5 126 "BoardMetronomesModel" "at" "I") (by decide +kernel)) (fun _ h9 => h9) rfl (by decide +kernel) rfl rfl (Nat.le_of_ble_eq_true rfl) dX5_isNumber_80 (fun H locs hP hD hS => ?_)
          have hP : va_P (dC, dI) vwCl (MW cI cZ h0 q (upA (upA u 11 0 ((u 6 ((u 9 0).toNatClampNeg)) - (48 : Int32))) 9 0 (nI (((u 9 0).toNatClampNeg) + 1)))) H := Eq.mp (congrArg (fun w => va_P (dC, dI) vwCl w H) MW_s9) hP
          have hD : va_D A0 (MW cI cZ h0 q (upA (upA u 11 0 ((u 6 ((u 9 0).toNatClampNeg)) - (48 : Int32))) 9 0 (nI (((u 9 0).toNatClampNeg) + 1)))) := Eq.mp (congrArg (fun w => va_D A0 w) MW_s9) hD
          have L15 : ∀ (n j83_ : Nat), j83_ + n = 61 → ∀ (y83_0 : BS), (vp_in (y83_0 9 0) 61 ∧ vp_in (y83_0 7 0) 61 ∧ vp_in (y83_0 13 0) 31 ∧ 60 < (y83_0 9 0).toNatClampNeg + n) → f_MisNumber u k0 p1 p2 = f_MisNumber_R83 u k0 p1 p2 n j83_ y83_0 → ∀ (H : Heap) (locs : List Loc) (ls : Array Slot), va_P (dC, dI) vwCl (MW cI cZ h0 q y83_0) H → va_D A0 (MW cI cZ h0 q y83_0) → va_S A0 s.heap H locs → lv_has ls 5 [(0, .ref h0), (1, .int (nI k0)), (2, .int p1), (3, .int p2), (4, .int (1 : Int32))] → W p l e rm_X5_isNumber s m args below meth c H locs 0 0 (MQ below (kQw (some (.int (bI (f_MisNumber u k0 p1 p2).1))) (dC, dI) vwCl (MW cI cZ h0 q ((f_MisNumber u k0 p1 p2).2)) A0) args s 0 0 A0) (F0 m 83 ls []) := by
            intro n
            induction n with
            | zero =>
              intro j83_ hj15 y83_0 hinv hv15 H locs ls hP hD hS hl
              exact absurd hinv.2.2.2 (by have z := vp_lt hinv.1; omega)
            | succ n ih15 =>
              intro j83_ hj15 y83_0 hinv hv15 H locs ls hP hD hS hl
              have hY9 := vp_lt hinv.1
              have hY7 := vp_lt hinv.2.1
              have hYd := vp_lt hinv.2.2.1
              have hYn := hinv.2.2.2
              refine lv_aload_n hx hb dX5_isNumber_83 rfl (lv_at hl 0 rfl) ?_
              refine va_get (D := (dC, dI)) (ci := 5) (v := .int (y83_0 11 0)) (C := RX5) (T := TX5) (N := 14) hx hb hts inX5 hown hK hP 0 rfl rfl 11 (by decide) (hts (.fieldLink RX5 144 "BoardMetronomesModel" "value" "I") (by decide +kernel)) (fun _ h9 => h9) rfl dX5_isNumber_84 ?_
              refine lv_if_le (tgt := 166) hx hb dX5_isNumber_87 (by decide) (fun c_87 => ?_) (fun c_87 => ?_)
              · refine lv_aload_n hx hb dX5_isNumber_166 rfl (lv_at hl 0 rfl) ?_
                refine va_get (D := (dC, dI)) (ci := 5) (v := .ref (q 12)) (C := RX5) (T := TX5) (N := 14) hx hb hts inX5 hown hK hP 0 rfl rfl 12 (by decide) (hts (.fieldLink RX5 29 "BoardMetronomesModel" "told" "[I") (by decide +kernel)) (fun _ h9 => h9) rfl dX5_isNumber_167 ?_
                refine lv_iconst (v := (4 : Int32)) hx hb dX5_isNumber_170 (by decide) ?_
                refine lv_aload_n hx hb dX5_isNumber_171 rfl (lv_at hl 0 rfl) ?_
                refine va_get (D := (dC, dI)) (ci := 5) (v := .int (y83_0 13 0)) (C := RX5) (T := TX5) (N := 14) hx hb hts inX5 hown hK hP 0 rfl rfl 13 (by decide) (hts (.fieldLink RX5 147 "BoardMetronomesModel" "tolds" "I") (by decide +kernel)) (fun _ h9 => h9) rfl dX5_isNumber_172 ?_
                refine kt_i (kcl hinv.2.2.1).symm ?_
                refine k_imuln (x := 4) (y := (y83_0 13 0).toNatClampNeg) hx hb dX5_isNumber_175 ?_
                refine lv_iload_n hx hb dX5_isNumber_176 rfl (lv_at hl 1 rfl) ?_
                refine k_iaddn (x := 4 * ((y83_0 13 0).toNatClampNeg)) (y := k0) hx hb dX5_isNumber_177 ?_
                refine lv_aload_n hx hb dX5_isNumber_178 rfl (lv_at hl 0 rfl) ?_
                refine va_get (D := (dC, dI)) (ci := 5) (v := .int (y83_0 11 0)) (C := RX5) (T := TX5) (N := 14) hx hb hts inX5 hown hK hP 0 rfl rfl 11 (by decide) (hts (.fieldLink RX5 144 "BoardMetronomesModel" "value" "I") (by decide +kernel)) (fun _ h9 => h9) rfl dX5_isNumber_179 ?_
                refine k_iast (D := (dC, dI)) hx hb hK hP hD hS 7 0 rfl rfl (j := ((4 * ((y83_0 13 0).toNatClampNeg)) + k0)) (by omega) (by decide) dX5_isNumber_182 (fun H locs hP hD hS => ?_)
                have hP : va_P (dC, dI) vwCl (MW cI cZ h0 q (upA y83_0 12 ((4 * ((y83_0 13 0).toNatClampNeg)) + k0) (y83_0 11 0))) H := Eq.mp (congrArg (fun w => va_P (dC, dI) vwCl w H) MW_a12) hP
                have hD : va_D A0 (MW cI cZ h0 q (upA y83_0 12 ((4 * ((y83_0 13 0).toNatClampNeg)) + k0) (y83_0 11 0))) := Eq.mp (congrArg (fun w => va_D A0 w) MW_a12) hD
                refine lv_aload_n hx hb dX5_isNumber_183 rfl (lv_at hl 0 rfl) ?_
                refine va_get (D := (dC, dI)) (ci := 5) (v := .int (y83_0 11 0)) (C := RX5) (T := TX5) (N := 14) hx hb hts inX5 hown hK hP 0 rfl rfl 11 (by decide) (hts (.fieldLink RX5 144 "BoardMetronomesModel" "value" "I") (by decide +kernel)) (fun _ h9 => h9) (congrArg (fun z => some (Value.int z)) (show (upA y83_0 12 ((4 * ((y83_0 13 0).toNatClampNeg)) + k0) (y83_0 11 0)) 11 0 = y83_0 11 0 by rw [upA_o (show (11 : Nat) ≠ 12 by decide)])) dX5_isNumber_184 ?_
                refine lv_iload_n hx hb dX5_isNumber_187 rfl (lv_at hl 2 rfl) ?_
                refine lv_icmp_ge (tgt := 198) hx hb dX5_isNumber_188 (by decide) (fun c_188 => ?_) (fun c_188 => ?_)
                · refine lv_iconst (v := (1 : Int32)) hx hb dX5_isNumber_198 (by decide) ?_
                  refine lv_goto (tgt := 203) hx hb dX5_isNumber_199 (by decide) ?_
                  have r16 : f_MisNumber u k0 p1 p2 = (true, upA y83_0 12 ((4 * ((y83_0 13 0).toNatClampNeg)) + k0) (y83_0 11 0)) := by
                    rw [hv15, f_MisNumber_R83, if_pos c_87, if_pos c_188]
                  exact kw_z (x := true) hx hb hr hlk hP hS dX5_isNumber_203 rfl (by rw [r16]) (by rw [r16])
                · refine lv_aload_n hx hb dX5_isNumber_191 rfl (lv_at hl 0 rfl) ?_
                  refine kc_w (As := []) (rest := []) S (v := (some (.int (bI ((f_Mstops (upA y83_0 12 ((4 * ((y83_0 13 0).toNatClampNeg)) + k0) (y83_0 11 0))).1))))) (c_X5_stops l dC dI cI cZ cO h0 q (upA y83_0 12 ((4 * ((y83_0 13 0).toNatClampNeg)) + k0) (y83_0 11 0)) H.size) gX5_isNumber_X5_stops mi_X5_stops ⟨rfl, rfl⟩ ⟨Nat.le_of_ble_eq_true rfl, Nat.le_of_ble_eq_true rfl⟩ hK hP hD hS hA [0, 1, 2, 3, 4, 5, 6, 7] MW_all MW_fst rfl 0 rfl rfl ⟨Nat.le_refl _, Nat.le_refl _⟩ dX5_isNumber_192 rfl hl.1 rfl (Nat.le_of_ble_eq_true rfl) (fun H locs hP hD hS => ?_)
                  have hP : va_P (dC, dI) vwCl (MW cI cZ h0 q ((f_Mstops (upA y83_0 12 ((4 * ((y83_0 13 0).toNatClampNeg)) + k0) (y83_0 11 0))).2)) H := Eq.mp (congrArg (fun w => va_P (dC, dI) vwCl w H) MW_ks) hP
                  have hD : va_D A0 (MW cI cZ h0 q ((f_Mstops (upA y83_0 12 ((4 * ((y83_0 13 0).toNatClampNeg)) + k0) (y83_0 11 0))).2)) := Eq.mp (congrArg (fun w => va_D A0 w) MW_ks) hD
                  refine kb_eq (tgt := 202) hx hb dX5_isNumber_195 (by decide) (fun c_195 => ?_) (fun c_195 => ?_)
                  · refine lv_iconst (v := (0 : Int32)) hx hb dX5_isNumber_202 (by decide) ?_
                    have r17 : f_MisNumber u k0 p1 p2 = (false, (f_Mstops (upA y83_0 12 ((4 * ((y83_0 13 0).toNatClampNeg)) + k0) (y83_0 11 0))).2) := by
                      rw [hv15, f_MisNumber_R83, if_pos c_87, if_neg c_188, if_neg c_195]
                    exact kw_z (x := false) hx hb hr hlk hP hS dX5_isNumber_203 rfl (by rw [r17]) (by rw [r17])
                  · refine lv_iconst (v := (1 : Int32)) hx hb dX5_isNumber_198 (by decide) ?_
                    refine lv_goto (tgt := 203) hx hb dX5_isNumber_199 (by decide) ?_
                    have r18 : f_MisNumber u k0 p1 p2 = (true, (f_Mstops (upA y83_0 12 ((4 * ((y83_0 13 0).toNatClampNeg)) + k0) (y83_0 11 0))).2) := by
                      rw [hv15, f_MisNumber_R83, if_pos c_87, if_neg c_188, if_pos c_195]
                    exact kw_z (x := true) hx hb hr hlk hP hS dX5_isNumber_203 rfl (by rw [r18]) (by rw [r18])
              · refine lv_aload_n hx hb dX5_isNumber_90 rfl (lv_at hl 0 rfl) ?_
                refine lv_bipush (v := (48 : Int32)) hx hb dX5_isNumber_91 (by decide) ?_
                refine lv_bipush (v := (57 : Int32)) hx hb dX5_isNumber_93 (by decide) ?_
                refine kc_v (As := [.int (48 : Int32), .int (57 : Int32)]) (rest := []) S (v := .int (bI (f_MisAt y83_0 (48 : Int32) (57 : Int32)))) (c_X5_isAt l dC dI cI cZ cO h0 q y83_0 (48 : Int32) (57 : Int32) hinv.1 hinv.2.1) gX5_isNumber_X5_isAt mi_X5_isAt ⟨rfl, rfl⟩ ⟨Nat.le_of_ble_eq_true rfl, Nat.le_of_ble_eq_true rfl⟩ hK hP 0 rfl rfl ⟨Nat.le_refl _, Nat.le_refl _⟩ dX5_isNumber_95 rfl hl.1 rfl (Nat.le_of_ble_eq_true rfl) ?_
                refine kb_eq (tgt := 166) hx hb dX5_isNumber_98 (by decide) (fun c_98 => ?_) (fun c_98 => ?_)
                · refine lv_aload_n hx hb dX5_isNumber_166 rfl (lv_at hl 0 rfl) ?_
                  refine va_get (D := (dC, dI)) (ci := 5) (v := .ref (q 12)) (C := RX5) (T := TX5) (N := 14) hx hb hts inX5 hown hK hP 0 rfl rfl 12 (by decide) (hts (.fieldLink RX5 29 "BoardMetronomesModel" "told" "[I") (by decide +kernel)) (fun _ h9 => h9) rfl dX5_isNumber_167 ?_
                  refine lv_iconst (v := (4 : Int32)) hx hb dX5_isNumber_170 (by decide) ?_
                  refine lv_aload_n hx hb dX5_isNumber_171 rfl (lv_at hl 0 rfl) ?_
                  refine va_get (D := (dC, dI)) (ci := 5) (v := .int (y83_0 13 0)) (C := RX5) (T := TX5) (N := 14) hx hb hts inX5 hown hK hP 0 rfl rfl 13 (by decide) (hts (.fieldLink RX5 147 "BoardMetronomesModel" "tolds" "I") (by decide +kernel)) (fun _ h9 => h9) rfl dX5_isNumber_172 ?_
                  refine kt_i (kcl hinv.2.2.1).symm ?_
                  refine k_imuln (x := 4) (y := (y83_0 13 0).toNatClampNeg) hx hb dX5_isNumber_175 ?_
                  refine lv_iload_n hx hb dX5_isNumber_176 rfl (lv_at hl 1 rfl) ?_
                  refine k_iaddn (x := 4 * ((y83_0 13 0).toNatClampNeg)) (y := k0) hx hb dX5_isNumber_177 ?_
                  refine lv_aload_n hx hb dX5_isNumber_178 rfl (lv_at hl 0 rfl) ?_
                  refine va_get (D := (dC, dI)) (ci := 5) (v := .int (y83_0 11 0)) (C := RX5) (T := TX5) (N := 14) hx hb hts inX5 hown hK hP 0 rfl rfl 11 (by decide) (hts (.fieldLink RX5 144 "BoardMetronomesModel" "value" "I") (by decide +kernel)) (fun _ h9 => h9) rfl dX5_isNumber_179 ?_
                  refine k_iast (D := (dC, dI)) hx hb hK hP hD hS 7 0 rfl rfl (j := ((4 * ((y83_0 13 0).toNatClampNeg)) + k0)) (by omega) (by decide) dX5_isNumber_182 (fun H locs hP hD hS => ?_)
                  have hP : va_P (dC, dI) vwCl (MW cI cZ h0 q (upA y83_0 12 ((4 * ((y83_0 13 0).toNatClampNeg)) + k0) (y83_0 11 0))) H := Eq.mp (congrArg (fun w => va_P (dC, dI) vwCl w H) MW_a12) hP
                  have hD : va_D A0 (MW cI cZ h0 q (upA y83_0 12 ((4 * ((y83_0 13 0).toNatClampNeg)) + k0) (y83_0 11 0))) := Eq.mp (congrArg (fun w => va_D A0 w) MW_a12) hD
                  refine lv_aload_n hx hb dX5_isNumber_183 rfl (lv_at hl 0 rfl) ?_
                  refine va_get (D := (dC, dI)) (ci := 5) (v := .int (y83_0 11 0)) (C := RX5) (T := TX5) (N := 14) hx hb hts inX5 hown hK hP 0 rfl rfl 11 (by decide) (hts (.fieldLink RX5 144 "BoardMetronomesModel" "value" "I") (by decide +kernel)) (fun _ h9 => h9) (congrArg (fun z => some (Value.int z)) (show (upA y83_0 12 ((4 * ((y83_0 13 0).toNatClampNeg)) + k0) (y83_0 11 0)) 11 0 = y83_0 11 0 by rw [upA_o (show (11 : Nat) ≠ 12 by decide)])) dX5_isNumber_184 ?_
                  refine lv_iload_n hx hb dX5_isNumber_187 rfl (lv_at hl 2 rfl) ?_
                  refine lv_icmp_ge (tgt := 198) hx hb dX5_isNumber_188 (by decide) (fun c_188 => ?_) (fun c_188 => ?_)
                  · refine lv_iconst (v := (1 : Int32)) hx hb dX5_isNumber_198 (by decide) ?_
                    refine lv_goto (tgt := 203) hx hb dX5_isNumber_199 (by decide) ?_
                    have r19 : f_MisNumber u k0 p1 p2 = (true, upA y83_0 12 ((4 * ((y83_0 13 0).toNatClampNeg)) + k0) (y83_0 11 0)) := by
                      rw [hv15, f_MisNumber_R83, if_neg c_87, if_neg c_98, if_pos c_188]
                    exact kw_z (x := true) hx hb hr hlk hP hS dX5_isNumber_203 rfl (by rw [r19]) (by rw [r19])
                  · refine lv_aload_n hx hb dX5_isNumber_191 rfl (lv_at hl 0 rfl) ?_
                    refine kc_w (As := []) (rest := []) S (v := (some (.int (bI ((f_Mstops (upA y83_0 12 ((4 * ((y83_0 13 0).toNatClampNeg)) + k0) (y83_0 11 0))).1))))) (c_X5_stops l dC dI cI cZ cO h0 q (upA y83_0 12 ((4 * ((y83_0 13 0).toNatClampNeg)) + k0) (y83_0 11 0)) H.size) gX5_isNumber_X5_stops mi_X5_stops ⟨rfl, rfl⟩ ⟨Nat.le_of_ble_eq_true rfl, Nat.le_of_ble_eq_true rfl⟩ hK hP hD hS hA [0, 1, 2, 3, 4, 5, 6, 7] MW_all MW_fst rfl 0 rfl rfl ⟨Nat.le_refl _, Nat.le_refl _⟩ dX5_isNumber_192 rfl hl.1 rfl (Nat.le_of_ble_eq_true rfl) (fun H locs hP hD hS => ?_)
                    have hP : va_P (dC, dI) vwCl (MW cI cZ h0 q ((f_Mstops (upA y83_0 12 ((4 * ((y83_0 13 0).toNatClampNeg)) + k0) (y83_0 11 0))).2)) H := Eq.mp (congrArg (fun w => va_P (dC, dI) vwCl w H) MW_ks) hP
                    have hD : va_D A0 (MW cI cZ h0 q ((f_Mstops (upA y83_0 12 ((4 * ((y83_0 13 0).toNatClampNeg)) + k0) (y83_0 11 0))).2)) := Eq.mp (congrArg (fun w => va_D A0 w) MW_ks) hD
                    refine kb_eq (tgt := 202) hx hb dX5_isNumber_195 (by decide) (fun c_195 => ?_) (fun c_195 => ?_)
                    · refine lv_iconst (v := (0 : Int32)) hx hb dX5_isNumber_202 (by decide) ?_
                      have r20 : f_MisNumber u k0 p1 p2 = (false, (f_Mstops (upA y83_0 12 ((4 * ((y83_0 13 0).toNatClampNeg)) + k0) (y83_0 11 0))).2) := by
                        rw [hv15, f_MisNumber_R83, if_neg c_87, if_neg c_98, if_neg c_188, if_neg c_195]
                      exact kw_z (x := false) hx hb hr hlk hP hS dX5_isNumber_203 rfl (by rw [r20]) (by rw [r20])
                    · refine lv_iconst (v := (1 : Int32)) hx hb dX5_isNumber_198 (by decide) ?_
                      refine lv_goto (tgt := 203) hx hb dX5_isNumber_199 (by decide) ?_
                      have r21 : f_MisNumber u k0 p1 p2 = (true, (f_Mstops (upA y83_0 12 ((4 * ((y83_0 13 0).toNatClampNeg)) + k0) (y83_0 11 0))).2) := by
                        rw [hv15, f_MisNumber_R83, if_neg c_87, if_neg c_98, if_neg c_188, if_pos c_195]
                      exact kw_z (x := true) hx hb hr hlk hP hS dX5_isNumber_203 rfl (by rw [r21]) (by rw [r21])
                · have c_98n : (y83_0 9 0).toNatClampNeg < (y83_0 7 0).toNatClampNeg := by have z := f_MisAt_lt hinv.1 hinv.2.1 c_98; exact z
                  refine lv_bipush (v := (10 : Int32)) hx hb dX5_isNumber_101 (by decide) ?_
                  refine lv_aload_n hx hb dX5_isNumber_103 rfl (lv_at hl 0 rfl) ?_
                  refine va_get (D := (dC, dI)) (ci := 5) (v := .int (y83_0 11 0)) (C := RX5) (T := TX5) (N := 14) hx hb hts inX5 hown hK hP 0 rfl rfl 11 (by decide) (hts (.fieldLink RX5 144 "BoardMetronomesModel" "value" "I") (by decide +kernel)) (fun _ h9 => h9) rfl dX5_isNumber_104 ?_
                  refine lv_imul hx hb dX5_isNumber_107 ?_
                  refine lv_aload_n hx hb dX5_isNumber_108 rfl (lv_at hl 0 rfl) ?_
                  refine va_get (D := (dC, dI)) (ci := 5) (v := .ref (q 6)) (C := RX5) (T := TX5) (N := 14) hx hb hts inX5 hown hK hP 0 rfl rfl 6 (by decide) (hts (.fieldLink RX5 26 "BoardMetronomesModel" "text" "[I") (by decide +kernel)) (fun _ h9 => h9) rfl dX5_isNumber_109 ?_
                  refine lv_aload_n hx hb dX5_isNumber_112 rfl (lv_at hl 0 rfl) ?_
                  refine va_get (D := (dC, dI)) (ci := 5) (v := .int (y83_0 9 0)) (C := RX5) (T := TX5) (N := 14) hx hb hts inX5 hown hK hP 0 rfl rfl 9 (by decide) (hts (.fieldLink RX5 126 "BoardMetronomesModel" "at" "I") (by decide +kernel)) (fun _ h9 => h9) rfl dX5_isNumber_113 ?_
                  refine kt_i (kcl hinv.1).symm ?_
                  refine k_iald (D := (dC, dI)) hx hb hK hP 6 0 rfl rfl (j := ((y83_0 9 0).toNatClampNeg)) (by omega) (by decide) dX5_isNumber_116 ?_
                  refine lv_iadd hx hb dX5_isNumber_117 ?_
                  refine lv_bipush (v := (48 : Int32)) hx hb dX5_isNumber_118 (by decide) ?_
                  refine lv_isub hx hb dX5_isNumber_120 ?_
                  refine lv_iload_n hx hb dX5_isNumber_121 rfl (lv_at hl 2 rfl) ?_
                  refine lv_iload_n hx hb dX5_isNumber_122 rfl (lv_at hl 3 rfl) ?_
                  refine kc_p (y := yX5_canBe) (As := [.int ((((10 : Int32) * (y83_0 11 0)) + (y83_0 6 ((y83_0 9 0).toNatClampNeg))) - (48 : Int32)), .int p1, .int p2]) (rest := []) rfl S (v := .int (bI (f_McanBe ((((10 : Int32) * (y83_0 11 0)) + (y83_0 6 ((y83_0 9 0).toNatClampNeg))) - (48 : Int32)) p1 p2))) (c_X5_canBe l ((((10 : Int32) * (y83_0 11 0)) + (y83_0 6 ((y83_0 9 0).toNatClampNeg))) - (48 : Int32)) p1 p2) gX5_isNumber_X5_canBe mi_X5_canBe ⟨rfl, rfl⟩ ⟨Nat.le_of_ble_eq_true rfl, Nat.le_of_ble_eq_true rfl⟩ ⟨Nat.le_refl _, Nat.le_refl _⟩ dX5_isNumber_123 rfl hl.1 rfl (Nat.le_of_ble_eq_true rfl) ?_
                  refine kb_eq (tgt := 166) hx hb dX5_isNumber_126 (by decide) (fun c_126 => ?_) (fun c_126 => ?_)
                  · refine lv_aload_n hx hb dX5_isNumber_166 rfl (lv_at hl 0 rfl) ?_
                    refine va_get (D := (dC, dI)) (ci := 5) (v := .ref (q 12)) (C := RX5) (T := TX5) (N := 14) hx hb hts inX5 hown hK hP 0 rfl rfl 12 (by decide) (hts (.fieldLink RX5 29 "BoardMetronomesModel" "told" "[I") (by decide +kernel)) (fun _ h9 => h9) rfl dX5_isNumber_167 ?_
                    refine lv_iconst (v := (4 : Int32)) hx hb dX5_isNumber_170 (by decide) ?_
                    refine lv_aload_n hx hb dX5_isNumber_171 rfl (lv_at hl 0 rfl) ?_
                    refine va_get (D := (dC, dI)) (ci := 5) (v := .int (y83_0 13 0)) (C := RX5) (T := TX5) (N := 14) hx hb hts inX5 hown hK hP 0 rfl rfl 13 (by decide) (hts (.fieldLink RX5 147 "BoardMetronomesModel" "tolds" "I") (by decide +kernel)) (fun _ h9 => h9) rfl dX5_isNumber_172 ?_
                    refine kt_i (kcl hinv.2.2.1).symm ?_
                    refine k_imuln (x := 4) (y := (y83_0 13 0).toNatClampNeg) hx hb dX5_isNumber_175 ?_
                    refine lv_iload_n hx hb dX5_isNumber_176 rfl (lv_at hl 1 rfl) ?_
                    refine k_iaddn (x := 4 * ((y83_0 13 0).toNatClampNeg)) (y := k0) hx hb dX5_isNumber_177 ?_
                    refine lv_aload_n hx hb dX5_isNumber_178 rfl (lv_at hl 0 rfl) ?_
                    refine va_get (D := (dC, dI)) (ci := 5) (v := .int (y83_0 11 0)) (C := RX5) (T := TX5) (N := 14) hx hb hts inX5 hown hK hP 0 rfl rfl 11 (by decide) (hts (.fieldLink RX5 144 "BoardMetronomesModel" "value" "I") (by decide +kernel)) (fun _ h9 => h9) rfl dX5_isNumber_179 ?_
                    refine k_iast (D := (dC, dI)) hx hb hK hP hD hS 7 0 rfl rfl (j := ((4 * ((y83_0 13 0).toNatClampNeg)) + k0)) (by omega) (by decide) dX5_isNumber_182 (fun H locs hP hD hS => ?_)
                    have hP : va_P (dC, dI) vwCl (MW cI cZ h0 q (upA y83_0 12 ((4 * ((y83_0 13 0).toNatClampNeg)) + k0) (y83_0 11 0))) H := Eq.mp (congrArg (fun w => va_P (dC, dI) vwCl w H) MW_a12) hP
                    have hD : va_D A0 (MW cI cZ h0 q (upA y83_0 12 ((4 * ((y83_0 13 0).toNatClampNeg)) + k0) (y83_0 11 0))) := Eq.mp (congrArg (fun w => va_D A0 w) MW_a12) hD
                    refine lv_aload_n hx hb dX5_isNumber_183 rfl (lv_at hl 0 rfl) ?_
                    refine va_get (D := (dC, dI)) (ci := 5) (v := .int (y83_0 11 0)) (C := RX5) (T := TX5) (N := 14) hx hb hts inX5 hown hK hP 0 rfl rfl 11 (by decide) (hts (.fieldLink RX5 144 "BoardMetronomesModel" "value" "I") (by decide +kernel)) (fun _ h9 => h9) (congrArg (fun z => some (Value.int z)) (show (upA y83_0 12 ((4 * ((y83_0 13 0).toNatClampNeg)) + k0) (y83_0 11 0)) 11 0 = y83_0 11 0 by rw [upA_o (show (11 : Nat) ≠ 12 by decide)])) dX5_isNumber_184 ?_
                    refine lv_iload_n hx hb dX5_isNumber_187 rfl (lv_at hl 2 rfl) ?_
                    refine lv_icmp_ge (tgt := 198) hx hb dX5_isNumber_188 (by decide) (fun c_188 => ?_) (fun c_188 => ?_)
                    · refine lv_iconst (v := (1 : Int32)) hx hb dX5_isNumber_198 (by decide) ?_
                      refine lv_goto (tgt := 203) hx hb dX5_isNumber_199 (by decide) ?_
                      have r22 : f_MisNumber u k0 p1 p2 = (true, upA y83_0 12 ((4 * ((y83_0 13 0).toNatClampNeg)) + k0) (y83_0 11 0)) := by
                        rw [hv15, f_MisNumber_R83, if_neg c_87, if_pos c_98, if_neg c_126, if_pos c_188]
                      exact kw_z (x := true) hx hb hr hlk hP hS dX5_isNumber_203 rfl (by rw [r22]) (by rw [r22])
                    · refine lv_aload_n hx hb dX5_isNumber_191 rfl (lv_at hl 0 rfl) ?_
                      refine kc_w (As := []) (rest := []) S (v := (some (.int (bI ((f_Mstops (upA y83_0 12 ((4 * ((y83_0 13 0).toNatClampNeg)) + k0) (y83_0 11 0))).1))))) (c_X5_stops l dC dI cI cZ cO h0 q (upA y83_0 12 ((4 * ((y83_0 13 0).toNatClampNeg)) + k0) (y83_0 11 0)) H.size) gX5_isNumber_X5_stops mi_X5_stops ⟨rfl, rfl⟩ ⟨Nat.le_of_ble_eq_true rfl, Nat.le_of_ble_eq_true rfl⟩ hK hP hD hS hA [0, 1, 2, 3, 4, 5, 6, 7] MW_all MW_fst rfl 0 rfl rfl ⟨Nat.le_refl _, Nat.le_refl _⟩ dX5_isNumber_192 rfl hl.1 rfl (Nat.le_of_ble_eq_true rfl) (fun H locs hP hD hS => ?_)
                      have hP : va_P (dC, dI) vwCl (MW cI cZ h0 q ((f_Mstops (upA y83_0 12 ((4 * ((y83_0 13 0).toNatClampNeg)) + k0) (y83_0 11 0))).2)) H := Eq.mp (congrArg (fun w => va_P (dC, dI) vwCl w H) MW_ks) hP
                      have hD : va_D A0 (MW cI cZ h0 q ((f_Mstops (upA y83_0 12 ((4 * ((y83_0 13 0).toNatClampNeg)) + k0) (y83_0 11 0))).2)) := Eq.mp (congrArg (fun w => va_D A0 w) MW_ks) hD
                      refine kb_eq (tgt := 202) hx hb dX5_isNumber_195 (by decide) (fun c_195 => ?_) (fun c_195 => ?_)
                      · refine lv_iconst (v := (0 : Int32)) hx hb dX5_isNumber_202 (by decide) ?_
                        have r23 : f_MisNumber u k0 p1 p2 = (false, (f_Mstops (upA y83_0 12 ((4 * ((y83_0 13 0).toNatClampNeg)) + k0) (y83_0 11 0))).2) := by
                          rw [hv15, f_MisNumber_R83, if_neg c_87, if_pos c_98, if_neg c_126, if_neg c_188, if_neg c_195]
                        exact kw_z (x := false) hx hb hr hlk hP hS dX5_isNumber_203 rfl (by rw [r23]) (by rw [r23])
                      · refine lv_iconst (v := (1 : Int32)) hx hb dX5_isNumber_198 (by decide) ?_
                        refine lv_goto (tgt := 203) hx hb dX5_isNumber_199 (by decide) ?_
                        have r24 : f_MisNumber u k0 p1 p2 = (true, (f_Mstops (upA y83_0 12 ((4 * ((y83_0 13 0).toNatClampNeg)) + k0) (y83_0 11 0))).2) := by
                          rw [hv15, f_MisNumber_R83, if_neg c_87, if_pos c_98, if_neg c_126, if_neg c_188, if_pos c_195]
                        exact kw_z (x := true) hx hb hr hlk hP hS dX5_isNumber_203 rfl (by rw [r24]) (by rw [r24])
                  · refine lv_aload_n hx hb dX5_isNumber_129 rfl (lv_at hl 0 rfl) ?_
                    refine lv_bipush (v := (10 : Int32)) hx hb dX5_isNumber_130 (by decide) ?_
                    refine lv_aload_n hx hb dX5_isNumber_132 rfl (lv_at hl 0 rfl) ?_
                    refine va_get (D := (dC, dI)) (ci := 5) (v := .int (y83_0 11 0)) (C := RX5) (T := TX5) (N := 14) hx hb hts inX5 hown hK hP 0 rfl rfl 11 (by decide) (hts (.fieldLink RX5 144 "BoardMetronomesModel" "value" "I") (by decide +kernel)) (fun _ h9 => h9) rfl dX5_isNumber_133 ?_
                    refine lv_imul hx hb dX5_isNumber_136 ?_
                    refine lv_aload_n hx hb dX5_isNumber_137 rfl (lv_at hl 0 rfl) ?_
                    refine va_get (D := (dC, dI)) (ci := 5) (v := .ref (q 6)) (C := RX5) (T := TX5) (N := 14) hx hb hts inX5 hown hK hP 0 rfl rfl 6 (by decide) (hts (.fieldLink RX5 26 "BoardMetronomesModel" "text" "[I") (by decide +kernel)) (fun _ h9 => h9) rfl dX5_isNumber_138 ?_
                    refine lv_aload_n hx hb dX5_isNumber_141 rfl (lv_at hl 0 rfl) ?_
                    refine va_get (D := (dC, dI)) (ci := 5) (v := .int (y83_0 9 0)) (C := RX5) (T := TX5) (N := 14) hx hb hts inX5 hown hK hP 0 rfl rfl 9 (by decide) (hts (.fieldLink RX5 126 "BoardMetronomesModel" "at" "I") (by decide +kernel)) (fun _ h9 => h9) rfl dX5_isNumber_142 ?_
                    refine kt_i (kcl hinv.1).symm ?_
                    refine k_iald (D := (dC, dI)) hx hb hK hP 6 0 rfl rfl (j := ((y83_0 9 0).toNatClampNeg)) (by omega) (by decide) dX5_isNumber_145 ?_
                    refine lv_iadd hx hb dX5_isNumber_146 ?_
                    refine lv_bipush (v := (48 : Int32)) hx hb dX5_isNumber_147 (by decide) ?_
                    refine lv_isub hx hb dX5_isNumber_149 ?_
                    refine va_put (D := (dC, dI)) (ci := 5) (v := .int ((((10 : Int32) * (y83_0 11 0)) + (y83_0 6 ((y83_0 9 0).toNatClampNeg))) - (48 : Int32))) (ty := .int) (C := RX5) (T := TX5) (N := 14) hx hb hts inX5 tyX5 tyX5_ok nmX5 hown hK hP hD hS 0 rfl rfl 11 (by decide) (hts (.fieldLink RX5 144 "BoardMetronomesModel" "value" "I") (by decide +kernel)) (fun _ h9 => h9) rfl (by decide +kernel) rfl rfl (Nat.le_of_ble_eq_true rfl) dX5_isNumber_150 (fun H locs hP hD hS => ?_)
                    have hP : va_P (dC, dI) vwCl (MW cI cZ h0 q (upA y83_0 11 0 ((((10 : Int32) * (y83_0 11 0)) + (y83_0 6 ((y83_0 9 0).toNatClampNeg))) - (48 : Int32)))) H := Eq.mp (congrArg (fun w => va_P (dC, dI) vwCl w H) MW_s11) hP
                    have hD : va_D A0 (MW cI cZ h0 q (upA y83_0 11 0 ((((10 : Int32) * (y83_0 11 0)) + (y83_0 6 ((y83_0 9 0).toNatClampNeg))) - (48 : Int32)))) := Eq.mp (congrArg (fun w => va_D A0 w) MW_s11) hD
                    refine lv_aload_n hx hb dX5_isNumber_153 rfl (lv_at hl 0 rfl) ?_
                    refine lv_dup hx hb dX5_isNumber_154 rfl ?_
                    refine va_get (D := (dC, dI)) (ci := 5) (v := .int (y83_0 9 0)) (C := RX5) (T := TX5) (N := 14) hx hb hts inX5 hown hK hP 0 rfl rfl 9 (by decide) (hts (.fieldLink RX5 126 "BoardMetronomesModel" "at" "I") (by decide +kernel)) (fun _ h9 => h9) (congrArg (fun z => some (Value.int z)) (show (upA y83_0 11 0 ((((10 : Int32) * (y83_0 11 0)) + (y83_0 6 ((y83_0 9 0).toNatClampNeg))) - (48 : Int32))) 9 0 = y83_0 9 0 by rw [upA_o (show (9 : Nat) ≠ 11 by decide)])) dX5_isNumber_155 ?_
                    refine kt_i (kcl hinv.1).symm ?_
                    refine lv_iconst (v := (1 : Int32)) hx hb dX5_isNumber_158 (by decide) ?_
                    refine k_iaddn (x := (y83_0 9 0).toNatClampNeg) (y := 1) hx hb dX5_isNumber_159 ?_
                    refine va_put (D := (dC, dI)) (ci := 5) (v := .int (nI (((y83_0 9 0).toNatClampNeg) + 1))) (ty := .int) (C := RX5) (T := TX5) (N := 14) hx hb hts inX5 tyX5 tyX5_ok nmX5 hown hK hP hD hS 0 rfl rfl 9 (by decide) (hts (.fieldLink RX5 126 "BoardMetronomesModel" "at" "I") (by decide +kernel)) (fun _ h9 => h9) rfl (by decide +kernel) rfl rfl (Nat.le_of_ble_eq_true rfl) dX5_isNumber_160 (fun H locs hP hD hS => ?_)
                    have hP : va_P (dC, dI) vwCl (MW cI cZ h0 q (upA (upA y83_0 11 0 ((((10 : Int32) * (y83_0 11 0)) + (y83_0 6 ((y83_0 9 0).toNatClampNeg))) - (48 : Int32))) 9 0 (nI (((y83_0 9 0).toNatClampNeg) + 1)))) H := Eq.mp (congrArg (fun w => va_P (dC, dI) vwCl w H) MW_s9) hP
                    have hD : va_D A0 (MW cI cZ h0 q (upA (upA y83_0 11 0 ((((10 : Int32) * (y83_0 11 0)) + (y83_0 6 ((y83_0 9 0).toNatClampNeg))) - (48 : Int32))) 9 0 (nI (((y83_0 9 0).toNatClampNeg) + 1)))) := Eq.mp (congrArg (fun w => va_D A0 w) MW_s9) hD
                    refine lv_goto (tgt := 83) hx hb dX5_isNumber_163 (by decide) ?_
                    exact ih15 (j83_ + 1) (by omega) (upA (upA y83_0 11 0 ((((10 : Int32) * (y83_0 11 0)) + (y83_0 6 ((y83_0 9 0).toNatClampNeg))) - (48 : Int32))) 9 0 (nI (((y83_0 9 0).toNatClampNeg) + 1))) ⟨by rw [upA_s]; exact vp_in_nI (by omega) (by decide), by rw [upA_o (show (7 : Nat) ≠ 9 by decide), upA_o (show (7 : Nat) ≠ 11 by decide)]; exact hinv.2.1, by rw [upA_o (show (13 : Nat) ≠ 9 by decide), upA_o (show (13 : Nat) ≠ 11 by decide)]; exact hinv.2.2.1, by rw [upA_s, nI_clamp (by omega)]; omega⟩ (by rw [hv15, f_MisNumber_R83, if_neg c_87, if_pos c_98, if_pos c_126]) H locs ls hP hD hS (lv_sub hl [0, 1, 2, 3, 4] rfl)
          exact L15 61 0 (by omega) (upA (upA u 11 0 ((u 6 ((u 9 0).toNatClampNeg)) - (48 : Int32))) 9 0 (nI (((u 9 0).toNatClampNeg) + 1))) ⟨by rw [upA_s]; exact vp_in_nI (by omega) (by decide), by rw [upA_o (show (7 : Nat) ≠ 9 by decide), upA_o (show (7 : Nat) ≠ 11 by decide)]; exact ht, by rw [upA_o (show (13 : Nat) ≠ 9 by decide), upA_o (show (13 : Nat) ≠ 11 by decide)]; exact hd, by rw [upA_s, nI_clamp (by omega)]; omega⟩ (by rw [f_MisNumber, if_pos c_2, if_pos c_17, if_pos c_37]) H locs ls hP hD hS (lv_sub hl [1, 2, 3, 4, 0] rfl)
        · exact absurd c_49 (by decide)

def PG (u v : BS) : Prop := vp_in (v 9 0) 61 ∧ (u 9 0).toNatClampNeg ≤ (v 9 0).toNatClampNeg ∧ v 7 = u 7
theorem PG.rf {u : BS} (ha : vp_in (u 9 0) 61) : PG u u := ⟨ha, Nat.le_refl _, rfl⟩
theorem PG.tr {u v w : BS} (h1 : PG u v) (h2 : PG v w) : PG u w := ⟨h2.1, Nat.le_trans h1.2.1 h2.2.1, h2.2.2.trans h1.2.2⟩
theorem PG.up {u : BS} {r j : Nat} {x : Int32} (ha : vp_in (u 9 0) 61) (h9 : 9 ≠ r) (h7 : 7 ≠ r) : PG u (upA u r j x) := by
  refine ⟨?_, ?_, upA_o h7⟩ <;> rw [upA_o h9]
  · exact ha
  · exact Nat.le_refl _
theorem PG.at1 {u : BS} (h : (u 9 0).toNatClampNeg < 60) : PG u (upA u 9 0 (nI ((u 9 0).toNatClampNeg + 1))) := by
  refine ⟨?_, ?_, upA_o (by decide)⟩ <;> rw [upA_s]
  · exact vp_in_nI (by omega) (by decide)
  · rw [nI_clamp (by omega)]; omega
theorem PG.at0 {u v : BS} {m : Nat} (h : PG u v) (hm : m = (u 9 0).toNatClampNeg + 1) (hv : v 9 0 = u 9 0) (h60 : (u 9 0).toNatClampNeg < 60) : PG u (upA v 9 0 (nI m)) := by
  subst hm
  refine ⟨?_, ?_, (upA_o (by decide)).trans h.2.2⟩ <;> rw [upA_s]
  · exact vp_in_nI (by omega) (by decide)
  · rw [nI_clamp (by omega)]; omega
theorem f_Mstops_f {u : BS} : (f_Mstops u).1 = false := by
  unfold f_Mstops
  split <;> rfl
theorem PG.stops {u : BS} (ha : vp_in (u 9 0) 61) : PG u (f_Mstops u).2 := by
  refine ⟨?_, ?_, f_Mstops_o (by decide)⟩ <;> rw [f_Mstops_o (by decide)]
  · exact ha
  · exact Nat.le_refl _
theorem f_MisNumber_R_o {u : BS} {k0 : Nat} {p1 p2 : Int32} {r : Nat} (h9 : r ≠ 9) (h10 : r ≠ 10) (h11 : r ≠ 11) (h12 : r ≠ 12) : ∀ (n j : Nat) (y : BS), (f_MisNumber_R83 u k0 p1 p2 n j y).2 r = y r
  | 0, j, y => rfl
  | n + 1, j, y => by
    rw [f_MisNumber_R83]
    repeat' split
    all_goals first
      | exact upA_o h12
      | exact (f_Mstops_o h10).trans (upA_o h12)
      | exact (f_MisNumber_R_o h9 h10 h11 h12 n _ _).trans ((upA_o h9).trans (upA_o h11))
theorem f_MisNumber_o {u : BS} {k0 : Nat} {p1 p2 : Int32} {r : Nat} (h9 : r ≠ 9) (h10 : r ≠ 10) (h11 : r ≠ 11) (h12 : r ≠ 12) : (f_MisNumber u k0 p1 p2).2 r = u r := by
  unfold f_MisNumber
  repeat' split
  all_goals first
    | exact f_Mstops_o h10
    | exact (f_MisNumber_R_o h9 h10 h11 h12 _ _ _).trans ((upA_o h9).trans (upA_o h11))
theorem f_MisNumber_R_PG {u : BS} {k0 : Nat} {p1 p2 : Int32} (n : Nat) : ∀ (j : Nat) (y : BS), vp_in (y 9 0) 61 → vp_in (y 7 0) 61 → PG y (f_MisNumber_R83 u k0 p1 p2 n j y).2 := by
  induction n with
  | zero => intro j y ha ht; rw [f_MisNumber_R83]; exact PG.rf ha
  | succ n ih =>
    intro j y ha ht
    have hlt : ∀ a b : Int32, f_MisAt y a b = true → (y 9 0).toNatClampNeg < (y 7 0).toNatClampNeg := fun a b h => f_MisAt_lt ha ht h
    have hst : ∀ (j : Nat) (x : Int32), PG y (f_Mstops (upA y 12 j x)).2 := fun j x => (PG.up ha (by decide) (by decide)).tr (PG.stops (by rw [upA_o (by decide)]; exact ha))
    have hup : ∀ (j : Nat) (x : Int32), PG y (upA y 12 j x) := fun j x => PG.up ha (by decide) (by decide)
    have h7 := vp_lt ht
    have hrec : ∀ x : Int32, (y 9 0).toNatClampNeg < (y 7 0).toNatClampNeg → PG y (f_MisNumber_R83 u k0 p1 p2 n (j + 1) (upA (upA y 11 0 x) 9 0 (nI (((y 9 0).toNatClampNeg) + 1)))).2 := fun x q => by
      have h1 : PG y (upA (upA y 11 0 x) 9 0 (nI (((y 9 0).toNatClampNeg) + 1))) := PG.at0 (PG.up ha (by decide) (by decide)) rfl (by rw [upA_o (by decide)]) (by omega)
      exact h1.tr (ih _ _ h1.1 (by rw [h1.2.2]; exact ht))
    rw [f_MisNumber_R83]
    generalize f_MisNumber_R83 u k0 p1 p2 n = R at hrec ⊢
    generalize f_Mstops = S at hst ⊢
    generalize f_MisAt y = T at hlt ⊢
    generalize f_McanBe = C
    generalize upA = A at hst hup hrec ⊢
    generalize PG = G at hst hup hrec ⊢
    repeat' split
    all_goals try dsimp only
    all_goals first
      | exact hup _ _
      | exact hst _ _
      | exact hrec _ (hlt _ _ (by assumption))
theorem f_MisNumber_PG {u : BS} {k0 : Nat} {p1 p2 : Int32} (ha : vp_in (u 9 0) 61) (ht : vp_in (u 7 0) 61) : PG u (f_MisNumber u k0 p1 p2).2 ∧ ((f_MisNumber u k0 p1 p2).1 = true → (u 9 0).toNatClampNeg + 1 ≤ ((f_MisNumber u k0 p1 p2).2 9 0).toNatClampNeg) := by
  have ih := f_MisNumber_R_PG (u := u) (k0 := k0) (p1 := p1) (p2 := p2) 61 0
  have hlt : ∀ a b : Int32, f_MisAt u a b = true → (u 9 0).toNatClampNeg < (u 7 0).toNatClampNeg := fun a b h => f_MisAt_lt ha ht h
  have hst : ∀ w : BS, vp_in (w 9 0) 61 → PG w (f_Mstops w).2 := fun w h => PG.stops h
  have hsf : ∀ w : BS, (f_Mstops w).1 = false := fun w => f_Mstops_f
  have h7 := vp_lt ht
  unfold f_MisNumber
  generalize f_MisNumber_R83 u k0 p1 p2 61 0 = R at ih ⊢
  generalize f_Mstops = S at hst hsf ⊢
  generalize f_MisAt u = T at hlt ⊢
  generalize f_McanBe = C
  repeat' split
  all_goals try dsimp only
  all_goals first
    | exact ⟨hst _ ha, fun z => by rw [hsf] at z; cases z⟩
    | (have q := hlt _ _ (by assumption)
       have h1 : PG u (upA (upA u 11 0 ((u 6 ((u 9 0).toNatClampNeg)) - (48 : Int32))) 9 0 (nI (((u 9 0).toNatClampNeg) + 1))) := PG.at0 (PG.up ha (by decide) (by decide)) rfl (by rw [upA_o (by decide)]) (by omega)
       have h2 := ih _ h1.1 (by rw [h1.2.2]; exact ht)
       have h3 := h2.2.1
       rw [upA_s, nI_clamp (by omega)] at h3
       exact ⟨h1.tr h2, fun _ => h3⟩)
theorem f_MisNumber_a {u : BS} {k0 : Nat} {p1 p2 : Int32} (ha : vp_in (u 9 0) 61) (ht : vp_in (u 7 0) 61) : vp_in ((f_MisNumber u k0 p1 p2).2 9 0) 61 := (f_MisNumber_PG ha ht).1.1
theorem f_Mstops_a {u : BS} (ha : vp_in (u 9 0) 61) (ht : vp_in (u 7 0) 61) : vp_in ((f_Mstops u).2 9 0) 61 := (PG.stops ha).1
theorem f_MisSign_PG {u : BS} {p0 : Int32} (ha : vp_in (u 9 0) 61) (ht : vp_in (u 7 0) 61) : PG u (f_MisSign u p0).2 ∧ ((f_MisSign u p0).1 = true → (u 9 0).toNatClampNeg + 1 ≤ ((f_MisSign u p0).2 9 0).toNatClampNeg) := by
  unfold f_MisSign
  have h7 := vp_lt ht
  split
  · have q := f_MisAt_lt ha ht (by assumption)
    exact ⟨PG.at1 (by omega), fun _ => by dsimp only; rw [upA_s, nI_clamp (by omega)]; omega⟩
  · exact ⟨PG.stops ha, fun z => by dsimp only at z; rw [f_Mstops_f] at z; cases z⟩
theorem f_MisSign_a {u : BS} {p0 : Int32} (ha : vp_in (u 9 0) 61) (ht : vp_in (u 7 0) 61) : vp_in ((f_MisSign u p0).2 9 0) 61 := (f_MisSign_PG ha ht).1.1
theorem f_MisSign_o {u : BS} {p0 : Int32} {r : Nat} (h9 : r ≠ 9) (h10 : r ≠ 10) : (f_MisSign u p0).2 r = u r := by
  unfold f_MisSign
  split
  · exact upA_o h9
  · exact f_Mstops_o h10

def rm_X5_isToldOne : Room := { frames := 3, cells := 0, slots := 0, locals := 68 }
theorem mi_X5_isToldOne : kM yX5_isToldOne wsX5_isToldOne cX5_isToldOne 1 (some .boolean) 0 := ⟨⟨_, rfl⟩, by decide, by decide, by decide +kernel⟩
def f_MisToldOne (u : BS) : Bool × BS := if ((f_MisNumber u 1 (40 : Int32) (208 : Int32)).1) = true then (if ((f_MisSign ((f_MisNumber u 1 (40 : Int32) (208 : Int32)).2) (64 : Int32)).1) = true then (if ((f_MisNumber ((f_MisSign ((f_MisNumber u 1 (40 : Int32) (208 : Int32)).2) (64 : Int32)).2) 2 (0 : Int32) (3599 : Int32)).1) = true then (if (f_MisAt (upA ((f_MisNumber ((f_MisSign ((f_MisNumber u 1 (40 : Int32) (208 : Int32)).2) (64 : Int32)).2) 2 (0 : Int32) (3599 : Int32)).2) 12 ((4 * ((u 13 0).toNatClampNeg)) + 3) (500 : Int32)) (42 : Int32) (42 : Int32)) = true then (((f_MisNumber (upA (upA ((f_MisNumber ((f_MisSign ((f_MisNumber u 1 (40 : Int32) (208 : Int32)).2) (64 : Int32)).2) 2 (0 : Int32) (3599 : Int32)).2) 12 ((4 * ((u 13 0).toNatClampNeg)) + 3) (500 : Int32)) 9 0 (nI (((((f_MisNumber ((f_MisSign ((f_MisNumber u 1 (40 : Int32) (208 : Int32)).2) (64 : Int32)).2) 2 (0 : Int32) (3599 : Int32)).2) 9 0).toNatClampNeg) + 1))) 3 (1 : Int32) (999 : Int32)).1), (f_MisNumber (upA (upA ((f_MisNumber ((f_MisSign ((f_MisNumber u 1 (40 : Int32) (208 : Int32)).2) (64 : Int32)).2) 2 (0 : Int32) (3599 : Int32)).2) 12 ((4 * ((u 13 0).toNatClampNeg)) + 3) (500 : Int32)) 9 0 (nI (((((f_MisNumber ((f_MisSign ((f_MisNumber u 1 (40 : Int32) (208 : Int32)).2) (64 : Int32)).2) 2 (0 : Int32) (3599 : Int32)).2) 9 0).toNatClampNeg) + 1))) 3 (1 : Int32) (999 : Int32)).2) else (true, upA ((f_MisNumber ((f_MisSign ((f_MisNumber u 1 (40 : Int32) (208 : Int32)).2) (64 : Int32)).2) 2 (0 : Int32) (3599 : Int32)).2) 12 ((4 * ((u 13 0).toNatClampNeg)) + 3) (500 : Int32))) else (false, (f_MisNumber ((f_MisSign ((f_MisNumber u 1 (40 : Int32) (208 : Int32)).2) (64 : Int32)).2) 2 (0 : Int32) (3599 : Int32)).2)) else (false, (f_MisSign ((f_MisNumber u 1 (40 : Int32) (208 : Int32)).2) (64 : Int32)).2)) else (false, (f_MisNumber u 1 (40 : Int32) (208 : Int32)).2)
set_option maxHeartbeats 1000000 in
set_option maxRecDepth 100000 in
theorem c_X5_isToldOne (l : Launch) (dC : Nat → ClassId) (dI : Nat → Nat → Nat) (cI cZ cO : ClassId) (h0 : Nat) (q : Nat → Nat) (u : BS) (sz : Nat) (ha : vp_in (u 9 0) 61) (ht : vp_in (u 7 0) 61) (hd : vp_in (u 13 0) 31) : Met l yX5_isToldOne wsX5_isToldOne rm_X5_isToldOne (va_Pc [.ref h0] (fun U => U.heap.size = sz ∧ va_P (dC, dI) vwCl (MW cI cZ h0 q u) U.heap ∧ va_K (dC, dI) vwCl (TY cI cZ cO) U ∧ va_D (fun _ => True) (MW cI cZ h0 q u))) (kQw (some (.int (bI (f_MisToldOne u).1))) (dC, dI) vwCl (MW cI cZ h0 q ((f_MisToldOne u).2)) (va_A (MW cI cZ h0 q u) sz)) 0 0 (va_A (MW cI cZ h0 q u) sz) := by
  refine kofW (cc := cX5_isToldOne) (maxL := 1) (ret := some .boolean) (by decide) rfl (Nat.le_of_ble_eq_true rfl) ?_
  intro p e s m args below meth c ls S hr hlk hnm hsz hP hK hD hS hA hl
  generalize hA0 : va_A (MW cI cZ h0 q u) sz = A0 at hD hS hA ⊢
  subst hsz
  obtain ⟨hx, hb, hml, hown, hts⟩ := id S
  have ha_n : (u 9 0).toNatClampNeg < 61 := vp_lt ha
  have ht_n : (u 7 0).toNatClampNeg < 61 := vp_lt ht
  have hd_n : (u 13 0).toNatClampNeg < 31 := vp_lt hd
  have inX5 : ∀ w ∈ wsX50, w ∈ wsX5_isToldOne := fun w h => List.mem_cons_of_mem _ (List.mem_append_right _ h)
  have hl : lv_has ls 1 [(0, .ref h0)] := hl
  refine lv_aload_n hx hb dX5_isToldOne_0 rfl (lv_at hl 0 rfl) ?_
  refine lv_iconst (v := (1 : Int32)) hx hb dX5_isToldOne_1 (by decide) ?_
  refine lv_bipush (v := (40 : Int32)) hx hb dX5_isToldOne_2 (by decide) ?_
  refine lv_sipush (v := (208 : Int32)) hx hb dX5_isToldOne_4 (by decide) ?_
  refine kc_w (As := [.int (nI 1), .int (40 : Int32), .int (208 : Int32)]) (rest := []) S (v := (some (.int (bI ((f_MisNumber u 1 (40 : Int32) (208 : Int32)).1))))) (c_X5_isNumber l dC dI cI cZ cO h0 q u 1 (40 : Int32) (208 : Int32) s.heap.size (by omega) ha ht hd) gX5_isToldOne_X5_isNumber mi_X5_isNumber ⟨rfl, rfl⟩ ⟨Nat.le_of_ble_eq_true rfl, Nat.le_of_ble_eq_true rfl⟩ hK hP hD hS hA [0, 1, 2, 3, 4, 5, 6, 7] MW_all MW_fst rfl 0 rfl rfl ⟨Nat.le_refl _, Nat.le_refl _⟩ dX5_isToldOne_7 rfl hl.1 rfl (Nat.le_of_ble_eq_true rfl) (fun H locs hP hD hS => ?_)
  have hP : va_P (dC, dI) vwCl (MW cI cZ h0 q ((f_MisNumber u 1 (40 : Int32) (208 : Int32)).2)) H := Eq.mp (congrArg (fun w => va_P (dC, dI) vwCl w H) MW_ks) hP
  have hD : va_D A0 (MW cI cZ h0 q ((f_MisNumber u 1 (40 : Int32) (208 : Int32)).2)) := Eq.mp (congrArg (fun w => va_D A0 w) MW_ks) hD
  refine kb_eq (tgt := 34) hx hb dX5_isToldOne_10 (by decide) (fun c_10 => ?_) (fun c_10 => ?_)
  · refine lv_iconst (v := (0 : Int32)) hx hb dX5_isToldOne_34 (by decide) ?_
    have r1 : f_MisToldOne u = (false, (f_MisNumber u 1 (40 : Int32) (208 : Int32)).2) := by
      rw [f_MisToldOne, if_neg c_10]
    exact kw_z (x := false) hx hb hr hlk hP hS dX5_isToldOne_35 rfl (by rw [r1]) (by rw [r1])
  · refine lv_aload_n hx hb dX5_isToldOne_13 rfl (lv_at hl 0 rfl) ?_
    refine lv_bipush (v := (64 : Int32)) hx hb dX5_isToldOne_14 (by decide) ?_
    refine kc_w (As := [.int (64 : Int32)]) (rest := []) S (v := (some (.int (bI ((f_MisSign ((f_MisNumber u 1 (40 : Int32) (208 : Int32)).2) (64 : Int32)).1))))) (c_X5_isSign l dC dI cI cZ cO h0 q ((f_MisNumber u 1 (40 : Int32) (208 : Int32)).2) (64 : Int32) H.size (f_MisNumber_a ha ht) (by rw [f_MisNumber_o (show (7 : Nat) ≠ 9 by decide) (by decide) (by decide) (by decide)]; exact ht)) gX5_isToldOne_X5_isSign mi_X5_isSign ⟨rfl, rfl⟩ ⟨Nat.le_of_ble_eq_true rfl, Nat.le_of_ble_eq_true rfl⟩ hK hP hD hS hA [0, 1, 2, 3, 4, 5, 6, 7] MW_all MW_fst rfl 0 rfl rfl ⟨Nat.le_refl _, Nat.le_refl _⟩ dX5_isToldOne_16 rfl hl.1 rfl (Nat.le_of_ble_eq_true rfl) (fun H locs hP hD hS => ?_)
    have hP : va_P (dC, dI) vwCl (MW cI cZ h0 q ((f_MisSign ((f_MisNumber u 1 (40 : Int32) (208 : Int32)).2) (64 : Int32)).2)) H := Eq.mp (congrArg (fun w => va_P (dC, dI) vwCl w H) MW_ks) hP
    have hD : va_D A0 (MW cI cZ h0 q ((f_MisSign ((f_MisNumber u 1 (40 : Int32) (208 : Int32)).2) (64 : Int32)).2)) := Eq.mp (congrArg (fun w => va_D A0 w) MW_ks) hD
    refine kb_eq (tgt := 34) hx hb dX5_isToldOne_19 (by decide) (fun c_19 => ?_) (fun c_19 => ?_)
    · refine lv_iconst (v := (0 : Int32)) hx hb dX5_isToldOne_34 (by decide) ?_
      have r2 : f_MisToldOne u = (false, (f_MisSign ((f_MisNumber u 1 (40 : Int32) (208 : Int32)).2) (64 : Int32)).2) := by
        rw [f_MisToldOne, if_pos c_10, if_neg c_19]
      exact kw_z (x := false) hx hb hr hlk hP hS dX5_isToldOne_35 rfl (by rw [r2]) (by rw [r2])
    · refine lv_aload_n hx hb dX5_isToldOne_22 rfl (lv_at hl 0 rfl) ?_
      refine lv_iconst (v := (2 : Int32)) hx hb dX5_isToldOne_23 (by decide) ?_
      refine lv_iconst (v := (0 : Int32)) hx hb dX5_isToldOne_24 (by decide) ?_
      refine lv_sipush (v := (3599 : Int32)) hx hb dX5_isToldOne_25 (by decide) ?_
      refine kc_w (As := [.int (nI 2), .int (0 : Int32), .int (3599 : Int32)]) (rest := []) S (v := (some (.int (bI ((f_MisNumber ((f_MisSign ((f_MisNumber u 1 (40 : Int32) (208 : Int32)).2) (64 : Int32)).2) 2 (0 : Int32) (3599 : Int32)).1))))) (c_X5_isNumber l dC dI cI cZ cO h0 q ((f_MisSign ((f_MisNumber u 1 (40 : Int32) (208 : Int32)).2) (64 : Int32)).2) 2 (0 : Int32) (3599 : Int32) H.size (by omega) (f_MisSign_a (f_MisNumber_a ha ht) (by rw [f_MisNumber_o (show (7 : Nat) ≠ 9 by decide) (by decide) (by decide) (by decide)]; exact ht)) (by rw [f_MisSign_o (show (7 : Nat) ≠ 9 by decide) (by decide), f_MisNumber_o (show (7 : Nat) ≠ 9 by decide) (by decide) (by decide) (by decide)]; exact ht) (by rw [f_MisSign_o (show (13 : Nat) ≠ 9 by decide) (by decide), f_MisNumber_o (show (13 : Nat) ≠ 9 by decide) (by decide) (by decide) (by decide)]; exact hd)) gX5_isToldOne_X5_isNumber mi_X5_isNumber ⟨rfl, rfl⟩ ⟨Nat.le_of_ble_eq_true rfl, Nat.le_of_ble_eq_true rfl⟩ hK hP hD hS hA [0, 1, 2, 3, 4, 5, 6, 7] MW_all MW_fst rfl 0 rfl rfl ⟨Nat.le_refl _, Nat.le_refl _⟩ dX5_isToldOne_28 rfl hl.1 rfl (Nat.le_of_ble_eq_true rfl) (fun H locs hP hD hS => ?_)
      have hP : va_P (dC, dI) vwCl (MW cI cZ h0 q ((f_MisNumber ((f_MisSign ((f_MisNumber u 1 (40 : Int32) (208 : Int32)).2) (64 : Int32)).2) 2 (0 : Int32) (3599 : Int32)).2)) H := Eq.mp (congrArg (fun w => va_P (dC, dI) vwCl w H) MW_ks) hP
      have hD : va_D A0 (MW cI cZ h0 q ((f_MisNumber ((f_MisSign ((f_MisNumber u 1 (40 : Int32) (208 : Int32)).2) (64 : Int32)).2) 2 (0 : Int32) (3599 : Int32)).2)) := Eq.mp (congrArg (fun w => va_D A0 w) MW_ks) hD
      refine kb_ne (tgt := 36) hx hb dX5_isToldOne_31 (by decide) (fun c_31 => ?_) (fun c_31 => ?_)
      · refine lv_aload_n hx hb dX5_isToldOne_36 rfl (lv_at hl 0 rfl) ?_
        refine va_get (D := (dC, dI)) (ci := 5) (v := .ref (q 12)) (C := RX5) (T := TX5) (N := 14) hx hb hts inX5 hown hK hP 0 rfl rfl 12 (by decide) (hts (.fieldLink RX5 29 "BoardMetronomesModel" "told" "[I") (by decide +kernel)) (fun _ h9 => h9) rfl dX5_isToldOne_37 ?_
        refine lv_iconst (v := (4 : Int32)) hx hb dX5_isToldOne_40 (by decide) ?_
        refine lv_aload_n hx hb dX5_isToldOne_41 rfl (lv_at hl 0 rfl) ?_
        refine va_get (D := (dC, dI)) (ci := 5) (v := .int (u 13 0)) (C := RX5) (T := TX5) (N := 14) hx hb hts inX5 hown hK hP 0 rfl rfl 13 (by decide) (hts (.fieldLink RX5 147 "BoardMetronomesModel" "tolds" "I") (by decide +kernel)) (fun _ h9 => h9) (congrArg (fun z => some (Value.int z)) (show ((f_MisNumber ((f_MisSign ((f_MisNumber u 1 (40 : Int32) (208 : Int32)).2) (64 : Int32)).2) 2 (0 : Int32) (3599 : Int32)).2) 13 0 = u 13 0 by rw [f_MisNumber_o (show (13 : Nat) ≠ 9 by decide) (by decide) (by decide) (by decide), f_MisSign_o (show (13 : Nat) ≠ 9 by decide) (by decide), f_MisNumber_o (show (13 : Nat) ≠ 9 by decide) (by decide) (by decide) (by decide)])) dX5_isToldOne_42 ?_
        refine kt_i (kcl hd).symm ?_
        refine k_imuln (x := 4) (y := (u 13 0).toNatClampNeg) hx hb dX5_isToldOne_45 ?_
        refine lv_iconst (v := (3 : Int32)) hx hb dX5_isToldOne_46 (by decide) ?_
        refine k_iaddn (x := 4 * ((u 13 0).toNatClampNeg)) (y := 3) hx hb dX5_isToldOne_47 ?_
        refine lv_sipush (v := (500 : Int32)) hx hb dX5_isToldOne_48 (by decide) ?_
        refine k_iast (D := (dC, dI)) hx hb hK hP hD hS 7 0 rfl rfl (j := ((4 * ((u 13 0).toNatClampNeg)) + 3)) (by omega) (by decide) dX5_isToldOne_51 (fun H locs hP hD hS => ?_)
        have hP : va_P (dC, dI) vwCl (MW cI cZ h0 q (upA ((f_MisNumber ((f_MisSign ((f_MisNumber u 1 (40 : Int32) (208 : Int32)).2) (64 : Int32)).2) 2 (0 : Int32) (3599 : Int32)).2) 12 ((4 * ((u 13 0).toNatClampNeg)) + 3) (500 : Int32))) H := Eq.mp (congrArg (fun w => va_P (dC, dI) vwCl w H) MW_a12) hP
        have hD : va_D A0 (MW cI cZ h0 q (upA ((f_MisNumber ((f_MisSign ((f_MisNumber u 1 (40 : Int32) (208 : Int32)).2) (64 : Int32)).2) 2 (0 : Int32) (3599 : Int32)).2) 12 ((4 * ((u 13 0).toNatClampNeg)) + 3) (500 : Int32))) := Eq.mp (congrArg (fun w => va_D A0 w) MW_a12) hD
        refine lv_aload_n hx hb dX5_isToldOne_52 rfl (lv_at hl 0 rfl) ?_
        refine lv_bipush (v := (42 : Int32)) hx hb dX5_isToldOne_53 (by decide) ?_
        refine lv_bipush (v := (42 : Int32)) hx hb dX5_isToldOne_55 (by decide) ?_
        refine kc_v (As := [.int (42 : Int32), .int (42 : Int32)]) (rest := []) S (v := .int (bI (f_MisAt (upA ((f_MisNumber ((f_MisSign ((f_MisNumber u 1 (40 : Int32) (208 : Int32)).2) (64 : Int32)).2) 2 (0 : Int32) (3599 : Int32)).2) 12 ((4 * ((u 13 0).toNatClampNeg)) + 3) (500 : Int32)) (42 : Int32) (42 : Int32)))) (c_X5_isAt l dC dI cI cZ cO h0 q (upA ((f_MisNumber ((f_MisSign ((f_MisNumber u 1 (40 : Int32) (208 : Int32)).2) (64 : Int32)).2) 2 (0 : Int32) (3599 : Int32)).2) 12 ((4 * ((u 13 0).toNatClampNeg)) + 3) (500 : Int32)) (42 : Int32) (42 : Int32) (by rw [upA_o (show (9 : Nat) ≠ 12 by decide)]; exact (f_MisNumber_a (f_MisSign_a (f_MisNumber_a ha ht) (by rw [f_MisNumber_o (show (7 : Nat) ≠ 9 by decide) (by decide) (by decide) (by decide)]; exact ht)) (by rw [f_MisSign_o (show (7 : Nat) ≠ 9 by decide) (by decide), f_MisNumber_o (show (7 : Nat) ≠ 9 by decide) (by decide) (by decide) (by decide)]; exact ht))) (by rw [upA_o (show (7 : Nat) ≠ 12 by decide), f_MisNumber_o (show (7 : Nat) ≠ 9 by decide) (by decide) (by decide) (by decide), f_MisSign_o (show (7 : Nat) ≠ 9 by decide) (by decide), f_MisNumber_o (show (7 : Nat) ≠ 9 by decide) (by decide) (by decide) (by decide)]; exact ht)) gX5_isToldOne_X5_isAt mi_X5_isAt ⟨rfl, rfl⟩ ⟨Nat.le_of_ble_eq_true rfl, Nat.le_of_ble_eq_true rfl⟩ hK hP 0 rfl rfl ⟨Nat.le_refl _, Nat.le_refl _⟩ dX5_isToldOne_57 rfl hl.1 rfl (Nat.le_of_ble_eq_true rfl) ?_
        refine kb_ne (tgt := 65) hx hb dX5_isToldOne_60 (by decide) (fun c_60 => ?_) (fun c_60 => ?_)
        · have c_60n : (((f_MisNumber ((f_MisSign ((f_MisNumber u 1 (40 : Int32) (208 : Int32)).2) (64 : Int32)).2) 2 (0 : Int32) (3599 : Int32)).2) 9 0).toNatClampNeg < (u 7 0).toNatClampNeg := by have z := f_MisAt_lt (by rw [upA_o (show (9 : Nat) ≠ 12 by decide)]; exact (f_MisNumber_a (f_MisSign_a (f_MisNumber_a ha ht) (by rw [f_MisNumber_o (show (7 : Nat) ≠ 9 by decide) (by decide) (by decide) (by decide)]; exact ht)) (by rw [f_MisSign_o (show (7 : Nat) ≠ 9 by decide) (by decide), f_MisNumber_o (show (7 : Nat) ≠ 9 by decide) (by decide) (by decide) (by decide)]; exact ht))) (by rw [upA_o (show (7 : Nat) ≠ 12 by decide), f_MisNumber_o (show (7 : Nat) ≠ 9 by decide) (by decide) (by decide) (by decide), f_MisSign_o (show (7 : Nat) ≠ 9 by decide) (by decide), f_MisNumber_o (show (7 : Nat) ≠ 9 by decide) (by decide) (by decide) (by decide)]; exact ht) c_60; rw [upA_o (show (9 : Nat) ≠ 12 by decide), upA_o (show (7 : Nat) ≠ 12 by decide), f_MisNumber_o (show (7 : Nat) ≠ 9 by decide) (by decide) (by decide) (by decide), f_MisSign_o (show (7 : Nat) ≠ 9 by decide) (by decide), f_MisNumber_o (show (7 : Nat) ≠ 9 by decide) (by decide) (by decide) (by decide)] at z; exact z
          refine lv_aload_n hx hb dX5_isToldOne_65 rfl (lv_at hl 0 rfl) ?_
          refine lv_dup hx hb dX5_isToldOne_66 rfl ?_
          refine va_get (D := (dC, dI)) (ci := 5) (v := .int (((f_MisNumber ((f_MisSign ((f_MisNumber u 1 (40 : Int32) (208 : Int32)).2) (64 : Int32)).2) 2 (0 : Int32) (3599 : Int32)).2) 9 0)) (C := RX5) (T := TX5) (N := 14) hx hb hts inX5 hown hK hP 0 rfl rfl 9 (by decide) (hts (.fieldLink RX5 126 "BoardMetronomesModel" "at" "I") (by decide +kernel)) (fun _ h9 => h9) (congrArg (fun z => some (Value.int z)) (show (upA ((f_MisNumber ((f_MisSign ((f_MisNumber u 1 (40 : Int32) (208 : Int32)).2) (64 : Int32)).2) 2 (0 : Int32) (3599 : Int32)).2) 12 ((4 * ((u 13 0).toNatClampNeg)) + 3) (500 : Int32)) 9 0 = ((f_MisNumber ((f_MisSign ((f_MisNumber u 1 (40 : Int32) (208 : Int32)).2) (64 : Int32)).2) 2 (0 : Int32) (3599 : Int32)).2) 9 0 by rw [upA_o (show (9 : Nat) ≠ 12 by decide)])) dX5_isToldOne_67 ?_
          refine kt_i (kcl (f_MisNumber_a (f_MisSign_a (f_MisNumber_a ha ht) (by rw [f_MisNumber_o (show (7 : Nat) ≠ 9 by decide) (by decide) (by decide) (by decide)]; exact ht)) (by rw [f_MisSign_o (show (7 : Nat) ≠ 9 by decide) (by decide), f_MisNumber_o (show (7 : Nat) ≠ 9 by decide) (by decide) (by decide) (by decide)]; exact ht))).symm ?_
          refine lv_iconst (v := (1 : Int32)) hx hb dX5_isToldOne_70 (by decide) ?_
          refine k_iaddn (x := (((f_MisNumber ((f_MisSign ((f_MisNumber u 1 (40 : Int32) (208 : Int32)).2) (64 : Int32)).2) 2 (0 : Int32) (3599 : Int32)).2) 9 0).toNatClampNeg) (y := 1) hx hb dX5_isToldOne_71 ?_
          refine va_put (D := (dC, dI)) (ci := 5) (v := .int (nI (((((f_MisNumber ((f_MisSign ((f_MisNumber u 1 (40 : Int32) (208 : Int32)).2) (64 : Int32)).2) 2 (0 : Int32) (3599 : Int32)).2) 9 0).toNatClampNeg) + 1))) (ty := .int) (C := RX5) (T := TX5) (N := 14) hx hb hts inX5 tyX5 tyX5_ok nmX5 hown hK hP hD hS 0 rfl rfl 9 (by decide) (hts (.fieldLink RX5 126 "BoardMetronomesModel" "at" "I") (by decide +kernel)) (fun _ h9 => h9) rfl (by decide +kernel) rfl rfl (Nat.le_of_ble_eq_true rfl) dX5_isToldOne_72 (fun H locs hP hD hS => ?_)
          have hP : va_P (dC, dI) vwCl (MW cI cZ h0 q (upA (upA ((f_MisNumber ((f_MisSign ((f_MisNumber u 1 (40 : Int32) (208 : Int32)).2) (64 : Int32)).2) 2 (0 : Int32) (3599 : Int32)).2) 12 ((4 * ((u 13 0).toNatClampNeg)) + 3) (500 : Int32)) 9 0 (nI (((((f_MisNumber ((f_MisSign ((f_MisNumber u 1 (40 : Int32) (208 : Int32)).2) (64 : Int32)).2) 2 (0 : Int32) (3599 : Int32)).2) 9 0).toNatClampNeg) + 1)))) H := Eq.mp (congrArg (fun w => va_P (dC, dI) vwCl w H) MW_s9) hP
          have hD : va_D A0 (MW cI cZ h0 q (upA (upA ((f_MisNumber ((f_MisSign ((f_MisNumber u 1 (40 : Int32) (208 : Int32)).2) (64 : Int32)).2) 2 (0 : Int32) (3599 : Int32)).2) 12 ((4 * ((u 13 0).toNatClampNeg)) + 3) (500 : Int32)) 9 0 (nI (((((f_MisNumber ((f_MisSign ((f_MisNumber u 1 (40 : Int32) (208 : Int32)).2) (64 : Int32)).2) 2 (0 : Int32) (3599 : Int32)).2) 9 0).toNatClampNeg) + 1)))) := Eq.mp (congrArg (fun w => va_D A0 w) MW_s9) hD
          refine lv_aload_n hx hb dX5_isToldOne_75 rfl (lv_at hl 0 rfl) ?_
          refine lv_iconst (v := (3 : Int32)) hx hb dX5_isToldOne_76 (by decide) ?_
          refine lv_iconst (v := (1 : Int32)) hx hb dX5_isToldOne_77 (by decide) ?_
          refine lv_sipush (v := (999 : Int32)) hx hb dX5_isToldOne_78 (by decide) ?_
          refine kc_w (As := [.int (nI 3), .int (1 : Int32), .int (999 : Int32)]) (rest := []) S (v := (some (.int (bI ((f_MisNumber (upA (upA ((f_MisNumber ((f_MisSign ((f_MisNumber u 1 (40 : Int32) (208 : Int32)).2) (64 : Int32)).2) 2 (0 : Int32) (3599 : Int32)).2) 12 ((4 * ((u 13 0).toNatClampNeg)) + 3) (500 : Int32)) 9 0 (nI (((((f_MisNumber ((f_MisSign ((f_MisNumber u 1 (40 : Int32) (208 : Int32)).2) (64 : Int32)).2) 2 (0 : Int32) (3599 : Int32)).2) 9 0).toNatClampNeg) + 1))) 3 (1 : Int32) (999 : Int32)).1))))) (c_X5_isNumber l dC dI cI cZ cO h0 q (upA (upA ((f_MisNumber ((f_MisSign ((f_MisNumber u 1 (40 : Int32) (208 : Int32)).2) (64 : Int32)).2) 2 (0 : Int32) (3599 : Int32)).2) 12 ((4 * ((u 13 0).toNatClampNeg)) + 3) (500 : Int32)) 9 0 (nI (((((f_MisNumber ((f_MisSign ((f_MisNumber u 1 (40 : Int32) (208 : Int32)).2) (64 : Int32)).2) 2 (0 : Int32) (3599 : Int32)).2) 9 0).toNatClampNeg) + 1))) 3 (1 : Int32) (999 : Int32) H.size (by omega) (by rw [upA_s]; exact (vp_in_nI (by omega) (by decide))) (by rw [upA_o (show (7 : Nat) ≠ 9 by decide), upA_o (show (7 : Nat) ≠ 12 by decide), f_MisNumber_o (show (7 : Nat) ≠ 9 by decide) (by decide) (by decide) (by decide), f_MisSign_o (show (7 : Nat) ≠ 9 by decide) (by decide), f_MisNumber_o (show (7 : Nat) ≠ 9 by decide) (by decide) (by decide) (by decide)]; exact ht) (by rw [upA_o (show (13 : Nat) ≠ 9 by decide), upA_o (show (13 : Nat) ≠ 12 by decide), f_MisNumber_o (show (13 : Nat) ≠ 9 by decide) (by decide) (by decide) (by decide), f_MisSign_o (show (13 : Nat) ≠ 9 by decide) (by decide), f_MisNumber_o (show (13 : Nat) ≠ 9 by decide) (by decide) (by decide) (by decide)]; exact hd)) gX5_isToldOne_X5_isNumber mi_X5_isNumber ⟨rfl, rfl⟩ ⟨Nat.le_of_ble_eq_true rfl, Nat.le_of_ble_eq_true rfl⟩ hK hP hD hS hA [0, 1, 2, 3, 4, 5, 6, 7] MW_all MW_fst rfl 0 rfl rfl ⟨Nat.le_refl _, Nat.le_refl _⟩ dX5_isToldOne_81 rfl hl.1 rfl (Nat.le_of_ble_eq_true rfl) (fun H locs hP hD hS => ?_)
          have hP : va_P (dC, dI) vwCl (MW cI cZ h0 q ((f_MisNumber (upA (upA ((f_MisNumber ((f_MisSign ((f_MisNumber u 1 (40 : Int32) (208 : Int32)).2) (64 : Int32)).2) 2 (0 : Int32) (3599 : Int32)).2) 12 ((4 * ((u 13 0).toNatClampNeg)) + 3) (500 : Int32)) 9 0 (nI (((((f_MisNumber ((f_MisSign ((f_MisNumber u 1 (40 : Int32) (208 : Int32)).2) (64 : Int32)).2) 2 (0 : Int32) (3599 : Int32)).2) 9 0).toNatClampNeg) + 1))) 3 (1 : Int32) (999 : Int32)).2)) H := Eq.mp (congrArg (fun w => va_P (dC, dI) vwCl w H) MW_ks) hP
          have hD : va_D A0 (MW cI cZ h0 q ((f_MisNumber (upA (upA ((f_MisNumber ((f_MisSign ((f_MisNumber u 1 (40 : Int32) (208 : Int32)).2) (64 : Int32)).2) 2 (0 : Int32) (3599 : Int32)).2) 12 ((4 * ((u 13 0).toNatClampNeg)) + 3) (500 : Int32)) 9 0 (nI (((((f_MisNumber ((f_MisSign ((f_MisNumber u 1 (40 : Int32) (208 : Int32)).2) (64 : Int32)).2) 2 (0 : Int32) (3599 : Int32)).2) 9 0).toNatClampNeg) + 1))) 3 (1 : Int32) (999 : Int32)).2)) := Eq.mp (congrArg (fun w => va_D A0 w) MW_ks) hD
          have r3 : f_MisToldOne u = (((f_MisNumber (upA (upA ((f_MisNumber ((f_MisSign ((f_MisNumber u 1 (40 : Int32) (208 : Int32)).2) (64 : Int32)).2) 2 (0 : Int32) (3599 : Int32)).2) 12 ((4 * ((u 13 0).toNatClampNeg)) + 3) (500 : Int32)) 9 0 (nI (((((f_MisNumber ((f_MisSign ((f_MisNumber u 1 (40 : Int32) (208 : Int32)).2) (64 : Int32)).2) 2 (0 : Int32) (3599 : Int32)).2) 9 0).toNatClampNeg) + 1))) 3 (1 : Int32) (999 : Int32)).1), (f_MisNumber (upA (upA ((f_MisNumber ((f_MisSign ((f_MisNumber u 1 (40 : Int32) (208 : Int32)).2) (64 : Int32)).2) 2 (0 : Int32) (3599 : Int32)).2) 12 ((4 * ((u 13 0).toNatClampNeg)) + 3) (500 : Int32)) 9 0 (nI (((((f_MisNumber ((f_MisSign ((f_MisNumber u 1 (40 : Int32) (208 : Int32)).2) (64 : Int32)).2) 2 (0 : Int32) (3599 : Int32)).2) 9 0).toNatClampNeg) + 1))) 3 (1 : Int32) (999 : Int32)).2) := by
            rw [f_MisToldOne, if_pos c_10, if_pos c_19, if_pos c_31, if_pos c_60]
          exact kw_z (x := ((f_MisNumber (upA (upA ((f_MisNumber ((f_MisSign ((f_MisNumber u 1 (40 : Int32) (208 : Int32)).2) (64 : Int32)).2) 2 (0 : Int32) (3599 : Int32)).2) 12 ((4 * ((u 13 0).toNatClampNeg)) + 3) (500 : Int32)) 9 0 (nI (((((f_MisNumber ((f_MisSign ((f_MisNumber u 1 (40 : Int32) (208 : Int32)).2) (64 : Int32)).2) 2 (0 : Int32) (3599 : Int32)).2) 9 0).toNatClampNeg) + 1))) 3 (1 : Int32) (999 : Int32)).1)) hx hb hr hlk hP hS dX5_isToldOne_84 rfl (by rw [r3]) (by rw [r3])
        · refine lv_iconst (v := (1 : Int32)) hx hb dX5_isToldOne_63 (by decide) ?_
          have r4 : f_MisToldOne u = (true, upA ((f_MisNumber ((f_MisSign ((f_MisNumber u 1 (40 : Int32) (208 : Int32)).2) (64 : Int32)).2) 2 (0 : Int32) (3599 : Int32)).2) 12 ((4 * ((u 13 0).toNatClampNeg)) + 3) (500 : Int32)) := by
            rw [f_MisToldOne, if_pos c_10, if_pos c_19, if_pos c_31, if_neg c_60]
          exact kw_z (x := true) hx hb hr hlk hP hS dX5_isToldOne_64 rfl (by rw [r4]) (by rw [r4])
      · refine lv_iconst (v := (0 : Int32)) hx hb dX5_isToldOne_34 (by decide) ?_
        have r5 : f_MisToldOne u = (false, (f_MisNumber ((f_MisSign ((f_MisNumber u 1 (40 : Int32) (208 : Int32)).2) (64 : Int32)).2) 2 (0 : Int32) (3599 : Int32)).2) := by
          rw [f_MisToldOne, if_pos c_10, if_pos c_19, if_neg c_31]
        exact kw_z (x := false) hx hb hr hlk hP hS dX5_isToldOne_35 rfl (by rw [r5]) (by rw [r5])

def rm_X5_isOrder : Room := { frames := 4, cells := 0, slots := 0, locals := 88 }
theorem mi_X5_isOrder : kM yX5_isOrder wsX5_isOrder cX5_isOrder 2 (some .boolean) 0 := ⟨⟨_, rfl⟩, by decide, by decide, by decide +kernel⟩
def f_MisOrder (u : BS) : Bool × BS := if (nI ((u 7 0).toNatClampNeg)) ≤ (nI ((u 9 0).toNatClampNeg)) then (((f_Mstops (upA u 12 (4 * ((u 13 0).toNatClampNeg)) (0 : Int32))).1), (f_Mstops (upA u 12 (4 * ((u 13 0).toNatClampNeg)) (0 : Int32))).2) else if (u 6 ((u 9 0).toNatClampNeg)) = (104 : Int32) then (if (f_MisAt (upA (upA u 12 (4 * ((u 13 0).toNatClampNeg)) (u 6 ((u 9 0).toNatClampNeg))) 9 0 (nI (((u 9 0).toNatClampNeg) + 1))) (48 : Int32) (53 : Int32)) = true then (true, upA (upA (upA (upA u 12 (4 * ((u 13 0).toNatClampNeg)) (u 6 ((u 9 0).toNatClampNeg))) 9 0 (nI (((u 9 0).toNatClampNeg) + 1))) 12 ((4 * ((u 13 0).toNatClampNeg)) + 1) ((u 6 (((u 9 0).toNatClampNeg) + 1)) - (48 : Int32))) 9 0 (nI ((((u 9 0).toNatClampNeg) + 1) + 1))) else (((f_Mstops (upA (upA u 12 (4 * ((u 13 0).toNatClampNeg)) (u 6 ((u 9 0).toNatClampNeg))) 9 0 (nI (((u 9 0).toNatClampNeg) + 1)))).1), (f_Mstops (upA (upA u 12 (4 * ((u 13 0).toNatClampNeg)) (u 6 ((u 9 0).toNatClampNeg))) 9 0 (nI (((u 9 0).toNatClampNeg) + 1)))).2)) else if (u 6 ((u 9 0).toNatClampNeg)) = (109 : Int32) then (((f_MisToldOne (upA (upA u 12 (4 * ((u 13 0).toNatClampNeg)) (u 6 ((u 9 0).toNatClampNeg))) 9 0 (nI (((u 9 0).toNatClampNeg) + 1)))).1), (f_MisToldOne (upA (upA u 12 (4 * ((u 13 0).toNatClampNeg)) (u 6 ((u 9 0).toNatClampNeg))) 9 0 (nI (((u 9 0).toNatClampNeg) + 1)))).2) else if (u 6 ((u 9 0).toNatClampNeg)) = (115 : Int32) then (((f_MisNumber (upA (upA u 12 (4 * ((u 13 0).toNatClampNeg)) (u 6 ((u 9 0).toNatClampNeg))) 9 0 (nI (((u 9 0).toNatClampNeg) + 1))) 1 (1 : Int32) (500 : Int32)).1), (f_MisNumber (upA (upA u 12 (4 * ((u 13 0).toNatClampNeg)) (u 6 ((u 9 0).toNatClampNeg))) 9 0 (nI (((u 9 0).toNatClampNeg) + 1))) 1 (1 : Int32) (500 : Int32)).2) else (((f_Mstops (upA u 12 (4 * ((u 13 0).toNatClampNeg)) (u 6 ((u 9 0).toNatClampNeg)))).1), (f_Mstops (upA u 12 (4 * ((u 13 0).toNatClampNeg)) (u 6 ((u 9 0).toNatClampNeg)))).2)
set_option maxHeartbeats 1000000 in
set_option maxRecDepth 100000 in
theorem c_X5_isOrder (l : Launch) (dC : Nat → ClassId) (dI : Nat → Nat → Nat) (cI cZ cO : ClassId) (h0 : Nat) (q : Nat → Nat) (u : BS) (sz : Nat) (ha : vp_in (u 9 0) 61) (ht : vp_in (u 7 0) 61) (hd : vp_in (u 13 0) 31) : Met l yX5_isOrder wsX5_isOrder rm_X5_isOrder (va_Pc [.ref h0] (fun U => U.heap.size = sz ∧ va_P (dC, dI) vwCl (MW cI cZ h0 q u) U.heap ∧ va_K (dC, dI) vwCl (TY cI cZ cO) U ∧ va_D (fun _ => True) (MW cI cZ h0 q u))) (kQw (some (.int (bI (f_MisOrder u).1))) (dC, dI) vwCl (MW cI cZ h0 q ((f_MisOrder u).2)) (va_A (MW cI cZ h0 q u) sz)) 0 0 (va_A (MW cI cZ h0 q u) sz) := by
  refine kofW (cc := cX5_isOrder) (maxL := 2) (ret := some .boolean) (by decide) rfl (Nat.le_of_ble_eq_true rfl) ?_
  intro p e s m args below meth c ls S hr hlk hnm hsz hP hK hD hS hA hl
  generalize hA0 : va_A (MW cI cZ h0 q u) sz = A0 at hD hS hA ⊢
  subst hsz
  obtain ⟨hx, hb, hml, hown, hts⟩ := id S
  have ha_n : (u 9 0).toNatClampNeg < 61 := vp_lt ha
  have ht_n : (u 7 0).toNatClampNeg < 61 := vp_lt ht
  have hd_n : (u 13 0).toNatClampNeg < 31 := vp_lt hd
  have inX5 : ∀ w ∈ wsX50, w ∈ wsX5_isOrder := fun w h => List.mem_cons_of_mem _ (List.mem_append_right _ h)
  have hl : lv_has ls 2 [(0, .ref h0)] := hl
  refine lv_aload_n hx hb dX5_isOrder_0 rfl (lv_at hl 0 rfl) ?_
  refine va_get (D := (dC, dI)) (ci := 5) (v := .int (u 9 0)) (C := RX5) (T := TX5) (N := 14) hx hb hts inX5 hown hK hP 0 rfl rfl 9 (by decide) (hts (.fieldLink RX5 126 "BoardMetronomesModel" "at" "I") (by decide +kernel)) (fun _ h9 => h9) rfl dX5_isOrder_1 ?_
  refine kt_i (kcl ha).symm ?_
  refine lv_aload_n hx hb dX5_isOrder_4 rfl (lv_at hl 0 rfl) ?_
  refine va_get (D := (dC, dI)) (ci := 5) (v := .int (u 7 0)) (C := RX5) (T := TX5) (N := 14) hx hb hts inX5 hown hK hP 0 rfl rfl 7 (by decide) (hts (.fieldLink RX5 123 "BoardMetronomesModel" "typed" "I") (by decide +kernel)) (fun _ h9 => h9) rfl dX5_isOrder_5 ?_
  refine kt_i (kcl ht).symm ?_
  refine lv_icmp_ge (tgt := 23) hx hb dX5_isOrder_8 (by decide) (fun c_8 => ?_) (fun c_8 => ?_)
  · have c_8n : ((u 7 0).toNatClampNeg) ≤ ((u 9 0).toNatClampNeg) := (nI_leI (a := ((u 7 0).toNatClampNeg)) (b := ((u 9 0).toNatClampNeg)) (by omega) (by omega)).mp c_8
    refine lv_iconst (v := (0 : Int32)) hx hb dX5_isOrder_23 (by decide) ?_
    refine lv_istore_n (lv' := [(1, .int (0 : Int32)), (0, .ref h0)]) hx hb dX5_isOrder_24 rfl hl (by decide) rfl (fun ls hl => ?_)
    refine lv_aload_n hx hb dX5_isOrder_25 rfl (lv_at hl 1 rfl) ?_
    refine va_get (D := (dC, dI)) (ci := 5) (v := .ref (q 12)) (C := RX5) (T := TX5) (N := 14) hx hb hts inX5 hown hK hP 0 rfl rfl 12 (by decide) (hts (.fieldLink RX5 29 "BoardMetronomesModel" "told" "[I") (by decide +kernel)) (fun _ h9 => h9) rfl dX5_isOrder_26 ?_
    refine lv_iconst (v := (4 : Int32)) hx hb dX5_isOrder_29 (by decide) ?_
    refine lv_aload_n hx hb dX5_isOrder_30 rfl (lv_at hl 1 rfl) ?_
    refine va_get (D := (dC, dI)) (ci := 5) (v := .int (u 13 0)) (C := RX5) (T := TX5) (N := 14) hx hb hts inX5 hown hK hP 0 rfl rfl 13 (by decide) (hts (.fieldLink RX5 147 "BoardMetronomesModel" "tolds" "I") (by decide +kernel)) (fun _ h9 => h9) rfl dX5_isOrder_31 ?_
    refine kt_i (kcl hd).symm ?_
    refine k_imuln (x := 4) (y := (u 13 0).toNatClampNeg) hx hb dX5_isOrder_34 ?_
    refine lv_iload_n hx hb dX5_isOrder_35 rfl (lv_at hl 0 rfl) ?_
    refine k_iast (D := (dC, dI)) hx hb hK hP hD hS 7 0 rfl rfl (j := (4 * ((u 13 0).toNatClampNeg))) (by omega) (by decide) dX5_isOrder_36 (fun H locs hP hD hS => ?_)
    have hP : va_P (dC, dI) vwCl (MW cI cZ h0 q (upA u 12 (4 * ((u 13 0).toNatClampNeg)) (0 : Int32))) H := Eq.mp (congrArg (fun w => va_P (dC, dI) vwCl w H) MW_a12) hP
    have hD : va_D A0 (MW cI cZ h0 q (upA u 12 (4 * ((u 13 0).toNatClampNeg)) (0 : Int32))) := Eq.mp (congrArg (fun w => va_D A0 w) MW_a12) hD
    refine lv_iload_n hx hb dX5_isOrder_37 rfl (lv_at hl 0 rfl) ?_
    refine lv_lookup (off := 132) (tgt := 170) hx hb dX5_isOrder_38 (by decide) rfl (by decide) ?_
    refine lv_aload_n hx hb dX5_isOrder_170 rfl (lv_at hl 1 rfl) ?_
    refine kc_w (As := []) (rest := []) S (v := (some (.int (bI ((f_Mstops (upA u 12 (4 * ((u 13 0).toNatClampNeg)) (0 : Int32))).1))))) (c_X5_stops l dC dI cI cZ cO h0 q (upA u 12 (4 * ((u 13 0).toNatClampNeg)) (0 : Int32)) H.size) gX5_isOrder_X5_stops mi_X5_stops ⟨rfl, rfl⟩ ⟨Nat.le_of_ble_eq_true rfl, Nat.le_of_ble_eq_true rfl⟩ hK hP hD hS hA [0, 1, 2, 3, 4, 5, 6, 7] MW_all MW_fst rfl 0 rfl rfl ⟨Nat.le_refl _, Nat.le_refl _⟩ dX5_isOrder_171 rfl hl.1 rfl (Nat.le_of_ble_eq_true rfl) (fun H locs hP hD hS => ?_)
    have hP : va_P (dC, dI) vwCl (MW cI cZ h0 q ((f_Mstops (upA u 12 (4 * ((u 13 0).toNatClampNeg)) (0 : Int32))).2)) H := Eq.mp (congrArg (fun w => va_P (dC, dI) vwCl w H) MW_ks) hP
    have hD : va_D A0 (MW cI cZ h0 q ((f_Mstops (upA u 12 (4 * ((u 13 0).toNatClampNeg)) (0 : Int32))).2)) := Eq.mp (congrArg (fun w => va_D A0 w) MW_ks) hD
    have r1 : f_MisOrder u = (((f_Mstops (upA u 12 (4 * ((u 13 0).toNatClampNeg)) (0 : Int32))).1), (f_Mstops (upA u 12 (4 * ((u 13 0).toNatClampNeg)) (0 : Int32))).2) := by
      rw [f_MisOrder, if_pos c_8]
    exact kw_z (x := ((f_Mstops (upA u 12 (4 * ((u 13 0).toNatClampNeg)) (0 : Int32))).1)) hx hb hr hlk hP hS dX5_isOrder_174 rfl (by rw [r1]) (by rw [r1])
  · have c_8n : ¬ ((u 7 0).toNatClampNeg) ≤ ((u 9 0).toNatClampNeg) := fun z => c_8 ((nI_leI (a := ((u 7 0).toNatClampNeg)) (b := ((u 9 0).toNatClampNeg)) (by omega) (by omega)).mpr z)
    refine lv_aload_n hx hb dX5_isOrder_11 rfl (lv_at hl 0 rfl) ?_
    refine va_get (D := (dC, dI)) (ci := 5) (v := .ref (q 6)) (C := RX5) (T := TX5) (N := 14) hx hb hts inX5 hown hK hP 0 rfl rfl 6 (by decide) (hts (.fieldLink RX5 26 "BoardMetronomesModel" "text" "[I") (by decide +kernel)) (fun _ h9 => h9) rfl dX5_isOrder_12 ?_
    refine lv_aload_n hx hb dX5_isOrder_15 rfl (lv_at hl 0 rfl) ?_
    refine va_get (D := (dC, dI)) (ci := 5) (v := .int (u 9 0)) (C := RX5) (T := TX5) (N := 14) hx hb hts inX5 hown hK hP 0 rfl rfl 9 (by decide) (hts (.fieldLink RX5 126 "BoardMetronomesModel" "at" "I") (by decide +kernel)) (fun _ h9 => h9) rfl dX5_isOrder_16 ?_
    refine kt_i (kcl ha).symm ?_
    refine k_iald (D := (dC, dI)) hx hb hK hP 6 0 rfl rfl (j := ((u 9 0).toNatClampNeg)) (by omega) (by decide) dX5_isOrder_19 ?_
    refine lv_goto (tgt := 24) hx hb dX5_isOrder_20 (by decide) ?_
    refine lv_istore_n (lv' := [(1, .int (u 6 ((u 9 0).toNatClampNeg))), (0, .ref h0)]) hx hb dX5_isOrder_24 rfl hl (by decide) rfl (fun ls hl => ?_)
    refine lv_aload_n hx hb dX5_isOrder_25 rfl (lv_at hl 1 rfl) ?_
    refine va_get (D := (dC, dI)) (ci := 5) (v := .ref (q 12)) (C := RX5) (T := TX5) (N := 14) hx hb hts inX5 hown hK hP 0 rfl rfl 12 (by decide) (hts (.fieldLink RX5 29 "BoardMetronomesModel" "told" "[I") (by decide +kernel)) (fun _ h9 => h9) rfl dX5_isOrder_26 ?_
    refine lv_iconst (v := (4 : Int32)) hx hb dX5_isOrder_29 (by decide) ?_
    refine lv_aload_n hx hb dX5_isOrder_30 rfl (lv_at hl 1 rfl) ?_
    refine va_get (D := (dC, dI)) (ci := 5) (v := .int (u 13 0)) (C := RX5) (T := TX5) (N := 14) hx hb hts inX5 hown hK hP 0 rfl rfl 13 (by decide) (hts (.fieldLink RX5 147 "BoardMetronomesModel" "tolds" "I") (by decide +kernel)) (fun _ h9 => h9) rfl dX5_isOrder_31 ?_
    refine kt_i (kcl hd).symm ?_
    refine k_imuln (x := 4) (y := (u 13 0).toNatClampNeg) hx hb dX5_isOrder_34 ?_
    refine lv_iload_n hx hb dX5_isOrder_35 rfl (lv_at hl 0 rfl) ?_
    refine k_iast (D := (dC, dI)) hx hb hK hP hD hS 7 0 rfl rfl (j := (4 * ((u 13 0).toNatClampNeg))) (by omega) (by decide) dX5_isOrder_36 (fun H locs hP hD hS => ?_)
    have hP : va_P (dC, dI) vwCl (MW cI cZ h0 q (upA u 12 (4 * ((u 13 0).toNatClampNeg)) (u 6 ((u 9 0).toNatClampNeg)))) H := Eq.mp (congrArg (fun w => va_P (dC, dI) vwCl w H) MW_a12) hP
    have hD : va_D A0 (MW cI cZ h0 q (upA u 12 (4 * ((u 13 0).toNatClampNeg)) (u 6 ((u 9 0).toNatClampNeg)))) := Eq.mp (congrArg (fun w => va_D A0 w) MW_a12) hD
    refine lv_iload_n hx hb dX5_isOrder_37 rfl (lv_at hl 0 rfl) ?_
    by_cases c_38_104 : (u 6 ((u 9 0).toNatClampNeg)) = (104 : Int32)
    · refine lv_lookup (off := 69) (tgt := 107) hx hb dX5_isOrder_38 (by decide) (by rw [c_38_104]; rfl) (by decide) ?_
      refine lv_aload_n hx hb dX5_isOrder_107 rfl (lv_at hl 1 rfl) ?_
      refine lv_dup hx hb dX5_isOrder_108 rfl ?_
      refine va_get (D := (dC, dI)) (ci := 5) (v := .int (u 9 0)) (C := RX5) (T := TX5) (N := 14) hx hb hts inX5 hown hK hP 0 rfl rfl 9 (by decide) (hts (.fieldLink RX5 126 "BoardMetronomesModel" "at" "I") (by decide +kernel)) (fun _ h9 => h9) (congrArg (fun z => some (Value.int z)) (show (upA u 12 (4 * ((u 13 0).toNatClampNeg)) (u 6 ((u 9 0).toNatClampNeg))) 9 0 = u 9 0 by rw [upA_o (show (9 : Nat) ≠ 12 by decide)])) dX5_isOrder_109 ?_
      refine kt_i (kcl ha).symm ?_
      refine lv_iconst (v := (1 : Int32)) hx hb dX5_isOrder_112 (by decide) ?_
      refine k_iaddn (x := (u 9 0).toNatClampNeg) (y := 1) hx hb dX5_isOrder_113 ?_
      refine va_put (D := (dC, dI)) (ci := 5) (v := .int (nI (((u 9 0).toNatClampNeg) + 1))) (ty := .int) (C := RX5) (T := TX5) (N := 14) hx hb hts inX5 tyX5 tyX5_ok nmX5 hown hK hP hD hS 0 rfl rfl 9 (by decide) (hts (.fieldLink RX5 126 "BoardMetronomesModel" "at" "I") (by decide +kernel)) (fun _ h9 => h9) rfl (by decide +kernel) rfl rfl (Nat.le_of_ble_eq_true rfl) dX5_isOrder_114 (fun H locs hP hD hS => ?_)
      have hP : va_P (dC, dI) vwCl (MW cI cZ h0 q (upA (upA u 12 (4 * ((u 13 0).toNatClampNeg)) (u 6 ((u 9 0).toNatClampNeg))) 9 0 (nI (((u 9 0).toNatClampNeg) + 1)))) H := Eq.mp (congrArg (fun w => va_P (dC, dI) vwCl w H) MW_s9) hP
      have hD : va_D A0 (MW cI cZ h0 q (upA (upA u 12 (4 * ((u 13 0).toNatClampNeg)) (u 6 ((u 9 0).toNatClampNeg))) 9 0 (nI (((u 9 0).toNatClampNeg) + 1)))) := Eq.mp (congrArg (fun w => va_D A0 w) MW_s9) hD
      refine lv_aload_n hx hb dX5_isOrder_117 rfl (lv_at hl 1 rfl) ?_
      refine lv_bipush (v := (48 : Int32)) hx hb dX5_isOrder_118 (by decide) ?_
      refine lv_bipush (v := (53 : Int32)) hx hb dX5_isOrder_120 (by decide) ?_
      refine kc_v (As := [.int (48 : Int32), .int (53 : Int32)]) (rest := []) S (v := .int (bI (f_MisAt (upA (upA u 12 (4 * ((u 13 0).toNatClampNeg)) (u 6 ((u 9 0).toNatClampNeg))) 9 0 (nI (((u 9 0).toNatClampNeg) + 1))) (48 : Int32) (53 : Int32)))) (c_X5_isAt l dC dI cI cZ cO h0 q (upA (upA u 12 (4 * ((u 13 0).toNatClampNeg)) (u 6 ((u 9 0).toNatClampNeg))) 9 0 (nI (((u 9 0).toNatClampNeg) + 1))) (48 : Int32) (53 : Int32) (by rw [upA_s]; exact (vp_in_nI (by omega) (by decide))) (by rw [upA_o (show (7 : Nat) ≠ 9 by decide), upA_o (show (7 : Nat) ≠ 12 by decide)]; exact ht)) gX5_isOrder_X5_isAt mi_X5_isAt ⟨rfl, rfl⟩ ⟨Nat.le_of_ble_eq_true rfl, Nat.le_of_ble_eq_true rfl⟩ hK hP 0 rfl rfl ⟨Nat.le_refl _, Nat.le_refl _⟩ dX5_isOrder_122 rfl hl.1 rfl (Nat.le_of_ble_eq_true rfl) ?_
      refine kb_ne (tgt := 133) hx hb dX5_isOrder_125 (by decide) (fun c_125 => ?_) (fun c_125 => ?_)
      · have c_125n : (((u 9 0).toNatClampNeg) + 1) < (u 7 0).toNatClampNeg := by have z := f_MisAt_lt (by rw [upA_s]; exact (vp_in_nI (by omega) (by decide))) (by rw [upA_o (show (7 : Nat) ≠ 9 by decide), upA_o (show (7 : Nat) ≠ 12 by decide)]; exact ht) c_125; rw [upA_s, upA_o (show (7 : Nat) ≠ 9 by decide), upA_o (show (7 : Nat) ≠ 12 by decide)] at z; rw [nI_clamp (by omega)] at z; exact z
        refine lv_aload_n hx hb dX5_isOrder_133 rfl (lv_at hl 1 rfl) ?_
        refine va_get (D := (dC, dI)) (ci := 5) (v := .ref (q 12)) (C := RX5) (T := TX5) (N := 14) hx hb hts inX5 hown hK hP 0 rfl rfl 12 (by decide) (hts (.fieldLink RX5 29 "BoardMetronomesModel" "told" "[I") (by decide +kernel)) (fun _ h9 => h9) rfl dX5_isOrder_134 ?_
        refine lv_iconst (v := (4 : Int32)) hx hb dX5_isOrder_137 (by decide) ?_
        refine lv_aload_n hx hb dX5_isOrder_138 rfl (lv_at hl 1 rfl) ?_
        refine va_get (D := (dC, dI)) (ci := 5) (v := .int (u 13 0)) (C := RX5) (T := TX5) (N := 14) hx hb hts inX5 hown hK hP 0 rfl rfl 13 (by decide) (hts (.fieldLink RX5 147 "BoardMetronomesModel" "tolds" "I") (by decide +kernel)) (fun _ h9 => h9) (congrArg (fun z => some (Value.int z)) (show (upA (upA u 12 (4 * ((u 13 0).toNatClampNeg)) (u 6 ((u 9 0).toNatClampNeg))) 9 0 (nI (((u 9 0).toNatClampNeg) + 1))) 13 0 = u 13 0 by rw [upA_o (show (13 : Nat) ≠ 9 by decide), upA_o (show (13 : Nat) ≠ 12 by decide)])) dX5_isOrder_139 ?_
        refine kt_i (kcl hd).symm ?_
        refine k_imuln (x := 4) (y := (u 13 0).toNatClampNeg) hx hb dX5_isOrder_142 ?_
        refine lv_iconst (v := (1 : Int32)) hx hb dX5_isOrder_143 (by decide) ?_
        refine k_iaddn (x := 4 * ((u 13 0).toNatClampNeg)) (y := 1) hx hb dX5_isOrder_144 ?_
        refine lv_aload_n hx hb dX5_isOrder_145 rfl (lv_at hl 1 rfl) ?_
        refine va_get (D := (dC, dI)) (ci := 5) (v := .ref (q 6)) (C := RX5) (T := TX5) (N := 14) hx hb hts inX5 hown hK hP 0 rfl rfl 6 (by decide) (hts (.fieldLink RX5 26 "BoardMetronomesModel" "text" "[I") (by decide +kernel)) (fun _ h9 => h9) rfl dX5_isOrder_146 ?_
        refine lv_aload_n hx hb dX5_isOrder_149 rfl (lv_at hl 1 rfl) ?_
        refine va_get (D := (dC, dI)) (ci := 5) (v := .int (nI (((u 9 0).toNatClampNeg) + 1))) (C := RX5) (T := TX5) (N := 14) hx hb hts inX5 hown hK hP 0 rfl rfl 9 (by decide) (hts (.fieldLink RX5 126 "BoardMetronomesModel" "at" "I") (by decide +kernel)) (fun _ h9 => h9) (congrArg (fun z => some (Value.int z)) (show (upA (upA u 12 (4 * ((u 13 0).toNatClampNeg)) (u 6 ((u 9 0).toNatClampNeg))) 9 0 (nI (((u 9 0).toNatClampNeg) + 1))) 9 0 = nI (((u 9 0).toNatClampNeg) + 1) by rw [upA_s])) dX5_isOrder_150 ?_
        refine k_iald (D := (dC, dI)) hx hb hK hP 6 0 rfl rfl (j := (((u 9 0).toNatClampNeg) + 1)) (by omega) (by decide) dX5_isOrder_153 ?_
        rw [upA_o (show (6 : Nat) ≠ 9 by decide), upA_o (show (6 : Nat) ≠ 12 by decide)]
        refine lv_bipush (v := (48 : Int32)) hx hb dX5_isOrder_154 (by decide) ?_
        refine lv_isub hx hb dX5_isOrder_156 ?_
        refine k_iast (D := (dC, dI)) hx hb hK hP hD hS 7 0 rfl rfl (j := ((4 * ((u 13 0).toNatClampNeg)) + 1)) (by omega) (by decide) dX5_isOrder_157 (fun H locs hP hD hS => ?_)
        have hP : va_P (dC, dI) vwCl (MW cI cZ h0 q (upA (upA (upA u 12 (4 * ((u 13 0).toNatClampNeg)) (u 6 ((u 9 0).toNatClampNeg))) 9 0 (nI (((u 9 0).toNatClampNeg) + 1))) 12 ((4 * ((u 13 0).toNatClampNeg)) + 1) ((u 6 (((u 9 0).toNatClampNeg) + 1)) - (48 : Int32)))) H := Eq.mp (congrArg (fun w => va_P (dC, dI) vwCl w H) MW_a12) hP
        have hD : va_D A0 (MW cI cZ h0 q (upA (upA (upA u 12 (4 * ((u 13 0).toNatClampNeg)) (u 6 ((u 9 0).toNatClampNeg))) 9 0 (nI (((u 9 0).toNatClampNeg) + 1))) 12 ((4 * ((u 13 0).toNatClampNeg)) + 1) ((u 6 (((u 9 0).toNatClampNeg) + 1)) - (48 : Int32)))) := Eq.mp (congrArg (fun w => va_D A0 w) MW_a12) hD
        refine lv_aload_n hx hb dX5_isOrder_158 rfl (lv_at hl 1 rfl) ?_
        refine lv_dup hx hb dX5_isOrder_159 rfl ?_
        refine va_get (D := (dC, dI)) (ci := 5) (v := .int (nI (((u 9 0).toNatClampNeg) + 1))) (C := RX5) (T := TX5) (N := 14) hx hb hts inX5 hown hK hP 0 rfl rfl 9 (by decide) (hts (.fieldLink RX5 126 "BoardMetronomesModel" "at" "I") (by decide +kernel)) (fun _ h9 => h9) (congrArg (fun z => some (Value.int z)) (show (upA (upA (upA u 12 (4 * ((u 13 0).toNatClampNeg)) (u 6 ((u 9 0).toNatClampNeg))) 9 0 (nI (((u 9 0).toNatClampNeg) + 1))) 12 ((4 * ((u 13 0).toNatClampNeg)) + 1) ((u 6 (((u 9 0).toNatClampNeg) + 1)) - (48 : Int32))) 9 0 = nI (((u 9 0).toNatClampNeg) + 1) by rw [upA_o (show (9 : Nat) ≠ 12 by decide), upA_s])) dX5_isOrder_160 ?_
        refine lv_iconst (v := (1 : Int32)) hx hb dX5_isOrder_163 (by decide) ?_
        refine k_iaddn (x := ((u 9 0).toNatClampNeg) + 1) (y := 1) hx hb dX5_isOrder_164 ?_
        refine va_put (D := (dC, dI)) (ci := 5) (v := .int (nI ((((u 9 0).toNatClampNeg) + 1) + 1))) (ty := .int) (C := RX5) (T := TX5) (N := 14) hx hb hts inX5 tyX5 tyX5_ok nmX5 hown hK hP hD hS 0 rfl rfl 9 (by decide) (hts (.fieldLink RX5 126 "BoardMetronomesModel" "at" "I") (by decide +kernel)) (fun _ h9 => h9) rfl (by decide +kernel) rfl rfl (Nat.le_of_ble_eq_true rfl) dX5_isOrder_165 (fun H locs hP hD hS => ?_)
        have hP : va_P (dC, dI) vwCl (MW cI cZ h0 q (upA (upA (upA (upA u 12 (4 * ((u 13 0).toNatClampNeg)) (u 6 ((u 9 0).toNatClampNeg))) 9 0 (nI (((u 9 0).toNatClampNeg) + 1))) 12 ((4 * ((u 13 0).toNatClampNeg)) + 1) ((u 6 (((u 9 0).toNatClampNeg) + 1)) - (48 : Int32))) 9 0 (nI ((((u 9 0).toNatClampNeg) + 1) + 1)))) H := Eq.mp (congrArg (fun w => va_P (dC, dI) vwCl w H) MW_s9) hP
        have hD : va_D A0 (MW cI cZ h0 q (upA (upA (upA (upA u 12 (4 * ((u 13 0).toNatClampNeg)) (u 6 ((u 9 0).toNatClampNeg))) 9 0 (nI (((u 9 0).toNatClampNeg) + 1))) 12 ((4 * ((u 13 0).toNatClampNeg)) + 1) ((u 6 (((u 9 0).toNatClampNeg) + 1)) - (48 : Int32))) 9 0 (nI ((((u 9 0).toNatClampNeg) + 1) + 1)))) := Eq.mp (congrArg (fun w => va_D A0 w) MW_s9) hD
        refine lv_iconst (v := (1 : Int32)) hx hb dX5_isOrder_168 (by decide) ?_
        have r2 : f_MisOrder u = (true, upA (upA (upA (upA u 12 (4 * ((u 13 0).toNatClampNeg)) (u 6 ((u 9 0).toNatClampNeg))) 9 0 (nI (((u 9 0).toNatClampNeg) + 1))) 12 ((4 * ((u 13 0).toNatClampNeg)) + 1) ((u 6 (((u 9 0).toNatClampNeg) + 1)) - (48 : Int32))) 9 0 (nI ((((u 9 0).toNatClampNeg) + 1) + 1))) := by
          rw [f_MisOrder, if_neg c_8, if_pos c_38_104, if_pos c_125]
        exact kw_z (x := true) hx hb hr hlk hP hS dX5_isOrder_169 rfl (by rw [r2]) (by rw [r2])
      · refine lv_aload_n hx hb dX5_isOrder_128 rfl (lv_at hl 1 rfl) ?_
        refine kc_w (As := []) (rest := []) S (v := (some (.int (bI ((f_Mstops (upA (upA u 12 (4 * ((u 13 0).toNatClampNeg)) (u 6 ((u 9 0).toNatClampNeg))) 9 0 (nI (((u 9 0).toNatClampNeg) + 1)))).1))))) (c_X5_stops l dC dI cI cZ cO h0 q (upA (upA u 12 (4 * ((u 13 0).toNatClampNeg)) (u 6 ((u 9 0).toNatClampNeg))) 9 0 (nI (((u 9 0).toNatClampNeg) + 1))) H.size) gX5_isOrder_X5_stops mi_X5_stops ⟨rfl, rfl⟩ ⟨Nat.le_of_ble_eq_true rfl, Nat.le_of_ble_eq_true rfl⟩ hK hP hD hS hA [0, 1, 2, 3, 4, 5, 6, 7] MW_all MW_fst rfl 0 rfl rfl ⟨Nat.le_refl _, Nat.le_refl _⟩ dX5_isOrder_129 rfl hl.1 rfl (Nat.le_of_ble_eq_true rfl) (fun H locs hP hD hS => ?_)
        have hP : va_P (dC, dI) vwCl (MW cI cZ h0 q ((f_Mstops (upA (upA u 12 (4 * ((u 13 0).toNatClampNeg)) (u 6 ((u 9 0).toNatClampNeg))) 9 0 (nI (((u 9 0).toNatClampNeg) + 1)))).2)) H := Eq.mp (congrArg (fun w => va_P (dC, dI) vwCl w H) MW_ks) hP
        have hD : va_D A0 (MW cI cZ h0 q ((f_Mstops (upA (upA u 12 (4 * ((u 13 0).toNatClampNeg)) (u 6 ((u 9 0).toNatClampNeg))) 9 0 (nI (((u 9 0).toNatClampNeg) + 1)))).2)) := Eq.mp (congrArg (fun w => va_D A0 w) MW_ks) hD
        have r3 : f_MisOrder u = (((f_Mstops (upA (upA u 12 (4 * ((u 13 0).toNatClampNeg)) (u 6 ((u 9 0).toNatClampNeg))) 9 0 (nI (((u 9 0).toNatClampNeg) + 1)))).1), (f_Mstops (upA (upA u 12 (4 * ((u 13 0).toNatClampNeg)) (u 6 ((u 9 0).toNatClampNeg))) 9 0 (nI (((u 9 0).toNatClampNeg) + 1)))).2) := by
          rw [f_MisOrder, if_neg c_8, if_pos c_38_104, if_neg c_125]
        exact kw_z (x := ((f_Mstops (upA (upA u 12 (4 * ((u 13 0).toNatClampNeg)) (u 6 ((u 9 0).toNatClampNeg))) 9 0 (nI (((u 9 0).toNatClampNeg) + 1)))).1)) hx hb hr hlk hP hS dX5_isOrder_132 rfl (by rw [r3]) (by rw [r3])
    by_cases c_38_109 : (u 6 ((u 9 0).toNatClampNeg)) = (109 : Int32)
    · refine lv_lookup (off := 34) (tgt := 72) hx hb dX5_isOrder_38 (by decide) (by rw [c_38_109]; rfl) (by decide) ?_
      refine lv_aload_n hx hb dX5_isOrder_72 rfl (lv_at hl 1 rfl) ?_
      refine lv_dup hx hb dX5_isOrder_73 rfl ?_
      refine va_get (D := (dC, dI)) (ci := 5) (v := .int (u 9 0)) (C := RX5) (T := TX5) (N := 14) hx hb hts inX5 hown hK hP 0 rfl rfl 9 (by decide) (hts (.fieldLink RX5 126 "BoardMetronomesModel" "at" "I") (by decide +kernel)) (fun _ h9 => h9) (congrArg (fun z => some (Value.int z)) (show (upA u 12 (4 * ((u 13 0).toNatClampNeg)) (u 6 ((u 9 0).toNatClampNeg))) 9 0 = u 9 0 by rw [upA_o (show (9 : Nat) ≠ 12 by decide)])) dX5_isOrder_74 ?_
      refine kt_i (kcl ha).symm ?_
      refine lv_iconst (v := (1 : Int32)) hx hb dX5_isOrder_77 (by decide) ?_
      refine k_iaddn (x := (u 9 0).toNatClampNeg) (y := 1) hx hb dX5_isOrder_78 ?_
      refine va_put (D := (dC, dI)) (ci := 5) (v := .int (nI (((u 9 0).toNatClampNeg) + 1))) (ty := .int) (C := RX5) (T := TX5) (N := 14) hx hb hts inX5 tyX5 tyX5_ok nmX5 hown hK hP hD hS 0 rfl rfl 9 (by decide) (hts (.fieldLink RX5 126 "BoardMetronomesModel" "at" "I") (by decide +kernel)) (fun _ h9 => h9) rfl (by decide +kernel) rfl rfl (Nat.le_of_ble_eq_true rfl) dX5_isOrder_79 (fun H locs hP hD hS => ?_)
      have hP : va_P (dC, dI) vwCl (MW cI cZ h0 q (upA (upA u 12 (4 * ((u 13 0).toNatClampNeg)) (u 6 ((u 9 0).toNatClampNeg))) 9 0 (nI (((u 9 0).toNatClampNeg) + 1)))) H := Eq.mp (congrArg (fun w => va_P (dC, dI) vwCl w H) MW_s9) hP
      have hD : va_D A0 (MW cI cZ h0 q (upA (upA u 12 (4 * ((u 13 0).toNatClampNeg)) (u 6 ((u 9 0).toNatClampNeg))) 9 0 (nI (((u 9 0).toNatClampNeg) + 1)))) := Eq.mp (congrArg (fun w => va_D A0 w) MW_s9) hD
      refine lv_aload_n hx hb dX5_isOrder_82 rfl (lv_at hl 1 rfl) ?_
      refine kc_w (As := []) (rest := []) S (v := (some (.int (bI ((f_MisToldOne (upA (upA u 12 (4 * ((u 13 0).toNatClampNeg)) (u 6 ((u 9 0).toNatClampNeg))) 9 0 (nI (((u 9 0).toNatClampNeg) + 1)))).1))))) (c_X5_isToldOne l dC dI cI cZ cO h0 q (upA (upA u 12 (4 * ((u 13 0).toNatClampNeg)) (u 6 ((u 9 0).toNatClampNeg))) 9 0 (nI (((u 9 0).toNatClampNeg) + 1))) H.size (by rw [upA_s]; exact (vp_in_nI (by omega) (by decide))) (by rw [upA_o (show (7 : Nat) ≠ 9 by decide), upA_o (show (7 : Nat) ≠ 12 by decide)]; exact ht) (by rw [upA_o (show (13 : Nat) ≠ 9 by decide), upA_o (show (13 : Nat) ≠ 12 by decide)]; exact hd)) gX5_isOrder_X5_isToldOne mi_X5_isToldOne ⟨rfl, rfl⟩ ⟨Nat.le_of_ble_eq_true rfl, Nat.le_of_ble_eq_true rfl⟩ hK hP hD hS hA [0, 1, 2, 3, 4, 5, 6, 7] MW_all MW_fst rfl 0 rfl rfl ⟨Nat.le_refl _, Nat.le_refl _⟩ dX5_isOrder_83 rfl hl.1 rfl (Nat.le_of_ble_eq_true rfl) (fun H locs hP hD hS => ?_)
      have hP : va_P (dC, dI) vwCl (MW cI cZ h0 q ((f_MisToldOne (upA (upA u 12 (4 * ((u 13 0).toNatClampNeg)) (u 6 ((u 9 0).toNatClampNeg))) 9 0 (nI (((u 9 0).toNatClampNeg) + 1)))).2)) H := Eq.mp (congrArg (fun w => va_P (dC, dI) vwCl w H) MW_ks) hP
      have hD : va_D A0 (MW cI cZ h0 q ((f_MisToldOne (upA (upA u 12 (4 * ((u 13 0).toNatClampNeg)) (u 6 ((u 9 0).toNatClampNeg))) 9 0 (nI (((u 9 0).toNatClampNeg) + 1)))).2)) := Eq.mp (congrArg (fun w => va_D A0 w) MW_ks) hD
      have r4 : f_MisOrder u = (((f_MisToldOne (upA (upA u 12 (4 * ((u 13 0).toNatClampNeg)) (u 6 ((u 9 0).toNatClampNeg))) 9 0 (nI (((u 9 0).toNatClampNeg) + 1)))).1), (f_MisToldOne (upA (upA u 12 (4 * ((u 13 0).toNatClampNeg)) (u 6 ((u 9 0).toNatClampNeg))) 9 0 (nI (((u 9 0).toNatClampNeg) + 1)))).2) := by
        rw [f_MisOrder, if_neg c_8, if_neg c_38_104, if_pos c_38_109]
      exact kw_z (x := ((f_MisToldOne (upA (upA u 12 (4 * ((u 13 0).toNatClampNeg)) (u 6 ((u 9 0).toNatClampNeg))) 9 0 (nI (((u 9 0).toNatClampNeg) + 1)))).1)) hx hb hr hlk hP hS dX5_isOrder_86 rfl (by rw [r4]) (by rw [r4])
    by_cases c_38_115 : (u 6 ((u 9 0).toNatClampNeg)) = (115 : Int32)
    · refine lv_lookup (off := 49) (tgt := 87) hx hb dX5_isOrder_38 (by decide) (by rw [c_38_115]; rfl) (by decide) ?_
      refine lv_aload_n hx hb dX5_isOrder_87 rfl (lv_at hl 1 rfl) ?_
      refine lv_dup hx hb dX5_isOrder_88 rfl ?_
      refine va_get (D := (dC, dI)) (ci := 5) (v := .int (u 9 0)) (C := RX5) (T := TX5) (N := 14) hx hb hts inX5 hown hK hP 0 rfl rfl 9 (by decide) (hts (.fieldLink RX5 126 "BoardMetronomesModel" "at" "I") (by decide +kernel)) (fun _ h9 => h9) (congrArg (fun z => some (Value.int z)) (show (upA u 12 (4 * ((u 13 0).toNatClampNeg)) (u 6 ((u 9 0).toNatClampNeg))) 9 0 = u 9 0 by rw [upA_o (show (9 : Nat) ≠ 12 by decide)])) dX5_isOrder_89 ?_
      refine kt_i (kcl ha).symm ?_
      refine lv_iconst (v := (1 : Int32)) hx hb dX5_isOrder_92 (by decide) ?_
      refine k_iaddn (x := (u 9 0).toNatClampNeg) (y := 1) hx hb dX5_isOrder_93 ?_
      refine va_put (D := (dC, dI)) (ci := 5) (v := .int (nI (((u 9 0).toNatClampNeg) + 1))) (ty := .int) (C := RX5) (T := TX5) (N := 14) hx hb hts inX5 tyX5 tyX5_ok nmX5 hown hK hP hD hS 0 rfl rfl 9 (by decide) (hts (.fieldLink RX5 126 "BoardMetronomesModel" "at" "I") (by decide +kernel)) (fun _ h9 => h9) rfl (by decide +kernel) rfl rfl (Nat.le_of_ble_eq_true rfl) dX5_isOrder_94 (fun H locs hP hD hS => ?_)
      have hP : va_P (dC, dI) vwCl (MW cI cZ h0 q (upA (upA u 12 (4 * ((u 13 0).toNatClampNeg)) (u 6 ((u 9 0).toNatClampNeg))) 9 0 (nI (((u 9 0).toNatClampNeg) + 1)))) H := Eq.mp (congrArg (fun w => va_P (dC, dI) vwCl w H) MW_s9) hP
      have hD : va_D A0 (MW cI cZ h0 q (upA (upA u 12 (4 * ((u 13 0).toNatClampNeg)) (u 6 ((u 9 0).toNatClampNeg))) 9 0 (nI (((u 9 0).toNatClampNeg) + 1)))) := Eq.mp (congrArg (fun w => va_D A0 w) MW_s9) hD
      refine lv_aload_n hx hb dX5_isOrder_97 rfl (lv_at hl 1 rfl) ?_
      refine lv_iconst (v := (1 : Int32)) hx hb dX5_isOrder_98 (by decide) ?_
      refine lv_iconst (v := (1 : Int32)) hx hb dX5_isOrder_99 (by decide) ?_
      refine lv_sipush (v := (500 : Int32)) hx hb dX5_isOrder_100 (by decide) ?_
      refine kc_w (As := [.int (nI 1), .int (1 : Int32), .int (500 : Int32)]) (rest := []) S (v := (some (.int (bI ((f_MisNumber (upA (upA u 12 (4 * ((u 13 0).toNatClampNeg)) (u 6 ((u 9 0).toNatClampNeg))) 9 0 (nI (((u 9 0).toNatClampNeg) + 1))) 1 (1 : Int32) (500 : Int32)).1))))) (c_X5_isNumber l dC dI cI cZ cO h0 q (upA (upA u 12 (4 * ((u 13 0).toNatClampNeg)) (u 6 ((u 9 0).toNatClampNeg))) 9 0 (nI (((u 9 0).toNatClampNeg) + 1))) 1 (1 : Int32) (500 : Int32) H.size (by omega) (by rw [upA_s]; exact (vp_in_nI (by omega) (by decide))) (by rw [upA_o (show (7 : Nat) ≠ 9 by decide), upA_o (show (7 : Nat) ≠ 12 by decide)]; exact ht) (by rw [upA_o (show (13 : Nat) ≠ 9 by decide), upA_o (show (13 : Nat) ≠ 12 by decide)]; exact hd)) gX5_isOrder_X5_isNumber mi_X5_isNumber ⟨rfl, rfl⟩ ⟨Nat.le_of_ble_eq_true rfl, Nat.le_of_ble_eq_true rfl⟩ hK hP hD hS hA [0, 1, 2, 3, 4, 5, 6, 7] MW_all MW_fst rfl 0 rfl rfl ⟨Nat.le_refl _, Nat.le_refl _⟩ dX5_isOrder_103 rfl hl.1 rfl (Nat.le_of_ble_eq_true rfl) (fun H locs hP hD hS => ?_)
      have hP : va_P (dC, dI) vwCl (MW cI cZ h0 q ((f_MisNumber (upA (upA u 12 (4 * ((u 13 0).toNatClampNeg)) (u 6 ((u 9 0).toNatClampNeg))) 9 0 (nI (((u 9 0).toNatClampNeg) + 1))) 1 (1 : Int32) (500 : Int32)).2)) H := Eq.mp (congrArg (fun w => va_P (dC, dI) vwCl w H) MW_ks) hP
      have hD : va_D A0 (MW cI cZ h0 q ((f_MisNumber (upA (upA u 12 (4 * ((u 13 0).toNatClampNeg)) (u 6 ((u 9 0).toNatClampNeg))) 9 0 (nI (((u 9 0).toNatClampNeg) + 1))) 1 (1 : Int32) (500 : Int32)).2)) := Eq.mp (congrArg (fun w => va_D A0 w) MW_ks) hD
      have r5 : f_MisOrder u = (((f_MisNumber (upA (upA u 12 (4 * ((u 13 0).toNatClampNeg)) (u 6 ((u 9 0).toNatClampNeg))) 9 0 (nI (((u 9 0).toNatClampNeg) + 1))) 1 (1 : Int32) (500 : Int32)).1), (f_MisNumber (upA (upA u 12 (4 * ((u 13 0).toNatClampNeg)) (u 6 ((u 9 0).toNatClampNeg))) 9 0 (nI (((u 9 0).toNatClampNeg) + 1))) 1 (1 : Int32) (500 : Int32)).2) := by
        rw [f_MisOrder, if_neg c_8, if_neg c_38_104, if_neg c_38_109, if_pos c_38_115]
      exact kw_z (x := ((f_MisNumber (upA (upA u 12 (4 * ((u 13 0).toNatClampNeg)) (u 6 ((u 9 0).toNatClampNeg))) 9 0 (nI (((u 9 0).toNatClampNeg) + 1))) 1 (1 : Int32) (500 : Int32)).1)) hx hb hr hlk hP hS dX5_isOrder_106 rfl (by rw [r5]) (by rw [r5])
    refine lv_lookup (off := 132) (tgt := 170) hx hb dX5_isOrder_38 (by decide) (by rw [lv_osw (a := 104) (k := (104 : Int32)) c_38_104 (by decide)]; rw [lv_osw (a := 109) (k := (109 : Int32)) c_38_109 (by decide)]; rw [lv_osw (a := 115) (k := (115 : Int32)) c_38_115 (by decide)]; rfl) (by decide) ?_
    refine lv_aload_n hx hb dX5_isOrder_170 rfl (lv_at hl 1 rfl) ?_
    refine kc_w (As := []) (rest := []) S (v := (some (.int (bI ((f_Mstops (upA u 12 (4 * ((u 13 0).toNatClampNeg)) (u 6 ((u 9 0).toNatClampNeg)))).1))))) (c_X5_stops l dC dI cI cZ cO h0 q (upA u 12 (4 * ((u 13 0).toNatClampNeg)) (u 6 ((u 9 0).toNatClampNeg))) H.size) gX5_isOrder_X5_stops mi_X5_stops ⟨rfl, rfl⟩ ⟨Nat.le_of_ble_eq_true rfl, Nat.le_of_ble_eq_true rfl⟩ hK hP hD hS hA [0, 1, 2, 3, 4, 5, 6, 7] MW_all MW_fst rfl 0 rfl rfl ⟨Nat.le_refl _, Nat.le_refl _⟩ dX5_isOrder_171 rfl hl.1 rfl (Nat.le_of_ble_eq_true rfl) (fun H locs hP hD hS => ?_)
    have hP : va_P (dC, dI) vwCl (MW cI cZ h0 q ((f_Mstops (upA u 12 (4 * ((u 13 0).toNatClampNeg)) (u 6 ((u 9 0).toNatClampNeg)))).2)) H := Eq.mp (congrArg (fun w => va_P (dC, dI) vwCl w H) MW_ks) hP
    have hD : va_D A0 (MW cI cZ h0 q ((f_Mstops (upA u 12 (4 * ((u 13 0).toNatClampNeg)) (u 6 ((u 9 0).toNatClampNeg)))).2)) := Eq.mp (congrArg (fun w => va_D A0 w) MW_ks) hD
    have r6 : f_MisOrder u = (((f_Mstops (upA u 12 (4 * ((u 13 0).toNatClampNeg)) (u 6 ((u 9 0).toNatClampNeg)))).1), (f_Mstops (upA u 12 (4 * ((u 13 0).toNatClampNeg)) (u 6 ((u 9 0).toNatClampNeg)))).2) := by
      rw [f_MisOrder, if_neg c_8, if_neg c_38_104, if_neg c_38_109, if_neg c_38_115]
    exact kw_z (x := ((f_Mstops (upA u 12 (4 * ((u 13 0).toNatClampNeg)) (u 6 ((u 9 0).toNatClampNeg)))).1)) hx hb hr hlk hP hS dX5_isOrder_174 rfl (by rw [r6]) (by rw [r6])

def rm_X5_isAt : Room := { frames := 1, cells := 0, slots := 0, locals := 22 }
theorem mi_X5_isAt : kM yX5_isAt wsX5_isAt cX5_isAt 3 (some .boolean) 2 := ⟨⟨_, rfl⟩, by decide, by decide, by decide +kernel⟩
def f_MisAt (u : BS) (p0 : Int32) (p1 : Int32) : Bool := if (nI ((u 7 0).toNatClampNeg)) ≤ (nI ((u 9 0).toNatClampNeg)) then false else if (f_Min (u 6 ((u 9 0).toNatClampNeg)) p0 p1) = true then true else false
set_option maxHeartbeats 1000000 in
set_option maxRecDepth 100000 in
theorem c_X5_isAt (l : Launch) (dC : Nat → ClassId) (dI : Nat → Nat → Nat) (cI cZ cO : ClassId) (h0 : Nat) (q : Nat → Nat) (u : BS) (p0 : Int32) (p1 : Int32) (ha : vp_in (u 9 0) 61) (ht : vp_in (u 7 0) 61) : Met l yX5_isAt wsX5_isAt rm_X5_isAt (va_Pc [.ref h0, .int p0, .int p1] (fun U => va_P (dC, dI) vwCl (MW cI cZ h0 q u) U.heap ∧ va_K (dC, dI) vwCl (TY cI cZ cO) U)) (kQ (some (.int (bI (f_MisAt u p0 p1))))) 0 0 (fun _ => False) := by
  refine kofR (cc := cX5_isAt) (maxL := 3) (ret := some .boolean) (by decide) rfl (Nat.le_of_ble_eq_true rfl) ?_
  intro p e s m args below meth c ls S hr hlk hP hK hl
  obtain ⟨hx, hb, hml, hown, hts⟩ := id S
  have ha_n : (u 9 0).toNatClampNeg < 61 := vp_lt ha
  have ht_n : (u 7 0).toNatClampNeg < 61 := vp_lt ht
  have inX5 : ∀ w ∈ wsX50, w ∈ wsX5_isAt := fun w h => List.mem_cons_of_mem _ (List.mem_append_right _ h)
  have hl : lv_has ls 3 [(0, .ref h0), (1, .int p0), (2, .int p1)] := hl
  refine lv_aload_n hx hb dX5_isAt_0 rfl (lv_at hl 0 rfl) ?_
  refine va_get (D := (dC, dI)) (ci := 5) (v := .int (u 9 0)) (C := RX5) (T := TX5) (N := 14) hx hb hts inX5 hown hK hP 0 rfl rfl 9 (by decide) (hts (.fieldLink RX5 126 "BoardMetronomesModel" "at" "I") (by decide +kernel)) (fun _ h9 => h9) rfl dX5_isAt_1 ?_
  refine kt_i (kcl ha).symm ?_
  refine lv_aload_n hx hb dX5_isAt_4 rfl (lv_at hl 0 rfl) ?_
  refine va_get (D := (dC, dI)) (ci := 5) (v := .int (u 7 0)) (C := RX5) (T := TX5) (N := 14) hx hb hts inX5 hown hK hP 0 rfl rfl 7 (by decide) (hts (.fieldLink RX5 123 "BoardMetronomesModel" "typed" "I") (by decide +kernel)) (fun _ h9 => h9) rfl dX5_isAt_5 ?_
  refine kt_i (kcl ht).symm ?_
  refine lv_icmp_ge (tgt := 32) hx hb dX5_isAt_8 (by decide) (fun c_8 => ?_) (fun c_8 => ?_)
  · have c_8n : ((u 7 0).toNatClampNeg) ≤ ((u 9 0).toNatClampNeg) := (nI_leI (a := ((u 7 0).toNatClampNeg)) (b := ((u 9 0).toNatClampNeg)) (by omega) (by omega)).mp c_8
    refine lv_iconst (v := (0 : Int32)) hx hb dX5_isAt_32 (by decide) ?_
    have r1 : f_MisAt u p0 p1 = false := by
      rw [f_MisAt, if_pos c_8]
    exact kr_z (x := false) hx hb hr hlk dX5_isAt_33 rfl r1
  · have c_8n : ¬ ((u 7 0).toNatClampNeg) ≤ ((u 9 0).toNatClampNeg) := fun z => c_8 ((nI_leI (a := ((u 7 0).toNatClampNeg)) (b := ((u 9 0).toNatClampNeg)) (by omega) (by omega)).mpr z)
    refine lv_aload_n hx hb dX5_isAt_11 rfl (lv_at hl 0 rfl) ?_
    refine va_get (D := (dC, dI)) (ci := 5) (v := .ref (q 6)) (C := RX5) (T := TX5) (N := 14) hx hb hts inX5 hown hK hP 0 rfl rfl 6 (by decide) (hts (.fieldLink RX5 26 "BoardMetronomesModel" "text" "[I") (by decide +kernel)) (fun _ h9 => h9) rfl dX5_isAt_12 ?_
    refine lv_aload_n hx hb dX5_isAt_15 rfl (lv_at hl 0 rfl) ?_
    refine va_get (D := (dC, dI)) (ci := 5) (v := .int (u 9 0)) (C := RX5) (T := TX5) (N := 14) hx hb hts inX5 hown hK hP 0 rfl rfl 9 (by decide) (hts (.fieldLink RX5 126 "BoardMetronomesModel" "at" "I") (by decide +kernel)) (fun _ h9 => h9) rfl dX5_isAt_16 ?_
    refine kt_i (kcl ha).symm ?_
    refine k_iald (D := (dC, dI)) hx hb hK hP 6 0 rfl rfl (j := ((u 9 0).toNatClampNeg)) (by omega) (by decide) dX5_isAt_19 ?_
    refine lv_iload_n hx hb dX5_isAt_20 rfl (lv_at hl 1 rfl) ?_
    refine lv_iload_n hx hb dX5_isAt_21 rfl (lv_at hl 2 rfl) ?_
    refine kc_p (y := yX5_in) (As := [.int (u 6 ((u 9 0).toNatClampNeg)), .int p0, .int p1]) (rest := []) rfl S (v := .int (bI (f_Min (u 6 ((u 9 0).toNatClampNeg)) p0 p1))) (c_X5_in l (u 6 ((u 9 0).toNatClampNeg)) p0 p1) gX5_isAt_X5_in mi_X5_in ⟨rfl, rfl⟩ ⟨Nat.le_of_ble_eq_true rfl, Nat.le_of_ble_eq_true rfl⟩ ⟨Nat.le_refl _, Nat.le_refl _⟩ dX5_isAt_22 rfl hl.1 rfl (Nat.le_of_ble_eq_true rfl) ?_
    refine kb_eq (tgt := 32) hx hb dX5_isAt_25 (by decide) (fun c_25 => ?_) (fun c_25 => ?_)
    · refine lv_iconst (v := (0 : Int32)) hx hb dX5_isAt_32 (by decide) ?_
      have r2 : f_MisAt u p0 p1 = false := by
        rw [f_MisAt, if_neg c_8, if_neg c_25]
      exact kr_z (x := false) hx hb hr hlk dX5_isAt_33 rfl r2
    · refine lv_iconst (v := (1 : Int32)) hx hb dX5_isAt_28 (by decide) ?_
      refine lv_goto (tgt := 33) hx hb dX5_isAt_29 (by decide) ?_
      have r3 : f_MisAt u p0 p1 = true := by
        rw [f_MisAt, if_neg c_8, if_pos c_25]
      exact kr_z (x := true) hx hb hr hlk dX5_isAt_33 rfl r3

theorem f_MisAt_lt {u : BS} {a b : Int32} (ha : vp_in (u 9 0) 61) (ht : vp_in (u 7 0) 61) (h : f_MisAt u a b = true) : (u 9 0).toNatClampNeg < (u 7 0).toNatClampNeg := by
  have h9 := vp_lt ha
  have h7 := vp_lt ht
  rcases Nat.lt_or_ge (u 9 0).toNatClampNeg (u 7 0).toNatClampNeg with q | q
  · exact q
  · rw [f_MisAt, if_pos (nI_le q (by omega))] at h; cases h

def rm_X5_stops : Room := { frames := 0, cells := 0, slots := 0, locals := 0 }
theorem mi_X5_stops : kM yX5_stops wsX5_stops cX5_stops 1 (some .boolean) 0 := ⟨⟨_, rfl⟩, by decide, by decide, by decide +kernel⟩
def f_Mstops (u : BS) : Bool × BS := if (u 7 0) ≤ (u 9 0) then (false, upA u 10 0 (0 : Int32)) else (false, upA u 10 0 (1 : Int32))
theorem f_Mstops_o {u : BS} {k : Nat} (h : k ≠ 10) : (f_Mstops u).2 k = u k := by
  unfold f_Mstops
  split
  all_goals exact upA_o h
set_option maxHeartbeats 1000000 in
set_option maxRecDepth 100000 in
theorem c_X5_stops (l : Launch) (dC : Nat → ClassId) (dI : Nat → Nat → Nat) (cI cZ cO : ClassId) (h0 : Nat) (q : Nat → Nat) (u : BS) (sz : Nat) : Met l yX5_stops wsX5_stops rm_X5_stops (va_Pc [.ref h0] (fun U => U.heap.size = sz ∧ va_P (dC, dI) vwCl (MW cI cZ h0 q u) U.heap ∧ va_K (dC, dI) vwCl (TY cI cZ cO) U ∧ va_D (fun _ => True) (MW cI cZ h0 q u))) (kQw (some (.int (bI (f_Mstops u).1))) (dC, dI) vwCl (MW cI cZ h0 q ((f_Mstops u).2)) (va_A (MW cI cZ h0 q u) sz)) 0 0 (va_A (MW cI cZ h0 q u) sz) := by
  refine kofW (cc := cX5_stops) (maxL := 1) (ret := some .boolean) (by decide) rfl (Nat.le_of_ble_eq_true rfl) ?_
  intro p e s m args below meth c ls S hr hlk hnm hsz hP hK hD hS hA hl
  generalize hA0 : va_A (MW cI cZ h0 q u) sz = A0 at hD hS hA ⊢
  subst hsz
  obtain ⟨hx, hb, hml, hown, hts⟩ := id S
  have inX5 : ∀ w ∈ wsX50, w ∈ wsX5_stops := fun w h => List.mem_cons_of_mem _ (List.mem_append_right _ h)
  have hl : lv_has ls 1 [(0, .ref h0)] := hl
  refine lv_aload_n hx hb dX5_stops_0 rfl (lv_at hl 0 rfl) ?_
  refine lv_aload_n hx hb dX5_stops_1 rfl (lv_at hl 0 rfl) ?_
  refine va_get (D := (dC, dI)) (ci := 5) (v := .int (u 9 0)) (C := RX5) (T := TX5) (N := 14) hx hb hts inX5 hown hK hP 0 rfl rfl 9 (by decide) (hts (.fieldLink RX5 126 "BoardMetronomesModel" "at" "I") (by decide +kernel)) (fun _ h9 => h9) rfl dX5_stops_2 ?_
  refine lv_aload_n hx hb dX5_stops_5 rfl (lv_at hl 0 rfl) ?_
  refine va_get (D := (dC, dI)) (ci := 5) (v := .int (u 7 0)) (C := RX5) (T := TX5) (N := 14) hx hb hts inX5 hown hK hP 0 rfl rfl 7 (by decide) (hts (.fieldLink RX5 123 "BoardMetronomesModel" "typed" "I") (by decide +kernel)) (fun _ h9 => h9) rfl dX5_stops_6 ?_
  refine lv_icmp_ge (tgt := 16) hx hb dX5_stops_9 (by decide) (fun c_9 => ?_) (fun c_9 => ?_)
  · refine lv_iconst (v := (0 : Int32)) hx hb dX5_stops_16 (by decide) ?_
    refine va_put (D := (dC, dI)) (ci := 5) (v := .int (0 : Int32)) (ty := .boolean) (C := RX5) (T := TX5) (N := 14) hx hb hts inX5 tyX5 tyX5_ok nmX5 hown hK hP hD hS 0 rfl rfl 10 (by decide) (hts (.fieldLink RX5 129 "BoardMetronomesModel" "isFault" "Z") (by decide +kernel)) (fun _ h9 => h9) rfl (by decide +kernel) rfl rfl (Nat.le_of_ble_eq_true rfl) dX5_stops_17 (fun H locs hP hD hS => ?_)
    have hP : va_P (dC, dI) vwCl (MW cI cZ h0 q (upA u 10 0 (0 : Int32))) H := Eq.mp (congrArg (fun w => va_P (dC, dI) vwCl w H) MW_s10) hP
    have hD : va_D A0 (MW cI cZ h0 q (upA u 10 0 (0 : Int32))) := Eq.mp (congrArg (fun w => va_D A0 w) MW_s10) hD
    refine lv_iconst (v := (0 : Int32)) hx hb dX5_stops_20 (by decide) ?_
    have r1 : f_Mstops u = (false, upA u 10 0 (0 : Int32)) := by
      rw [f_Mstops, if_pos c_9]
    exact kw_z (x := false) hx hb hr hlk hP hS dX5_stops_21 rfl (by rw [r1]) (by rw [r1])
  · refine lv_iconst (v := (1 : Int32)) hx hb dX5_stops_12 (by decide) ?_
    refine lv_goto (tgt := 17) hx hb dX5_stops_13 (by decide) ?_
    refine va_put (D := (dC, dI)) (ci := 5) (v := .int (1 : Int32)) (ty := .boolean) (C := RX5) (T := TX5) (N := 14) hx hb hts inX5 tyX5 tyX5_ok nmX5 hown hK hP hD hS 0 rfl rfl 10 (by decide) (hts (.fieldLink RX5 129 "BoardMetronomesModel" "isFault" "Z") (by decide +kernel)) (fun _ h9 => h9) rfl (by decide +kernel) rfl rfl (Nat.le_of_ble_eq_true rfl) dX5_stops_17 (fun H locs hP hD hS => ?_)
    have hP : va_P (dC, dI) vwCl (MW cI cZ h0 q (upA u 10 0 (1 : Int32))) H := Eq.mp (congrArg (fun w => va_P (dC, dI) vwCl w H) MW_s10) hP
    have hD : va_D A0 (MW cI cZ h0 q (upA u 10 0 (1 : Int32))) := Eq.mp (congrArg (fun w => va_D A0 w) MW_s10) hD
    refine lv_iconst (v := (0 : Int32)) hx hb dX5_stops_20 (by decide) ?_
    have r2 : f_Mstops u = (false, upA u 10 0 (1 : Int32)) := by
      rw [f_Mstops, if_neg c_9]
    exact kw_z (x := false) hx hb hr hlk hP hS dX5_stops_21 rfl (by rw [r2]) (by rw [r2])

def rm_X5_isSign : Room := { frames := 2, cells := 0, slots := 0, locals := 44 }
theorem mi_X5_isSign : kM yX5_isSign wsX5_isSign cX5_isSign 2 (some .boolean) 1 := ⟨⟨_, rfl⟩, by decide, by decide, by decide +kernel⟩
def f_MisSign (u : BS) (p0 : Int32) : Bool × BS := if (f_MisAt u p0 p0) = true then (true, upA u 9 0 (nI (((u 9 0).toNatClampNeg) + 1))) else (((f_Mstops u).1), (f_Mstops u).2)
set_option maxHeartbeats 1000000 in
set_option maxRecDepth 100000 in
theorem c_X5_isSign (l : Launch) (dC : Nat → ClassId) (dI : Nat → Nat → Nat) (cI cZ cO : ClassId) (h0 : Nat) (q : Nat → Nat) (u : BS) (p0 : Int32) (sz : Nat) (ha : vp_in (u 9 0) 61) (ht : vp_in (u 7 0) 61) : Met l yX5_isSign wsX5_isSign rm_X5_isSign (va_Pc [.ref h0, .int p0] (fun U => U.heap.size = sz ∧ va_P (dC, dI) vwCl (MW cI cZ h0 q u) U.heap ∧ va_K (dC, dI) vwCl (TY cI cZ cO) U ∧ va_D (fun _ => True) (MW cI cZ h0 q u))) (kQw (some (.int (bI (f_MisSign u p0).1))) (dC, dI) vwCl (MW cI cZ h0 q ((f_MisSign u p0).2)) (va_A (MW cI cZ h0 q u) sz)) 0 0 (va_A (MW cI cZ h0 q u) sz) := by
  refine kofW (cc := cX5_isSign) (maxL := 2) (ret := some .boolean) (by decide) rfl (Nat.le_of_ble_eq_true rfl) ?_
  intro p e s m args below meth c ls S hr hlk hnm hsz hP hK hD hS hA hl
  generalize hA0 : va_A (MW cI cZ h0 q u) sz = A0 at hD hS hA ⊢
  subst hsz
  obtain ⟨hx, hb, hml, hown, hts⟩ := id S
  have ha_n : (u 9 0).toNatClampNeg < 61 := vp_lt ha
  have ht_n : (u 7 0).toNatClampNeg < 61 := vp_lt ht
  have inX5 : ∀ w ∈ wsX50, w ∈ wsX5_isSign := fun w h => List.mem_cons_of_mem _ (List.mem_append_right _ h)
  have hl : lv_has ls 2 [(0, .ref h0), (1, .int p0)] := hl
  refine lv_aload_n hx hb dX5_isSign_0 rfl (lv_at hl 0 rfl) ?_
  refine lv_iload_n hx hb dX5_isSign_1 rfl (lv_at hl 1 rfl) ?_
  refine lv_iload_n hx hb dX5_isSign_2 rfl (lv_at hl 1 rfl) ?_
  refine kc_v (As := [.int p0, .int p0]) (rest := []) S (v := .int (bI (f_MisAt u p0 p0))) (c_X5_isAt l dC dI cI cZ cO h0 q u p0 p0 ha ht) gX5_isSign_X5_isAt mi_X5_isAt ⟨rfl, rfl⟩ ⟨Nat.le_of_ble_eq_true rfl, Nat.le_of_ble_eq_true rfl⟩ hK hP 0 rfl rfl ⟨Nat.le_refl _, Nat.le_refl _⟩ dX5_isSign_3 rfl hl.1 rfl (Nat.le_of_ble_eq_true rfl) ?_
  refine kb_ne (tgt := 14) hx hb dX5_isSign_6 (by decide) (fun c_6 => ?_) (fun c_6 => ?_)
  · have c_6n : (u 9 0).toNatClampNeg < (u 7 0).toNatClampNeg := by have z := f_MisAt_lt ha ht c_6; exact z
    refine lv_aload_n hx hb dX5_isSign_14 rfl (lv_at hl 0 rfl) ?_
    refine lv_dup hx hb dX5_isSign_15 rfl ?_
    refine va_get (D := (dC, dI)) (ci := 5) (v := .int (u 9 0)) (C := RX5) (T := TX5) (N := 14) hx hb hts inX5 hown hK hP 0 rfl rfl 9 (by decide) (hts (.fieldLink RX5 126 "BoardMetronomesModel" "at" "I") (by decide +kernel)) (fun _ h9 => h9) rfl dX5_isSign_16 ?_
    refine kt_i (kcl ha).symm ?_
    refine lv_iconst (v := (1 : Int32)) hx hb dX5_isSign_19 (by decide) ?_
    refine k_iaddn (x := (u 9 0).toNatClampNeg) (y := 1) hx hb dX5_isSign_20 ?_
    refine va_put (D := (dC, dI)) (ci := 5) (v := .int (nI (((u 9 0).toNatClampNeg) + 1))) (ty := .int) (C := RX5) (T := TX5) (N := 14) hx hb hts inX5 tyX5 tyX5_ok nmX5 hown hK hP hD hS 0 rfl rfl 9 (by decide) (hts (.fieldLink RX5 126 "BoardMetronomesModel" "at" "I") (by decide +kernel)) (fun _ h9 => h9) rfl (by decide +kernel) rfl rfl (Nat.le_of_ble_eq_true rfl) dX5_isSign_21 (fun H locs hP hD hS => ?_)
    have hP : va_P (dC, dI) vwCl (MW cI cZ h0 q (upA u 9 0 (nI (((u 9 0).toNatClampNeg) + 1)))) H := Eq.mp (congrArg (fun w => va_P (dC, dI) vwCl w H) MW_s9) hP
    have hD : va_D A0 (MW cI cZ h0 q (upA u 9 0 (nI (((u 9 0).toNatClampNeg) + 1)))) := Eq.mp (congrArg (fun w => va_D A0 w) MW_s9) hD
    refine lv_iconst (v := (1 : Int32)) hx hb dX5_isSign_24 (by decide) ?_
    have r1 : f_MisSign u p0 = (true, upA u 9 0 (nI (((u 9 0).toNatClampNeg) + 1))) := by
      rw [f_MisSign, if_pos c_6]
    exact kw_z (x := true) hx hb hr hlk hP hS dX5_isSign_25 rfl (by rw [r1]) (by rw [r1])
  · refine lv_aload_n hx hb dX5_isSign_9 rfl (lv_at hl 0 rfl) ?_
    refine kc_w (As := []) (rest := []) S (v := (some (.int (bI ((f_Mstops u).1))))) (c_X5_stops l dC dI cI cZ cO h0 q u s.heap.size) gX5_isSign_X5_stops mi_X5_stops ⟨rfl, rfl⟩ ⟨Nat.le_of_ble_eq_true rfl, Nat.le_of_ble_eq_true rfl⟩ hK hP hD hS hA [0, 1, 2, 3, 4, 5, 6, 7] MW_all MW_fst rfl 0 rfl rfl ⟨Nat.le_refl _, Nat.le_refl _⟩ dX5_isSign_10 rfl hl.1 rfl (Nat.le_of_ble_eq_true rfl) (fun H locs hP hD hS => ?_)
    have hP : va_P (dC, dI) vwCl (MW cI cZ h0 q ((f_Mstops u).2)) H := Eq.mp (congrArg (fun w => va_P (dC, dI) vwCl w H) MW_ks) hP
    have hD : va_D A0 (MW cI cZ h0 q ((f_Mstops u).2)) := Eq.mp (congrArg (fun w => va_D A0 w) MW_ks) hD
    have r2 : f_MisSign u p0 = (((f_Mstops u).1), (f_Mstops u).2) := by
      rw [f_MisSign, if_neg c_6]
    exact kw_z (x := ((f_Mstops u).1)) hx hb hr hlk hP hS dX5_isSign_13 rfl (by rw [r2]) (by rw [r2])

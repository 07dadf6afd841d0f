def rm_X5_ofArm : Room := { frames := 3, cells := 0, slots := 0, locals := 64 }
theorem mi_X5_ofArm : kM yX5_ofArm wsX5_ofArm cX5_ofArm 3 (some .int) 2 := ⟨⟨_, rfl⟩, by decide, by decide, by decide +kernel⟩
def f_MofArm (u : BS) (k0 : Nat) (p1 : Int32) : Int32 := if p1 = (4 : Int32) then (if (f_Mgoes (u 0) k0) = true then (1 : Int32) else (0 : Int32)) else if p1 = (5 : Int32) then (f_Mof (u 0) k0 4) else if p1 = (6 : Int32) then ((f_Mswing (f_Mof (u 0) k0 1)) + (1000 : Int32)) else if p1 = (7 : Int32) then ((f_Mturn (f_Mof (u 0) k0 1)) + (1000 : Int32)) else if p1 = (8 : Int32) then ((f_Mpull (u 0) k0) + (1000 : Int32)) else f_Mof (u 0) k0 p1.toNatClampNeg
set_option maxHeartbeats 1000000 in
set_option maxRecDepth 100000 in
theorem c_X5_ofArm (l : Launch) (dC : Nat → ClassId) (dI : Nat → Nat → Nat) (cI cZ cO : ClassId) (h0 : Nat) (q : Nat → Nat) (u : BS) (k0 : Nat) (p1 : Int32) (hk0 : k0 < 6) (hw : vp_in p1 9) : Met l yX5_ofArm wsX5_ofArm rm_X5_ofArm (va_Pc [.ref h0, .int (nI k0), .int p1] (fun U => va_P (dC, dI) vwCl (MW cI cZ h0 q u) U.heap ∧ va_K (dC, dI) vwCl (TY cI cZ cO) U)) (kQ (some (.int (f_MofArm u k0 p1)))) 0 0 (fun _ => False) := by
  refine kofR (cc := cX5_ofArm) (maxL := 3) (ret := some .int) (by decide) rfl (Nat.le_of_ble_eq_true rfl) ?_
  intro p e s m args below meth c ls S hr hlk hP hK hl
  obtain ⟨hx, hb, hml, hown, hts⟩ := id S
  have inX5 : ∀ w ∈ wsX50, w ∈ wsX5_ofArm := fun w h => List.mem_cons_of_mem _ (List.mem_append_right _ h)
  have hl : lv_has ls 3 [(0, .ref h0), (1, .int (nI k0)), (2, .int p1)] := hl
  refine lv_iload_n hx hb dX5_ofArm_0 rfl (lv_at hl 2 rfl) ?_
  by_cases c_1_4 : p1 = (4 : Int32)
  · refine lv_tableIn (off := 35) (tgt := 36) hx hb dX5_ofArm_1 (by rw [c_1_4]; decide) (by rw [c_1_4]; decide) (by rw [c_1_4]; rfl) (by decide) ?_
    refine lv_aload_n hx hb dX5_ofArm_36 rfl (lv_at hl 0 rfl) ?_
    refine va_get (D := (dC, dI)) (ci := 5) (v := .ref (q 0)) (C := RX5) (T := TX5) (N := 14) hx hb hts inX5 hown hK hP 0 rfl rfl 0 (by decide) (hts (.fieldLink RX5 7 "BoardMetronomesModel" "now" "[I") (by decide +kernel)) (fun _ h9 => h9) rfl dX5_ofArm_37 ?_
    refine lv_iload_n hx hb dX5_ofArm_40 rfl (lv_at hl 1 rfl) ?_
    refine kc_s (y := yX5_goes) (As := [.ref (q 0), .int (nI k0)]) (rest := []) rfl S (v := .int (bI (f_Mgoes (u 0) k0))) (c_X5_goes l dC dI cI cZ cO (q 0) (u 0) k0 (by omega)) gX5_ofArm_X5_goes mi_X5_goes ⟨rfl, rfl⟩ ⟨Nat.le_of_ble_eq_true rfl, Nat.le_of_ble_eq_true rfl⟩ hK (MW_p0 hP rfl) ⟨Nat.le_refl _, Nat.le_refl _⟩ dX5_ofArm_41 rfl hl.1 rfl (Nat.le_of_ble_eq_true rfl) ?_
    refine kb_eq (tgt := 51) hx hb dX5_ofArm_44 (by decide) (fun c_44 => ?_) (fun c_44 => ?_)
    · refine lv_iconst (v := (0 : Int32)) hx hb dX5_ofArm_51 (by decide) ?_
      have r1 : f_MofArm u k0 p1 = (0 : Int32) := by
        rw [f_MofArm, if_pos c_1_4, if_neg c_44]
      exact kr_i hx hb hr hlk dX5_ofArm_52 r1.symm
    · refine lv_iconst (v := (1 : Int32)) hx hb dX5_ofArm_47 (by decide) ?_
      refine lv_goto (tgt := 52) hx hb dX5_ofArm_48 (by decide) ?_
      have r2 : f_MofArm u k0 p1 = (1 : Int32) := by
        rw [f_MofArm, if_pos c_1_4, if_pos c_44]
      exact kr_i hx hb hr hlk dX5_ofArm_52 r2.symm
  by_cases c_1_5 : p1 = (5 : Int32)
  · refine lv_tableIn (off := 52) (tgt := 53) hx hb dX5_ofArm_1 (by rw [c_1_5]; decide) (by rw [c_1_5]; decide) (by rw [c_1_5]; rfl) (by decide) ?_
    refine lv_aload_n hx hb dX5_ofArm_53 rfl (lv_at hl 0 rfl) ?_
    refine va_get (D := (dC, dI)) (ci := 5) (v := .ref (q 0)) (C := RX5) (T := TX5) (N := 14) hx hb hts inX5 hown hK hP 0 rfl rfl 0 (by decide) (hts (.fieldLink RX5 7 "BoardMetronomesModel" "now" "[I") (by decide +kernel)) (fun _ h9 => h9) rfl dX5_ofArm_54 ?_
    refine lv_iload_n hx hb dX5_ofArm_57 rfl (lv_at hl 1 rfl) ?_
    refine lv_iconst (v := (4 : Int32)) hx hb dX5_ofArm_58 (by decide) ?_
    refine kc_s (y := yX5_of) (As := [.ref (q 0), .int (nI k0), .int (nI 4)]) (rest := []) rfl S (v := .int (f_Mof (u 0) k0 4)) (c_X5_of l dC dI cI cZ cO (q 0) (u 0) k0 4 (by omega) (by omega)) gX5_ofArm_X5_of mi_X5_of ⟨rfl, rfl⟩ ⟨Nat.le_of_ble_eq_true rfl, Nat.le_of_ble_eq_true rfl⟩ hK (MW_p0 hP rfl) ⟨Nat.le_refl _, Nat.le_refl _⟩ dX5_ofArm_59 rfl hl.1 rfl (Nat.le_of_ble_eq_true rfl) ?_
    have r3 : f_MofArm u k0 p1 = f_Mof (u 0) k0 4 := by
      rw [f_MofArm, if_neg c_1_4, if_pos c_1_5]
    exact kr_i hx hb hr hlk dX5_ofArm_62 r3.symm
  by_cases c_1_6 : p1 = (6 : Int32)
  · refine lv_tableIn (off := 62) (tgt := 63) hx hb dX5_ofArm_1 (by rw [c_1_6]; decide) (by rw [c_1_6]; decide) (by rw [c_1_6]; rfl) (by decide) ?_
    refine lv_aload_n hx hb dX5_ofArm_63 rfl (lv_at hl 0 rfl) ?_
    refine va_get (D := (dC, dI)) (ci := 5) (v := .ref (q 0)) (C := RX5) (T := TX5) (N := 14) hx hb hts inX5 hown hK hP 0 rfl rfl 0 (by decide) (hts (.fieldLink RX5 7 "BoardMetronomesModel" "now" "[I") (by decide +kernel)) (fun _ h9 => h9) rfl dX5_ofArm_64 ?_
    refine lv_iload_n hx hb dX5_ofArm_67 rfl (lv_at hl 1 rfl) ?_
    refine lv_iconst (v := (1 : Int32)) hx hb dX5_ofArm_68 (by decide) ?_
    refine kc_s (y := yX5_of) (As := [.ref (q 0), .int (nI k0), .int (nI 1)]) (rest := []) rfl S (v := .int (f_Mof (u 0) k0 1)) (c_X5_of l dC dI cI cZ cO (q 0) (u 0) k0 1 (by omega) (by omega)) gX5_ofArm_X5_of mi_X5_of ⟨rfl, rfl⟩ ⟨Nat.le_of_ble_eq_true rfl, Nat.le_of_ble_eq_true rfl⟩ hK (MW_p0 hP rfl) ⟨Nat.le_refl _, Nat.le_refl _⟩ dX5_ofArm_69 rfl hl.1 rfl (Nat.le_of_ble_eq_true rfl) ?_
    refine kc_p (y := yX5_swing) (As := [.int (f_Mof (u 0) k0 1)]) (rest := []) rfl S (v := .int (f_Mswing (f_Mof (u 0) k0 1))) (c_X5_swing l (f_Mof (u 0) k0 1)) gX5_ofArm_X5_swing mi_X5_swing ⟨rfl, rfl⟩ ⟨Nat.le_of_ble_eq_true rfl, Nat.le_of_ble_eq_true rfl⟩ ⟨Nat.le_refl _, Nat.le_refl _⟩ dX5_ofArm_72 rfl hl.1 rfl (Nat.le_of_ble_eq_true rfl) ?_
    refine lv_sipush (v := (1000 : Int32)) hx hb dX5_ofArm_75 (by decide) ?_
    refine lv_iadd hx hb dX5_ofArm_78 ?_
    have r4 : f_MofArm u k0 p1 = (f_Mswing (f_Mof (u 0) k0 1)) + (1000 : Int32) := by
      rw [f_MofArm, if_neg c_1_4, if_neg c_1_5, if_pos c_1_6]
    exact kr_i hx hb hr hlk dX5_ofArm_79 r4.symm
  by_cases c_1_7 : p1 = (7 : Int32)
  · refine lv_tableIn (off := 79) (tgt := 80) hx hb dX5_ofArm_1 (by rw [c_1_7]; decide) (by rw [c_1_7]; decide) (by rw [c_1_7]; rfl) (by decide) ?_
    refine lv_aload_n hx hb dX5_ofArm_80 rfl (lv_at hl 0 rfl) ?_
    refine va_get (D := (dC, dI)) (ci := 5) (v := .ref (q 0)) (C := RX5) (T := TX5) (N := 14) hx hb hts inX5 hown hK hP 0 rfl rfl 0 (by decide) (hts (.fieldLink RX5 7 "BoardMetronomesModel" "now" "[I") (by decide +kernel)) (fun _ h9 => h9) rfl dX5_ofArm_81 ?_
    refine lv_iload_n hx hb dX5_ofArm_84 rfl (lv_at hl 1 rfl) ?_
    refine lv_iconst (v := (1 : Int32)) hx hb dX5_ofArm_85 (by decide) ?_
    refine kc_s (y := yX5_of) (As := [.ref (q 0), .int (nI k0), .int (nI 1)]) (rest := []) rfl S (v := .int (f_Mof (u 0) k0 1)) (c_X5_of l dC dI cI cZ cO (q 0) (u 0) k0 1 (by omega) (by omega)) gX5_ofArm_X5_of mi_X5_of ⟨rfl, rfl⟩ ⟨Nat.le_of_ble_eq_true rfl, Nat.le_of_ble_eq_true rfl⟩ hK (MW_p0 hP rfl) ⟨Nat.le_refl _, Nat.le_refl _⟩ dX5_ofArm_86 rfl hl.1 rfl (Nat.le_of_ble_eq_true rfl) ?_
    refine kc_p (y := yX5_turn) (As := [.int (f_Mof (u 0) k0 1)]) (rest := []) rfl S (v := .int (f_Mturn (f_Mof (u 0) k0 1))) (c_X5_turn l (f_Mof (u 0) k0 1)) gX5_ofArm_X5_turn mi_X5_turn ⟨rfl, rfl⟩ ⟨Nat.le_of_ble_eq_true rfl, Nat.le_of_ble_eq_true rfl⟩ ⟨Nat.le_refl _, Nat.le_refl _⟩ dX5_ofArm_89 rfl hl.1 rfl (Nat.le_of_ble_eq_true rfl) ?_
    refine lv_sipush (v := (1000 : Int32)) hx hb dX5_ofArm_92 (by decide) ?_
    refine lv_iadd hx hb dX5_ofArm_95 ?_
    have r5 : f_MofArm u k0 p1 = (f_Mturn (f_Mof (u 0) k0 1)) + (1000 : Int32) := by
      rw [f_MofArm, if_neg c_1_4, if_neg c_1_5, if_neg c_1_6, if_pos c_1_7]
    exact kr_i hx hb hr hlk dX5_ofArm_96 r5.symm
  by_cases c_1_8 : p1 = (8 : Int32)
  · refine lv_tableIn (off := 96) (tgt := 97) hx hb dX5_ofArm_1 (by rw [c_1_8]; decide) (by rw [c_1_8]; decide) (by rw [c_1_8]; rfl) (by decide) ?_
    refine lv_aload_n hx hb dX5_ofArm_97 rfl (lv_at hl 0 rfl) ?_
    refine va_get (D := (dC, dI)) (ci := 5) (v := .ref (q 0)) (C := RX5) (T := TX5) (N := 14) hx hb hts inX5 hown hK hP 0 rfl rfl 0 (by decide) (hts (.fieldLink RX5 7 "BoardMetronomesModel" "now" "[I") (by decide +kernel)) (fun _ h9 => h9) rfl dX5_ofArm_98 ?_
    refine lv_iload_n hx hb dX5_ofArm_101 rfl (lv_at hl 1 rfl) ?_
    refine kc_s (y := yX5_pull) (As := [.ref (q 0), .int (nI k0)]) (rest := []) rfl S (v := .int (f_Mpull (u 0) k0)) (c_X5_pull l dC dI cI cZ cO (q 0) (u 0) k0 (by omega)) gX5_ofArm_X5_pull mi_X5_pull ⟨rfl, rfl⟩ ⟨Nat.le_of_ble_eq_true rfl, Nat.le_of_ble_eq_true rfl⟩ hK (MW_p0 hP rfl) ⟨Nat.le_refl _, Nat.le_refl _⟩ dX5_ofArm_102 rfl hl.1 rfl (Nat.le_of_ble_eq_true rfl) ?_
    refine lv_sipush (v := (1000 : Int32)) hx hb dX5_ofArm_105 (by decide) ?_
    refine lv_iadd hx hb dX5_ofArm_108 ?_
    have r6 : f_MofArm u k0 p1 = (f_Mpull (u 0) k0) + (1000 : Int32) := by
      rw [f_MofArm, if_neg c_1_4, if_neg c_1_5, if_neg c_1_6, if_neg c_1_7, if_pos c_1_8]
    exact kr_i hx hb hr hlk dX5_ofArm_109 r6.symm
  refine lv_tableOut (tgt := 110) hx hb dX5_ofArm_1 (by have e_0 := lv_neT c_1_4 (a := 4) (by decide); have e_1 := lv_neT c_1_5 (a := 5) (by decide); have e_2 := lv_neT c_1_6 (a := 6) (by decide); have e_3 := lv_neT c_1_7 (a := 7) (by decide); have e_4 := lv_neT c_1_8 (a := 8) (by decide); omega) (by decide) ?_
  refine lv_aload_n hx hb dX5_ofArm_110 rfl (lv_at hl 0 rfl) ?_
  refine va_get (D := (dC, dI)) (ci := 5) (v := .ref (q 0)) (C := RX5) (T := TX5) (N := 14) hx hb hts inX5 hown hK hP 0 rfl rfl 0 (by decide) (hts (.fieldLink RX5 7 "BoardMetronomesModel" "now" "[I") (by decide +kernel)) (fun _ h9 => h9) rfl dX5_ofArm_111 ?_
  refine lv_iload_n hx hb dX5_ofArm_114 rfl (lv_at hl 1 rfl) ?_
  refine lv_iload_n hx hb dX5_ofArm_115 rfl (lv_at hl 2 rfl) ?_
  refine kc_s (y := yX5_of) (As := [.ref (q 0), .int (nI k0), .int (nI p1.toNatClampNeg)]) (rest := []) rfl S (v := .int (f_Mof (u 0) k0 p1.toNatClampNeg)) (c_X5_of l dC dI cI cZ cO (q 0) (u 0) k0 p1.toNatClampNeg (by omega) (vp_lt (vp_ne5 hw c_1_4 c_1_5 c_1_6 c_1_7 c_1_8))) gX5_ofArm_X5_of mi_X5_of ⟨rfl, rfl⟩ ⟨Nat.le_of_ble_eq_true rfl, Nat.le_of_ble_eq_true rfl⟩ hK (MW_p0 hP rfl) ⟨Nat.le_refl _, Nat.le_refl _⟩ dX5_ofArm_116 rfl hl.1 (by rw [kcl (vp_ne5 hw c_1_4 c_1_5 c_1_6 c_1_7 c_1_8)]; rfl) (Nat.le_of_ble_eq_true rfl) ?_
  have r7 : f_MofArm u k0 p1 = f_Mof (u 0) k0 p1.toNatClampNeg := by
    rw [f_MofArm, if_neg c_1_4, if_neg c_1_5, if_neg c_1_6, if_neg c_1_7, if_neg c_1_8]
  exact kr_i hx hb hr hlk dX5_ofArm_119 r7.symm

def rm_X5_arm : Room := { frames := 4, cells := 0, slots := 0, locals := 86 }
theorem mi_X5_arm : kM yX5_arm wsX5_arm cX5_arm 3 (some .int) 2 := ⟨⟨_, rfl⟩, by decide, by decide, by decide +kernel⟩
def f_Marm (u : BS) (p0 : Int32) (p1 : Int32) : Int32 × BS := if (f_MisArm (upA u 8 0 (0 : Int32)) p0) = true then (if (f_Min p1 (0 : Int32) (8 : Int32)) = true then (f_MofArm (upA u 8 0 (0 : Int32)) p0.toNatClampNeg p1, upA u 8 0 (0 : Int32)) else ((f_Mfails (upA u 8 0 (0 : Int32)) (2 : Int32)).1, (f_Mfails (upA u 8 0 (0 : Int32)) (2 : Int32)).2)) else ((f_Mfails (upA u 8 0 (0 : Int32)) (1 : Int32)).1, (f_Mfails (upA u 8 0 (0 : Int32)) (1 : Int32)).2)
set_option maxHeartbeats 1000000 in
set_option maxRecDepth 100000 in
theorem c_X5_arm (l : Launch) (dC : Nat → ClassId) (dI : Nat → Nat → Nat) (cI cZ cO : ClassId) (h0 : Nat) (q : Nat → Nat) (u : BS) (p0 : Int32) (p1 : Int32) (sz : Nat) (hs : vp_in (u 0 3) 7) : Met l yX5_arm wsX5_arm rm_X5_arm (va_Pc [.ref h0, .int p0, .int p1] (fun U => U.heap.size = sz ∧ va_P (dC, dI) vwCl (MW cI cZ h0 q u) U.heap ∧ va_K (dC, dI) vwCl (TY cI cZ cO) U ∧ va_D (fun _ => True) (MW cI cZ h0 q u))) (kQw (some (.int (f_Marm u p0 p1).1)) (dC, dI) vwCl (MW cI cZ h0 q ((f_Marm u p0 p1).2)) (va_A (MW cI cZ h0 q u) sz)) 0 0 (va_A (MW cI cZ h0 q u) sz) := by
  refine kofW (cc := cX5_arm) (maxL := 3) (ret := some .int) (by decide) rfl (Nat.le_of_ble_eq_true rfl) ?_
  intro p e s m args below meth c ls S hr hlk hnm hsz hP hK hD hS hA hl
  generalize hA0 : va_A (MW cI cZ h0 q u) sz = A0 at hD hS hA ⊢
  subst hsz
  obtain ⟨hx, hb, hml, hown, hts⟩ := id S
  have hs_n : (u 0 3).toNatClampNeg < 7 := vp_lt hs
  have inX5 : ∀ w ∈ wsX50, w ∈ wsX5_arm := fun w h => List.mem_cons_of_mem _ (List.mem_append_right _ h)
  have hl : lv_has ls 3 [(0, .ref h0), (1, .int p0), (2, .int p1)] := hl
  refine lv_aload_n hx hb dX5_arm_0 rfl (lv_at hl 0 rfl) ?_
  refine lv_iconst (v := (0 : Int32)) hx hb dX5_arm_1 (by decide) ?_
  refine va_put (D := (dC, dI)) (ci := 5) (v := .int (0 : Int32)) (ty := .int) (C := RX5) (T := TX5) (N := 14) hx hb hts inX5 tyX5 tyX5_ok nmX5 hown hK hP hD hS 0 rfl rfl 8 (by decide) (hts (.fieldLink RX5 32 "BoardMetronomesModel" "thrown" "I") (by decide +kernel)) (fun _ h9 => h9) rfl (by decide +kernel) rfl rfl (Nat.le_of_ble_eq_true rfl) dX5_arm_2 (fun H locs hP hD hS => ?_)
  have hP : va_P (dC, dI) vwCl (MW cI cZ h0 q (upA u 8 0 (0 : Int32))) H := Eq.mp (congrArg (fun w => va_P (dC, dI) vwCl w H) MW_s8) hP
  have hD : va_D A0 (MW cI cZ h0 q (upA u 8 0 (0 : Int32))) := Eq.mp (congrArg (fun w => va_D A0 w) MW_s8) hD
  refine lv_aload_n hx hb dX5_arm_5 rfl (lv_at hl 0 rfl) ?_
  refine lv_iload_n hx hb dX5_arm_6 rfl (lv_at hl 1 rfl) ?_
  refine kc_v (As := [.int p0]) (rest := []) S (v := .int (bI (f_MisArm (upA u 8 0 (0 : Int32)) p0))) (c_X5_isArm l dC dI cI cZ cO h0 q (upA u 8 0 (0 : Int32)) p0) gX5_arm_X5_isArm mi_X5_isArm ⟨rfl, rfl⟩ ⟨Nat.le_of_ble_eq_true rfl, Nat.le_of_ble_eq_true rfl⟩ hK hP 0 rfl rfl ⟨Nat.le_refl _, Nat.le_refl _⟩ dX5_arm_7 rfl hl.1 rfl (Nat.le_of_ble_eq_true rfl) ?_
  refine kb_ne (tgt := 19) hx hb dX5_arm_10 (by decide) (fun c_10 => ?_) (fun c_10 => ?_)
  · refine lv_iload_n hx hb dX5_arm_19 rfl (lv_at hl 2 rfl) ?_
    refine lv_iconst (v := (0 : Int32)) hx hb dX5_arm_20 (by decide) ?_
    refine lv_bipush (v := (8 : Int32)) hx hb dX5_arm_21 (by decide) ?_
    refine kc_p (y := yX5_in) (As := [.int p1, .int (0 : Int32), .int (8 : Int32)]) (rest := []) rfl S (v := .int (bI (f_Min p1 (0 : Int32) (8 : Int32)))) (c_X5_in l p1 (0 : Int32) (8 : Int32)) gX5_arm_X5_in mi_X5_in ⟨rfl, rfl⟩ ⟨Nat.le_of_ble_eq_true rfl, Nat.le_of_ble_eq_true rfl⟩ ⟨Nat.le_refl _, Nat.le_refl _⟩ dX5_arm_23 rfl hl.1 rfl (Nat.le_of_ble_eq_true rfl) ?_
    refine kb_eq (tgt := 38) hx hb dX5_arm_26 (by decide) (fun c_26 => ?_) (fun c_26 => ?_)
    · refine lv_aload_n hx hb dX5_arm_38 rfl (lv_at hl 0 rfl) ?_
      refine lv_iconst (v := (2 : Int32)) hx hb dX5_arm_39 (by decide) ?_
      refine kc_w (As := [.int (2 : Int32)]) (rest := []) S (v := (some (.int ((f_Mfails (upA u 8 0 (0 : Int32)) (2 : Int32)).1)))) (c_X5_fails l dC dI cI cZ cO h0 q (upA u 8 0 (0 : Int32)) (2 : Int32) H.size) gX5_arm_X5_fails mi_X5_fails ⟨rfl, rfl⟩ ⟨Nat.le_of_ble_eq_true rfl, Nat.le_of_ble_eq_true rfl⟩ hK hP hD hS hA [0, 1, 2, 3, 4, 5, 6, 7] MW_all MW_fst rfl 0 rfl rfl ⟨Nat.le_refl _, Nat.le_refl _⟩ dX5_arm_40 rfl hl.1 rfl (Nat.le_of_ble_eq_true rfl) (fun H locs hP hD hS => ?_)
      have hP : va_P (dC, dI) vwCl (MW cI cZ h0 q ((f_Mfails (upA u 8 0 (0 : Int32)) (2 : Int32)).2)) H := Eq.mp (congrArg (fun w => va_P (dC, dI) vwCl w H) MW_ks) hP
      have hD : va_D A0 (MW cI cZ h0 q ((f_Mfails (upA u 8 0 (0 : Int32)) (2 : Int32)).2)) := Eq.mp (congrArg (fun w => va_D A0 w) MW_ks) hD
      have r1 : f_Marm u p0 p1 = ((f_Mfails (upA u 8 0 (0 : Int32)) (2 : Int32)).1, (f_Mfails (upA u 8 0 (0 : Int32)) (2 : Int32)).2) := by
        rw [f_Marm, if_pos c_10, if_neg c_26]
      exact kw_i hx hb hr hlk hP hS dX5_arm_43 (by rw [r1]) (by rw [r1])
    · refine lv_aload_n hx hb dX5_arm_29 rfl (lv_at hl 0 rfl) ?_
      refine lv_iload_n hx hb dX5_arm_30 rfl (lv_at hl 1 rfl) ?_
      refine lv_iload_n hx hb dX5_arm_31 rfl (lv_at hl 2 rfl) ?_
      refine kc_v (As := [.int (nI p0.toNatClampNeg), .int p1]) (rest := []) S (v := .int (f_MofArm (upA u 8 0 (0 : Int32)) p0.toNatClampNeg p1)) (c_X5_ofArm l dC dI cI cZ cO h0 q (upA u 8 0 (0 : Int32)) p0.toNatClampNeg p1 (vp_lt (f_MisArm_vp (by rw [upA_o (show (0 : Nat) ≠ 8 by decide)]; exact hs) c_10)) (f_Min_vp (n := 8) (by decide) c_26)) gX5_arm_X5_ofArm mi_X5_ofArm ⟨rfl, rfl⟩ ⟨Nat.le_of_ble_eq_true rfl, Nat.le_of_ble_eq_true rfl⟩ hK hP 0 rfl rfl ⟨Nat.le_refl _, Nat.le_refl _⟩ dX5_arm_32 rfl hl.1 (by rw [kcl (f_MisArm_vp (by rw [upA_o (show (0 : Nat) ≠ 8 by decide)]; exact hs) c_10)]; rfl) (Nat.le_of_ble_eq_true rfl) ?_
      refine lv_goto (tgt := 43) hx hb dX5_arm_35 (by decide) ?_
      have r2 : f_Marm u p0 p1 = (f_MofArm (upA u 8 0 (0 : Int32)) p0.toNatClampNeg p1, upA u 8 0 (0 : Int32)) := by
        rw [f_Marm, if_pos c_10, if_pos c_26]
      exact kw_i hx hb hr hlk hP hS dX5_arm_43 (by rw [r2]) (by rw [r2])
  · refine lv_aload_n hx hb dX5_arm_13 rfl (lv_at hl 0 rfl) ?_
    refine lv_iconst (v := (1 : Int32)) hx hb dX5_arm_14 (by decide) ?_
    refine kc_w (As := [.int (1 : Int32)]) (rest := []) S (v := (some (.int ((f_Mfails (upA u 8 0 (0 : Int32)) (1 : Int32)).1)))) (c_X5_fails l dC dI cI cZ cO h0 q (upA u 8 0 (0 : Int32)) (1 : Int32) H.size) gX5_arm_X5_fails mi_X5_fails ⟨rfl, rfl⟩ ⟨Nat.le_of_ble_eq_true rfl, Nat.le_of_ble_eq_true rfl⟩ hK hP hD hS hA [0, 1, 2, 3, 4, 5, 6, 7] MW_all MW_fst rfl 0 rfl rfl ⟨Nat.le_refl _, Nat.le_refl _⟩ dX5_arm_15 rfl hl.1 rfl (Nat.le_of_ble_eq_true rfl) (fun H locs hP hD hS => ?_)
    have hP : va_P (dC, dI) vwCl (MW cI cZ h0 q ((f_Mfails (upA u 8 0 (0 : Int32)) (1 : Int32)).2)) H := Eq.mp (congrArg (fun w => va_P (dC, dI) vwCl w H) MW_ks) hP
    have hD : va_D A0 (MW cI cZ h0 q ((f_Mfails (upA u 8 0 (0 : Int32)) (1 : Int32)).2)) := Eq.mp (congrArg (fun w => va_D A0 w) MW_ks) hD
    have r3 : f_Marm u p0 p1 = ((f_Mfails (upA u 8 0 (0 : Int32)) (1 : Int32)).1, (f_Mfails (upA u 8 0 (0 : Int32)) (1 : Int32)).2) := by
      rw [f_Marm, if_neg c_10]
    exact kw_i hx hb hr hlk hP hS dX5_arm_18 (by rw [r3]) (by rw [r3])

def rm_X5_apart : Room := { frames := 2, cells := 0, slots := 0, locals := 45 }
theorem mi_X5_apart : kM yX5_apart wsX5_apart cX5_apart 3 (some .int) 2 := ⟨⟨_, rfl⟩, by decide, by decide, by decide +kernel⟩
def f_Mapart (u : BS) (p0 : Int32) (p1 : Int32) : Int32 × BS := if (f_MisArm (upA u 8 0 (0 : Int32)) p0) = true then (if (f_MisArm (upA u 8 0 (0 : Int32)) p1) = true then (if p0 = p1 then ((f_Mfails (upA u 8 0 (0 : Int32)) (2 : Int32)).1, (f_Mfails (upA u 8 0 (0 : Int32)) (2 : Int32)).2) else (f_MapartBy (u 0) p0.toNatClampNeg p1.toNatClampNeg, upA u 8 0 (0 : Int32))) else ((f_Mfails (upA u 8 0 (0 : Int32)) (1 : Int32)).1, (f_Mfails (upA u 8 0 (0 : Int32)) (1 : Int32)).2)) else ((f_Mfails (upA u 8 0 (0 : Int32)) (1 : Int32)).1, (f_Mfails (upA u 8 0 (0 : Int32)) (1 : Int32)).2)
set_option maxHeartbeats 1000000 in
set_option maxRecDepth 100000 in
theorem c_X5_apart (l : Launch) (dC : Nat → ClassId) (dI : Nat → Nat → Nat) (cI cZ cO : ClassId) (h0 : Nat) (q : Nat → Nat) (u : BS) (p0 : Int32) (p1 : Int32) (sz : Nat) (hs : vp_in (u 0 3) 7) : Met l yX5_apart wsX5_apart rm_X5_apart (va_Pc [.ref h0, .int p0, .int p1] (fun U => U.heap.size = sz ∧ va_P (dC, dI) vwCl (MW cI cZ h0 q u) U.heap ∧ va_K (dC, dI) vwCl (TY cI cZ cO) U ∧ va_D (fun _ => True) (MW cI cZ h0 q u))) (kQw (some (.int (f_Mapart u p0 p1).1)) (dC, dI) vwCl (MW cI cZ h0 q ((f_Mapart u p0 p1).2)) (va_A (MW cI cZ h0 q u) sz)) 0 0 (va_A (MW cI cZ h0 q u) sz) := by
  refine kofW (cc := cX5_apart) (maxL := 3) (ret := some .int) (by decide) rfl (Nat.le_of_ble_eq_true rfl) ?_
  intro p e s m args below meth c ls S hr hlk hnm hsz hP hK hD hS hA hl
  generalize hA0 : va_A (MW cI cZ h0 q u) sz = A0 at hD hS hA ⊢
  subst hsz
  obtain ⟨hx, hb, hml, hown, hts⟩ := id S
  have hs_n : (u 0 3).toNatClampNeg < 7 := vp_lt hs
  have inX5 : ∀ w ∈ wsX50, w ∈ wsX5_apart := fun w h => List.mem_cons_of_mem _ (List.mem_append_right _ h)
  have hl : lv_has ls 3 [(0, .ref h0), (1, .int p0), (2, .int p1)] := hl
  refine lv_aload_n hx hb dX5_apart_0 rfl (lv_at hl 0 rfl) ?_
  refine lv_iconst (v := (0 : Int32)) hx hb dX5_apart_1 (by decide) ?_
  refine va_put (D := (dC, dI)) (ci := 5) (v := .int (0 : Int32)) (ty := .int) (C := RX5) (T := TX5) (N := 14) hx hb hts inX5 tyX5 tyX5_ok nmX5 hown hK hP hD hS 0 rfl rfl 8 (by decide) (hts (.fieldLink RX5 32 "BoardMetronomesModel" "thrown" "I") (by decide +kernel)) (fun _ h9 => h9) rfl (by decide +kernel) rfl rfl (Nat.le_of_ble_eq_true rfl) dX5_apart_2 (fun H locs hP hD hS => ?_)
  have hP : va_P (dC, dI) vwCl (MW cI cZ h0 q (upA u 8 0 (0 : Int32))) H := Eq.mp (congrArg (fun w => va_P (dC, dI) vwCl w H) MW_s8) hP
  have hD : va_D A0 (MW cI cZ h0 q (upA u 8 0 (0 : Int32))) := Eq.mp (congrArg (fun w => va_D A0 w) MW_s8) hD
  refine lv_aload_n hx hb dX5_apart_5 rfl (lv_at hl 0 rfl) ?_
  refine lv_iload_n hx hb dX5_apart_6 rfl (lv_at hl 1 rfl) ?_
  refine kc_v (As := [.int p0]) (rest := []) S (v := .int (bI (f_MisArm (upA u 8 0 (0 : Int32)) p0))) (c_X5_isArm l dC dI cI cZ cO h0 q (upA u 8 0 (0 : Int32)) p0) gX5_apart_X5_isArm mi_X5_isArm ⟨rfl, rfl⟩ ⟨Nat.le_of_ble_eq_true rfl, Nat.le_of_ble_eq_true rfl⟩ hK hP 0 rfl rfl ⟨Nat.le_refl _, Nat.le_refl _⟩ dX5_apart_7 rfl hl.1 rfl (Nat.le_of_ble_eq_true rfl) ?_
  refine kb_eq (tgt := 21) hx hb dX5_apart_10 (by decide) (fun c_10 => ?_) (fun c_10 => ?_)
  · refine lv_aload_n hx hb dX5_apart_21 rfl (lv_at hl 0 rfl) ?_
    refine lv_iconst (v := (1 : Int32)) hx hb dX5_apart_22 (by decide) ?_
    refine kc_w (As := [.int (1 : Int32)]) (rest := []) S (v := (some (.int ((f_Mfails (upA u 8 0 (0 : Int32)) (1 : Int32)).1)))) (c_X5_fails l dC dI cI cZ cO h0 q (upA u 8 0 (0 : Int32)) (1 : Int32) H.size) gX5_apart_X5_fails mi_X5_fails ⟨rfl, rfl⟩ ⟨Nat.le_of_ble_eq_true rfl, Nat.le_of_ble_eq_true rfl⟩ hK hP hD hS hA [0, 1, 2, 3, 4, 5, 6, 7] MW_all MW_fst rfl 0 rfl rfl ⟨Nat.le_refl _, Nat.le_refl _⟩ dX5_apart_23 rfl hl.1 rfl (Nat.le_of_ble_eq_true rfl) (fun H locs hP hD hS => ?_)
    have hP : va_P (dC, dI) vwCl (MW cI cZ h0 q ((f_Mfails (upA u 8 0 (0 : Int32)) (1 : Int32)).2)) H := Eq.mp (congrArg (fun w => va_P (dC, dI) vwCl w H) MW_ks) hP
    have hD : va_D A0 (MW cI cZ h0 q ((f_Mfails (upA u 8 0 (0 : Int32)) (1 : Int32)).2)) := Eq.mp (congrArg (fun w => va_D A0 w) MW_ks) hD
    have r1 : f_Mapart u p0 p1 = ((f_Mfails (upA u 8 0 (0 : Int32)) (1 : Int32)).1, (f_Mfails (upA u 8 0 (0 : Int32)) (1 : Int32)).2) := by
      rw [f_Mapart, if_neg c_10]
    exact kw_i hx hb hr hlk hP hS dX5_apart_26 (by rw [r1]) (by rw [r1])
  · refine lv_aload_n hx hb dX5_apart_13 rfl (lv_at hl 0 rfl) ?_
    refine lv_iload_n hx hb dX5_apart_14 rfl (lv_at hl 2 rfl) ?_
    refine kc_v (As := [.int p1]) (rest := []) S (v := .int (bI (f_MisArm (upA u 8 0 (0 : Int32)) p1))) (c_X5_isArm l dC dI cI cZ cO h0 q (upA u 8 0 (0 : Int32)) p1) gX5_apart_X5_isArm mi_X5_isArm ⟨rfl, rfl⟩ ⟨Nat.le_of_ble_eq_true rfl, Nat.le_of_ble_eq_true rfl⟩ hK hP 0 rfl rfl ⟨Nat.le_refl _, Nat.le_refl _⟩ dX5_apart_15 rfl hl.1 rfl (Nat.le_of_ble_eq_true rfl) ?_
    refine kb_ne (tgt := 27) hx hb dX5_apart_18 (by decide) (fun c_18 => ?_) (fun c_18 => ?_)
    · refine lv_iload_n hx hb dX5_apart_27 rfl (lv_at hl 1 rfl) ?_
      refine lv_iload_n hx hb dX5_apart_28 rfl (lv_at hl 2 rfl) ?_
      refine lv_icmp_ne (tgt := 40) hx hb dX5_apart_29 (by decide) (fun c_29 => ?_) (fun c_29 => ?_)
      · refine lv_aload_n hx hb dX5_apart_40 rfl (lv_at hl 0 rfl) ?_
        refine va_get (D := (dC, dI)) (ci := 5) (v := .ref (q 0)) (C := RX5) (T := TX5) (N := 14) hx hb hts inX5 hown hK hP 0 rfl rfl 0 (by decide) (hts (.fieldLink RX5 7 "BoardMetronomesModel" "now" "[I") (by decide +kernel)) (fun _ h9 => h9) rfl dX5_apart_41 ?_
        refine lv_iload_n hx hb dX5_apart_44 rfl (lv_at hl 1 rfl) ?_
        refine lv_iload_n hx hb dX5_apart_45 rfl (lv_at hl 2 rfl) ?_
        refine kc_s (y := yX5_apartBy) (As := [.ref (q 0), .int (nI p0.toNatClampNeg), .int (nI p1.toNatClampNeg)]) (rest := []) rfl S (v := .int (f_MapartBy (u 0) p0.toNatClampNeg p1.toNatClampNeg)) (c_X5_apartBy l dC dI cI cZ cO (q 0) (u 0) p0.toNatClampNeg p1.toNatClampNeg (vp_lt (f_MisArm_vp (by rw [upA_o (show (0 : Nat) ≠ 8 by decide)]; exact hs) c_10)) (vp_lt (f_MisArm_vp (by rw [upA_o (show (0 : Nat) ≠ 8 by decide)]; exact hs) c_18))) gX5_apart_X5_apartBy mi_X5_apartBy ⟨rfl, rfl⟩ ⟨Nat.le_of_ble_eq_true rfl, Nat.le_of_ble_eq_true rfl⟩ hK (MW_p0 hP (show (upA u 8 0 (0 : Int32)) 0 = u 0 by rw [upA_o (show (0 : Nat) ≠ 8 by decide)])) ⟨Nat.le_refl _, Nat.le_refl _⟩ dX5_apart_46 rfl hl.1 (by rw [kcl (f_MisArm_vp (by rw [upA_o (show (0 : Nat) ≠ 8 by decide)]; exact hs) c_10), kcl (f_MisArm_vp (by rw [upA_o (show (0 : Nat) ≠ 8 by decide)]; exact hs) c_18)]; rfl) (Nat.le_of_ble_eq_true rfl) ?_
        have r2 : f_Mapart u p0 p1 = (f_MapartBy (u 0) p0.toNatClampNeg p1.toNatClampNeg, upA u 8 0 (0 : Int32)) := by
          rw [f_Mapart, if_pos c_10, if_pos c_18, if_neg c_29]
        exact kw_i hx hb hr hlk hP hS dX5_apart_49 (by rw [r2]) (by rw [r2])
      · refine lv_aload_n hx hb dX5_apart_32 rfl (lv_at hl 0 rfl) ?_
        refine lv_iconst (v := (2 : Int32)) hx hb dX5_apart_33 (by decide) ?_
        refine kc_w (As := [.int (2 : Int32)]) (rest := []) S (v := (some (.int ((f_Mfails (upA u 8 0 (0 : Int32)) (2 : Int32)).1)))) (c_X5_fails l dC dI cI cZ cO h0 q (upA u 8 0 (0 : Int32)) (2 : Int32) H.size) gX5_apart_X5_fails mi_X5_fails ⟨rfl, rfl⟩ ⟨Nat.le_of_ble_eq_true rfl, Nat.le_of_ble_eq_true rfl⟩ hK hP hD hS hA [0, 1, 2, 3, 4, 5, 6, 7] MW_all MW_fst rfl 0 rfl rfl ⟨Nat.le_refl _, Nat.le_refl _⟩ dX5_apart_34 rfl hl.1 rfl (Nat.le_of_ble_eq_true rfl) (fun H locs hP hD hS => ?_)
        have hP : va_P (dC, dI) vwCl (MW cI cZ h0 q ((f_Mfails (upA u 8 0 (0 : Int32)) (2 : Int32)).2)) H := Eq.mp (congrArg (fun w => va_P (dC, dI) vwCl w H) MW_ks) hP
        have hD : va_D A0 (MW cI cZ h0 q ((f_Mfails (upA u 8 0 (0 : Int32)) (2 : Int32)).2)) := Eq.mp (congrArg (fun w => va_D A0 w) MW_ks) hD
        refine lv_goto (tgt := 49) hx hb dX5_apart_37 (by decide) ?_
        have r3 : f_Mapart u p0 p1 = ((f_Mfails (upA u 8 0 (0 : Int32)) (2 : Int32)).1, (f_Mfails (upA u 8 0 (0 : Int32)) (2 : Int32)).2) := by
          rw [f_Mapart, if_pos c_10, if_pos c_18, if_pos c_29]
        exact kw_i hx hb hr hlk hP hS dX5_apart_49 (by rw [r3]) (by rw [r3])
    · refine lv_aload_n hx hb dX5_apart_21 rfl (lv_at hl 0 rfl) ?_
      refine lv_iconst (v := (1 : Int32)) hx hb dX5_apart_22 (by decide) ?_
      refine kc_w (As := [.int (1 : Int32)]) (rest := []) S (v := (some (.int ((f_Mfails (upA u 8 0 (0 : Int32)) (1 : Int32)).1)))) (c_X5_fails l dC dI cI cZ cO h0 q (upA u 8 0 (0 : Int32)) (1 : Int32) H.size) gX5_apart_X5_fails mi_X5_fails ⟨rfl, rfl⟩ ⟨Nat.le_of_ble_eq_true rfl, Nat.le_of_ble_eq_true rfl⟩ hK hP hD hS hA [0, 1, 2, 3, 4, 5, 6, 7] MW_all MW_fst rfl 0 rfl rfl ⟨Nat.le_refl _, Nat.le_refl _⟩ dX5_apart_23 rfl hl.1 rfl (Nat.le_of_ble_eq_true rfl) (fun H locs hP hD hS => ?_)
      have hP : va_P (dC, dI) vwCl (MW cI cZ h0 q ((f_Mfails (upA u 8 0 (0 : Int32)) (1 : Int32)).2)) H := Eq.mp (congrArg (fun w => va_P (dC, dI) vwCl w H) MW_ks) hP
      have hD : va_D A0 (MW cI cZ h0 q ((f_Mfails (upA u 8 0 (0 : Int32)) (1 : Int32)).2)) := Eq.mp (congrArg (fun w => va_D A0 w) MW_ks) hD
      have r4 : f_Mapart u p0 p1 = ((f_Mfails (upA u 8 0 (0 : Int32)) (1 : Int32)).1, (f_Mfails (upA u 8 0 (0 : Int32)) (1 : Int32)).2) := by
        rw [f_Mapart, if_pos c_10, if_neg c_18]
      exact kw_i hx hb hr hlk hP hS dX5_apart_26 (by rw [r4]) (by rw [r4])

def rm_X5_counted : Room := { frames := 5, cells := 0, slots := 0, locals := 110 }
theorem mi_X5_counted : kM yX5_counted wsX5_counted cX5_counted 2 (some .int) 1 := ⟨⟨_, rfl⟩, by decide, by decide, by decide +kernel⟩
def f_Mcounted (u : BS) (p0 : Int32) : Int32 := if p0 = (0 : Int32) then (u 0 3) else if p0 = (1 : Int32) then (f_Mgoing (u 0)) else if p0 = (2 : Int32) then (u 0 ((((4 : Int32) + p0) - (2 : Int32)).toNatClampNeg)) else if p0 = (3 : Int32) then (u 0 ((((4 : Int32) + p0) - (2 : Int32)).toNatClampNeg)) else if p0 = (4 : Int32) then ((u 0 ((((7 : Int32) + p0) - (4 : Int32)).toNatClampNeg)) + (1000 : Int32)) else if p0 = (5 : Int32) then ((u 0 ((((7 : Int32) + p0) - (4 : Int32)).toNatClampNeg)) + (1000 : Int32)) else if p0 = (6 : Int32) then (f_Morder (u 0)) else if p0 = (7 : Int32) then (f_Morder (u 0)) else if p0 = (8 : Int32) then (if (f_MareInStep (u 0)) = true then (1 : Int32) else (0 : Int32)) else if p0 = (9 : Int32) then (f_Mgreatest (u 0)) else if p0 = (10 : Int32) then (u 0 6) else u 3 0
set_option maxHeartbeats 1000000 in
set_option maxRecDepth 100000 in
theorem c_X5_counted (l : Launch) (dC : Nat → ClassId) (dI : Nat → Nat → Nat) (cI cZ cO : ClassId) (h0 : Nat) (q : Nat → Nat) (u : BS) (p0 : Int32) (hs : vp_in (u 0 3) 7) : Met l yX5_counted wsX5_counted rm_X5_counted (va_Pc [.ref h0, .int p0] (fun U => va_P (dC, dI) vwCl (MW cI cZ h0 q u) U.heap ∧ va_K (dC, dI) vwCl (TY cI cZ cO) U)) (kQ (some (.int (f_Mcounted u p0)))) 0 0 (fun _ => False) := by
  refine kofR (cc := cX5_counted) (maxL := 2) (ret := some .int) (by decide) rfl (Nat.le_of_ble_eq_true rfl) ?_
  intro p e s m args below meth c ls S hr hlk hP hK hl
  obtain ⟨hx, hb, hml, hown, hts⟩ := id S
  have hs_n : (u 0 3).toNatClampNeg < 7 := vp_lt hs
  have inX5 : ∀ w ∈ wsX50, w ∈ wsX5_counted := fun w h => List.mem_cons_of_mem _ (List.mem_append_right _ h)
  have hl : lv_has ls 2 [(0, .ref h0), (1, .int p0)] := hl
  refine lv_iload_n hx hb dX5_counted_0 rfl (lv_at hl 1 rfl) ?_
  by_cases c_1_0 : p0 = (0 : Int32)
  · refine lv_tableIn (off := 59) (tgt := 60) hx hb dX5_counted_1 (by rw [c_1_0]; decide) (by rw [c_1_0]; decide) (by rw [c_1_0]; rfl) (by decide) ?_
    refine lv_aload_n hx hb dX5_counted_60 rfl (lv_at hl 0 rfl) ?_
    refine va_get (D := (dC, dI)) (ci := 5) (v := .ref (q 0)) (C := RX5) (T := TX5) (N := 14) hx hb hts inX5 hown hK hP 0 rfl rfl 0 (by decide) (hts (.fieldLink RX5 7 "BoardMetronomesModel" "now" "[I") (by decide +kernel)) (fun _ h9 => h9) rfl dX5_counted_61 ?_
    refine lv_iconst (v := (3 : Int32)) hx hb dX5_counted_64 (by decide) ?_
    refine k_iald (D := (dC, dI)) hx hb hK hP 1 0 rfl rfl (j := 3) (by omega) (by decide) dX5_counted_65 ?_
    have r1 : f_Mcounted u p0 = u 0 3 := by
      rw [f_Mcounted, if_pos c_1_0]
    exact kr_i hx hb hr hlk dX5_counted_66 r1.symm
  by_cases c_1_1 : p0 = (1 : Int32)
  · refine lv_tableIn (off := 66) (tgt := 67) hx hb dX5_counted_1 (by rw [c_1_1]; decide) (by rw [c_1_1]; decide) (by rw [c_1_1]; rfl) (by decide) ?_
    refine lv_aload_n hx hb dX5_counted_67 rfl (lv_at hl 0 rfl) ?_
    refine va_get (D := (dC, dI)) (ci := 5) (v := .ref (q 0)) (C := RX5) (T := TX5) (N := 14) hx hb hts inX5 hown hK hP 0 rfl rfl 0 (by decide) (hts (.fieldLink RX5 7 "BoardMetronomesModel" "now" "[I") (by decide +kernel)) (fun _ h9 => h9) rfl dX5_counted_68 ?_
    refine kc_s (y := yX5_going) (As := [.ref (q 0)]) (rest := []) rfl S (v := .int (f_Mgoing (u 0))) (c_X5_going l dC dI cI cZ cO (q 0) (u 0) hs) gX5_counted_X5_going mi_X5_going ⟨rfl, rfl⟩ ⟨Nat.le_of_ble_eq_true rfl, Nat.le_of_ble_eq_true rfl⟩ hK (MW_p0 hP rfl) ⟨Nat.le_refl _, Nat.le_refl _⟩ dX5_counted_71 rfl hl.1 rfl (Nat.le_of_ble_eq_true rfl) ?_
    have r2 : f_Mcounted u p0 = f_Mgoing (u 0) := by
      rw [f_Mcounted, if_neg c_1_0, if_pos c_1_1]
    exact kr_i hx hb hr hlk dX5_counted_74 r2.symm
  by_cases c_1_2 : p0 = (2 : Int32)
  · refine lv_tableIn (off := 74) (tgt := 75) hx hb dX5_counted_1 (by rw [c_1_2]; decide) (by rw [c_1_2]; decide) (by rw [c_1_2]; rfl) (by decide) ?_
    refine lv_aload_n hx hb dX5_counted_75 rfl (lv_at hl 0 rfl) ?_
    refine va_get (D := (dC, dI)) (ci := 5) (v := .ref (q 0)) (C := RX5) (T := TX5) (N := 14) hx hb hts inX5 hown hK hP 0 rfl rfl 0 (by decide) (hts (.fieldLink RX5 7 "BoardMetronomesModel" "now" "[I") (by decide +kernel)) (fun _ h9 => h9) rfl dX5_counted_76 ?_
    refine lv_iconst (v := (4 : Int32)) hx hb dX5_counted_79 (by decide) ?_
    refine lv_iload_n hx hb dX5_counted_80 rfl (lv_at hl 1 rfl) ?_
    refine lv_iadd hx hb dX5_counted_81 ?_
    refine lv_iconst (v := (2 : Int32)) hx hb dX5_counted_82 (by decide) ?_
    refine lv_isub hx hb dX5_counted_83 ?_
    refine va_iald (D := (dC, dI)) hx hb hK hP 1 0 rfl rfl (vp_in_iff.mpr (by rw [c_1_2]; decide)) dX5_counted_84 ?_
    have r3 : f_Mcounted u p0 = u 0 ((((4 : Int32) + p0) - (2 : Int32)).toNatClampNeg) := by
      rw [f_Mcounted, if_neg c_1_0, if_neg c_1_1, if_pos c_1_2]
    exact kr_i hx hb hr hlk dX5_counted_85 r3.symm
  by_cases c_1_3 : p0 = (3 : Int32)
  · refine lv_tableIn (off := 74) (tgt := 75) hx hb dX5_counted_1 (by rw [c_1_3]; decide) (by rw [c_1_3]; decide) (by rw [c_1_3]; rfl) (by decide) ?_
    refine lv_aload_n hx hb dX5_counted_75 rfl (lv_at hl 0 rfl) ?_
    refine va_get (D := (dC, dI)) (ci := 5) (v := .ref (q 0)) (C := RX5) (T := TX5) (N := 14) hx hb hts inX5 hown hK hP 0 rfl rfl 0 (by decide) (hts (.fieldLink RX5 7 "BoardMetronomesModel" "now" "[I") (by decide +kernel)) (fun _ h9 => h9) rfl dX5_counted_76 ?_
    refine lv_iconst (v := (4 : Int32)) hx hb dX5_counted_79 (by decide) ?_
    refine lv_iload_n hx hb dX5_counted_80 rfl (lv_at hl 1 rfl) ?_
    refine lv_iadd hx hb dX5_counted_81 ?_
    refine lv_iconst (v := (2 : Int32)) hx hb dX5_counted_82 (by decide) ?_
    refine lv_isub hx hb dX5_counted_83 ?_
    refine va_iald (D := (dC, dI)) hx hb hK hP 1 0 rfl rfl (vp_in_iff.mpr (by rw [c_1_3]; decide)) dX5_counted_84 ?_
    have r4 : f_Mcounted u p0 = u 0 ((((4 : Int32) + p0) - (2 : Int32)).toNatClampNeg) := by
      rw [f_Mcounted, if_neg c_1_0, if_neg c_1_1, if_neg c_1_2, if_pos c_1_3]
    exact kr_i hx hb hr hlk dX5_counted_85 r4.symm
  by_cases c_1_4 : p0 = (4 : Int32)
  · refine lv_tableIn (off := 85) (tgt := 86) hx hb dX5_counted_1 (by rw [c_1_4]; decide) (by rw [c_1_4]; decide) (by rw [c_1_4]; rfl) (by decide) ?_
    refine lv_aload_n hx hb dX5_counted_86 rfl (lv_at hl 0 rfl) ?_
    refine va_get (D := (dC, dI)) (ci := 5) (v := .ref (q 0)) (C := RX5) (T := TX5) (N := 14) hx hb hts inX5 hown hK hP 0 rfl rfl 0 (by decide) (hts (.fieldLink RX5 7 "BoardMetronomesModel" "now" "[I") (by decide +kernel)) (fun _ h9 => h9) rfl dX5_counted_87 ?_
    refine lv_bipush (v := (7 : Int32)) hx hb dX5_counted_90 (by decide) ?_
    refine lv_iload_n hx hb dX5_counted_92 rfl (lv_at hl 1 rfl) ?_
    refine lv_iadd hx hb dX5_counted_93 ?_
    refine lv_iconst (v := (4 : Int32)) hx hb dX5_counted_94 (by decide) ?_
    refine lv_isub hx hb dX5_counted_95 ?_
    refine va_iald (D := (dC, dI)) hx hb hK hP 1 0 rfl rfl (vp_in_iff.mpr (by rw [c_1_4]; decide)) dX5_counted_96 ?_
    refine lv_sipush (v := (1000 : Int32)) hx hb dX5_counted_97 (by decide) ?_
    refine lv_iadd hx hb dX5_counted_100 ?_
    have r5 : f_Mcounted u p0 = (u 0 ((((7 : Int32) + p0) - (4 : Int32)).toNatClampNeg)) + (1000 : Int32) := by
      rw [f_Mcounted, if_neg c_1_0, if_neg c_1_1, if_neg c_1_2, if_neg c_1_3, if_pos c_1_4]
    exact kr_i hx hb hr hlk dX5_counted_101 r5.symm
  by_cases c_1_5 : p0 = (5 : Int32)
  · refine lv_tableIn (off := 85) (tgt := 86) hx hb dX5_counted_1 (by rw [c_1_5]; decide) (by rw [c_1_5]; decide) (by rw [c_1_5]; rfl) (by decide) ?_
    refine lv_aload_n hx hb dX5_counted_86 rfl (lv_at hl 0 rfl) ?_
    refine va_get (D := (dC, dI)) (ci := 5) (v := .ref (q 0)) (C := RX5) (T := TX5) (N := 14) hx hb hts inX5 hown hK hP 0 rfl rfl 0 (by decide) (hts (.fieldLink RX5 7 "BoardMetronomesModel" "now" "[I") (by decide +kernel)) (fun _ h9 => h9) rfl dX5_counted_87 ?_
    refine lv_bipush (v := (7 : Int32)) hx hb dX5_counted_90 (by decide) ?_
    refine lv_iload_n hx hb dX5_counted_92 rfl (lv_at hl 1 rfl) ?_
    refine lv_iadd hx hb dX5_counted_93 ?_
    refine lv_iconst (v := (4 : Int32)) hx hb dX5_counted_94 (by decide) ?_
    refine lv_isub hx hb dX5_counted_95 ?_
    refine va_iald (D := (dC, dI)) hx hb hK hP 1 0 rfl rfl (vp_in_iff.mpr (by rw [c_1_5]; decide)) dX5_counted_96 ?_
    refine lv_sipush (v := (1000 : Int32)) hx hb dX5_counted_97 (by decide) ?_
    refine lv_iadd hx hb dX5_counted_100 ?_
    have r6 : f_Mcounted u p0 = (u 0 ((((7 : Int32) + p0) - (4 : Int32)).toNatClampNeg)) + (1000 : Int32) := by
      rw [f_Mcounted, if_neg c_1_0, if_neg c_1_1, if_neg c_1_2, if_neg c_1_3, if_neg c_1_4, if_pos c_1_5]
    exact kr_i hx hb hr hlk dX5_counted_101 r6.symm
  by_cases c_1_6 : p0 = (6 : Int32)
  · refine lv_tableIn (off := 101) (tgt := 102) hx hb dX5_counted_1 (by rw [c_1_6]; decide) (by rw [c_1_6]; decide) (by rw [c_1_6]; rfl) (by decide) ?_
    refine lv_aload_n hx hb dX5_counted_102 rfl (lv_at hl 0 rfl) ?_
    refine va_get (D := (dC, dI)) (ci := 5) (v := .ref (q 0)) (C := RX5) (T := TX5) (N := 14) hx hb hts inX5 hown hK hP 0 rfl rfl 0 (by decide) (hts (.fieldLink RX5 7 "BoardMetronomesModel" "now" "[I") (by decide +kernel)) (fun _ h9 => h9) rfl dX5_counted_103 ?_
    refine kc_s (y := yX5_order) (As := [.ref (q 0)]) (rest := []) rfl S (v := .int (f_Morder (u 0))) (c_X5_order l dC dI cI cZ cO (q 0) (u 0) hs) gX5_counted_X5_order mi_X5_order ⟨rfl, rfl⟩ ⟨Nat.le_of_ble_eq_true rfl, Nat.le_of_ble_eq_true rfl⟩ hK (MW_p0 hP rfl) ⟨Nat.le_refl _, Nat.le_refl _⟩ dX5_counted_106 rfl hl.1 rfl (Nat.le_of_ble_eq_true rfl) ?_
    have r7 : f_Mcounted u p0 = f_Morder (u 0) := by
      rw [f_Mcounted, if_neg c_1_0, if_neg c_1_1, if_neg c_1_2, if_neg c_1_3, if_neg c_1_4, if_neg c_1_5, if_pos c_1_6]
    exact kr_i hx hb hr hlk dX5_counted_109 r7.symm
  by_cases c_1_7 : p0 = (7 : Int32)
  · refine lv_tableIn (off := 101) (tgt := 102) hx hb dX5_counted_1 (by rw [c_1_7]; decide) (by rw [c_1_7]; decide) (by rw [c_1_7]; rfl) (by decide) ?_
    refine lv_aload_n hx hb dX5_counted_102 rfl (lv_at hl 0 rfl) ?_
    refine va_get (D := (dC, dI)) (ci := 5) (v := .ref (q 0)) (C := RX5) (T := TX5) (N := 14) hx hb hts inX5 hown hK hP 0 rfl rfl 0 (by decide) (hts (.fieldLink RX5 7 "BoardMetronomesModel" "now" "[I") (by decide +kernel)) (fun _ h9 => h9) rfl dX5_counted_103 ?_
    refine kc_s (y := yX5_order) (As := [.ref (q 0)]) (rest := []) rfl S (v := .int (f_Morder (u 0))) (c_X5_order l dC dI cI cZ cO (q 0) (u 0) hs) gX5_counted_X5_order mi_X5_order ⟨rfl, rfl⟩ ⟨Nat.le_of_ble_eq_true rfl, Nat.le_of_ble_eq_true rfl⟩ hK (MW_p0 hP rfl) ⟨Nat.le_refl _, Nat.le_refl _⟩ dX5_counted_106 rfl hl.1 rfl (Nat.le_of_ble_eq_true rfl) ?_
    have r8 : f_Mcounted u p0 = f_Morder (u 0) := by
      rw [f_Mcounted, if_neg c_1_0, if_neg c_1_1, if_neg c_1_2, if_neg c_1_3, if_neg c_1_4, if_neg c_1_5, if_neg c_1_6, if_pos c_1_7]
    exact kr_i hx hb hr hlk dX5_counted_109 r8.symm
  by_cases c_1_8 : p0 = (8 : Int32)
  · refine lv_tableIn (off := 109) (tgt := 110) hx hb dX5_counted_1 (by rw [c_1_8]; decide) (by rw [c_1_8]; decide) (by rw [c_1_8]; rfl) (by decide) ?_
    refine lv_aload_n hx hb dX5_counted_110 rfl (lv_at hl 0 rfl) ?_
    refine va_get (D := (dC, dI)) (ci := 5) (v := .ref (q 0)) (C := RX5) (T := TX5) (N := 14) hx hb hts inX5 hown hK hP 0 rfl rfl 0 (by decide) (hts (.fieldLink RX5 7 "BoardMetronomesModel" "now" "[I") (by decide +kernel)) (fun _ h9 => h9) rfl dX5_counted_111 ?_
    refine kc_s (y := yX5_areInStep) (As := [.ref (q 0)]) (rest := []) rfl S (v := .int (bI (f_MareInStep (u 0)))) (c_X5_areInStep l dC dI cI cZ cO (q 0) (u 0)) gX5_counted_X5_areInStep mi_X5_areInStep ⟨rfl, rfl⟩ ⟨Nat.le_of_ble_eq_true rfl, Nat.le_of_ble_eq_true rfl⟩ hK (MW_p0 hP rfl) ⟨Nat.le_refl _, Nat.le_refl _⟩ dX5_counted_114 rfl hl.1 rfl (Nat.le_of_ble_eq_true rfl) ?_
    refine kb_eq (tgt := 124) hx hb dX5_counted_117 (by decide) (fun c_117 => ?_) (fun c_117 => ?_)
    · refine lv_iconst (v := (0 : Int32)) hx hb dX5_counted_124 (by decide) ?_
      have r9 : f_Mcounted u p0 = (0 : Int32) := by
        rw [f_Mcounted, if_neg c_1_0, if_neg c_1_1, if_neg c_1_2, if_neg c_1_3, if_neg c_1_4, if_neg c_1_5, if_neg c_1_6, if_neg c_1_7, if_pos c_1_8, if_neg c_117]
      exact kr_i hx hb hr hlk dX5_counted_125 r9.symm
    · refine lv_iconst (v := (1 : Int32)) hx hb dX5_counted_120 (by decide) ?_
      refine lv_goto (tgt := 125) hx hb dX5_counted_121 (by decide) ?_
      have r10 : f_Mcounted u p0 = (1 : Int32) := by
        rw [f_Mcounted, if_neg c_1_0, if_neg c_1_1, if_neg c_1_2, if_neg c_1_3, if_neg c_1_4, if_neg c_1_5, if_neg c_1_6, if_neg c_1_7, if_pos c_1_8, if_pos c_117]
      exact kr_i hx hb hr hlk dX5_counted_125 r10.symm
  by_cases c_1_9 : p0 = (9 : Int32)
  · refine lv_tableIn (off := 125) (tgt := 126) hx hb dX5_counted_1 (by rw [c_1_9]; decide) (by rw [c_1_9]; decide) (by rw [c_1_9]; rfl) (by decide) ?_
    refine lv_aload_n hx hb dX5_counted_126 rfl (lv_at hl 0 rfl) ?_
    refine va_get (D := (dC, dI)) (ci := 5) (v := .ref (q 0)) (C := RX5) (T := TX5) (N := 14) hx hb hts inX5 hown hK hP 0 rfl rfl 0 (by decide) (hts (.fieldLink RX5 7 "BoardMetronomesModel" "now" "[I") (by decide +kernel)) (fun _ h9 => h9) rfl dX5_counted_127 ?_
    refine kc_s (y := yX5_greatest) (As := [.ref (q 0)]) (rest := []) rfl S (v := .int (f_Mgreatest (u 0))) (c_X5_greatest l dC dI cI cZ cO (q 0) (u 0)) gX5_counted_X5_greatest mi_X5_greatest ⟨rfl, rfl⟩ ⟨Nat.le_of_ble_eq_true rfl, Nat.le_of_ble_eq_true rfl⟩ hK (MW_p0 hP rfl) ⟨Nat.le_refl _, Nat.le_refl _⟩ dX5_counted_130 rfl hl.1 rfl (Nat.le_of_ble_eq_true rfl) ?_
    have r11 : f_Mcounted u p0 = f_Mgreatest (u 0) := by
      rw [f_Mcounted, if_neg c_1_0, if_neg c_1_1, if_neg c_1_2, if_neg c_1_3, if_neg c_1_4, if_neg c_1_5, if_neg c_1_6, if_neg c_1_7, if_neg c_1_8, if_pos c_1_9]
    exact kr_i hx hb hr hlk dX5_counted_133 r11.symm
  by_cases c_1_10 : p0 = (10 : Int32)
  · refine lv_tableIn (off := 133) (tgt := 134) hx hb dX5_counted_1 (by rw [c_1_10]; decide) (by rw [c_1_10]; decide) (by rw [c_1_10]; rfl) (by decide) ?_
    refine lv_aload_n hx hb dX5_counted_134 rfl (lv_at hl 0 rfl) ?_
    refine va_get (D := (dC, dI)) (ci := 5) (v := .ref (q 0)) (C := RX5) (T := TX5) (N := 14) hx hb hts inX5 hown hK hP 0 rfl rfl 0 (by decide) (hts (.fieldLink RX5 7 "BoardMetronomesModel" "now" "[I") (by decide +kernel)) (fun _ h9 => h9) rfl dX5_counted_135 ?_
    refine lv_bipush (v := (6 : Int32)) hx hb dX5_counted_138 (by decide) ?_
    refine k_iald (D := (dC, dI)) hx hb hK hP 1 0 rfl rfl (j := 6) (by omega) (by decide) dX5_counted_140 ?_
    have r12 : f_Mcounted u p0 = u 0 6 := by
      rw [f_Mcounted, if_neg c_1_0, if_neg c_1_1, if_neg c_1_2, if_neg c_1_3, if_neg c_1_4, if_neg c_1_5, if_neg c_1_6, if_neg c_1_7, if_neg c_1_8, if_neg c_1_9, if_pos c_1_10]
    exact kr_i hx hb hr hlk dX5_counted_141 r12.symm
  refine lv_tableOut (tgt := 142) hx hb dX5_counted_1 (by have e_0 := lv_neT c_1_0 (a := 0) (by decide); have e_1 := lv_neT c_1_1 (a := 1) (by decide); have e_2 := lv_neT c_1_2 (a := 2) (by decide); have e_3 := lv_neT c_1_3 (a := 3) (by decide); have e_4 := lv_neT c_1_4 (a := 4) (by decide); have e_5 := lv_neT c_1_5 (a := 5) (by decide); have e_6 := lv_neT c_1_6 (a := 6) (by decide); have e_7 := lv_neT c_1_7 (a := 7) (by decide); have e_8 := lv_neT c_1_8 (a := 8) (by decide); have e_9 := lv_neT c_1_9 (a := 9) (by decide); have e_10 := lv_neT c_1_10 (a := 10) (by decide); omega) (by decide) ?_
  refine lv_aload_n hx hb dX5_counted_142 rfl (lv_at hl 0 rfl) ?_
  refine va_get (D := (dC, dI)) (ci := 5) (v := .int (u 3 0)) (C := RX5) (T := TX5) (N := 14) hx hb hts inX5 hown hK hP 0 rfl rfl 3 (by decide) (hts (.fieldLink RX5 44 "BoardMetronomesModel" "kept" "I") (by decide +kernel)) (fun _ h9 => h9) rfl dX5_counted_143 ?_
  have r13 : f_Mcounted u p0 = u 3 0 := by
    rw [f_Mcounted, if_neg c_1_0, if_neg c_1_1, if_neg c_1_2, if_neg c_1_3, if_neg c_1_4, if_neg c_1_5, if_neg c_1_6, if_neg c_1_7, if_neg c_1_8, if_neg c_1_9, if_neg c_1_10]
  exact kr_i hx hb hr hlk dX5_counted_146 r13.symm

def rm_X5_count : Room := { frames := 6, cells := 0, slots := 0, locals := 131 }
theorem mi_X5_count : kM yX5_count wsX5_count cX5_count 2 (some .int) 1 := ⟨⟨_, rfl⟩, by decide, by decide, by decide +kernel⟩
def f_Mcount (u : BS) (p0 : Int32) : Int32 × BS := if (f_Min p0 (0 : Int32) (11 : Int32)) = true then (f_Mcounted (upA u 8 0 (0 : Int32)) p0, upA u 8 0 (0 : Int32)) else ((f_Mfails (upA u 8 0 (0 : Int32)) (1 : Int32)).1, (f_Mfails (upA u 8 0 (0 : Int32)) (1 : Int32)).2)
set_option maxHeartbeats 1000000 in
set_option maxRecDepth 100000 in
theorem c_X5_count (l : Launch) (dC : Nat → ClassId) (dI : Nat → Nat → Nat) (cI cZ cO : ClassId) (h0 : Nat) (q : Nat → Nat) (u : BS) (p0 : Int32) (sz : Nat) (hs : vp_in (u 0 3) 7) : Met l yX5_count wsX5_count rm_X5_count (va_Pc [.ref h0, .int p0] (fun U => U.heap.size = sz ∧ va_P (dC, dI) vwCl (MW cI cZ h0 q u) U.heap ∧ va_K (dC, dI) vwCl (TY cI cZ cO) U ∧ va_D (fun _ => True) (MW cI cZ h0 q u))) (kQw (some (.int (f_Mcount u p0).1)) (dC, dI) vwCl (MW cI cZ h0 q ((f_Mcount u p0).2)) (va_A (MW cI cZ h0 q u) sz)) 0 0 (va_A (MW cI cZ h0 q u) sz) := by
  refine kofW (cc := cX5_count) (maxL := 2) (ret := some .int) (by decide) rfl (Nat.le_of_ble_eq_true rfl) ?_
  intro p e s m args below meth c ls S hr hlk hnm hsz hP hK hD hS hA hl
  generalize hA0 : va_A (MW cI cZ h0 q u) sz = A0 at hD hS hA ⊢
  subst hsz
  obtain ⟨hx, hb, hml, hown, hts⟩ := id S
  have hs_n : (u 0 3).toNatClampNeg < 7 := vp_lt hs
  have inX5 : ∀ w ∈ wsX50, w ∈ wsX5_count := fun w h => List.mem_cons_of_mem _ (List.mem_append_right _ h)
  have hl : lv_has ls 2 [(0, .ref h0), (1, .int p0)] := hl
  refine lv_aload_n hx hb dX5_count_0 rfl (lv_at hl 0 rfl) ?_
  refine lv_iconst (v := (0 : Int32)) hx hb dX5_count_1 (by decide) ?_
  refine va_put (D := (dC, dI)) (ci := 5) (v := .int (0 : Int32)) (ty := .int) (C := RX5) (T := TX5) (N := 14) hx hb hts inX5 tyX5 tyX5_ok nmX5 hown hK hP hD hS 0 rfl rfl 8 (by decide) (hts (.fieldLink RX5 32 "BoardMetronomesModel" "thrown" "I") (by decide +kernel)) (fun _ h9 => h9) rfl (by decide +kernel) rfl rfl (Nat.le_of_ble_eq_true rfl) dX5_count_2 (fun H locs hP hD hS => ?_)
  have hP : va_P (dC, dI) vwCl (MW cI cZ h0 q (upA u 8 0 (0 : Int32))) H := Eq.mp (congrArg (fun w => va_P (dC, dI) vwCl w H) MW_s8) hP
  have hD : va_D A0 (MW cI cZ h0 q (upA u 8 0 (0 : Int32))) := Eq.mp (congrArg (fun w => va_D A0 w) MW_s8) hD
  refine lv_iload_n hx hb dX5_count_5 rfl (lv_at hl 1 rfl) ?_
  refine lv_iconst (v := (0 : Int32)) hx hb dX5_count_6 (by decide) ?_
  refine lv_bipush (v := (11 : Int32)) hx hb dX5_count_7 (by decide) ?_
  refine kc_p (y := yX5_in) (As := [.int p0, .int (0 : Int32), .int (11 : Int32)]) (rest := []) rfl S (v := .int (bI (f_Min p0 (0 : Int32) (11 : Int32)))) (c_X5_in l p0 (0 : Int32) (11 : Int32)) gX5_count_X5_in mi_X5_in ⟨rfl, rfl⟩ ⟨Nat.le_of_ble_eq_true rfl, Nat.le_of_ble_eq_true rfl⟩ ⟨Nat.le_refl _, Nat.le_refl _⟩ dX5_count_9 rfl hl.1 rfl (Nat.le_of_ble_eq_true rfl) ?_
  refine kb_eq (tgt := 23) hx hb dX5_count_12 (by decide) (fun c_12 => ?_) (fun c_12 => ?_)
  · refine lv_aload_n hx hb dX5_count_23 rfl (lv_at hl 0 rfl) ?_
    refine lv_iconst (v := (1 : Int32)) hx hb dX5_count_24 (by decide) ?_
    refine kc_w (As := [.int (1 : Int32)]) (rest := []) S (v := (some (.int ((f_Mfails (upA u 8 0 (0 : Int32)) (1 : Int32)).1)))) (c_X5_fails l dC dI cI cZ cO h0 q (upA u 8 0 (0 : Int32)) (1 : Int32) H.size) gX5_count_X5_fails mi_X5_fails ⟨rfl, rfl⟩ ⟨Nat.le_of_ble_eq_true rfl, Nat.le_of_ble_eq_true rfl⟩ hK hP hD hS hA [0, 1, 2, 3, 4, 5, 6, 7] MW_all MW_fst rfl 0 rfl rfl ⟨Nat.le_refl _, Nat.le_refl _⟩ dX5_count_25 rfl hl.1 rfl (Nat.le_of_ble_eq_true rfl) (fun H locs hP hD hS => ?_)
    have hP : va_P (dC, dI) vwCl (MW cI cZ h0 q ((f_Mfails (upA u 8 0 (0 : Int32)) (1 : Int32)).2)) H := Eq.mp (congrArg (fun w => va_P (dC, dI) vwCl w H) MW_ks) hP
    have hD : va_D A0 (MW cI cZ h0 q ((f_Mfails (upA u 8 0 (0 : Int32)) (1 : Int32)).2)) := Eq.mp (congrArg (fun w => va_D A0 w) MW_ks) hD
    have r1 : f_Mcount u p0 = ((f_Mfails (upA u 8 0 (0 : Int32)) (1 : Int32)).1, (f_Mfails (upA u 8 0 (0 : Int32)) (1 : Int32)).2) := by
      rw [f_Mcount, if_neg c_12]
    exact kw_i hx hb hr hlk hP hS dX5_count_28 (by rw [r1]) (by rw [r1])
  · refine lv_aload_n hx hb dX5_count_15 rfl (lv_at hl 0 rfl) ?_
    refine lv_iload_n hx hb dX5_count_16 rfl (lv_at hl 1 rfl) ?_
    refine kc_v (As := [.int p0]) (rest := []) S (v := .int (f_Mcounted (upA u 8 0 (0 : Int32)) p0)) (c_X5_counted l dC dI cI cZ cO h0 q (upA u 8 0 (0 : Int32)) p0 (by rw [upA_o (show (0 : Nat) ≠ 8 by decide)]; exact hs)) gX5_count_X5_counted mi_X5_counted ⟨rfl, rfl⟩ ⟨Nat.le_of_ble_eq_true rfl, Nat.le_of_ble_eq_true rfl⟩ hK hP 0 rfl rfl ⟨Nat.le_refl _, Nat.le_refl _⟩ dX5_count_17 rfl hl.1 rfl (Nat.le_of_ble_eq_true rfl) ?_
    refine lv_goto (tgt := 28) hx hb dX5_count_20 (by decide) ?_
    have r2 : f_Mcount u p0 = (f_Mcounted (upA u 8 0 (0 : Int32)) p0, upA u 8 0 (0 : Int32)) := by
      rw [f_Mcount, if_pos c_12]
    exact kw_i hx hb hr hlk hP hS dX5_count_28 (by rw [r2]) (by rw [r2])

def rm_X5_setting : Room := { frames := 1, cells := 0, slots := 0, locals := 22 }
theorem mi_X5_setting : kM yX5_setting wsX5_setting cX5_setting 2 (some .int) 1 := ⟨⟨_, rfl⟩, by decide, by decide, by decide +kernel⟩
def f_Msetting (u : BS) (p0 : Int32) : Int32 × BS := if (f_Min p0 (0 : Int32) (2 : Int32)) = true then (u 0 p0.toNatClampNeg, upA u 8 0 (0 : Int32)) else ((f_Mfails (upA u 8 0 (0 : Int32)) (1 : Int32)).1, (f_Mfails (upA u 8 0 (0 : Int32)) (1 : Int32)).2)
set_option maxHeartbeats 1000000 in
set_option maxRecDepth 100000 in
theorem c_X5_setting (l : Launch) (dC : Nat → ClassId) (dI : Nat → Nat → Nat) (cI cZ cO : ClassId) (h0 : Nat) (q : Nat → Nat) (u : BS) (p0 : Int32) (sz : Nat) : Met l yX5_setting wsX5_setting rm_X5_setting (va_Pc [.ref h0, .int p0] (fun U => U.heap.size = sz ∧ va_P (dC, dI) vwCl (MW cI cZ h0 q u) U.heap ∧ va_K (dC, dI) vwCl (TY cI cZ cO) U ∧ va_D (fun _ => True) (MW cI cZ h0 q u))) (kQw (some (.int (f_Msetting u p0).1)) (dC, dI) vwCl (MW cI cZ h0 q ((f_Msetting u p0).2)) (va_A (MW cI cZ h0 q u) sz)) 0 0 (va_A (MW cI cZ h0 q u) sz) := by
  refine kofW (cc := cX5_setting) (maxL := 2) (ret := some .int) (by decide) rfl (Nat.le_of_ble_eq_true rfl) ?_
  intro p e s m args below meth c ls S hr hlk hnm hsz hP hK hD hS hA hl
  generalize hA0 : va_A (MW cI cZ h0 q u) sz = A0 at hD hS hA ⊢
  subst hsz
  obtain ⟨hx, hb, hml, hown, hts⟩ := id S
  have inX5 : ∀ w ∈ wsX50, w ∈ wsX5_setting := fun w h => List.mem_cons_of_mem _ (List.mem_append_right _ h)
  have hl : lv_has ls 2 [(0, .ref h0), (1, .int p0)] := hl
  refine lv_aload_n hx hb dX5_setting_0 rfl (lv_at hl 0 rfl) ?_
  refine lv_iconst (v := (0 : Int32)) hx hb dX5_setting_1 (by decide) ?_
  refine va_put (D := (dC, dI)) (ci := 5) (v := .int (0 : Int32)) (ty := .int) (C := RX5) (T := TX5) (N := 14) hx hb hts inX5 tyX5 tyX5_ok nmX5 hown hK hP hD hS 0 rfl rfl 8 (by decide) (hts (.fieldLink RX5 32 "BoardMetronomesModel" "thrown" "I") (by decide +kernel)) (fun _ h9 => h9) rfl (by decide +kernel) rfl rfl (Nat.le_of_ble_eq_true rfl) dX5_setting_2 (fun H locs hP hD hS => ?_)
  have hP : va_P (dC, dI) vwCl (MW cI cZ h0 q (upA u 8 0 (0 : Int32))) H := Eq.mp (congrArg (fun w => va_P (dC, dI) vwCl w H) MW_s8) hP
  have hD : va_D A0 (MW cI cZ h0 q (upA u 8 0 (0 : Int32))) := Eq.mp (congrArg (fun w => va_D A0 w) MW_s8) hD
  refine lv_iload_n hx hb dX5_setting_5 rfl (lv_at hl 1 rfl) ?_
  refine lv_iconst (v := (0 : Int32)) hx hb dX5_setting_6 (by decide) ?_
  refine lv_iconst (v := (2 : Int32)) hx hb dX5_setting_7 (by decide) ?_
  refine kc_p (y := yX5_in) (As := [.int p0, .int (0 : Int32), .int (2 : Int32)]) (rest := []) rfl S (v := .int (bI (f_Min p0 (0 : Int32) (2 : Int32)))) (c_X5_in l p0 (0 : Int32) (2 : Int32)) gX5_setting_X5_in mi_X5_in ⟨rfl, rfl⟩ ⟨Nat.le_of_ble_eq_true rfl, Nat.le_of_ble_eq_true rfl⟩ ⟨Nat.le_refl _, Nat.le_refl _⟩ dX5_setting_8 rfl hl.1 rfl (Nat.le_of_ble_eq_true rfl) ?_
  refine kb_eq (tgt := 23) hx hb dX5_setting_11 (by decide) (fun c_11 => ?_) (fun c_11 => ?_)
  · refine lv_aload_n hx hb dX5_setting_23 rfl (lv_at hl 0 rfl) ?_
    refine lv_iconst (v := (1 : Int32)) hx hb dX5_setting_24 (by decide) ?_
    refine kc_w (As := [.int (1 : Int32)]) (rest := []) S (v := (some (.int ((f_Mfails (upA u 8 0 (0 : Int32)) (1 : Int32)).1)))) (c_X5_fails l dC dI cI cZ cO h0 q (upA u 8 0 (0 : Int32)) (1 : Int32) H.size) gX5_setting_X5_fails mi_X5_fails ⟨rfl, rfl⟩ ⟨Nat.le_of_ble_eq_true rfl, Nat.le_of_ble_eq_true rfl⟩ hK hP hD hS hA [0, 1, 2, 3, 4, 5, 6, 7] MW_all MW_fst rfl 0 rfl rfl ⟨Nat.le_refl _, Nat.le_refl _⟩ dX5_setting_25 rfl hl.1 rfl (Nat.le_of_ble_eq_true rfl) (fun H locs hP hD hS => ?_)
    have hP : va_P (dC, dI) vwCl (MW cI cZ h0 q ((f_Mfails (upA u 8 0 (0 : Int32)) (1 : Int32)).2)) H := Eq.mp (congrArg (fun w => va_P (dC, dI) vwCl w H) MW_ks) hP
    have hD : va_D A0 (MW cI cZ h0 q ((f_Mfails (upA u 8 0 (0 : Int32)) (1 : Int32)).2)) := Eq.mp (congrArg (fun w => va_D A0 w) MW_ks) hD
    have r1 : f_Msetting u p0 = ((f_Mfails (upA u 8 0 (0 : Int32)) (1 : Int32)).1, (f_Mfails (upA u 8 0 (0 : Int32)) (1 : Int32)).2) := by
      rw [f_Msetting, if_neg c_11]
    exact kw_i hx hb hr hlk hP hS dX5_setting_28 (by rw [r1]) (by rw [r1])
  · refine lv_aload_n hx hb dX5_setting_14 rfl (lv_at hl 0 rfl) ?_
    refine va_get (D := (dC, dI)) (ci := 5) (v := .ref (q 0)) (C := RX5) (T := TX5) (N := 14) hx hb hts inX5 hown hK hP 0 rfl rfl 0 (by decide) (hts (.fieldLink RX5 7 "BoardMetronomesModel" "now" "[I") (by decide +kernel)) (fun _ h9 => h9) rfl dX5_setting_15 ?_
    refine lv_iload_n hx hb dX5_setting_18 rfl (lv_at hl 1 rfl) ?_
    have z2 := (f_Min_vp (n := 2) (by decide) c_11)
    have z2_n := vp_lt z2
    refine kt_i (kcl z2).symm ?_
    refine k_iald (D := (dC, dI)) hx hb hK hP 1 0 rfl rfl (j := p0.toNatClampNeg) (by omega) (by decide) dX5_setting_19 ?_
    rw [upA_o (show (0 : Nat) ≠ 8 by decide)]
    refine lv_goto (tgt := 28) hx hb dX5_setting_20 (by decide) ?_
    have r3 : f_Msetting u p0 = (u 0 p0.toNatClampNeg, upA u 8 0 (0 : Int32)) := by
      rw [f_Msetting, if_pos c_11]
    exact kw_i hx hb hr hlk hP hS dX5_setting_28 (by rw [r3]) (by rw [r3])

theorem f_Mcop_it {f g : Nat → Int32} {a b : Nat} : ∀ n i : Nat, it n (f_Mcopies_L3 f g a b) g i = if b ≤ i ∧ i < b + n then f (a + (i - b)) else g i
  | 0, i => by rw [it_0, if_neg (by omega)]
  | n + 1, i => by
    rw [it_s, f_Mcopies_L3]
    by_cases h : i = b + n
    · rw [h, upd_s, if_pos (by omega), Nat.add_sub_cancel_left]
    · rw [upd_o h, f_Mcop_it n i]
      by_cases h2 : b ≤ i ∧ i < b + n
      · rw [if_pos h2, if_pos (by omega)]
      · rw [if_neg h2, if_neg (by omega)]
theorem f_Mcop_in {f g : Nat → Int32} {a b i : Nat} (h1 : b ≤ i) (h2 : i < b + 39) : f_Mcopies f g a b i = f (a + (i - b)) := by rw [f_Mcopies, f_Mcop_it, if_pos ⟨h1, h2⟩]
theorem f_Mcop_out {f g : Nat → Int32} {a b i : Nat} (h : ¬ (b ≤ i ∧ i < b + 39)) : f_Mcopies f g a b i = g i := by rw [f_Mcopies, f_Mcop_it, if_neg h]
theorem f_Mcop3 {f g : Nat → Int32} : f_Mcopies f g 0 0 3 = f 3 := f_Mcop_in (by decide) (by decide)
theorem f_Msteps3 {f : Nat → Int32} {p : Int32} : f_Msteps f p 3 = f 3 := by rw [f_Msteps, f_Msteps_inv]

def rm_X5_tries : Room := { frames := 5, cells := 0, slots := 0, locals := 116 }
theorem mi_X5_tries : kM yX5_tries wsX5_tries cX5_tries 3 none 2 := ⟨⟨_, rfl⟩, by decide, by decide, by decide +kernel⟩
def f_Mtries (u : BS) (p0 : Int32) (p1 : Int32) : BS := upR (upA (upR u 1 (f_Mcopies (u 0) (u 1) 0 0)) 1 1 p1) 1 (f_Msteps ((upA (upR u 1 (f_Mcopies (u 0) (u 1) 0 0)) 1 1 p1) 1) p0)
theorem f_Mtries_o {u : BS} {p0 p1 : Int32} {k : Nat} (h : k ≠ 1) : f_Mtries u p0 p1 k = u k := by rw [f_Mtries, upR_o h, upA_o h, upR_o h]
theorem f_Mtries3 {u : BS} {p0 p1 : Int32} : f_Mtries u p0 p1 1 3 = u 0 3 := by rw [f_Mtries, upR_s, f_Msteps3, upA_i (by decide), upR_s, f_Mcop3]
set_option maxHeartbeats 1000000 in
set_option maxRecDepth 100000 in
theorem c_X5_tries (l : Launch) (dC : Nat → ClassId) (dI : Nat → Nat → Nat) (cI cZ cO : ClassId) (h0 : Nat) (q : Nat → Nat) (u : BS) (p0 : Int32) (p1 : Int32) (sz : Nat) (hs : vp_in (u 0 3) 7) : Met l yX5_tries wsX5_tries rm_X5_tries (va_Pc [.ref h0, .int p0, .int p1] (fun U => U.heap.size = sz ∧ va_P (dC, dI) vwCl (MW cI cZ h0 q u) U.heap ∧ va_K (dC, dI) vwCl (TY cI cZ cO) U ∧ va_D (fun _ => True) (MW cI cZ h0 q u))) (kQw none (dC, dI) vwCl (MW cI cZ h0 q (f_Mtries u p0 p1)) (va_A (MW cI cZ h0 q u) sz)) 0 0 (va_A (MW cI cZ h0 q u) sz) := by
  refine kofW (cc := cX5_tries) (maxL := 3) (ret := none) (by decide) rfl (Nat.le_of_ble_eq_true rfl) ?_
  intro p e s m args below meth c ls S hr hlk hnm hsz hP hK hD hS hA hl
  generalize hA0 : va_A (MW cI cZ h0 q u) sz = A0 at hD hS hA ⊢
  subst hsz
  obtain ⟨hx, hb, hml, hown, hts⟩ := id S
  have hs_n : (u 0 3).toNatClampNeg < 7 := vp_lt hs
  have inX5 : ∀ w ∈ wsX50, w ∈ wsX5_tries := fun w h => List.mem_cons_of_mem _ (List.mem_append_right _ h)
  have hl : lv_has ls 3 [(0, .ref h0), (1, .int p0), (2, .int p1)] := hl
  refine lv_aload_n hx hb dX5_tries_0 rfl (lv_at hl 0 rfl) ?_
  refine va_get (D := (dC, dI)) (ci := 5) (v := .ref (q 0)) (C := RX5) (T := TX5) (N := 14) hx hb hts inX5 hown hK hP 0 rfl rfl 0 (by decide) (hts (.fieldLink RX5 7 "BoardMetronomesModel" "now" "[I") (by decide +kernel)) (fun _ h9 => h9) rfl dX5_tries_1 ?_
  refine lv_iconst (v := (0 : Int32)) hx hb dX5_tries_4 (by decide) ?_
  refine lv_aload_n hx hb dX5_tries_5 rfl (lv_at hl 0 rfl) ?_
  refine va_get (D := (dC, dI)) (ci := 5) (v := .ref (q 1)) (C := RX5) (T := TX5) (N := 14) hx hb hts inX5 hown hK hP 0 rfl rfl 1 (by decide) (hts (.fieldLink RX5 13 "BoardMetronomesModel" "then" "[I") (by decide +kernel)) (fun _ h9 => h9) rfl dX5_tries_6 ?_
  refine lv_iconst (v := (0 : Int32)) hx hb dX5_tries_9 (by decide) ?_
  refine kc_sw (y := yX5_copies) (As := [.ref (q 0), .int (nI 0), .ref (q 1), .int (nI 0)]) (rest := []) rfl S (v := none) (c_X5_copies l dC dI cI cZ cO 39 39 (q 0) (q 1) (u 0) (u 1) 0 0 s.heap.size (by omega) (by omega) (by decide) (by decide)) gX5_tries_X5_copies mi_X5_copies ⟨rfl, rfl⟩ ⟨Nat.le_of_ble_eq_true rfl, Nat.le_of_ble_eq_true rfl⟩ hK hP hD hS hA [1, 2] (MW_allc0_1 rfl rfl) AW2_fst rfl ⟨Nat.le_refl _, Nat.le_refl _⟩ dX5_tries_10 rfl hl.1 rfl (Nat.le_of_ble_eq_true rfl) (fun H locs hP hD hS => ?_)
  have hP : va_P (dC, dI) vwCl (MW cI cZ h0 q (upR u 1 (f_Mcopies (u 0) (u 1) 0 0))) H := Eq.mp (congrArg (fun w => va_P (dC, dI) vwCl w H) (MW_c0_1 rfl)) hP
  have hD : va_D A0 (MW cI cZ h0 q (upR u 1 (f_Mcopies (u 0) (u 1) 0 0))) := Eq.mp (congrArg (fun w => va_D A0 w) (MW_c0_1 rfl)) hD
  refine lv_aload_n hx hb dX5_tries_13 rfl (lv_at hl 0 rfl) ?_
  refine va_get (D := (dC, dI)) (ci := 5) (v := .ref (q 1)) (C := RX5) (T := TX5) (N := 14) hx hb hts inX5 hown hK hP 0 rfl rfl 1 (by decide) (hts (.fieldLink RX5 13 "BoardMetronomesModel" "then" "[I") (by decide +kernel)) (fun _ h9 => h9) rfl dX5_tries_14 ?_
  refine lv_iconst (v := (1 : Int32)) hx hb dX5_tries_17 (by decide) ?_
  refine lv_iload_n hx hb dX5_tries_18 rfl (lv_at hl 2 rfl) ?_
  refine k_iast (D := (dC, dI)) hx hb hK hP hD hS 2 0 rfl rfl (j := 1) (by omega) (by decide) dX5_tries_19 (fun H locs hP hD hS => ?_)
  have hP : va_P (dC, dI) vwCl (MW cI cZ h0 q (upA (upR u 1 (f_Mcopies (u 0) (u 1) 0 0)) 1 1 p1)) H := Eq.mp (congrArg (fun w => va_P (dC, dI) vwCl w H) MW_a1) hP
  have hD : va_D A0 (MW cI cZ h0 q (upA (upR u 1 (f_Mcopies (u 0) (u 1) 0 0)) 1 1 p1)) := Eq.mp (congrArg (fun w => va_D A0 w) MW_a1) hD
  refine lv_aload_n hx hb dX5_tries_20 rfl (lv_at hl 0 rfl) ?_
  refine va_get (D := (dC, dI)) (ci := 5) (v := .ref (q 1)) (C := RX5) (T := TX5) (N := 14) hx hb hts inX5 hown hK hP 0 rfl rfl 1 (by decide) (hts (.fieldLink RX5 13 "BoardMetronomesModel" "then" "[I") (by decide +kernel)) (fun _ h9 => h9) rfl dX5_tries_21 ?_
  refine lv_iload_n hx hb dX5_tries_24 rfl (lv_at hl 1 rfl) ?_
  refine kc_sw (y := yX5_steps) (As := [.ref (q 1), .int p0]) (rest := []) rfl S (v := none) (c_X5_steps l dC dI cI cZ cO (q 1) ((upA (upR u 1 (f_Mcopies (u 0) (u 1) 0 0)) 1 1 p1) 1) p0 H.size (by rw [upA_i (show (3 : Nat) ≠ 1 by decide), upR_s, f_Mcop3]; exact hs)) gX5_tries_X5_steps mi_X5_steps ⟨rfl, rfl⟩ ⟨Nat.le_of_ble_eq_true rfl, Nat.le_of_ble_eq_true rfl⟩ hK hP hD hS hA [2] (MW_all1 rfl) AW_fst rfl ⟨Nat.le_refl _, Nat.le_refl _⟩ dX5_tries_25 rfl hl.1 rfl (Nat.le_of_ble_eq_true rfl) (fun H locs hP hD hS => ?_)
  have hP : va_P (dC, dI) vwCl (MW cI cZ h0 q (upR (upA (upR u 1 (f_Mcopies (u 0) (u 1) 0 0)) 1 1 p1) 1 (f_Msteps ((upA (upR u 1 (f_Mcopies (u 0) (u 1) 0 0)) 1 1 p1) 1) p0))) H := Eq.mp (congrArg (fun w => va_P (dC, dI) vwCl w H) MW_r1) hP
  have hD : va_D A0 (MW cI cZ h0 q (upR (upA (upR u 1 (f_Mcopies (u 0) (u 1) 0 0)) 1 1 p1) 1 (f_Msteps ((upA (upR u 1 (f_Mcopies (u 0) (u 1) 0 0)) 1 1 p1) 1) p0))) := Eq.mp (congrArg (fun w => va_D A0 w) MW_r1) hD
  have r1 : f_Mtries u p0 p1 = upR (upA (upR u 1 (f_Mcopies (u 0) (u 1) 0 0)) 1 1 p1) 1 (f_Msteps ((upA (upR u 1 (f_Mcopies (u 0) (u 1) 0 0)) 1 1 p1) 1) p0) := by
    rw [f_Mtries]
  exact kw_v hx hb hr hlk hP hS dX5_tries_28 (by rw [r1])

def rm_X5_byRunning : Room := { frames := 6, cells := 0, slots := 0, locals := 138 }
theorem mi_X5_byRunning : kM yX5_byRunning wsX5_byRunning cX5_byRunning 4 (some .int) 3 := ⟨⟨_, rfl⟩, by decide, by decide, by decide +kernel⟩
def f_MbyRunning (u : BS) (p0 : Int32) (p1 : Int32) (p2 : Int32) : Int32 × BS := if p2 = (0 : Int32) then ((((f_Mtries u p0 p1) 1) 5) - (u 0 5), (f_Mtries u p0 p1)) else if p2 = (1 : Int32) then (f_Morder ((f_Mtries u p0 p1) 1), (f_Mtries u p0 p1)) else if p2 = (2 : Int32) then (f_Mgreatest ((f_Mtries u p0 p1) 1), (f_Mtries u p0 p1)) else if p2 = (3 : Int32) then (f_Mgoing ((f_Mtries u p0 p1) 1), (f_Mtries u p0 p1)) else ((((f_Mtries u p0 p1) 1) 6) - (u 0 6), (f_Mtries u p0 p1))
set_option maxHeartbeats 1000000 in
set_option maxRecDepth 100000 in
theorem c_X5_byRunning (l : Launch) (dC : Nat → ClassId) (dI : Nat → Nat → Nat) (cI cZ cO : ClassId) (h0 : Nat) (q : Nat → Nat) (u : BS) (p0 : Int32) (p1 : Int32) (p2 : Int32) (sz : Nat) (hs : vp_in (u 0 3) 7) : Met l yX5_byRunning wsX5_byRunning rm_X5_byRunning (va_Pc [.ref h0, .int p0, .int p1, .int p2] (fun U => U.heap.size = sz ∧ va_P (dC, dI) vwCl (MW cI cZ h0 q u) U.heap ∧ va_K (dC, dI) vwCl (TY cI cZ cO) U ∧ va_D (fun _ => True) (MW cI cZ h0 q u))) (kQw (some (.int (f_MbyRunning u p0 p1 p2).1)) (dC, dI) vwCl (MW cI cZ h0 q ((f_MbyRunning u p0 p1 p2).2)) (va_A (MW cI cZ h0 q u) sz)) 0 0 (va_A (MW cI cZ h0 q u) sz) := by
  refine kofW (cc := cX5_byRunning) (maxL := 4) (ret := some .int) (by decide) rfl (Nat.le_of_ble_eq_true rfl) ?_
  intro p e s m args below meth c ls S hr hlk hnm hsz hP hK hD hS hA hl
  generalize hA0 : va_A (MW cI cZ h0 q u) sz = A0 at hD hS hA ⊢
  subst hsz
  obtain ⟨hx, hb, hml, hown, hts⟩ := id S
  have hs_n : (u 0 3).toNatClampNeg < 7 := vp_lt hs
  have inX5 : ∀ w ∈ wsX50, w ∈ wsX5_byRunning := fun w h => List.mem_cons_of_mem _ (List.mem_append_right _ h)
  have hl : lv_has ls 4 [(0, .ref h0), (1, .int p0), (2, .int p1), (3, .int p2)] := hl
  refine lv_aload_n hx hb dX5_byRunning_0 rfl (lv_at hl 0 rfl) ?_
  refine lv_iload_n hx hb dX5_byRunning_1 rfl (lv_at hl 1 rfl) ?_
  refine lv_iload_n hx hb dX5_byRunning_2 rfl (lv_at hl 2 rfl) ?_
  refine kc_w (As := [.int p0, .int p1]) (rest := []) S (v := none) (c_X5_tries l dC dI cI cZ cO h0 q u p0 p1 s.heap.size hs) gX5_byRunning_X5_tries mi_X5_tries ⟨rfl, rfl⟩ ⟨Nat.le_of_ble_eq_true rfl, Nat.le_of_ble_eq_true rfl⟩ hK hP hD hS hA [0, 1, 2, 3, 4, 5, 6, 7] MW_all MW_fst rfl 0 rfl rfl ⟨Nat.le_refl _, Nat.le_refl _⟩ dX5_byRunning_3 rfl hl.1 rfl (Nat.le_of_ble_eq_true rfl) (fun H locs hP hD hS => ?_)
  have hP : va_P (dC, dI) vwCl (MW cI cZ h0 q (f_Mtries u p0 p1)) H := Eq.mp (congrArg (fun w => va_P (dC, dI) vwCl w H) MW_ks) hP
  have hD : va_D A0 (MW cI cZ h0 q (f_Mtries u p0 p1)) := Eq.mp (congrArg (fun w => va_D A0 w) MW_ks) hD
  refine lv_iload_n hx hb dX5_byRunning_6 rfl (lv_at hl 3 rfl) ?_
  by_cases c_7_0 : p2 = (0 : Int32)
  · refine lv_tableIn (off := 29) (tgt := 36) hx hb dX5_byRunning_7 (by rw [c_7_0]; decide) (by rw [c_7_0]; decide) (by rw [c_7_0]; rfl) (by decide) ?_
    refine lv_aload_n hx hb dX5_byRunning_36 rfl (lv_at hl 0 rfl) ?_
    refine va_get (D := (dC, dI)) (ci := 5) (v := .ref (q 1)) (C := RX5) (T := TX5) (N := 14) hx hb hts inX5 hown hK hP 0 rfl rfl 1 (by decide) (hts (.fieldLink RX5 13 "BoardMetronomesModel" "then" "[I") (by decide +kernel)) (fun _ h9 => h9) rfl dX5_byRunning_37 ?_
    refine lv_iconst (v := (5 : Int32)) hx hb dX5_byRunning_40 (by decide) ?_
    refine k_iald (D := (dC, dI)) hx hb hK hP 2 0 rfl rfl (j := 5) (by omega) (by decide) dX5_byRunning_41 ?_
    refine lv_aload_n hx hb dX5_byRunning_42 rfl (lv_at hl 0 rfl) ?_
    refine va_get (D := (dC, dI)) (ci := 5) (v := .ref (q 0)) (C := RX5) (T := TX5) (N := 14) hx hb hts inX5 hown hK hP 0 rfl rfl 0 (by decide) (hts (.fieldLink RX5 7 "BoardMetronomesModel" "now" "[I") (by decide +kernel)) (fun _ h9 => h9) rfl dX5_byRunning_43 ?_
    refine lv_iconst (v := (5 : Int32)) hx hb dX5_byRunning_46 (by decide) ?_
    refine k_iald (D := (dC, dI)) hx hb hK hP 1 0 rfl rfl (j := 5) (by omega) (by decide) dX5_byRunning_47 ?_
    rw [f_Mtries_o (show (0 : Nat) ≠ 1 by decide)]
    refine lv_isub hx hb dX5_byRunning_48 ?_
    have r1 : f_MbyRunning u p0 p1 p2 = ((((f_Mtries u p0 p1) 1) 5) - (u 0 5), (f_Mtries u p0 p1)) := by
      rw [f_MbyRunning, if_pos c_7_0]
    exact kw_i hx hb hr hlk hP hS dX5_byRunning_49 (by rw [r1]) (by rw [r1])
  by_cases c_7_1 : p2 = (1 : Int32)
  · refine lv_tableIn (off := 43) (tgt := 50) hx hb dX5_byRunning_7 (by rw [c_7_1]; decide) (by rw [c_7_1]; decide) (by rw [c_7_1]; rfl) (by decide) ?_
    refine lv_aload_n hx hb dX5_byRunning_50 rfl (lv_at hl 0 rfl) ?_
    refine va_get (D := (dC, dI)) (ci := 5) (v := .ref (q 1)) (C := RX5) (T := TX5) (N := 14) hx hb hts inX5 hown hK hP 0 rfl rfl 1 (by decide) (hts (.fieldLink RX5 13 "BoardMetronomesModel" "then" "[I") (by decide +kernel)) (fun _ h9 => h9) rfl dX5_byRunning_51 ?_
    refine kc_s (y := yX5_order) (As := [.ref (q 1)]) (rest := []) rfl S (v := .int (f_Morder ((f_Mtries u p0 p1) 1))) (c_X5_order l dC dI cI cZ cO (q 1) ((f_Mtries u p0 p1) 1) (by rw [f_Mtries3]; exact hs)) gX5_byRunning_X5_order mi_X5_order ⟨rfl, rfl⟩ ⟨Nat.le_of_ble_eq_true rfl, Nat.le_of_ble_eq_true rfl⟩ hK (MW_p1 hP rfl) ⟨Nat.le_refl _, Nat.le_refl _⟩ dX5_byRunning_54 rfl hl.1 rfl (Nat.le_of_ble_eq_true rfl) ?_
    have r2 : f_MbyRunning u p0 p1 p2 = (f_Morder ((f_Mtries u p0 p1) 1), (f_Mtries u p0 p1)) := by
      rw [f_MbyRunning, if_neg c_7_0, if_pos c_7_1]
    exact kw_i hx hb hr hlk hP hS dX5_byRunning_57 (by rw [r2]) (by rw [r2])
  by_cases c_7_2 : p2 = (2 : Int32)
  · refine lv_tableIn (off := 51) (tgt := 58) hx hb dX5_byRunning_7 (by rw [c_7_2]; decide) (by rw [c_7_2]; decide) (by rw [c_7_2]; rfl) (by decide) ?_
    refine lv_aload_n hx hb dX5_byRunning_58 rfl (lv_at hl 0 rfl) ?_
    refine va_get (D := (dC, dI)) (ci := 5) (v := .ref (q 1)) (C := RX5) (T := TX5) (N := 14) hx hb hts inX5 hown hK hP 0 rfl rfl 1 (by decide) (hts (.fieldLink RX5 13 "BoardMetronomesModel" "then" "[I") (by decide +kernel)) (fun _ h9 => h9) rfl dX5_byRunning_59 ?_
    refine kc_s (y := yX5_greatest) (As := [.ref (q 1)]) (rest := []) rfl S (v := .int (f_Mgreatest ((f_Mtries u p0 p1) 1))) (c_X5_greatest l dC dI cI cZ cO (q 1) ((f_Mtries u p0 p1) 1)) gX5_byRunning_X5_greatest mi_X5_greatest ⟨rfl, rfl⟩ ⟨Nat.le_of_ble_eq_true rfl, Nat.le_of_ble_eq_true rfl⟩ hK (MW_p1 hP rfl) ⟨Nat.le_refl _, Nat.le_refl _⟩ dX5_byRunning_62 rfl hl.1 rfl (Nat.le_of_ble_eq_true rfl) ?_
    have r3 : f_MbyRunning u p0 p1 p2 = (f_Mgreatest ((f_Mtries u p0 p1) 1), (f_Mtries u p0 p1)) := by
      rw [f_MbyRunning, if_neg c_7_0, if_neg c_7_1, if_pos c_7_2]
    exact kw_i hx hb hr hlk hP hS dX5_byRunning_65 (by rw [r3]) (by rw [r3])
  by_cases c_7_3 : p2 = (3 : Int32)
  · refine lv_tableIn (off := 59) (tgt := 66) hx hb dX5_byRunning_7 (by rw [c_7_3]; decide) (by rw [c_7_3]; decide) (by rw [c_7_3]; rfl) (by decide) ?_
    refine lv_aload_n hx hb dX5_byRunning_66 rfl (lv_at hl 0 rfl) ?_
    refine va_get (D := (dC, dI)) (ci := 5) (v := .ref (q 1)) (C := RX5) (T := TX5) (N := 14) hx hb hts inX5 hown hK hP 0 rfl rfl 1 (by decide) (hts (.fieldLink RX5 13 "BoardMetronomesModel" "then" "[I") (by decide +kernel)) (fun _ h9 => h9) rfl dX5_byRunning_67 ?_
    refine kc_s (y := yX5_going) (As := [.ref (q 1)]) (rest := []) rfl S (v := .int (f_Mgoing ((f_Mtries u p0 p1) 1))) (c_X5_going l dC dI cI cZ cO (q 1) ((f_Mtries u p0 p1) 1) (by rw [f_Mtries3]; exact hs)) gX5_byRunning_X5_going mi_X5_going ⟨rfl, rfl⟩ ⟨Nat.le_of_ble_eq_true rfl, Nat.le_of_ble_eq_true rfl⟩ hK (MW_p1 hP rfl) ⟨Nat.le_refl _, Nat.le_refl _⟩ dX5_byRunning_70 rfl hl.1 rfl (Nat.le_of_ble_eq_true rfl) ?_
    have r4 : f_MbyRunning u p0 p1 p2 = (f_Mgoing ((f_Mtries u p0 p1) 1), (f_Mtries u p0 p1)) := by
      rw [f_MbyRunning, if_neg c_7_0, if_neg c_7_1, if_neg c_7_2, if_pos c_7_3]
    exact kw_i hx hb hr hlk hP hS dX5_byRunning_73 (by rw [r4]) (by rw [r4])
  refine lv_tableOut (tgt := 74) hx hb dX5_byRunning_7 (by have e_0 := lv_neT c_7_0 (a := 0) (by decide); have e_1 := lv_neT c_7_1 (a := 1) (by decide); have e_2 := lv_neT c_7_2 (a := 2) (by decide); have e_3 := lv_neT c_7_3 (a := 3) (by decide); omega) (by decide) ?_
  refine lv_aload_n hx hb dX5_byRunning_74 rfl (lv_at hl 0 rfl) ?_
  refine va_get (D := (dC, dI)) (ci := 5) (v := .ref (q 1)) (C := RX5) (T := TX5) (N := 14) hx hb hts inX5 hown hK hP 0 rfl rfl 1 (by decide) (hts (.fieldLink RX5 13 "BoardMetronomesModel" "then" "[I") (by decide +kernel)) (fun _ h9 => h9) rfl dX5_byRunning_75 ?_
  refine lv_bipush (v := (6 : Int32)) hx hb dX5_byRunning_78 (by decide) ?_
  refine k_iald (D := (dC, dI)) hx hb hK hP 2 0 rfl rfl (j := 6) (by omega) (by decide) dX5_byRunning_80 ?_
  refine lv_aload_n hx hb dX5_byRunning_81 rfl (lv_at hl 0 rfl) ?_
  refine va_get (D := (dC, dI)) (ci := 5) (v := .ref (q 0)) (C := RX5) (T := TX5) (N := 14) hx hb hts inX5 hown hK hP 0 rfl rfl 0 (by decide) (hts (.fieldLink RX5 7 "BoardMetronomesModel" "now" "[I") (by decide +kernel)) (fun _ h9 => h9) rfl dX5_byRunning_82 ?_
  refine lv_bipush (v := (6 : Int32)) hx hb dX5_byRunning_85 (by decide) ?_
  refine k_iald (D := (dC, dI)) hx hb hK hP 1 0 rfl rfl (j := 6) (by omega) (by decide) dX5_byRunning_87 ?_
  rw [f_Mtries_o (show (0 : Nat) ≠ 1 by decide)]
  refine lv_isub hx hb dX5_byRunning_88 ?_
  have r5 : f_MbyRunning u p0 p1 p2 = ((((f_Mtries u p0 p1) 1) 6) - (u 0 6), (f_Mtries u p0 p1)) := by
    rw [f_MbyRunning, if_neg c_7_0, if_neg c_7_1, if_neg c_7_2, if_neg c_7_3]
  exact kw_i hx hb hr hlk hP hS dX5_byRunning_89 (by rw [r5]) (by rw [r5])

def rm_X5_ifRun : Room := { frames := 7, cells := 0, slots := 0, locals := 161 }
theorem mi_X5_ifRun : kM yX5_ifRun wsX5_ifRun cX5_ifRun 4 (some .int) 3 := ⟨⟨_, rfl⟩, by decide, by decide, by decide +kernel⟩
def f_MifRun (u : BS) (p0 : Int32) (p1 : Int32) (p2 : Int32) : Int32 × BS := if (f_Min p0 (1 : Int32) (500 : Int32)) = true then (if (f_Min p1 (0 : Int32) (99 : Int32)) = true then (if (f_Min p2 (0 : Int32) (4 : Int32)) = true then ((f_MbyRunning (upA u 8 0 (0 : Int32)) p0 p1 p2).1, (f_MbyRunning (upA u 8 0 (0 : Int32)) p0 p1 p2).2) else ((f_Mfails (upA u 8 0 (0 : Int32)) (1 : Int32)).1, (f_Mfails (upA u 8 0 (0 : Int32)) (1 : Int32)).2)) else ((f_Mfails (upA u 8 0 (0 : Int32)) (1 : Int32)).1, (f_Mfails (upA u 8 0 (0 : Int32)) (1 : Int32)).2)) else ((f_Mfails (upA u 8 0 (0 : Int32)) (1 : Int32)).1, (f_Mfails (upA u 8 0 (0 : Int32)) (1 : Int32)).2)
set_option maxHeartbeats 1000000 in
set_option maxRecDepth 100000 in
theorem c_X5_ifRun (l : Launch) (dC : Nat → ClassId) (dI : Nat → Nat → Nat) (cI cZ cO : ClassId) (h0 : Nat) (q : Nat → Nat) (u : BS) (p0 : Int32) (p1 : Int32) (p2 : Int32) (sz : Nat) (hs : vp_in (u 0 3) 7) : Met l yX5_ifRun wsX5_ifRun rm_X5_ifRun (va_Pc [.ref h0, .int p0, .int p1, .int p2] (fun U => U.heap.size = sz ∧ va_P (dC, dI) vwCl (MW cI cZ h0 q u) U.heap ∧ va_K (dC, dI) vwCl (TY cI cZ cO) U ∧ va_D (fun _ => True) (MW cI cZ h0 q u))) (kQw (some (.int (f_MifRun u p0 p1 p2).1)) (dC, dI) vwCl (MW cI cZ h0 q ((f_MifRun u p0 p1 p2).2)) (va_A (MW cI cZ h0 q u) sz)) 0 0 (va_A (MW cI cZ h0 q u) sz) := by
  refine kofW (cc := cX5_ifRun) (maxL := 4) (ret := some .int) (by decide) rfl (Nat.le_of_ble_eq_true rfl) ?_
  intro p e s m args below meth c ls S hr hlk hnm hsz hP hK hD hS hA hl
  generalize hA0 : va_A (MW cI cZ h0 q u) sz = A0 at hD hS hA ⊢
  subst hsz
  obtain ⟨hx, hb, hml, hown, hts⟩ := id S
  have hs_n : (u 0 3).toNatClampNeg < 7 := vp_lt hs
  have inX5 : ∀ w ∈ wsX50, w ∈ wsX5_ifRun := fun w h => List.mem_cons_of_mem _ (List.mem_append_right _ h)
  have hl : lv_has ls 4 [(0, .ref h0), (1, .int p0), (2, .int p1), (3, .int p2)] := hl
  refine lv_aload_n hx hb dX5_ifRun_0 rfl (lv_at hl 0 rfl) ?_
  refine lv_iconst (v := (0 : Int32)) hx hb dX5_ifRun_1 (by decide) ?_
  refine va_put (D := (dC, dI)) (ci := 5) (v := .int (0 : Int32)) (ty := .int) (C := RX5) (T := TX5) (N := 14) hx hb hts inX5 tyX5 tyX5_ok nmX5 hown hK hP hD hS 0 rfl rfl 8 (by decide) (hts (.fieldLink RX5 32 "BoardMetronomesModel" "thrown" "I") (by decide +kernel)) (fun _ h9 => h9) rfl (by decide +kernel) rfl rfl (Nat.le_of_ble_eq_true rfl) dX5_ifRun_2 (fun H locs hP hD hS => ?_)
  have hP : va_P (dC, dI) vwCl (MW cI cZ h0 q (upA u 8 0 (0 : Int32))) H := Eq.mp (congrArg (fun w => va_P (dC, dI) vwCl w H) MW_s8) hP
  have hD : va_D A0 (MW cI cZ h0 q (upA u 8 0 (0 : Int32))) := Eq.mp (congrArg (fun w => va_D A0 w) MW_s8) hD
  refine lv_iload_n hx hb dX5_ifRun_5 rfl (lv_at hl 1 rfl) ?_
  refine lv_iconst (v := (1 : Int32)) hx hb dX5_ifRun_6 (by decide) ?_
  refine lv_sipush (v := (500 : Int32)) hx hb dX5_ifRun_7 (by decide) ?_
  refine kc_p (y := yX5_in) (As := [.int p0, .int (1 : Int32), .int (500 : Int32)]) (rest := []) rfl S (v := .int (bI (f_Min p0 (1 : Int32) (500 : Int32)))) (c_X5_in l p0 (1 : Int32) (500 : Int32)) gX5_ifRun_X5_in mi_X5_in ⟨rfl, rfl⟩ ⟨Nat.le_of_ble_eq_true rfl, Nat.le_of_ble_eq_true rfl⟩ ⟨Nat.le_refl _, Nat.le_refl _⟩ dX5_ifRun_10 rfl hl.1 rfl (Nat.le_of_ble_eq_true rfl) ?_
  refine kb_eq (tgt := 45) hx hb dX5_ifRun_13 (by decide) (fun c_13 => ?_) (fun c_13 => ?_)
  · refine lv_aload_n hx hb dX5_ifRun_45 rfl (lv_at hl 0 rfl) ?_
    refine lv_iconst (v := (1 : Int32)) hx hb dX5_ifRun_46 (by decide) ?_
    refine kc_w (As := [.int (1 : Int32)]) (rest := []) S (v := (some (.int ((f_Mfails (upA u 8 0 (0 : Int32)) (1 : Int32)).1)))) (c_X5_fails l dC dI cI cZ cO h0 q (upA u 8 0 (0 : Int32)) (1 : Int32) H.size) gX5_ifRun_X5_fails mi_X5_fails ⟨rfl, rfl⟩ ⟨Nat.le_of_ble_eq_true rfl, Nat.le_of_ble_eq_true rfl⟩ hK hP hD hS hA [0, 1, 2, 3, 4, 5, 6, 7] MW_all MW_fst rfl 0 rfl rfl ⟨Nat.le_refl _, Nat.le_refl _⟩ dX5_ifRun_47 rfl hl.1 rfl (Nat.le_of_ble_eq_true rfl) (fun H locs hP hD hS => ?_)
    have hP : va_P (dC, dI) vwCl (MW cI cZ h0 q ((f_Mfails (upA u 8 0 (0 : Int32)) (1 : Int32)).2)) H := Eq.mp (congrArg (fun w => va_P (dC, dI) vwCl w H) MW_ks) hP
    have hD : va_D A0 (MW cI cZ h0 q ((f_Mfails (upA u 8 0 (0 : Int32)) (1 : Int32)).2)) := Eq.mp (congrArg (fun w => va_D A0 w) MW_ks) hD
    have r1 : f_MifRun u p0 p1 p2 = ((f_Mfails (upA u 8 0 (0 : Int32)) (1 : Int32)).1, (f_Mfails (upA u 8 0 (0 : Int32)) (1 : Int32)).2) := by
      rw [f_MifRun, if_neg c_13]
    exact kw_i hx hb hr hlk hP hS dX5_ifRun_50 (by rw [r1]) (by rw [r1])
  · refine lv_iload_n hx hb dX5_ifRun_16 rfl (lv_at hl 2 rfl) ?_
    refine lv_iconst (v := (0 : Int32)) hx hb dX5_ifRun_17 (by decide) ?_
    refine lv_bipush (v := (99 : Int32)) hx hb dX5_ifRun_18 (by decide) ?_
    refine kc_p (y := yX5_in) (As := [.int p1, .int (0 : Int32), .int (99 : Int32)]) (rest := []) rfl S (v := .int (bI (f_Min p1 (0 : Int32) (99 : Int32)))) (c_X5_in l p1 (0 : Int32) (99 : Int32)) gX5_ifRun_X5_in mi_X5_in ⟨rfl, rfl⟩ ⟨Nat.le_of_ble_eq_true rfl, Nat.le_of_ble_eq_true rfl⟩ ⟨Nat.le_refl _, Nat.le_refl _⟩ dX5_ifRun_20 rfl hl.1 rfl (Nat.le_of_ble_eq_true rfl) ?_
    refine kb_eq (tgt := 45) hx hb dX5_ifRun_23 (by decide) (fun c_23 => ?_) (fun c_23 => ?_)
    · refine lv_aload_n hx hb dX5_ifRun_45 rfl (lv_at hl 0 rfl) ?_
      refine lv_iconst (v := (1 : Int32)) hx hb dX5_ifRun_46 (by decide) ?_
      refine kc_w (As := [.int (1 : Int32)]) (rest := []) S (v := (some (.int ((f_Mfails (upA u 8 0 (0 : Int32)) (1 : Int32)).1)))) (c_X5_fails l dC dI cI cZ cO h0 q (upA u 8 0 (0 : Int32)) (1 : Int32) H.size) gX5_ifRun_X5_fails mi_X5_fails ⟨rfl, rfl⟩ ⟨Nat.le_of_ble_eq_true rfl, Nat.le_of_ble_eq_true rfl⟩ hK hP hD hS hA [0, 1, 2, 3, 4, 5, 6, 7] MW_all MW_fst rfl 0 rfl rfl ⟨Nat.le_refl _, Nat.le_refl _⟩ dX5_ifRun_47 rfl hl.1 rfl (Nat.le_of_ble_eq_true rfl) (fun H locs hP hD hS => ?_)
      have hP : va_P (dC, dI) vwCl (MW cI cZ h0 q ((f_Mfails (upA u 8 0 (0 : Int32)) (1 : Int32)).2)) H := Eq.mp (congrArg (fun w => va_P (dC, dI) vwCl w H) MW_ks) hP
      have hD : va_D A0 (MW cI cZ h0 q ((f_Mfails (upA u 8 0 (0 : Int32)) (1 : Int32)).2)) := Eq.mp (congrArg (fun w => va_D A0 w) MW_ks) hD
      have r2 : f_MifRun u p0 p1 p2 = ((f_Mfails (upA u 8 0 (0 : Int32)) (1 : Int32)).1, (f_Mfails (upA u 8 0 (0 : Int32)) (1 : Int32)).2) := by
        rw [f_MifRun, if_pos c_13, if_neg c_23]
      exact kw_i hx hb hr hlk hP hS dX5_ifRun_50 (by rw [r2]) (by rw [r2])
    · refine lv_iload_n hx hb dX5_ifRun_26 rfl (lv_at hl 3 rfl) ?_
      refine lv_iconst (v := (0 : Int32)) hx hb dX5_ifRun_27 (by decide) ?_
      refine lv_iconst (v := (4 : Int32)) hx hb dX5_ifRun_28 (by decide) ?_
      refine kc_p (y := yX5_in) (As := [.int p2, .int (0 : Int32), .int (4 : Int32)]) (rest := []) rfl S (v := .int (bI (f_Min p2 (0 : Int32) (4 : Int32)))) (c_X5_in l p2 (0 : Int32) (4 : Int32)) gX5_ifRun_X5_in mi_X5_in ⟨rfl, rfl⟩ ⟨Nat.le_of_ble_eq_true rfl, Nat.le_of_ble_eq_true rfl⟩ ⟨Nat.le_refl _, Nat.le_refl _⟩ dX5_ifRun_29 rfl hl.1 rfl (Nat.le_of_ble_eq_true rfl) ?_
      refine kb_eq (tgt := 45) hx hb dX5_ifRun_32 (by decide) (fun c_32 => ?_) (fun c_32 => ?_)
      · refine lv_aload_n hx hb dX5_ifRun_45 rfl (lv_at hl 0 rfl) ?_
        refine lv_iconst (v := (1 : Int32)) hx hb dX5_ifRun_46 (by decide) ?_
        refine kc_w (As := [.int (1 : Int32)]) (rest := []) S (v := (some (.int ((f_Mfails (upA u 8 0 (0 : Int32)) (1 : Int32)).1)))) (c_X5_fails l dC dI cI cZ cO h0 q (upA u 8 0 (0 : Int32)) (1 : Int32) H.size) gX5_ifRun_X5_fails mi_X5_fails ⟨rfl, rfl⟩ ⟨Nat.le_of_ble_eq_true rfl, Nat.le_of_ble_eq_true rfl⟩ hK hP hD hS hA [0, 1, 2, 3, 4, 5, 6, 7] MW_all MW_fst rfl 0 rfl rfl ⟨Nat.le_refl _, Nat.le_refl _⟩ dX5_ifRun_47 rfl hl.1 rfl (Nat.le_of_ble_eq_true rfl) (fun H locs hP hD hS => ?_)
        have hP : va_P (dC, dI) vwCl (MW cI cZ h0 q ((f_Mfails (upA u 8 0 (0 : Int32)) (1 : Int32)).2)) H := Eq.mp (congrArg (fun w => va_P (dC, dI) vwCl w H) MW_ks) hP
        have hD : va_D A0 (MW cI cZ h0 q ((f_Mfails (upA u 8 0 (0 : Int32)) (1 : Int32)).2)) := Eq.mp (congrArg (fun w => va_D A0 w) MW_ks) hD
        have r3 : f_MifRun u p0 p1 p2 = ((f_Mfails (upA u 8 0 (0 : Int32)) (1 : Int32)).1, (f_Mfails (upA u 8 0 (0 : Int32)) (1 : Int32)).2) := by
          rw [f_MifRun, if_pos c_13, if_pos c_23, if_neg c_32]
        exact kw_i hx hb hr hlk hP hS dX5_ifRun_50 (by rw [r3]) (by rw [r3])
      · refine lv_aload_n hx hb dX5_ifRun_35 rfl (lv_at hl 0 rfl) ?_
        refine lv_iload_n hx hb dX5_ifRun_36 rfl (lv_at hl 1 rfl) ?_
        refine lv_iload_n hx hb dX5_ifRun_37 rfl (lv_at hl 2 rfl) ?_
        refine lv_iload_n hx hb dX5_ifRun_38 rfl (lv_at hl 3 rfl) ?_
        refine kc_w (As := [.int p0, .int p1, .int p2]) (rest := []) S (v := (some (.int ((f_MbyRunning (upA u 8 0 (0 : Int32)) p0 p1 p2).1)))) (c_X5_byRunning l dC dI cI cZ cO h0 q (upA u 8 0 (0 : Int32)) p0 p1 p2 H.size (by rw [upA_o (show (0 : Nat) ≠ 8 by decide)]; exact hs)) gX5_ifRun_X5_byRunning mi_X5_byRunning ⟨rfl, rfl⟩ ⟨Nat.le_of_ble_eq_true rfl, Nat.le_of_ble_eq_true rfl⟩ hK hP hD hS hA [0, 1, 2, 3, 4, 5, 6, 7] MW_all MW_fst rfl 0 rfl rfl ⟨Nat.le_refl _, Nat.le_refl _⟩ dX5_ifRun_39 rfl hl.1 rfl (Nat.le_of_ble_eq_true rfl) (fun H locs hP hD hS => ?_)
        have hP : va_P (dC, dI) vwCl (MW cI cZ h0 q ((f_MbyRunning (upA u 8 0 (0 : Int32)) p0 p1 p2).2)) H := Eq.mp (congrArg (fun w => va_P (dC, dI) vwCl w H) MW_ks) hP
        have hD : va_D A0 (MW cI cZ h0 q ((f_MbyRunning (upA u 8 0 (0 : Int32)) p0 p1 p2).2)) := Eq.mp (congrArg (fun w => va_D A0 w) MW_ks) hD
        refine lv_goto (tgt := 50) hx hb dX5_ifRun_42 (by decide) ?_
        have r4 : f_MifRun u p0 p1 p2 = ((f_MbyRunning (upA u 8 0 (0 : Int32)) p0 p1 p2).1, (f_MbyRunning (upA u 8 0 (0 : Int32)) p0 p1 p2).2) := by
          rw [f_MifRun, if_pos c_13, if_pos c_23, if_pos c_32]
        exact kw_i hx hb hr hlk hP hS dX5_ifRun_50 (by rw [r4]) (by rw [r4])

def rm_X5_until : Room := { frames := 5, cells := 0, slots := 0, locals := 110 }
theorem mi_X5_until : kM yX5_until wsX5_until cX5_until 3 (some .int) 1 := ⟨⟨_, rfl⟩, by decide, by decide, by decide +kernel⟩
def f_Muntil_R15 (u : BS) (p0 : Int32) : Nat → Nat → BS → Int32 × BS
  | 0, j15_, y15_0 => ((-1 : Int32), y15_0)
  | n + 1, j15_, y15_0 => if p0 = (-1 : Int32) then (if (f_MareInStep (y15_0 1)) = true then (nI j15_, y15_0) else f_Muntil_R15 u p0 n (j15_ + 1) (upR y15_0 1 (f_Mstep (y15_0 1)))) else if (f_Mgoes (y15_0 1) p0.toNatClampNeg) = true then (f_Muntil_R15 u p0 n (j15_ + 1) (upR y15_0 1 (f_Mstep (y15_0 1)))) else (nI j15_, y15_0)
def f_Muntil (u : BS) (p0 : Int32) : Int32 × BS := f_Muntil_R15 u p0 501 0 (upR u 1 (f_Mcopies (u 0) (u 1) 0 0))
set_option maxHeartbeats 1000000 in
set_option maxRecDepth 100000 in
theorem c_X5_until (l : Launch) (dC : Nat → ClassId) (dI : Nat → Nat → Nat) (cI cZ cO : ClassId) (h0 : Nat) (q : Nat → Nat) (u : BS) (p0 : Int32) (sz : Nat) (hs : vp_in (u 0 3) 7) (hp : p0 = (-1 : Int32) ∨ vp_in p0 6) : Met l yX5_until wsX5_until rm_X5_until (va_Pc [.ref h0, .int p0] (fun U => U.heap.size = sz ∧ va_P (dC, dI) vwCl (MW cI cZ h0 q u) U.heap ∧ va_K (dC, dI) vwCl (TY cI cZ cO) U ∧ va_D (fun _ => True) (MW cI cZ h0 q u))) (kQw (some (.int (f_Muntil u p0).1)) (dC, dI) vwCl (MW cI cZ h0 q ((f_Muntil u p0).2)) (va_A (MW cI cZ h0 q u) sz)) 0 0 (va_A (MW cI cZ h0 q u) sz) := by
  refine kofW (cc := cX5_until) (maxL := 3) (ret := some .int) (by decide) rfl (Nat.le_of_ble_eq_true rfl) ?_
  intro p e s m args below meth c ls S hr hlk hnm hsz hP hK hD hS hA hl
  generalize hA0 : va_A (MW cI cZ h0 q u) sz = A0 at hD hS hA ⊢
  subst hsz
  obtain ⟨hx, hb, hml, hown, hts⟩ := id S
  have hs_n : (u 0 3).toNatClampNeg < 7 := vp_lt hs
  have inX5 : ∀ w ∈ wsX50, w ∈ wsX5_until := fun w h => List.mem_cons_of_mem _ (List.mem_append_right _ h)
  have hl : lv_has ls 3 [(0, .ref h0), (1, .int p0)] := hl
  refine lv_aload_n hx hb dX5_until_0 rfl (lv_at hl 0 rfl) ?_
  refine va_get (D := (dC, dI)) (ci := 5) (v := .ref (q 0)) (C := RX5) (T := TX5) (N := 14) hx hb hts inX5 hown hK hP 0 rfl rfl 0 (by decide) (hts (.fieldLink RX5 7 "BoardMetronomesModel" "now" "[I") (by decide +kernel)) (fun _ h9 => h9) rfl dX5_until_1 ?_
  refine lv_iconst (v := (0 : Int32)) hx hb dX5_until_4 (by decide) ?_
  refine lv_aload_n hx hb dX5_until_5 rfl (lv_at hl 0 rfl) ?_
  refine va_get (D := (dC, dI)) (ci := 5) (v := .ref (q 1)) (C := RX5) (T := TX5) (N := 14) hx hb hts inX5 hown hK hP 0 rfl rfl 1 (by decide) (hts (.fieldLink RX5 13 "BoardMetronomesModel" "then" "[I") (by decide +kernel)) (fun _ h9 => h9) rfl dX5_until_6 ?_
  refine lv_iconst (v := (0 : Int32)) hx hb dX5_until_9 (by decide) ?_
  refine kc_sw (y := yX5_copies) (As := [.ref (q 0), .int (nI 0), .ref (q 1), .int (nI 0)]) (rest := []) rfl S (v := none) (c_X5_copies l dC dI cI cZ cO 39 39 (q 0) (q 1) (u 0) (u 1) 0 0 s.heap.size (by omega) (by omega) (by decide) (by decide)) gX5_until_X5_copies mi_X5_copies ⟨rfl, rfl⟩ ⟨Nat.le_of_ble_eq_true rfl, Nat.le_of_ble_eq_true rfl⟩ hK hP hD hS hA [1, 2] (MW_allc0_1 rfl rfl) AW2_fst rfl ⟨Nat.le_refl _, Nat.le_refl _⟩ dX5_until_10 rfl hl.1 rfl (Nat.le_of_ble_eq_true rfl) (fun H locs hP hD hS => ?_)
  have hP : va_P (dC, dI) vwCl (MW cI cZ h0 q (upR u 1 (f_Mcopies (u 0) (u 1) 0 0))) H := Eq.mp (congrArg (fun w => va_P (dC, dI) vwCl w H) (MW_c0_1 rfl)) hP
  have hD : va_D A0 (MW cI cZ h0 q (upR u 1 (f_Mcopies (u 0) (u 1) 0 0))) := Eq.mp (congrArg (fun w => va_D A0 w) (MW_c0_1 rfl)) hD
  refine lv_iconst (v := (0 : Int32)) hx hb dX5_until_13 (by decide) ?_
  refine lv_istore_n (lv' := [(2, .int (0 : Int32)), (0, .ref h0), (1, .int p0)]) hx hb dX5_until_14 rfl hl (by decide) rfl (fun ls hl => ?_)
  have L1 : ∀ (n j15_ : Nat), j15_ + n = 501 → ∀ (y15_0 : BS), vp_in (y15_0 1 3) 7 → f_Muntil u p0 = f_Muntil_R15 u p0 n j15_ y15_0 → ∀ (H : Heap) (locs : List Loc) (ls : Array Slot), va_P (dC, dI) vwCl (MW cI cZ h0 q y15_0) H → va_D A0 (MW cI cZ h0 q y15_0) → va_S A0 s.heap H locs → lv_has ls 3 [(0, .ref h0), (1, .int p0), (2, .int (nI j15_))] → W p l e rm_X5_until s m args below meth c H locs 0 0 (MQ below (kQw (some (.int (f_Muntil u p0).1)) (dC, dI) vwCl (MW cI cZ h0 q ((f_Muntil u p0).2)) A0) args s 0 0 A0) (F0 m 15 ls []) := by
    intro n
    induction n with
    | zero =>
      intro j15_ hj1 y15_0 hinv hv1 H locs ls hP hD hS hl
      refine lv_iload_n hx hb dX5_until_15 rfl (lv_at hl 2 rfl) ?_
      refine lv_sipush (v := (500 : Int32)) hx hb dX5_until_16 (by decide) ?_
      refine lv_icmp_gt (tgt := 66) hx hb dX5_until_19 (by decide) (fun c_19 => ?_) (fun c_19 => ?_)
      · refine lv_iconst (v := (-1 : Int32)) hx hb dX5_until_66 (by decide) ?_
        have r2 : f_Muntil u p0 = ((-1 : Int32), y15_0) := by
          rw [hv1, f_Muntil_R15]
        exact kw_i hx hb hr hlk hP hS dX5_until_67 (by rw [r2]) (by rw [r2])
      · exact absurd (nI_lt (a := 500) (by omega) (by omega)) c_19
    | succ n ih1 =>
      intro j15_ hj1 y15_0 hinv hv1 H locs ls hP hD hS hl
      refine lv_iload_n hx hb dX5_until_15 rfl (lv_at hl 2 rfl) ?_
      refine lv_sipush (v := (500 : Int32)) hx hb dX5_until_16 (by decide) ?_
      refine lv_icmp_gt (tgt := 66) hx hb dX5_until_19 (by decide) (fun c_19 => ?_) (fun c_19 => ?_)
      · exact absurd c_19 (nI_nlt (a := 500) (by omega) (by decide))
      · refine lv_iload_n hx hb dX5_until_22 rfl (lv_at hl 1 rfl) ?_
        refine lv_iconst (v := (-1 : Int32)) hx hb dX5_until_23 (by decide) ?_
        refine lv_icmp_ne (tgt := 40) hx hb dX5_until_24 (by decide) (fun c_24 => ?_) (fun c_24 => ?_)
        · refine lv_aload_n hx hb dX5_until_40 rfl (lv_at hl 0 rfl) ?_
          refine va_get (D := (dC, dI)) (ci := 5) (v := .ref (q 1)) (C := RX5) (T := TX5) (N := 14) hx hb hts inX5 hown hK hP 0 rfl rfl 1 (by decide) (hts (.fieldLink RX5 13 "BoardMetronomesModel" "then" "[I") (by decide +kernel)) (fun _ h9 => h9) rfl dX5_until_41 ?_
          refine lv_iload_n hx hb dX5_until_44 rfl (lv_at hl 1 rfl) ?_
          refine kc_s (y := yX5_goes) (As := [.ref (q 1), .int (nI p0.toNatClampNeg)]) (rest := []) rfl S (v := .int (bI (f_Mgoes (y15_0 1) p0.toNatClampNeg))) (c_X5_goes l dC dI cI cZ cO (q 1) (y15_0 1) p0.toNatClampNeg (vp_lt (hp.resolve_left c_24))) gX5_until_X5_goes mi_X5_goes ⟨rfl, rfl⟩ ⟨Nat.le_of_ble_eq_true rfl, Nat.le_of_ble_eq_true rfl⟩ hK (MW_p1 hP rfl) ⟨Nat.le_refl _, Nat.le_refl _⟩ dX5_until_45 rfl hl.1 (by rw [kcl (hp.resolve_left c_24)]; rfl) (Nat.le_of_ble_eq_true rfl) ?_
          refine kb_ne (tgt := 53) hx hb dX5_until_48 (by decide) (fun c_48 => ?_) (fun c_48 => ?_)
          · refine lv_aload_n hx hb dX5_until_53 rfl (lv_at hl 0 rfl) ?_
            refine va_get (D := (dC, dI)) (ci := 5) (v := .ref (q 1)) (C := RX5) (T := TX5) (N := 14) hx hb hts inX5 hown hK hP 0 rfl rfl 1 (by decide) (hts (.fieldLink RX5 13 "BoardMetronomesModel" "then" "[I") (by decide +kernel)) (fun _ h9 => h9) rfl dX5_until_54 ?_
            refine kc_sw (y := yX5_step) (As := [.ref (q 1)]) (rest := []) rfl S (v := none) (c_X5_step l dC dI cI cZ cO (q 1) (y15_0 1) H.size hinv) gX5_until_X5_step mi_X5_step ⟨rfl, rfl⟩ ⟨Nat.le_of_ble_eq_true rfl, Nat.le_of_ble_eq_true rfl⟩ hK hP hD hS hA [2] (MW_all1 rfl) AW_fst rfl ⟨Nat.le_refl _, Nat.le_refl _⟩ dX5_until_57 rfl hl.1 rfl (Nat.le_of_ble_eq_true rfl) (fun H locs hP hD hS => ?_)
            have hP : va_P (dC, dI) vwCl (MW cI cZ h0 q (upR y15_0 1 (f_Mstep (y15_0 1)))) H := Eq.mp (congrArg (fun w => va_P (dC, dI) vwCl w H) MW_r1) hP
            have hD : va_D A0 (MW cI cZ h0 q (upR y15_0 1 (f_Mstep (y15_0 1)))) := Eq.mp (congrArg (fun w => va_D A0 w) MW_r1) hD
            refine lv_iinc (v := nI (j15_ + 1)) (lv' := [(2, .int (nI (j15_ + 1))), (0, .ref h0), (1, .int p0)]) hx hb dX5_until_60 hl (k := 2) rfl (nI_add j15_ 1) (by decide) rfl (fun ls hl => ?_)
            refine lv_goto (tgt := 15) hx hb dX5_until_63 (by decide) ?_
            exact ih1 (j15_ + 1) (by omega) (upR y15_0 1 (f_Mstep (y15_0 1))) (by rw [upR_s, f_Mstep3]; exact hinv) (by rw [hv1, f_Muntil_R15, if_neg c_24, if_pos c_48]) H locs ls hP hD hS (lv_sub hl [1, 2, 0] rfl)
          · refine lv_iload_n hx hb dX5_until_51 rfl (lv_at hl 2 rfl) ?_
            have r3 : f_Muntil u p0 = (nI j15_, y15_0) := by
              rw [hv1, f_Muntil_R15, if_neg c_24, if_neg c_48]
            exact kw_i hx hb hr hlk hP hS dX5_until_52 (by rw [r3]) (by rw [r3])
        · refine lv_aload_n hx hb dX5_until_27 rfl (lv_at hl 0 rfl) ?_
          refine va_get (D := (dC, dI)) (ci := 5) (v := .ref (q 1)) (C := RX5) (T := TX5) (N := 14) hx hb hts inX5 hown hK hP 0 rfl rfl 1 (by decide) (hts (.fieldLink RX5 13 "BoardMetronomesModel" "then" "[I") (by decide +kernel)) (fun _ h9 => h9) rfl dX5_until_28 ?_
          refine kc_s (y := yX5_areInStep) (As := [.ref (q 1)]) (rest := []) rfl S (v := .int (bI (f_MareInStep (y15_0 1)))) (c_X5_areInStep l dC dI cI cZ cO (q 1) (y15_0 1)) gX5_until_X5_areInStep mi_X5_areInStep ⟨rfl, rfl⟩ ⟨Nat.le_of_ble_eq_true rfl, Nat.le_of_ble_eq_true rfl⟩ hK (MW_p1 hP rfl) ⟨Nat.le_refl _, Nat.le_refl _⟩ dX5_until_31 rfl hl.1 rfl (Nat.le_of_ble_eq_true rfl) ?_
          refine kb_eq (tgt := 53) hx hb dX5_until_34 (by decide) (fun c_34 => ?_) (fun c_34 => ?_)
          · refine lv_aload_n hx hb dX5_until_53 rfl (lv_at hl 0 rfl) ?_
            refine va_get (D := (dC, dI)) (ci := 5) (v := .ref (q 1)) (C := RX5) (T := TX5) (N := 14) hx hb hts inX5 hown hK hP 0 rfl rfl 1 (by decide) (hts (.fieldLink RX5 13 "BoardMetronomesModel" "then" "[I") (by decide +kernel)) (fun _ h9 => h9) rfl dX5_until_54 ?_
            refine kc_sw (y := yX5_step) (As := [.ref (q 1)]) (rest := []) rfl S (v := none) (c_X5_step l dC dI cI cZ cO (q 1) (y15_0 1) H.size hinv) gX5_until_X5_step mi_X5_step ⟨rfl, rfl⟩ ⟨Nat.le_of_ble_eq_true rfl, Nat.le_of_ble_eq_true rfl⟩ hK hP hD hS hA [2] (MW_all1 rfl) AW_fst rfl ⟨Nat.le_refl _, Nat.le_refl _⟩ dX5_until_57 rfl hl.1 rfl (Nat.le_of_ble_eq_true rfl) (fun H locs hP hD hS => ?_)
            have hP : va_P (dC, dI) vwCl (MW cI cZ h0 q (upR y15_0 1 (f_Mstep (y15_0 1)))) H := Eq.mp (congrArg (fun w => va_P (dC, dI) vwCl w H) MW_r1) hP
            have hD : va_D A0 (MW cI cZ h0 q (upR y15_0 1 (f_Mstep (y15_0 1)))) := Eq.mp (congrArg (fun w => va_D A0 w) MW_r1) hD
            refine lv_iinc (v := nI (j15_ + 1)) (lv' := [(2, .int (nI (j15_ + 1))), (0, .ref h0), (1, .int p0)]) hx hb dX5_until_60 hl (k := 2) rfl (nI_add j15_ 1) (by decide) rfl (fun ls hl => ?_)
            refine lv_goto (tgt := 15) hx hb dX5_until_63 (by decide) ?_
            exact ih1 (j15_ + 1) (by omega) (upR y15_0 1 (f_Mstep (y15_0 1))) (by rw [upR_s, f_Mstep3]; exact hinv) (by rw [hv1, f_Muntil_R15, if_pos c_24, if_neg c_34]) H locs ls hP hD hS (lv_sub hl [1, 2, 0] rfl)
          · refine lv_goto (tgt := 51) hx hb dX5_until_37 (by decide) ?_
            refine lv_iload_n hx hb dX5_until_51 rfl (lv_at hl 2 rfl) ?_
            have r4 : f_Muntil u p0 = (nI j15_, y15_0) := by
              rw [hv1, f_Muntil_R15, if_pos c_24, if_pos c_34]
            exact kw_i hx hb hr hlk hP hS dX5_until_52 (by rw [r4]) (by rw [r4])
  exact L1 501 0 (by omega) (upR u 1 (f_Mcopies (u 0) (u 1) 0 0)) (by rw [upR_s, f_Mcop3]; exact hs) (by rw [f_Muntil]) H locs ls hP hD hS (lv_sub hl [1, 2, 0] rfl)

def rm_X5_untilStep : Room := { frames := 6, cells := 0, slots := 0, locals := 132 }
theorem mi_X5_untilStep : kM yX5_untilStep wsX5_untilStep cX5_untilStep 1 (some .int) 0 := ⟨⟨_, rfl⟩, by decide, by decide, by decide +kernel⟩
def f_MuntilStep (u : BS) : Int32 × BS := ((f_Muntil (upA u 8 0 (0 : Int32)) (-1 : Int32)).1, (f_Muntil (upA u 8 0 (0 : Int32)) (-1 : Int32)).2)
set_option maxHeartbeats 1000000 in
set_option maxRecDepth 100000 in
theorem c_X5_untilStep (l : Launch) (dC : Nat → ClassId) (dI : Nat → Nat → Nat) (cI cZ cO : ClassId) (h0 : Nat) (q : Nat → Nat) (u : BS) (sz : Nat) (hs : vp_in (u 0 3) 7) : Met l yX5_untilStep wsX5_untilStep rm_X5_untilStep (va_Pc [.ref h0] (fun U => U.heap.size = sz ∧ va_P (dC, dI) vwCl (MW cI cZ h0 q u) U.heap ∧ va_K (dC, dI) vwCl (TY cI cZ cO) U ∧ va_D (fun _ => True) (MW cI cZ h0 q u))) (kQw (some (.int (f_MuntilStep u).1)) (dC, dI) vwCl (MW cI cZ h0 q ((f_MuntilStep u).2)) (va_A (MW cI cZ h0 q u) sz)) 0 0 (va_A (MW cI cZ h0 q u) sz) := by
  refine kofW (cc := cX5_untilStep) (maxL := 1) (ret := some .int) (by decide) rfl (Nat.le_of_ble_eq_true rfl) ?_
  intro p e s m args below meth c ls S hr hlk hnm hsz hP hK hD hS hA hl
  generalize hA0 : va_A (MW cI cZ h0 q u) sz = A0 at hD hS hA ⊢
  subst hsz
  obtain ⟨hx, hb, hml, hown, hts⟩ := id S
  have hs_n : (u 0 3).toNatClampNeg < 7 := vp_lt hs
  have inX5 : ∀ w ∈ wsX50, w ∈ wsX5_untilStep := fun w h => List.mem_cons_of_mem _ (List.mem_append_right _ h)
  have hl : lv_has ls 1 [(0, .ref h0)] := hl
  refine lv_aload_n hx hb dX5_untilStep_0 rfl (lv_at hl 0 rfl) ?_
  refine lv_iconst (v := (0 : Int32)) hx hb dX5_untilStep_1 (by decide) ?_
  refine va_put (D := (dC, dI)) (ci := 5) (v := .int (0 : Int32)) (ty := .int) (C := RX5) (T := TX5) (N := 14) hx hb hts inX5 tyX5 tyX5_ok nmX5 hown hK hP hD hS 0 rfl rfl 8 (by decide) (hts (.fieldLink RX5 32 "BoardMetronomesModel" "thrown" "I") (by decide +kernel)) (fun _ h9 => h9) rfl (by decide +kernel) rfl rfl (Nat.le_of_ble_eq_true rfl) dX5_untilStep_2 (fun H locs hP hD hS => ?_)
  have hP : va_P (dC, dI) vwCl (MW cI cZ h0 q (upA u 8 0 (0 : Int32))) H := Eq.mp (congrArg (fun w => va_P (dC, dI) vwCl w H) MW_s8) hP
  have hD : va_D A0 (MW cI cZ h0 q (upA u 8 0 (0 : Int32))) := Eq.mp (congrArg (fun w => va_D A0 w) MW_s8) hD
  refine lv_aload_n hx hb dX5_untilStep_5 rfl (lv_at hl 0 rfl) ?_
  refine lv_iconst (v := (-1 : Int32)) hx hb dX5_untilStep_6 (by decide) ?_
  refine kc_w (As := [.int (-1 : Int32)]) (rest := []) S (v := (some (.int ((f_Muntil (upA u 8 0 (0 : Int32)) (-1 : Int32)).1)))) (c_X5_until l dC dI cI cZ cO h0 q (upA u 8 0 (0 : Int32)) (-1 : Int32) H.size (by rw [upA_o (show (0 : Nat) ≠ 8 by decide)]; exact hs) (Or.inl rfl)) gX5_untilStep_X5_until mi_X5_until ⟨rfl, rfl⟩ ⟨Nat.le_of_ble_eq_true rfl, Nat.le_of_ble_eq_true rfl⟩ hK hP hD hS hA [0, 1, 2, 3, 4, 5, 6, 7] MW_all MW_fst rfl 0 rfl rfl ⟨Nat.le_refl _, Nat.le_refl _⟩ dX5_untilStep_7 rfl hl.1 rfl (Nat.le_of_ble_eq_true rfl) (fun H locs hP hD hS => ?_)
  have hP : va_P (dC, dI) vwCl (MW cI cZ h0 q ((f_Muntil (upA u 8 0 (0 : Int32)) (-1 : Int32)).2)) H := Eq.mp (congrArg (fun w => va_P (dC, dI) vwCl w H) MW_ks) hP
  have hD : va_D A0 (MW cI cZ h0 q ((f_Muntil (upA u 8 0 (0 : Int32)) (-1 : Int32)).2)) := Eq.mp (congrArg (fun w => va_D A0 w) MW_ks) hD
  have r1 : f_MuntilStep u = ((f_Muntil (upA u 8 0 (0 : Int32)) (-1 : Int32)).1, (f_Muntil (upA u 8 0 (0 : Int32)) (-1 : Int32)).2) := by
    rw [f_MuntilStep]
  exact kw_i hx hb hr hlk hP hS dX5_untilStep_10 (by rw [r1]) (by rw [r1])

def rm_X5_stopsIn : Room := { frames := 6, cells := 0, slots := 0, locals := 132 }
theorem mi_X5_stopsIn : kM yX5_stopsIn wsX5_stopsIn cX5_stopsIn 2 (some .int) 1 := ⟨⟨_, rfl⟩, by decide, by decide, by decide +kernel⟩
def f_MstopsIn (u : BS) (p0 : Int32) : Int32 × BS := if (f_MisArm (upA u 8 0 (0 : Int32)) p0) = true then ((f_Muntil (upA u 8 0 (0 : Int32)) p0).1, (f_Muntil (upA u 8 0 (0 : Int32)) p0).2) else ((f_Mfails (upA u 8 0 (0 : Int32)) (1 : Int32)).1, (f_Mfails (upA u 8 0 (0 : Int32)) (1 : Int32)).2)
set_option maxHeartbeats 1000000 in
set_option maxRecDepth 100000 in
theorem c_X5_stopsIn (l : Launch) (dC : Nat → ClassId) (dI : Nat → Nat → Nat) (cI cZ cO : ClassId) (h0 : Nat) (q : Nat → Nat) (u : BS) (p0 : Int32) (sz : Nat) (hs : vp_in (u 0 3) 7) : Met l yX5_stopsIn wsX5_stopsIn rm_X5_stopsIn (va_Pc [.ref h0, .int p0] (fun U => U.heap.size = sz ∧ va_P (dC, dI) vwCl (MW cI cZ h0 q u) U.heap ∧ va_K (dC, dI) vwCl (TY cI cZ cO) U ∧ va_D (fun _ => True) (MW cI cZ h0 q u))) (kQw (some (.int (f_MstopsIn u p0).1)) (dC, dI) vwCl (MW cI cZ h0 q ((f_MstopsIn u p0).2)) (va_A (MW cI cZ h0 q u) sz)) 0 0 (va_A (MW cI cZ h0 q u) sz) := by
  refine kofW (cc := cX5_stopsIn) (maxL := 2) (ret := some .int) (by decide) rfl (Nat.le_of_ble_eq_true rfl) ?_
  intro p e s m args below meth c ls S hr hlk hnm hsz hP hK hD hS hA hl
  generalize hA0 : va_A (MW cI cZ h0 q u) sz = A0 at hD hS hA ⊢
  subst hsz
  obtain ⟨hx, hb, hml, hown, hts⟩ := id S
  have hs_n : (u 0 3).toNatClampNeg < 7 := vp_lt hs
  have inX5 : ∀ w ∈ wsX50, w ∈ wsX5_stopsIn := fun w h => List.mem_cons_of_mem _ (List.mem_append_right _ h)
  have hl : lv_has ls 2 [(0, .ref h0), (1, .int p0)] := hl
  refine lv_aload_n hx hb dX5_stopsIn_0 rfl (lv_at hl 0 rfl) ?_
  refine lv_iconst (v := (0 : Int32)) hx hb dX5_stopsIn_1 (by decide) ?_
  refine va_put (D := (dC, dI)) (ci := 5) (v := .int (0 : Int32)) (ty := .int) (C := RX5) (T := TX5) (N := 14) hx hb hts inX5 tyX5 tyX5_ok nmX5 hown hK hP hD hS 0 rfl rfl 8 (by decide) (hts (.fieldLink RX5 32 "BoardMetronomesModel" "thrown" "I") (by decide +kernel)) (fun _ h9 => h9) rfl (by decide +kernel) rfl rfl (Nat.le_of_ble_eq_true rfl) dX5_stopsIn_2 (fun H locs hP hD hS => ?_)
  have hP : va_P (dC, dI) vwCl (MW cI cZ h0 q (upA u 8 0 (0 : Int32))) H := Eq.mp (congrArg (fun w => va_P (dC, dI) vwCl w H) MW_s8) hP
  have hD : va_D A0 (MW cI cZ h0 q (upA u 8 0 (0 : Int32))) := Eq.mp (congrArg (fun w => va_D A0 w) MW_s8) hD
  refine lv_aload_n hx hb dX5_stopsIn_5 rfl (lv_at hl 0 rfl) ?_
  refine lv_iload_n hx hb dX5_stopsIn_6 rfl (lv_at hl 1 rfl) ?_
  refine kc_v (As := [.int p0]) (rest := []) S (v := .int (bI (f_MisArm (upA u 8 0 (0 : Int32)) p0))) (c_X5_isArm l dC dI cI cZ cO h0 q (upA u 8 0 (0 : Int32)) p0) gX5_stopsIn_X5_isArm mi_X5_isArm ⟨rfl, rfl⟩ ⟨Nat.le_of_ble_eq_true rfl, Nat.le_of_ble_eq_true rfl⟩ hK hP 0 rfl rfl ⟨Nat.le_refl _, Nat.le_refl _⟩ dX5_stopsIn_7 rfl hl.1 rfl (Nat.le_of_ble_eq_true rfl) ?_
  refine kb_eq (tgt := 21) hx hb dX5_stopsIn_10 (by decide) (fun c_10 => ?_) (fun c_10 => ?_)
  · refine lv_aload_n hx hb dX5_stopsIn_21 rfl (lv_at hl 0 rfl) ?_
    refine lv_iconst (v := (1 : Int32)) hx hb dX5_stopsIn_22 (by decide) ?_
    refine kc_w (As := [.int (1 : Int32)]) (rest := []) S (v := (some (.int ((f_Mfails (upA u 8 0 (0 : Int32)) (1 : Int32)).1)))) (c_X5_fails l dC dI cI cZ cO h0 q (upA u 8 0 (0 : Int32)) (1 : Int32) H.size) gX5_stopsIn_X5_fails mi_X5_fails ⟨rfl, rfl⟩ ⟨Nat.le_of_ble_eq_true rfl, Nat.le_of_ble_eq_true rfl⟩ hK hP hD hS hA [0, 1, 2, 3, 4, 5, 6, 7] MW_all MW_fst rfl 0 rfl rfl ⟨Nat.le_refl _, Nat.le_refl _⟩ dX5_stopsIn_23 rfl hl.1 rfl (Nat.le_of_ble_eq_true rfl) (fun H locs hP hD hS => ?_)
    have hP : va_P (dC, dI) vwCl (MW cI cZ h0 q ((f_Mfails (upA u 8 0 (0 : Int32)) (1 : Int32)).2)) H := Eq.mp (congrArg (fun w => va_P (dC, dI) vwCl w H) MW_ks) hP
    have hD : va_D A0 (MW cI cZ h0 q ((f_Mfails (upA u 8 0 (0 : Int32)) (1 : Int32)).2)) := Eq.mp (congrArg (fun w => va_D A0 w) MW_ks) hD
    have r1 : f_MstopsIn u p0 = ((f_Mfails (upA u 8 0 (0 : Int32)) (1 : Int32)).1, (f_Mfails (upA u 8 0 (0 : Int32)) (1 : Int32)).2) := by
      rw [f_MstopsIn, if_neg c_10]
    exact kw_i hx hb hr hlk hP hS dX5_stopsIn_26 (by rw [r1]) (by rw [r1])
  · refine lv_aload_n hx hb dX5_stopsIn_13 rfl (lv_at hl 0 rfl) ?_
    refine lv_iload_n hx hb dX5_stopsIn_14 rfl (lv_at hl 1 rfl) ?_
    refine kc_w (As := [.int p0]) (rest := []) S (v := (some (.int ((f_Muntil (upA u 8 0 (0 : Int32)) p0).1)))) (c_X5_until l dC dI cI cZ cO h0 q (upA u 8 0 (0 : Int32)) p0 H.size (by rw [upA_o (show (0 : Nat) ≠ 8 by decide)]; exact hs) (Or.inr (f_MisArm_vp (by rw [upA_o (show (0 : Nat) ≠ 8 by decide)]; exact hs) c_10))) gX5_stopsIn_X5_until mi_X5_until ⟨rfl, rfl⟩ ⟨Nat.le_of_ble_eq_true rfl, Nat.le_of_ble_eq_true rfl⟩ hK hP hD hS hA [0, 1, 2, 3, 4, 5, 6, 7] MW_all MW_fst rfl 0 rfl rfl ⟨Nat.le_refl _, Nat.le_refl _⟩ dX5_stopsIn_15 rfl hl.1 rfl (Nat.le_of_ble_eq_true rfl) (fun H locs hP hD hS => ?_)
    have hP : va_P (dC, dI) vwCl (MW cI cZ h0 q ((f_Muntil (upA u 8 0 (0 : Int32)) p0).2)) H := Eq.mp (congrArg (fun w => va_P (dC, dI) vwCl w H) MW_ks) hP
    have hD : va_D A0 (MW cI cZ h0 q ((f_Muntil (upA u 8 0 (0 : Int32)) p0).2)) := Eq.mp (congrArg (fun w => va_D A0 w) MW_ks) hD
    refine lv_goto (tgt := 26) hx hb dX5_stopsIn_18 (by decide) ?_
    have r2 : f_MstopsIn u p0 = ((f_Muntil (upA u 8 0 (0 : Int32)) p0).1, (f_Muntil (upA u 8 0 (0 : Int32)) p0).2) := by
      rw [f_MstopsIn, if_pos c_10]
    exact kw_i hx hb hr hlk hP hS dX5_stopsIn_26 (by rw [r2]) (by rw [r2])

def rm_X5_best : Room := { frames := 7, cells := 0, slots := 0, locals := 161 }
theorem mi_X5_best : kM yX5_best wsX5_best cX5_best 6 (some .int) 1 := ⟨⟨_, rfl⟩, by decide, by decide, by decide +kernel⟩
def f_Mbest_L7 (u : BS) (p0 : Int32) (j0 : Nat) (x0 : (Int32 × Int32 × BS)) : Int32 × Int32 × BS := if ((f_MbyRunning x0.2.2 p0 (nI (5 * j0)) (1 : Int32)).1) ≤ x0.2.1 then (x0.1, x0.2.1, (f_MbyRunning x0.2.2 p0 (nI (5 * j0)) (1 : Int32)).2) else (nI (5 * j0), (f_MbyRunning x0.2.2 p0 (nI (5 * j0)) (1 : Int32)).1, (f_MbyRunning x0.2.2 p0 (nI (5 * j0)) (1 : Int32)).2)
def f_Mbest (u : BS) (p0 : Int32) : Int32 × BS := ((it 20 (f_Mbest_L7 u p0) ((0 : Int32), (-1 : Int32), u)).1, (it 20 (f_Mbest_L7 u p0) ((0 : Int32), (-1 : Int32), u)).2.2)
theorem f_Mby_o {u : BS} {p0 p1 p2 : Int32} {k : Nat} (h : k ≠ 1) : (f_MbyRunning u p0 p1 p2).2 k = u k := by
  unfold f_MbyRunning
  repeat' split
  all_goals exact f_Mtries_o h
theorem f_Mbest_L7_o {u : BS} {p0 : Int32} {k : Nat} (h : k ≠ 1) : ∀ {j : Nat}, (it j (f_Mbest_L7 u p0) ((0 : Int32), (-1 : Int32), u)).2.2 k = u k
  | 0 => rfl
  | j + 1 => by
    rw [it_s, ← f_Mbest_L7_o (u := u) (p0 := p0) h (j := j)]
    generalize it j (f_Mbest_L7 u p0) ((0 : Int32), (-1 : Int32), u) = y
    unfold f_Mbest_L7
    repeat' split
    all_goals (dsimp only; exact f_Mby_o h)
set_option maxHeartbeats 1000000 in
set_option maxRecDepth 100000 in
theorem c_X5_best (l : Launch) (dC : Nat → ClassId) (dI : Nat → Nat → Nat) (cI cZ cO : ClassId) (h0 : Nat) (q : Nat → Nat) (u : BS) (p0 : Int32) (sz : Nat) (hs : vp_in (u 0 3) 7) : Met l yX5_best wsX5_best rm_X5_best (va_Pc [.ref h0, .int p0] (fun U => U.heap.size = sz ∧ va_P (dC, dI) vwCl (MW cI cZ h0 q u) U.heap ∧ va_K (dC, dI) vwCl (TY cI cZ cO) U ∧ va_D (fun _ => True) (MW cI cZ h0 q u))) (kQw (some (.int (f_Mbest u p0).1)) (dC, dI) vwCl (MW cI cZ h0 q ((f_Mbest u p0).2)) (va_A (MW cI cZ h0 q u) sz)) 0 0 (va_A (MW cI cZ h0 q u) sz) := by
  refine kofW (cc := cX5_best) (maxL := 6) (ret := some .int) (by decide) rfl (Nat.le_of_ble_eq_true rfl) ?_
  intro p e s m args below meth c ls S hr hlk hnm hsz hP hK hD hS hA hl
  generalize hA0 : va_A (MW cI cZ h0 q u) sz = A0 at hD hS hA ⊢
  subst hsz
  obtain ⟨hx, hb, hml, hown, hts⟩ := id S
  have hs_n : (u 0 3).toNatClampNeg < 7 := vp_lt hs
  have inX5 : ∀ w ∈ wsX50, w ∈ wsX5_best := fun w h => List.mem_cons_of_mem _ (List.mem_append_right _ h)
  have hl : lv_has ls 6 [(0, .ref h0), (1, .int p0)] := hl
  refine lv_iconst (v := (0 : Int32)) hx hb dX5_best_0 (by decide) ?_
  refine lv_istore_n (lv' := [(2, .int (0 : Int32)), (0, .ref h0), (1, .int p0)]) hx hb dX5_best_1 rfl hl (by decide) rfl (fun ls hl => ?_)
  refine lv_iconst (v := (-1 : Int32)) hx hb dX5_best_2 (by decide) ?_
  refine lv_istore_n (lv' := [(3, .int (-1 : Int32)), (2, .int (0 : Int32)), (0, .ref h0), (1, .int p0)]) hx hb dX5_best_3 rfl hl (by decide) rfl (fun ls hl => ?_)
  refine lv_iconst (v := (0 : Int32)) hx hb dX5_best_4 (by decide) ?_
  refine lv_istore (lv' := [(4, .int (0 : Int32)), (3, .int (-1 : Int32)), (2, .int (0 : Int32)), (0, .ref h0), (1, .int p0)]) hx hb dX5_best_5 hl (by decide) rfl (fun ls hl => ?_)
  have L1 : ∀ (n j0 : Nat), j0 + n = 20 → ∀ (H : Heap) (locs : List Loc) (ls : Array Slot), va_P (dC, dI) vwCl (MW cI cZ h0 q ((it j0 (f_Mbest_L7 u p0) ((0 : Int32), (-1 : Int32), u)).2.2)) H → va_D A0 (MW cI cZ h0 q ((it j0 (f_Mbest_L7 u p0) ((0 : Int32), (-1 : Int32), u)).2.2)) → va_S A0 s.heap H locs → lv_has ls 6 [(0, .ref h0), (1, .int p0), (2, .int ((it j0 (f_Mbest_L7 u p0) ((0 : Int32), (-1 : Int32), u)).1)), (3, .int ((it j0 (f_Mbest_L7 u p0) ((0 : Int32), (-1 : Int32), u)).2.1)), (4, .int (nI (5 * j0)))] → W p l e rm_X5_best s m args below meth c H locs 0 0 (MQ below (kQw (some (.int (f_Mbest u p0).1)) (dC, dI) vwCl (MW cI cZ h0 q ((f_Mbest u p0).2)) A0) args s 0 0 A0) (F0 m 7 ls []) := by
    intro n
    induction n with
    | zero =>
      intro j0 hj1 H locs ls hP hD hS hl
      obtain rfl : j0 = 20 := by omega
      refine lv_iload hx hb dX5_best_7 (lv_at hl 4 rfl) ?_
      refine lv_bipush (v := (100 : Int32)) hx hb dX5_best_9 (by decide) ?_
      refine lv_icmp_ge (tgt := 56) hx hb dX5_best_11 (by decide) (fun c_11 => ?_) (fun c_11 => ?_)
      · refine lv_iload_n hx hb dX5_best_56 rfl (lv_at hl 2 rfl) ?_
        have r2 : f_Mbest u p0 = ((it 20 (f_Mbest_L7 u p0) ((0 : Int32), (-1 : Int32), u)).1, (it 20 (f_Mbest_L7 u p0) ((0 : Int32), (-1 : Int32), u)).2.2) := by
          rw [f_Mbest]
        exact kw_i hx hb hr hlk hP hS dX5_best_57 (by rw [r2]) (by rw [r2])
      · exact absurd (nI_le (a := 100) (by omega) (by omega)) c_11
    | succ n ih1 =>
      intro j0 hj1 H locs ls hP hD hS hl
      refine lv_iload hx hb dX5_best_7 (lv_at hl 4 rfl) ?_
      refine lv_bipush (v := (100 : Int32)) hx hb dX5_best_9 (by decide) ?_
      refine lv_icmp_ge (tgt := 56) hx hb dX5_best_11 (by decide) (fun c_11 => ?_) (fun c_11 => ?_)
      · exact absurd c_11 (nI_ge (b := 100) (by omega) (by decide))
      · refine lv_aload_n hx hb dX5_best_14 rfl (lv_at hl 0 rfl) ?_
        refine lv_iload_n hx hb dX5_best_15 rfl (lv_at hl 1 rfl) ?_
        refine lv_iload hx hb dX5_best_16 (lv_at hl 4 rfl) ?_
        refine lv_iconst (v := (1 : Int32)) hx hb dX5_best_18 (by decide) ?_
        refine kc_w (As := [.int p0, .int (nI (5 * j0)), .int (1 : Int32)]) (rest := []) S (v := (some (.int ((f_MbyRunning ((it j0 (f_Mbest_L7 u p0) ((0 : Int32), (-1 : Int32), u)).2.2) p0 (nI (5 * j0)) (1 : Int32)).1)))) (c_X5_byRunning l dC dI cI cZ cO h0 q ((it j0 (f_Mbest_L7 u p0) ((0 : Int32), (-1 : Int32), u)).2.2) p0 (nI (5 * j0)) (1 : Int32) H.size (by rw [f_Mbest_L7_o (show (0 : Nat) ≠ 1 by decide)]; exact hs)) gX5_best_X5_byRunning mi_X5_byRunning ⟨rfl, rfl⟩ ⟨Nat.le_of_ble_eq_true rfl, Nat.le_of_ble_eq_true rfl⟩ hK hP hD hS hA [0, 1, 2, 3, 4, 5, 6, 7] MW_all MW_fst rfl 0 rfl rfl ⟨Nat.le_refl _, Nat.le_refl _⟩ dX5_best_19 rfl hl.1 rfl (Nat.le_of_ble_eq_true rfl) (fun H locs hP hD hS => ?_)
        have hP : va_P (dC, dI) vwCl (MW cI cZ h0 q ((f_MbyRunning ((it j0 (f_Mbest_L7 u p0) ((0 : Int32), (-1 : Int32), u)).2.2) p0 (nI (5 * j0)) (1 : Int32)).2)) H := Eq.mp (congrArg (fun w => va_P (dC, dI) vwCl w H) MW_ks) hP
        have hD : va_D A0 (MW cI cZ h0 q ((f_MbyRunning ((it j0 (f_Mbest_L7 u p0) ((0 : Int32), (-1 : Int32), u)).2.2) p0 (nI (5 * j0)) (1 : Int32)).2)) := Eq.mp (congrArg (fun w => va_D A0 w) MW_ks) hD
        refine lv_istore (lv' := [(5, .int ((f_MbyRunning ((it j0 (f_Mbest_L7 u p0) ((0 : Int32), (-1 : Int32), u)).2.2) p0 (nI (5 * j0)) (1 : Int32)).1)), (0, .ref h0), (1, .int p0), (2, .int ((it j0 (f_Mbest_L7 u p0) ((0 : Int32), (-1 : Int32), u)).1)), (3, .int ((it j0 (f_Mbest_L7 u p0) ((0 : Int32), (-1 : Int32), u)).2.1)), (4, .int (nI (5 * j0)))]) hx hb dX5_best_22 hl (by decide) rfl (fun ls hl => ?_)
        refine lv_iload hx hb dX5_best_24 (lv_at hl 0 rfl) ?_
        refine lv_iload_n hx hb dX5_best_26 rfl (lv_at hl 4 rfl) ?_
        refine lv_icmp_le (tgt := 35) hx hb dX5_best_27 (by decide) (fun c_27 => ?_) (fun c_27 => ?_)
        · refine lv_iload_n hx hb dX5_best_35 rfl (lv_at hl 3 rfl) ?_
          refine lv_istore_n (lv' := [(2, .int ((it j0 (f_Mbest_L7 u p0) ((0 : Int32), (-1 : Int32), u)).1)), (5, .int ((f_MbyRunning ((it j0 (f_Mbest_L7 u p0) ((0 : Int32), (-1 : Int32), u)).2.2) p0 (nI (5 * j0)) (1 : Int32)).1)), (0, .ref h0), (1, .int p0), (3, .int ((it j0 (f_Mbest_L7 u p0) ((0 : Int32), (-1 : Int32), u)).2.1)), (4, .int (nI (5 * j0)))]) hx hb dX5_best_36 rfl hl (by decide) rfl (fun ls hl => ?_)
          refine lv_iload hx hb dX5_best_37 (lv_at hl 1 rfl) ?_
          refine lv_iload_n hx hb dX5_best_39 rfl (lv_at hl 4 rfl) ?_
          refine lv_icmp_le (tgt := 48) hx hb dX5_best_40 (by decide) (fun c_40 => ?_) (fun c_40 => ?_)
          · refine lv_iload_n hx hb dX5_best_48 rfl (lv_at hl 4 rfl) ?_
            refine lv_istore_n (lv' := [(3, .int ((it j0 (f_Mbest_L7 u p0) ((0 : Int32), (-1 : Int32), u)).2.1)), (2, .int ((it j0 (f_Mbest_L7 u p0) ((0 : Int32), (-1 : Int32), u)).1)), (5, .int ((f_MbyRunning ((it j0 (f_Mbest_L7 u p0) ((0 : Int32), (-1 : Int32), u)).2.2) p0 (nI (5 * j0)) (1 : Int32)).1)), (0, .ref h0), (1, .int p0), (4, .int (nI (5 * j0)))]) hx hb dX5_best_49 rfl hl (by decide) rfl (fun ls hl => ?_)
            refine lv_iinc (v := nI (5 * (j0 + 1))) (lv' := [(4, .int (nI (5 * (j0 + 1)))), (3, .int ((it j0 (f_Mbest_L7 u p0) ((0 : Int32), (-1 : Int32), u)).2.1)), (2, .int ((it j0 (f_Mbest_L7 u p0) ((0 : Int32), (-1 : Int32), u)).1)), (5, .int ((f_MbyRunning ((it j0 (f_Mbest_L7 u p0) ((0 : Int32), (-1 : Int32), u)).2.2) p0 (nI (5 * j0)) (1 : Int32)).1)), (0, .ref h0), (1, .int p0)]) hx hb dX5_best_50 hl (k := 5) rfl ((nI_add (5 * j0) 5).trans (congrArg nI (by omega))) (by decide) rfl (fun ls hl => ?_)
            refine lv_goto (tgt := 7) hx hb dX5_best_53 (by decide) ?_
            have b3 : f_Mbest_L7 u p0 j0 (it j0 (f_Mbest_L7 u p0) ((0 : Int32), (-1 : Int32), u)) = ((it j0 (f_Mbest_L7 u p0) ((0 : Int32), (-1 : Int32), u)).1, (it j0 (f_Mbest_L7 u p0) ((0 : Int32), (-1 : Int32), u)).2.1, (f_MbyRunning ((it j0 (f_Mbest_L7 u p0) ((0 : Int32), (-1 : Int32), u)).2.2) p0 (nI (5 * j0)) (1 : Int32)).2) := by
              rw [f_Mbest_L7, if_pos c_27]
            have e3 : it (j0 + 1) (f_Mbest_L7 u p0) ((0 : Int32), (-1 : Int32), u) = ((it j0 (f_Mbest_L7 u p0) ((0 : Int32), (-1 : Int32), u)).1, (it j0 (f_Mbest_L7 u p0) ((0 : Int32), (-1 : Int32), u)).2.1, (f_MbyRunning ((it j0 (f_Mbest_L7 u p0) ((0 : Int32), (-1 : Int32), u)).2.2) p0 (nI (5 * j0)) (1 : Int32)).2) := (it_s _ _ _).trans b3
            exact ih1 (j0 + 1) (by omega) H locs ls (by rw [e3]; exact hP) (by rw [e3]; exact hD) hS (by rw [e3]; exact lv_sub hl [4, 5, 2, 1, 0] rfl)
          · exact absurd c_27 c_40
        · refine lv_iload hx hb dX5_best_30 (lv_at hl 5 rfl) ?_
          refine lv_goto (tgt := 36) hx hb dX5_best_32 (by decide) ?_
          refine lv_istore_n (lv' := [(2, .int (nI (5 * j0))), (5, .int ((f_MbyRunning ((it j0 (f_Mbest_L7 u p0) ((0 : Int32), (-1 : Int32), u)).2.2) p0 (nI (5 * j0)) (1 : Int32)).1)), (0, .ref h0), (1, .int p0), (3, .int ((it j0 (f_Mbest_L7 u p0) ((0 : Int32), (-1 : Int32), u)).2.1)), (4, .int (nI (5 * j0)))]) hx hb dX5_best_36 rfl hl (by decide) rfl (fun ls hl => ?_)
          refine lv_iload hx hb dX5_best_37 (lv_at hl 1 rfl) ?_
          refine lv_iload_n hx hb dX5_best_39 rfl (lv_at hl 4 rfl) ?_
          refine lv_icmp_le (tgt := 48) hx hb dX5_best_40 (by decide) (fun c_40 => ?_) (fun c_40 => ?_)
          · exact absurd c_40 c_27
          · refine lv_iload hx hb dX5_best_43 (lv_at hl 1 rfl) ?_
            refine lv_goto (tgt := 49) hx hb dX5_best_45 (by decide) ?_
            refine lv_istore_n (lv' := [(3, .int ((f_MbyRunning ((it j0 (f_Mbest_L7 u p0) ((0 : Int32), (-1 : Int32), u)).2.2) p0 (nI (5 * j0)) (1 : Int32)).1)), (2, .int (nI (5 * j0))), (5, .int ((f_MbyRunning ((it j0 (f_Mbest_L7 u p0) ((0 : Int32), (-1 : Int32), u)).2.2) p0 (nI (5 * j0)) (1 : Int32)).1)), (0, .ref h0), (1, .int p0), (4, .int (nI (5 * j0)))]) hx hb dX5_best_49 rfl hl (by decide) rfl (fun ls hl => ?_)
            refine lv_iinc (v := nI (5 * (j0 + 1))) (lv' := [(4, .int (nI (5 * (j0 + 1)))), (3, .int ((f_MbyRunning ((it j0 (f_Mbest_L7 u p0) ((0 : Int32), (-1 : Int32), u)).2.2) p0 (nI (5 * j0)) (1 : Int32)).1)), (2, .int (nI (5 * j0))), (5, .int ((f_MbyRunning ((it j0 (f_Mbest_L7 u p0) ((0 : Int32), (-1 : Int32), u)).2.2) p0 (nI (5 * j0)) (1 : Int32)).1)), (0, .ref h0), (1, .int p0)]) hx hb dX5_best_50 hl (k := 5) rfl ((nI_add (5 * j0) 5).trans (congrArg nI (by omega))) (by decide) rfl (fun ls hl => ?_)
            refine lv_goto (tgt := 7) hx hb dX5_best_53 (by decide) ?_
            have b4 : f_Mbest_L7 u p0 j0 (it j0 (f_Mbest_L7 u p0) ((0 : Int32), (-1 : Int32), u)) = (nI (5 * j0), (f_MbyRunning ((it j0 (f_Mbest_L7 u p0) ((0 : Int32), (-1 : Int32), u)).2.2) p0 (nI (5 * j0)) (1 : Int32)).1, (f_MbyRunning ((it j0 (f_Mbest_L7 u p0) ((0 : Int32), (-1 : Int32), u)).2.2) p0 (nI (5 * j0)) (1 : Int32)).2) := by
              rw [f_Mbest_L7, if_neg c_27]
            have e4 : it (j0 + 1) (f_Mbest_L7 u p0) ((0 : Int32), (-1 : Int32), u) = (nI (5 * j0), (f_MbyRunning ((it j0 (f_Mbest_L7 u p0) ((0 : Int32), (-1 : Int32), u)).2.2) p0 (nI (5 * j0)) (1 : Int32)).1, (f_MbyRunning ((it j0 (f_Mbest_L7 u p0) ((0 : Int32), (-1 : Int32), u)).2.2) p0 (nI (5 * j0)) (1 : Int32)).2) := (it_s _ _ _).trans b4
            exact ih1 (j0 + 1) (by omega) H locs ls (by rw [e4]; exact hP) (by rw [e4]; exact hD) hS (by rw [e4]; exact lv_sub hl [4, 5, 2, 1, 0] rfl)
  exact L1 20 0 (by omega) s.heap [] ls hP hD hS (lv_sub hl [3, 4, 2, 1, 0] rfl)

def rm_X5_bestStrength : Room := { frames := 8, cells := 0, slots := 0, locals := 186 }
theorem mi_X5_bestStrength : kM yX5_bestStrength wsX5_bestStrength cX5_bestStrength 2 (some .int) 1 := ⟨⟨_, rfl⟩, by decide, by decide, by decide +kernel⟩
def f_MbestStrength (u : BS) (p0 : Int32) : Int32 × BS := if (f_Min p0 (1 : Int32) (300 : Int32)) = true then ((f_Mbest (upA u 8 0 (0 : Int32)) p0).1, (f_Mbest (upA u 8 0 (0 : Int32)) p0).2) else ((f_Mfails (upA u 8 0 (0 : Int32)) (1 : Int32)).1, (f_Mfails (upA u 8 0 (0 : Int32)) (1 : Int32)).2)
set_option maxHeartbeats 1000000 in
set_option maxRecDepth 100000 in
theorem c_X5_bestStrength (l : Launch) (dC : Nat → ClassId) (dI : Nat → Nat → Nat) (cI cZ cO : ClassId) (h0 : Nat) (q : Nat → Nat) (u : BS) (p0 : Int32) (sz : Nat) (hs : vp_in (u 0 3) 7) : Met l yX5_bestStrength wsX5_bestStrength rm_X5_bestStrength (va_Pc [.ref h0, .int p0] (fun U => U.heap.size = sz ∧ va_P (dC, dI) vwCl (MW cI cZ h0 q u) U.heap ∧ va_K (dC, dI) vwCl (TY cI cZ cO) U ∧ va_D (fun _ => True) (MW cI cZ h0 q u))) (kQw (some (.int (f_MbestStrength u p0).1)) (dC, dI) vwCl (MW cI cZ h0 q ((f_MbestStrength u p0).2)) (va_A (MW cI cZ h0 q u) sz)) 0 0 (va_A (MW cI cZ h0 q u) sz) := by
  refine kofW (cc := cX5_bestStrength) (maxL := 2) (ret := some .int) (by decide) rfl (Nat.le_of_ble_eq_true rfl) ?_
  intro p e s m args below meth c ls S hr hlk hnm hsz hP hK hD hS hA hl
  generalize hA0 : va_A (MW cI cZ h0 q u) sz = A0 at hD hS hA ⊢
  subst hsz
  obtain ⟨hx, hb, hml, hown, hts⟩ := id S
  have hs_n : (u 0 3).toNatClampNeg < 7 := vp_lt hs
  have inX5 : ∀ w ∈ wsX50, w ∈ wsX5_bestStrength := fun w h => List.mem_cons_of_mem _ (List.mem_append_right _ h)
  have hl : lv_has ls 2 [(0, .ref h0), (1, .int p0)] := hl
  refine lv_aload_n hx hb dX5_bestStrength_0 rfl (lv_at hl 0 rfl) ?_
  refine lv_iconst (v := (0 : Int32)) hx hb dX5_bestStrength_1 (by decide) ?_
  refine va_put (D := (dC, dI)) (ci := 5) (v := .int (0 : Int32)) (ty := .int) (C := RX5) (T := TX5) (N := 14) hx hb hts inX5 tyX5 tyX5_ok nmX5 hown hK hP hD hS 0 rfl rfl 8 (by decide) (hts (.fieldLink RX5 32 "BoardMetronomesModel" "thrown" "I") (by decide +kernel)) (fun _ h9 => h9) rfl (by decide +kernel) rfl rfl (Nat.le_of_ble_eq_true rfl) dX5_bestStrength_2 (fun H locs hP hD hS => ?_)
  have hP : va_P (dC, dI) vwCl (MW cI cZ h0 q (upA u 8 0 (0 : Int32))) H := Eq.mp (congrArg (fun w => va_P (dC, dI) vwCl w H) MW_s8) hP
  have hD : va_D A0 (MW cI cZ h0 q (upA u 8 0 (0 : Int32))) := Eq.mp (congrArg (fun w => va_D A0 w) MW_s8) hD
  refine lv_iload_n hx hb dX5_bestStrength_5 rfl (lv_at hl 1 rfl) ?_
  refine lv_iconst (v := (1 : Int32)) hx hb dX5_bestStrength_6 (by decide) ?_
  refine lv_sipush (v := (300 : Int32)) hx hb dX5_bestStrength_7 (by decide) ?_
  refine kc_p (y := yX5_in) (As := [.int p0, .int (1 : Int32), .int (300 : Int32)]) (rest := []) rfl S (v := .int (bI (f_Min p0 (1 : Int32) (300 : Int32)))) (c_X5_in l p0 (1 : Int32) (300 : Int32)) gX5_bestStrength_X5_in mi_X5_in ⟨rfl, rfl⟩ ⟨Nat.le_of_ble_eq_true rfl, Nat.le_of_ble_eq_true rfl⟩ ⟨Nat.le_refl _, Nat.le_refl _⟩ dX5_bestStrength_10 rfl hl.1 rfl (Nat.le_of_ble_eq_true rfl) ?_
  refine kb_eq (tgt := 24) hx hb dX5_bestStrength_13 (by decide) (fun c_13 => ?_) (fun c_13 => ?_)
  · refine lv_aload_n hx hb dX5_bestStrength_24 rfl (lv_at hl 0 rfl) ?_
    refine lv_iconst (v := (1 : Int32)) hx hb dX5_bestStrength_25 (by decide) ?_
    refine kc_w (As := [.int (1 : Int32)]) (rest := []) S (v := (some (.int ((f_Mfails (upA u 8 0 (0 : Int32)) (1 : Int32)).1)))) (c_X5_fails l dC dI cI cZ cO h0 q (upA u 8 0 (0 : Int32)) (1 : Int32) H.size) gX5_bestStrength_X5_fails mi_X5_fails ⟨rfl, rfl⟩ ⟨Nat.le_of_ble_eq_true rfl, Nat.le_of_ble_eq_true rfl⟩ hK hP hD hS hA [0, 1, 2, 3, 4, 5, 6, 7] MW_all MW_fst rfl 0 rfl rfl ⟨Nat.le_refl _, Nat.le_refl _⟩ dX5_bestStrength_26 rfl hl.1 rfl (Nat.le_of_ble_eq_true rfl) (fun H locs hP hD hS => ?_)
    have hP : va_P (dC, dI) vwCl (MW cI cZ h0 q ((f_Mfails (upA u 8 0 (0 : Int32)) (1 : Int32)).2)) H := Eq.mp (congrArg (fun w => va_P (dC, dI) vwCl w H) MW_ks) hP
    have hD : va_D A0 (MW cI cZ h0 q ((f_Mfails (upA u 8 0 (0 : Int32)) (1 : Int32)).2)) := Eq.mp (congrArg (fun w => va_D A0 w) MW_ks) hD
    have r1 : f_MbestStrength u p0 = ((f_Mfails (upA u 8 0 (0 : Int32)) (1 : Int32)).1, (f_Mfails (upA u 8 0 (0 : Int32)) (1 : Int32)).2) := by
      rw [f_MbestStrength, if_neg c_13]
    exact kw_i hx hb hr hlk hP hS dX5_bestStrength_29 (by rw [r1]) (by rw [r1])
  · refine lv_aload_n hx hb dX5_bestStrength_16 rfl (lv_at hl 0 rfl) ?_
    refine lv_iload_n hx hb dX5_bestStrength_17 rfl (lv_at hl 1 rfl) ?_
    refine kc_w (As := [.int p0]) (rest := []) S (v := (some (.int ((f_Mbest (upA u 8 0 (0 : Int32)) p0).1)))) (c_X5_best l dC dI cI cZ cO h0 q (upA u 8 0 (0 : Int32)) p0 H.size (by rw [upA_o (show (0 : Nat) ≠ 8 by decide)]; exact hs)) gX5_bestStrength_X5_best mi_X5_best ⟨rfl, rfl⟩ ⟨Nat.le_of_ble_eq_true rfl, Nat.le_of_ble_eq_true rfl⟩ hK hP hD hS hA [0, 1, 2, 3, 4, 5, 6, 7] MW_all MW_fst rfl 0 rfl rfl ⟨Nat.le_refl _, Nat.le_refl _⟩ dX5_bestStrength_18 rfl hl.1 rfl (Nat.le_of_ble_eq_true rfl) (fun H locs hP hD hS => ?_)
    have hP : va_P (dC, dI) vwCl (MW cI cZ h0 q ((f_Mbest (upA u 8 0 (0 : Int32)) p0).2)) H := Eq.mp (congrArg (fun w => va_P (dC, dI) vwCl w H) MW_ks) hP
    have hD : va_D A0 (MW cI cZ h0 q ((f_Mbest (upA u 8 0 (0 : Int32)) p0).2)) := Eq.mp (congrArg (fun w => va_D A0 w) MW_ks) hD
    refine lv_goto (tgt := 29) hx hb dX5_bestStrength_21 (by decide) ?_
    have r2 : f_MbestStrength u p0 = ((f_Mbest (upA u 8 0 (0 : Int32)) p0).1, (f_Mbest (upA u 8 0 (0 : Int32)) p0).2) := by
      rw [f_MbestStrength, if_pos c_13]
    exact kw_i hx hb hr hlk hP hS dX5_bestStrength_29 (by rw [r2]) (by rw [r2])

def rm_X5_far : Room := { frames := 3, cells := 0, slots := 0, locals := 69 }
theorem mi_X5_far : kM yX5_far wsX5_far cX5_far 3 (some .int) 1 := ⟨⟨_, rfl⟩, by decide, by decide, by decide +kernel⟩
def f_Mfar (u : BS) (p0 : Bool) : Int32 := if (f_Mmost (u 0)) = (-1 : Int32) then (-1 : Int32) else if p0 = true then ((f_Mmost (u 0)) - (f_Mmost (u 0)) / (8 : Int32) * (8 : Int32)) else (f_Mmost (u 0)) / (8 : Int32)
set_option maxHeartbeats 1000000 in
set_option maxRecDepth 100000 in
theorem c_X5_far (l : Launch) (dC : Nat → ClassId) (dI : Nat → Nat → Nat) (cI cZ cO : ClassId) (h0 : Nat) (q : Nat → Nat) (u : BS) (p0 : Bool) : Met l yX5_far wsX5_far rm_X5_far (va_Pc [.ref h0, .int (bI p0)] (fun U => va_P (dC, dI) vwCl (MW cI cZ h0 q u) U.heap ∧ va_K (dC, dI) vwCl (TY cI cZ cO) U)) (kQ (some (.int (f_Mfar u p0)))) 0 0 (fun _ => False) := by
  refine kofR (cc := cX5_far) (maxL := 3) (ret := some .int) (by decide) rfl (Nat.le_of_ble_eq_true rfl) ?_
  intro p e s m args below meth c ls S hr hlk hP hK hl
  obtain ⟨hx, hb, hml, hown, hts⟩ := id S
  have inX5 : ∀ w ∈ wsX50, w ∈ wsX5_far := fun w h => List.mem_cons_of_mem _ (List.mem_append_right _ h)
  have hl : lv_has ls 3 [(0, .ref h0), (1, .int (bI p0))] := hl
  refine lv_aload_n hx hb dX5_far_0 rfl (lv_at hl 0 rfl) ?_
  refine va_get (D := (dC, dI)) (ci := 5) (v := .ref (q 0)) (C := RX5) (T := TX5) (N := 14) hx hb hts inX5 hown hK hP 0 rfl rfl 0 (by decide) (hts (.fieldLink RX5 7 "BoardMetronomesModel" "now" "[I") (by decide +kernel)) (fun _ h9 => h9) rfl dX5_far_1 ?_
  refine kc_s (y := yX5_most) (As := [.ref (q 0)]) (rest := []) rfl S (v := .int (f_Mmost (u 0))) (c_X5_most l dC dI cI cZ cO (q 0) (u 0)) gX5_far_X5_most mi_X5_most ⟨rfl, rfl⟩ ⟨Nat.le_of_ble_eq_true rfl, Nat.le_of_ble_eq_true rfl⟩ hK (MW_p0 hP rfl) ⟨Nat.le_refl _, Nat.le_refl _⟩ dX5_far_4 rfl hl.1 rfl (Nat.le_of_ble_eq_true rfl) ?_
  refine lv_istore_n (lv' := [(2, .int (f_Mmost (u 0))), (0, .ref h0), (1, .int (bI p0))]) hx hb dX5_far_7 rfl hl (by decide) rfl (fun ls hl => ?_)
  refine lv_iload_n hx hb dX5_far_8 rfl (lv_at hl 0 rfl) ?_
  refine lv_iconst (v := (-1 : Int32)) hx hb dX5_far_9 (by decide) ?_
  refine lv_icmp_ne (tgt := 17) hx hb dX5_far_10 (by decide) (fun c_10 => ?_) (fun c_10 => ?_)
  · refine lv_iload_n hx hb dX5_far_17 rfl (lv_at hl 2 rfl) ?_
    refine kb_eq (tgt := 28) hx hb dX5_far_18 (by decide) (fun c_18 => ?_) (fun c_18 => ?_)
    · refine lv_iload_n hx hb dX5_far_28 rfl (lv_at hl 0 rfl) ?_
      refine lv_bipush (v := (8 : Int32)) hx hb dX5_far_29 (by decide) ?_
      refine lv_idiv hx hb dX5_far_31 (by decide) ?_
      have r1 : f_Mfar u p0 = (f_Mmost (u 0)) / (8 : Int32) := by
        rw [f_Mfar, if_neg c_10, if_neg c_18]
      exact kr_i hx hb hr hlk dX5_far_32 r1.symm
    · refine lv_iload_n hx hb dX5_far_21 rfl (lv_at hl 0 rfl) ?_
      refine lv_bipush (v := (8 : Int32)) hx hb dX5_far_22 (by decide) ?_
      refine lv_irem hx hb dX5_far_24 (by decide) ?_
      refine lv_goto (tgt := 32) hx hb dX5_far_25 (by decide) ?_
      have r2 : f_Mfar u p0 = (f_Mmost (u 0)) - (f_Mmost (u 0)) / (8 : Int32) * (8 : Int32) := by
        rw [f_Mfar, if_neg c_10, if_pos c_18]
      exact kr_i hx hb hr hlk dX5_far_32 r2.symm
  · refine lv_iconst (v := (-1 : Int32)) hx hb dX5_far_13 (by decide) ?_
    refine lv_goto (tgt := 32) hx hb dX5_far_14 (by decide) ?_
    have r3 : f_Mfar u p0 = (-1 : Int32) := by
      rw [f_Mfar, if_pos c_10]
    exact kr_i hx hb hr hlk dX5_far_32 r3.symm

def rm_X5_farthest : Room := { frames := 4, cells := 0, slots := 0, locals := 91 }
theorem mi_X5_farthest : kM yX5_farthest wsX5_farthest cX5_farthest 2 (some .int) 1 := ⟨⟨_, rfl⟩, by decide, by decide, by decide +kernel⟩
def f_Mfarthest (u : BS) (p0 : Bool) : Int32 × BS := (f_Mfar (upA u 8 0 (0 : Int32)) p0, upA u 8 0 (0 : Int32))
set_option maxHeartbeats 1000000 in
set_option maxRecDepth 100000 in
theorem c_X5_farthest (l : Launch) (dC : Nat → ClassId) (dI : Nat → Nat → Nat) (cI cZ cO : ClassId) (h0 : Nat) (q : Nat → Nat) (u : BS) (p0 : Bool) (sz : Nat) : Met l yX5_farthest wsX5_farthest rm_X5_farthest (va_Pc [.ref h0, .int (bI p0)] (fun U => U.heap.size = sz ∧ va_P (dC, dI) vwCl (MW cI cZ h0 q u) U.heap ∧ va_K (dC, dI) vwCl (TY cI cZ cO) U ∧ va_D (fun _ => True) (MW cI cZ h0 q u))) (kQw (some (.int (f_Mfarthest u p0).1)) (dC, dI) vwCl (MW cI cZ h0 q ((f_Mfarthest u p0).2)) (va_A (MW cI cZ h0 q u) sz)) 0 0 (va_A (MW cI cZ h0 q u) sz) := by
  refine kofW (cc := cX5_farthest) (maxL := 2) (ret := some .int) (by decide) rfl (Nat.le_of_ble_eq_true rfl) ?_
  intro p e s m args below meth c ls S hr hlk hnm hsz hP hK hD hS hA hl
  generalize hA0 : va_A (MW cI cZ h0 q u) sz = A0 at hD hS hA ⊢
  subst hsz
  obtain ⟨hx, hb, hml, hown, hts⟩ := id S
  have inX5 : ∀ w ∈ wsX50, w ∈ wsX5_farthest := fun w h => List.mem_cons_of_mem _ (List.mem_append_right _ h)
  have hl : lv_has ls 2 [(0, .ref h0), (1, .int (bI p0))] := hl
  refine lv_aload_n hx hb dX5_farthest_0 rfl (lv_at hl 0 rfl) ?_
  refine lv_iconst (v := (0 : Int32)) hx hb dX5_farthest_1 (by decide) ?_
  refine va_put (D := (dC, dI)) (ci := 5) (v := .int (0 : Int32)) (ty := .int) (C := RX5) (T := TX5) (N := 14) hx hb hts inX5 tyX5 tyX5_ok nmX5 hown hK hP hD hS 0 rfl rfl 8 (by decide) (hts (.fieldLink RX5 32 "BoardMetronomesModel" "thrown" "I") (by decide +kernel)) (fun _ h9 => h9) rfl (by decide +kernel) rfl rfl (Nat.le_of_ble_eq_true rfl) dX5_farthest_2 (fun H locs hP hD hS => ?_)
  have hP : va_P (dC, dI) vwCl (MW cI cZ h0 q (upA u 8 0 (0 : Int32))) H := Eq.mp (congrArg (fun w => va_P (dC, dI) vwCl w H) MW_s8) hP
  have hD : va_D A0 (MW cI cZ h0 q (upA u 8 0 (0 : Int32))) := Eq.mp (congrArg (fun w => va_D A0 w) MW_s8) hD
  refine lv_aload_n hx hb dX5_farthest_5 rfl (lv_at hl 0 rfl) ?_
  refine lv_iload_n hx hb dX5_farthest_6 rfl (lv_at hl 1 rfl) ?_
  refine kc_v (As := [.int (bI p0)]) (rest := []) S (v := .int (f_Mfar (upA u 8 0 (0 : Int32)) p0)) (c_X5_far l dC dI cI cZ cO h0 q (upA u 8 0 (0 : Int32)) p0) gX5_farthest_X5_far mi_X5_far ⟨rfl, rfl⟩ ⟨Nat.le_of_ble_eq_true rfl, Nat.le_of_ble_eq_true rfl⟩ hK hP 0 rfl rfl ⟨Nat.le_refl _, Nat.le_refl _⟩ dX5_farthest_7 rfl hl.1 rfl (Nat.le_of_ble_eq_true rfl) ?_
  have r1 : f_Mfarthest u p0 = (f_Mfar (upA u 8 0 (0 : Int32)) p0, upA u 8 0 (0 : Int32)) := by
    rw [f_Mfarthest]
  exact kw_i hx hb hr hlk hP hS dX5_farthest_10 (by rw [r1]) (by rw [r1])

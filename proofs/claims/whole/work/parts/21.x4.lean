def rm_X4_isWithin : Room := { frames := 0, cells := 0, slots := 0, locals := 0 }
theorem mi_X4_isWithin : kM yX4_isWithin wsX4_isWithin cX4_isWithin 3 (some .boolean) 3 := ⟨⟨_, rfl⟩, by decide, by decide, by decide +kernel⟩
def f_XisWithin (p0 : Int32) (p1 : Int32) (p2 : Int32) : Bool := if p0 < p1 then false else if p2 < p0 then false else true
set_option maxHeartbeats 1000000 in
set_option maxRecDepth 100000 in
theorem c_X4_isWithin (l : Launch) (p0 : Int32) (p1 : Int32) (p2 : Int32) : Met l yX4_isWithin wsX4_isWithin rm_X4_isWithin (va_Pc [.int p0, .int p1, .int p2] (fun _ => True)) (kQ (some (.int (bI (f_XisWithin p0 p1 p2))))) 0 0 (fun _ => False) := by
  refine kofP (cc := cX4_isWithin) (maxL := 3) (ret := some .boolean) (by decide) rfl (Nat.le_of_ble_eq_true rfl) ?_
  intro p e s m args below meth c ls S hr hlk hl
  obtain ⟨hx, hb, hml, hown, hts⟩ := id S
  have hl : lv_has ls 3 [(0, .int p0), (1, .int p1), (2, .int p2)] := hl
  refine lv_iload_n hx hb dX4_isWithin_0 rfl (lv_at hl 0 rfl) ?_
  refine lv_iload_n hx hb dX4_isWithin_1 rfl (lv_at hl 1 rfl) ?_
  refine lv_icmp_lt (tgt := 14) hx hb dX4_isWithin_2 (by decide) (fun c_2 => ?_) (fun c_2 => ?_)
  · refine lv_iconst (v := (0 : Int32)) hx hb dX4_isWithin_14 (by decide) ?_
    have r1 : f_XisWithin p0 p1 p2 = false := by
      rw [f_XisWithin, if_pos c_2]
    exact kr_z (x := false) hx hb hr hlk dX4_isWithin_15 rfl r1
  · refine lv_iload_n hx hb dX4_isWithin_5 rfl (lv_at hl 0 rfl) ?_
    refine lv_iload_n hx hb dX4_isWithin_6 rfl (lv_at hl 2 rfl) ?_
    refine lv_icmp_gt (tgt := 14) hx hb dX4_isWithin_7 (by decide) (fun c_7 => ?_) (fun c_7 => ?_)
    · refine lv_iconst (v := (0 : Int32)) hx hb dX4_isWithin_14 (by decide) ?_
      have r2 : f_XisWithin p0 p1 p2 = false := by
        rw [f_XisWithin, if_neg c_2, if_pos c_7]
      exact kr_z (x := false) hx hb hr hlk dX4_isWithin_15 rfl r2
    · refine lv_iconst (v := (1 : Int32)) hx hb dX4_isWithin_10 (by decide) ?_
      refine lv_goto (tgt := 15) hx hb dX4_isWithin_11 (by decide) ?_
      have r3 : f_XisWithin p0 p1 p2 = true := by
        rw [f_XisWithin, if_neg c_2, if_neg c_7]
      exact kr_z (x := true) hx hb hr hlk dX4_isWithin_15 rfl r3

def rm_X4_isBeat : Room := { frames := 1, cells := 0, slots := 0, locals := 22 }
theorem mi_X4_isBeat : kM yX4_isBeat wsX4_isBeat cX4_isBeat 1 (some .boolean) 1 := ⟨⟨_, rfl⟩, by decide, by decide, by decide +kernel⟩
def f_XisBeat (p0 : Int32) : Bool := (f_XisWithin p0 (40 : Int32) (208 : Int32))
set_option maxHeartbeats 1000000 in
set_option maxRecDepth 100000 in
theorem c_X4_isBeat (l : Launch) (p0 : Int32) : Met l yX4_isBeat wsX4_isBeat rm_X4_isBeat (va_Pc [.int p0] (fun _ => True)) (kQ (some (.int (bI (f_XisBeat p0))))) 0 0 (fun _ => False) := by
  refine kofP (cc := cX4_isBeat) (maxL := 1) (ret := some .boolean) (by decide) rfl (Nat.le_of_ble_eq_true rfl) ?_
  intro p e s m args below meth c ls S hr hlk hl
  obtain ⟨hx, hb, hml, hown, hts⟩ := id S
  have hl : lv_has ls 1 [(0, .int p0)] := hl
  refine lv_iload_n hx hb dX4_isBeat_0 rfl (lv_at hl 0 rfl) ?_
  refine lv_bipush (v := (40 : Int32)) hx hb dX4_isBeat_1 (by decide) ?_
  refine lv_sipush (v := (208 : Int32)) hx hb dX4_isBeat_3 (by decide) ?_
  refine kc_p (y := yX4_isWithin) (As := [.int p0, .int (40 : Int32), .int (208 : Int32)]) (rest := []) rfl S (v := .int (bI (f_XisWithin p0 (40 : Int32) (208 : Int32)))) (c_X4_isWithin l p0 (40 : Int32) (208 : Int32)) gX4_isBeat_X4_isWithin mi_X4_isWithin ⟨rfl, rfl⟩ ⟨Nat.le_of_ble_eq_true rfl, Nat.le_of_ble_eq_true rfl⟩ ⟨Nat.le_refl _, Nat.le_refl _⟩ dX4_isBeat_6 rfl hl.1 rfl (Nat.le_of_ble_eq_true rfl) ?_
  have r1 : f_XisBeat p0 = (f_XisWithin p0 (40 : Int32) (208 : Int32)) := by
    rw [f_XisBeat]
  exact kr_z (x := (f_XisWithin p0 (40 : Int32) (208 : Int32))) hx hb hr hlk dX4_isBeat_9 rfl r1

def rm_X4_isSpring : Room := { frames := 1, cells := 0, slots := 0, locals := 22 }
theorem mi_X4_isSpring : kM yX4_isSpring wsX4_isSpring cX4_isSpring 1 (some .boolean) 1 := ⟨⟨_, rfl⟩, by decide, by decide, by decide +kernel⟩
def f_XisSpring (p0 : Int32) : Bool := (f_XisWithin p0 (0 : Int32) (999 : Int32))
set_option maxHeartbeats 1000000 in
set_option maxRecDepth 100000 in
theorem c_X4_isSpring (l : Launch) (p0 : Int32) : Met l yX4_isSpring wsX4_isSpring rm_X4_isSpring (va_Pc [.int p0] (fun _ => True)) (kQ (some (.int (bI (f_XisSpring p0))))) 0 0 (fun _ => False) := by
  refine kofP (cc := cX4_isSpring) (maxL := 1) (ret := some .boolean) (by decide) rfl (Nat.le_of_ble_eq_true rfl) ?_
  intro p e s m args below meth c ls S hr hlk hl
  obtain ⟨hx, hb, hml, hown, hts⟩ := id S
  have hl : lv_has ls 1 [(0, .int p0)] := hl
  refine lv_iload_n hx hb dX4_isSpring_0 rfl (lv_at hl 0 rfl) ?_
  refine lv_iconst (v := (0 : Int32)) hx hb dX4_isSpring_1 (by decide) ?_
  refine lv_sipush (v := (999 : Int32)) hx hb dX4_isSpring_2 (by decide) ?_
  refine kc_p (y := yX4_isWithin) (As := [.int p0, .int (0 : Int32), .int (999 : Int32)]) (rest := []) rfl S (v := .int (bI (f_XisWithin p0 (0 : Int32) (999 : Int32)))) (c_X4_isWithin l p0 (0 : Int32) (999 : Int32)) gX4_isSpring_X4_isWithin mi_X4_isWithin ⟨rfl, rfl⟩ ⟨Nat.le_of_ble_eq_true rfl, Nat.le_of_ble_eq_true rfl⟩ ⟨Nat.le_refl _, Nat.le_refl _⟩ dX4_isSpring_5 rfl hl.1 rfl (Nat.le_of_ble_eq_true rfl) ?_
  have r1 : f_XisSpring p0 = (f_XisWithin p0 (0 : Int32) (999 : Int32)) := by
    rw [f_XisSpring]
  exact kr_z (x := (f_XisWithin p0 (0 : Int32) (999 : Int32))) hx hb hr hlk dX4_isSpring_8 rfl r1

def rm_X4_isSetting : Room := { frames := 1, cells := 0, slots := 0, locals := 22 }
theorem mi_X4_isSetting : kM yX4_isSetting wsX4_isSetting cX4_isSetting 1 (some .boolean) 1 := ⟨⟨_, rfl⟩, by decide, by decide, by decide +kernel⟩
def f_XisSetting (p0 : Int32) : Bool := (f_XisWithin p0 (0 : Int32) (2 : Int32))
set_option maxHeartbeats 1000000 in
set_option maxRecDepth 100000 in
theorem c_X4_isSetting (l : Launch) (p0 : Int32) : Met l yX4_isSetting wsX4_isSetting rm_X4_isSetting (va_Pc [.int p0] (fun _ => True)) (kQ (some (.int (bI (f_XisSetting p0))))) 0 0 (fun _ => False) := by
  refine kofP (cc := cX4_isSetting) (maxL := 1) (ret := some .boolean) (by decide) rfl (Nat.le_of_ble_eq_true rfl) ?_
  intro p e s m args below meth c ls S hr hlk hl
  obtain ⟨hx, hb, hml, hown, hts⟩ := id S
  have hl : lv_has ls 1 [(0, .int p0)] := hl
  refine lv_iload_n hx hb dX4_isSetting_0 rfl (lv_at hl 0 rfl) ?_
  refine lv_iconst (v := (0 : Int32)) hx hb dX4_isSetting_1 (by decide) ?_
  refine lv_iconst (v := (2 : Int32)) hx hb dX4_isSetting_2 (by decide) ?_
  refine kc_p (y := yX4_isWithin) (As := [.int p0, .int (0 : Int32), .int (2 : Int32)]) (rest := []) rfl S (v := .int (bI (f_XisWithin p0 (0 : Int32) (2 : Int32)))) (c_X4_isWithin l p0 (0 : Int32) (2 : Int32)) gX4_isSetting_X4_isWithin mi_X4_isWithin ⟨rfl, rfl⟩ ⟨Nat.le_of_ble_eq_true rfl, Nat.le_of_ble_eq_true rfl⟩ ⟨Nat.le_refl _, Nat.le_refl _⟩ dX4_isSetting_3 rfl hl.1 rfl (Nat.le_of_ble_eq_true rfl) ?_
  have r1 : f_XisSetting p0 = (f_XisWithin p0 (0 : Int32) (2 : Int32)) := by
    rw [f_XisSetting]
  exact kr_z (x := (f_XisWithin p0 (0 : Int32) (2 : Int32))) hx hb hr hlk dX4_isSetting_6 rfl r1

def rm_X4_isSlot : Room := { frames := 1, cells := 0, slots := 0, locals := 22 }
theorem mi_X4_isSlot : kM yX4_isSlot wsX4_isSlot cX4_isSlot 1 (some .boolean) 1 := ⟨⟨_, rfl⟩, by decide, by decide, by decide +kernel⟩
def f_XisSlot (p0 : Int32) : Bool := (f_XisWithin p0 (0 : Int32) (1 : Int32))
set_option maxHeartbeats 1000000 in
set_option maxRecDepth 100000 in
theorem c_X4_isSlot (l : Launch) (p0 : Int32) : Met l yX4_isSlot wsX4_isSlot rm_X4_isSlot (va_Pc [.int p0] (fun _ => True)) (kQ (some (.int (bI (f_XisSlot p0))))) 0 0 (fun _ => False) := by
  refine kofP (cc := cX4_isSlot) (maxL := 1) (ret := some .boolean) (by decide) rfl (Nat.le_of_ble_eq_true rfl) ?_
  intro p e s m args below meth c ls S hr hlk hl
  obtain ⟨hx, hb, hml, hown, hts⟩ := id S
  have hl : lv_has ls 1 [(0, .int p0)] := hl
  refine lv_iload_n hx hb dX4_isSlot_0 rfl (lv_at hl 0 rfl) ?_
  refine lv_iconst (v := (0 : Int32)) hx hb dX4_isSlot_1 (by decide) ?_
  refine lv_iconst (v := (1 : Int32)) hx hb dX4_isSlot_2 (by decide) ?_
  refine kc_p (y := yX4_isWithin) (As := [.int p0, .int (0 : Int32), .int (1 : Int32)]) (rest := []) rfl S (v := .int (bI (f_XisWithin p0 (0 : Int32) (1 : Int32)))) (c_X4_isWithin l p0 (0 : Int32) (1 : Int32)) gX4_isSlot_X4_isWithin mi_X4_isWithin ⟨rfl, rfl⟩ ⟨Nat.le_of_ble_eq_true rfl, Nat.le_of_ble_eq_true rfl⟩ ⟨Nat.le_refl _, Nat.le_refl _⟩ dX4_isSlot_3 rfl hl.1 rfl (Nat.le_of_ble_eq_true rfl) ?_
  have r1 : f_XisSlot p0 = (f_XisWithin p0 (0 : Int32) (1 : Int32)) := by
    rw [f_XisSlot]
  exact kr_z (x := (f_XisWithin p0 (0 : Int32) (1 : Int32))) hx hb hr hlk dX4_isSlot_6 rfl r1

def rm_X4_highestOf : Room := { frames := 0, cells := 0, slots := 0, locals := 0 }
theorem mi_X4_highestOf : kM yX4_highestOf wsX4_highestOf cX4_highestOf 1 (some .int) 1 := ⟨⟨_, rfl⟩, by decide, by decide, by decide +kernel⟩
def f_XhighestOf (p0 : Int32) : Int32 := if p0 = (0 : Int32) then (95 : Int32) else if p0 = (1 : Int32) then (99 : Int32) else (900 : Int32)
set_option maxHeartbeats 1000000 in
set_option maxRecDepth 100000 in
theorem c_X4_highestOf (l : Launch) (p0 : Int32) : Met l yX4_highestOf wsX4_highestOf rm_X4_highestOf (va_Pc [.int p0] (fun _ => True)) (kQ (some (.int (f_XhighestOf p0)))) 0 0 (fun _ => False) := by
  refine kofP (cc := cX4_highestOf) (maxL := 1) (ret := some .int) (by decide) rfl (Nat.le_of_ble_eq_true rfl) ?_
  intro p e s m args below meth c ls S hr hlk hl
  obtain ⟨hx, hb, hml, hown, hts⟩ := id S
  have hl : lv_has ls 1 [(0, .int p0)] := hl
  refine lv_iload_n hx hb dX4_highestOf_0 rfl (lv_at hl 0 rfl) ?_
  by_cases c_1_0 : p0 = (0 : Int32)
  · refine lv_lookup (off := 27) (tgt := 28) hx hb dX4_highestOf_1 (by decide) (by rw [c_1_0]; rfl) (by decide) ?_
    refine lv_bipush (v := (95 : Int32)) hx hb dX4_highestOf_28 (by decide) ?_
    have r1 : f_XhighestOf p0 = (95 : Int32) := by
      rw [f_XhighestOf, if_pos c_1_0]
    exact kr_i hx hb hr hlk dX4_highestOf_30 r1.symm
  by_cases c_1_1 : p0 = (1 : Int32)
  · refine lv_lookup (off := 30) (tgt := 31) hx hb dX4_highestOf_1 (by decide) (by rw [c_1_1]; rfl) (by decide) ?_
    refine lv_bipush (v := (99 : Int32)) hx hb dX4_highestOf_31 (by decide) ?_
    have r2 : f_XhighestOf p0 = (99 : Int32) := by
      rw [f_XhighestOf, if_neg c_1_0, if_pos c_1_1]
    exact kr_i hx hb hr hlk dX4_highestOf_33 r2.symm
  refine lv_lookup (off := 33) (tgt := 34) hx hb dX4_highestOf_1 (by decide) (by rw [lv_osw (a := 0) (k := (0 : Int32)) c_1_0 (by decide)]; rw [lv_osw (a := 1) (k := (1 : Int32)) c_1_1 (by decide)]; rfl) (by decide) ?_
  refine lv_sipush (v := (900 : Int32)) hx hb dX4_highestOf_34 (by decide) ?_
  have r3 : f_XhighestOf p0 = (900 : Int32) := by
    rw [f_XhighestOf, if_neg c_1_0, if_neg c_1_1]
  exact kr_i hx hb hr hlk dX4_highestOf_37 r3.symm

def rm_X4_figure : Room := { frames := 5, cells := 0, slots := 0, locals := 109 }
theorem mi_X4_figure : kM yX4_figure wsX4_figure cX4_figure 2 (some .int) 1 := ⟨⟨_, rfl⟩, by decide, by decide, by decide +kernel⟩
def f_Xfigure (fl : (Nat → Int32)) (un : BS) (ut : BS) (u0 : BS) (u1 : BS) (sv : SS) (x : BS) (r : BS) (p0 : Int32) : Int32 := if p0 = (11 : Int32) then (f_Ssize sv) else f_figureOf un p0
set_option maxHeartbeats 1000000 in
set_option maxRecDepth 100000 in
theorem c_X4_figure (l : Launch) (dC : Nat → ClassId) (dI : Nat → Nat → Nat) (cI cZ cO : ClassId) (A : Nat → Nat) (Q : Nat → Nat → Nat) (fl : (Nat → Int32)) (un : BS) (ut : BS) (u0 : BS) (u1 : BS) (sv : SS) (x : BS) (r : BS) (p0 : Int32) : Met l yX4_figure wsX4_figure rm_X4_figure (va_Pc [.ref (A 0), .int p0] (fun U => va_P (dC, dI) vwCl (XW cI cZ cO A Q fl un ut u0 u1 sv x r) U.heap ∧ va_K (dC, dI) vwCl (TY cI cZ cO) U)) (kQ (some (.int (f_Xfigure fl un ut u0 u1 sv x r p0)))) 0 0 (fun _ => False) := by
  refine kofR (cc := cX4_figure) (maxL := 2) (ret := some .int) (by decide) rfl (Nat.le_of_ble_eq_true rfl) ?_
  intro p e s m args below meth c ls S hr hlk hP hK hl
  obtain ⟨hx, hb, hml, hown, hts⟩ := id S
  have inX4 : ∀ w ∈ wsX40, w ∈ wsX4_figure := fun w h => List.mem_cons_of_mem _ (List.mem_append_left _ (List.mem_append_left _ (List.mem_append_right _ h)))
  have hl : lv_has ls 2 [(0, .ref (A 0)), (1, .int p0)] := hl
  refine lv_iload_n hx hb dX4_figure_0 rfl (lv_at hl 1 rfl) ?_
  refine lv_bipush (v := (11 : Int32)) hx hb dX4_figure_1 (by decide) ?_
  refine lv_icmp_ne (tgt := 16) hx hb dX4_figure_3 (by decide) (fun c_3 => ?_) (fun c_3 => ?_)
  · refine lv_aload_n hx hb dX4_figure_16 rfl (lv_at hl 0 rfl) ?_
    refine va_get (D := (dC, dI)) (ci := 4) (v := .ref (A 1)) (C := RX4) (T := TX4) (N := 8) hx hb hts inX4 hown hK hP 0 rfl rfl 0 (by decide) (hts (.fieldLink RX4 10 "BoardMetronomes" "now" "LBoardMetronomes$Bench;") (by decide +kernel)) (fun _ h9 => h9) rfl dX4_figure_17 ?_
    refine lv_iload_n hx hb dX4_figure_20 rfl (lv_at hl 1 rfl) ?_
    refine kc_v (As := [.int p0]) (rest := []) S (v := .int (f_figureOf un p0)) (c_X0_figureOf l dC dI cI cZ cO (A 1) (Q 1) un p0) gX4_figure_X0_figureOf mi_X0_figureOf ⟨rfl, rfl⟩ ⟨Nat.le_of_ble_eq_true rfl, Nat.le_of_ble_eq_true rfl⟩ hK (XW_p_un hP) 0 rfl rfl ⟨Nat.le_refl _, Nat.le_refl _⟩ dX4_figure_21 rfl hl.1 rfl (Nat.le_of_ble_eq_true rfl) ?_
    have r1 : f_Xfigure fl un ut u0 u1 sv x r p0 = f_figureOf un p0 := by
      rw [f_Xfigure, if_neg c_3]
    exact kr_i hx hb hr hlk dX4_figure_24 r1.symm
  · refine lv_aload_n hx hb dX4_figure_6 rfl (lv_at hl 0 rfl) ?_
    refine va_get (D := (dC, dI)) (ci := 4) (v := .ref (A 6)) (C := RX4) (T := TX4) (N := 8) hx hb hts inX4 hown hK hP 0 rfl rfl 5 (by decide) (hts (.fieldLink RX4 32 "BoardMetronomes" "saved" "LBoardMetronomes$SavedStates;") (by decide +kernel)) (fun _ h9 => h9) rfl dX4_figure_7 ?_
    refine kc_v (As := []) (rest := []) S (v := .int (f_Ssize sv)) (c_X2_size l dC dI cI cZ cO A Q sv) gX4_figure_X2_size mi_X2_size ⟨rfl, rfl⟩ ⟨Nat.le_of_ble_eq_true rfl, Nat.le_of_ble_eq_true rfl⟩ hK (XW_p_S hP) 0 rfl rfl ⟨Nat.le_refl _, Nat.le_refl _⟩ dX4_figure_10 rfl hl.1 rfl (Nat.le_of_ble_eq_true rfl) ?_
    refine lv_goto (tgt := 24) hx hb dX4_figure_13 (by decide) ?_
    have r2 : f_Xfigure fl un ut u0 u1 sv x r p0 = f_Ssize sv := by
      rw [f_Xfigure, if_pos c_3]
    exact kr_i hx hb hr hlk dX4_figure_24 r2.symm

def rm_X4_tryOut : Room := { frames := 4, cells := 0, slots := 0, locals := 88 }
theorem mi_X4_tryOut : kM yX4_tryOut wsX4_tryOut cX4_tryOut 4 none 2 := ⟨⟨_, rfl⟩, by decide, by decide, by decide +kernel⟩
def f_XtryOut_L23 (fl : (Nat → Int32)) (un : BS) (ut : BS) (u0 : BS) (u1 : BS) (sv : SS) (x : BS) (r : BS) (p0 : Int32) (p1 : Int32) (j0 : Nat) (x0 : BS) : BS := (f_step x0)
def f_XtryOut (fl : (Nat → Int32)) (un : BS) (ut : BS) (u0 : BS) (u1 : BS) (sv : SS) (x : BS) (r : BS) (p0 : Int32) (p1 : Int32) : BS := it p0.toNatClampNeg (f_XtryOut_L23 fl un ut u0 u1 sv x r p0 p1) ((f_changeSetting (f_copyFrom ut un) (1 : Int32) p1).2)
set_option maxHeartbeats 1000000 in
set_option maxRecDepth 100000 in
theorem c_X4_tryOut (l : Launch) (dC : Nat → ClassId) (dI : Nat → Nat → Nat) (cI cZ cO : ClassId) (A : Nat → Nat) (Q : Nat → Nat → Nat) (fl : (Nat → Int32)) (un : BS) (ut : BS) (u0 : BS) (u1 : BS) (sv : SS) (x : BS) (r : BS) (p0 : Int32) (p1 : Int32) (sz : Nat) : Met l yX4_tryOut wsX4_tryOut rm_X4_tryOut (va_Pc [.ref (A 0), .int p0, .int p1] (fun U => U.heap.size = sz ∧ va_P (dC, dI) vwCl (XW cI cZ cO A Q fl un ut u0 u1 sv x r) U.heap ∧ va_K (dC, dI) vwCl (TY cI cZ cO) U ∧ va_D (fun _ => True) (XW cI cZ cO A Q fl un ut u0 u1 sv x r))) (kQw none (dC, dI) vwCl (XW cI cZ cO A Q fl un (f_XtryOut fl un ut u0 u1 sv x r p0 p1) u0 u1 sv x r) (va_A (XW cI cZ cO A Q fl un ut u0 u1 sv x r) sz)) 0 0 (va_A (XW cI cZ cO A Q fl un ut u0 u1 sv x r) sz) := by
  refine kofW (cc := cX4_tryOut) (maxL := 4) (ret := none) (by decide) rfl (Nat.le_of_ble_eq_true rfl) ?_
  intro p e s m args below meth c ls S hr hlk hnm hsz hP hK hD hS hA hl
  generalize hA0 : va_A (XW cI cZ cO A Q fl un ut u0 u1 sv x r) sz = A0 at hD hS hA ⊢
  subst hsz
  obtain ⟨hx, hb, hml, hown, hts⟩ := id S
  have inX4 : ∀ w ∈ wsX40, w ∈ wsX4_tryOut := fun w h => List.mem_cons_of_mem _ (List.mem_append_left _ (List.mem_append_right _ h))
  have hl : lv_has ls 4 [(0, .ref (A 0)), (1, .int p0), (2, .int p1)] := hl
  refine lv_aload_n hx hb dX4_tryOut_0 rfl (lv_at hl 0 rfl) ?_
  refine va_get (D := (dC, dI)) (ci := 4) (v := .ref (A 2)) (C := RX4) (T := TX4) (N := 8) hx hb hts inX4 hown hK hP 0 rfl rfl 1 (by decide) (hts (.fieldLink RX4 16 "BoardMetronomes" "trial" "LBoardMetronomes$Bench;") (by decide +kernel)) (fun _ h9 => h9) rfl dX4_tryOut_1 ?_
  refine lv_aload_n hx hb dX4_tryOut_4 rfl (lv_at hl 0 rfl) ?_
  refine va_get (D := (dC, dI)) (ci := 4) (v := .ref (A 1)) (C := RX4) (T := TX4) (N := 8) hx hb hts inX4 hown hK hP 0 rfl rfl 0 (by decide) (hts (.fieldLink RX4 10 "BoardMetronomes" "now" "LBoardMetronomes$Bench;") (by decide +kernel)) (fun _ h9 => h9) rfl dX4_tryOut_5 ?_
  refine kc_w (As := [.ref (A 1)]) (rest := []) S (v := none) (c_X0_copyFrom l dC dI cI cZ cO (A 2) (A 1) (Q 2) (Q 1) ut un s.heap.size) gX4_tryOut_X0_copyFrom mi_X0_copyFrom ⟨rfl, rfl⟩ ⟨Nat.le_of_ble_eq_true rfl, Nat.le_of_ble_eq_true rfl⟩ hK hP hD hS hA [8, 9, 10, 11, 12, 13, 2, 3, 4, 5, 6, 7] XW_all_ut_un BW2_fst rfl 0 rfl rfl ⟨Nat.le_refl _, Nat.le_refl _⟩ dX4_tryOut_8 rfl hl.1 rfl (Nat.le_of_ble_eq_true rfl) (fun H locs hP hD hS => ?_)
  have hP : va_P (dC, dI) vwCl (XW cI cZ cO A Q fl un (f_copyFrom ut un) u0 u1 sv x r) H := Eq.mp (congrArg (fun w => va_P (dC, dI) vwCl w H) XW_ks_ut_un) hP
  have hD : va_D A0 (XW cI cZ cO A Q fl un (f_copyFrom ut un) u0 u1 sv x r) := Eq.mp (congrArg (fun w => va_D A0 w) XW_ks_ut_un) hD
  refine lv_aload_n hx hb dX4_tryOut_11 rfl (lv_at hl 0 rfl) ?_
  refine va_get (D := (dC, dI)) (ci := 4) (v := .ref (A 2)) (C := RX4) (T := TX4) (N := 8) hx hb hts inX4 hown hK hP 0 rfl rfl 1 (by decide) (hts (.fieldLink RX4 16 "BoardMetronomes" "trial" "LBoardMetronomes$Bench;") (by decide +kernel)) (fun _ h9 => h9) rfl dX4_tryOut_12 ?_
  refine lv_iconst (v := (1 : Int32)) hx hb dX4_tryOut_15 (by decide) ?_
  refine lv_iload_n hx hb dX4_tryOut_16 rfl (lv_at hl 2 rfl) ?_
  refine kc_w (As := [.int (1 : Int32), .int p1]) (rest := []) S (v := (some (.int ((f_changeSetting (f_copyFrom ut un) (1 : Int32) p1).1)))) (c_X0_changeSetting l dC dI cI cZ cO (A 2) (Q 2) (f_copyFrom ut un) (1 : Int32) p1 H.size) gX4_tryOut_X0_changeSetting mi_X0_changeSetting ⟨rfl, rfl⟩ ⟨Nat.le_of_ble_eq_true rfl, Nat.le_of_ble_eq_true rfl⟩ hK hP hD hS hA [8, 9, 10, 11, 12, 13] XW_all_ut BW_fst rfl 0 rfl rfl ⟨Nat.le_refl _, Nat.le_refl _⟩ dX4_tryOut_17 rfl hl.1 rfl (Nat.le_of_ble_eq_true rfl) (fun H locs hP hD hS => ?_)
  have hP : va_P (dC, dI) vwCl (XW cI cZ cO A Q fl un ((f_changeSetting (f_copyFrom ut un) (1 : Int32) p1).2) u0 u1 sv x r) H := Eq.mp (congrArg (fun w => va_P (dC, dI) vwCl w H) XW_ks_ut) hP
  have hD : va_D A0 (XW cI cZ cO A Q fl un ((f_changeSetting (f_copyFrom ut un) (1 : Int32) p1).2) u0 u1 sv x r) := Eq.mp (congrArg (fun w => va_D A0 w) XW_ks_ut) hD
  refine lv_pop hx hb dX4_tryOut_20 rfl ?_
  refine lv_iconst (v := (0 : Int32)) hx hb dX4_tryOut_21 (by decide) ?_
  refine lv_istore_n (lv' := [(3, .int (0 : Int32)), (0, .ref (A 0)), (1, .int p0), (2, .int p1)]) hx hb dX4_tryOut_22 rfl hl (by decide) rfl (fun ls hl => ?_)
  have L1 : ∀ (n j0 : Nat), j0 + n = p0.toNatClampNeg → ∀ (H : Heap) (locs : List Loc) (ls : Array Slot), va_P (dC, dI) vwCl (XW cI cZ cO A Q fl un (it j0 (f_XtryOut_L23 fl un ut u0 u1 sv x r p0 p1) ((f_changeSetting (f_copyFrom ut un) (1 : Int32) p1).2)) u0 u1 sv x r) H → va_D A0 (XW cI cZ cO A Q fl un (it j0 (f_XtryOut_L23 fl un ut u0 u1 sv x r p0 p1) ((f_changeSetting (f_copyFrom ut un) (1 : Int32) p1).2)) u0 u1 sv x r) → va_S A0 s.heap H locs → lv_has ls 4 [(0, .ref (A 0)), (1, .int p0), (2, .int p1), (3, .int (nI j0))] → W p l e rm_X4_tryOut s m args below meth c H locs 0 0 (MQ below (kQw none (dC, dI) vwCl (XW cI cZ cO A Q fl un (f_XtryOut fl un ut u0 u1 sv x r p0 p1) u0 u1 sv x r) A0) args s 0 0 A0) (F0 m 23 ls []) := by
    intro n
    induction n with
    | zero =>
      intro j0 hj1 H locs ls hP hD hS hl
      obtain rfl : j0 = p0.toNatClampNeg := by omega
      refine lv_iload_n hx hb dX4_tryOut_23 rfl (lv_at hl 3 rfl) ?_
      refine lv_iload_n hx hb dX4_tryOut_24 rfl (lv_at hl 1 rfl) ?_
      refine lv_icmp_ge (tgt := 41) hx hb dX4_tryOut_25 (by decide) (fun c_25 => ?_) (fun c_25 => ?_)
      · have r2 : f_XtryOut fl un ut u0 u1 sv x r p0 p1 = it p0.toNatClampNeg (f_XtryOut_L23 fl un ut u0 u1 sv x r p0 p1) ((f_changeSetting (f_copyFrom ut un) (1 : Int32) p1).2) := by
          rw [f_XtryOut]
        exact kw_v hx hb hr hlk hP hS dX4_tryOut_41 (by rw [r2])
      · exact absurd (kn_ge p0) c_25
    | succ n ih1 =>
      intro j0 hj1 H locs ls hP hD hS hl
      refine lv_iload_n hx hb dX4_tryOut_23 rfl (lv_at hl 3 rfl) ?_
      refine lv_iload_n hx hb dX4_tryOut_24 rfl (lv_at hl 1 rfl) ?_
      refine lv_icmp_ge (tgt := 41) hx hb dX4_tryOut_25 (by decide) (fun c_25 => ?_) (fun c_25 => ?_)
      · exact absurd c_25 (kn_lt (b := p0) (by omega))
      · refine lv_aload_n hx hb dX4_tryOut_28 rfl (lv_at hl 0 rfl) ?_
        refine va_get (D := (dC, dI)) (ci := 4) (v := .ref (A 2)) (C := RX4) (T := TX4) (N := 8) hx hb hts inX4 hown hK hP 0 rfl rfl 1 (by decide) (hts (.fieldLink RX4 16 "BoardMetronomes" "trial" "LBoardMetronomes$Bench;") (by decide +kernel)) (fun _ h9 => h9) rfl dX4_tryOut_29 ?_
        refine kc_w (As := []) (rest := []) S (v := none) (c_X0_step l dC dI cI cZ cO (A 2) (Q 2) (it j0 (f_XtryOut_L23 fl un ut u0 u1 sv x r p0 p1) ((f_changeSetting (f_copyFrom ut un) (1 : Int32) p1).2)) H.size) gX4_tryOut_X0_step mi_X0_step ⟨rfl, rfl⟩ ⟨Nat.le_of_ble_eq_true rfl, Nat.le_of_ble_eq_true rfl⟩ hK hP hD hS hA [8, 9, 10, 11, 12, 13] XW_all_ut BW_fst rfl 0 rfl rfl ⟨Nat.le_refl _, Nat.le_refl _⟩ dX4_tryOut_32 rfl hl.1 rfl (Nat.le_of_ble_eq_true rfl) (fun H locs hP hD hS => ?_)
        have hP : va_P (dC, dI) vwCl (XW cI cZ cO A Q fl un (f_step (it j0 (f_XtryOut_L23 fl un ut u0 u1 sv x r p0 p1) ((f_changeSetting (f_copyFrom ut un) (1 : Int32) p1).2))) u0 u1 sv x r) H := Eq.mp (congrArg (fun w => va_P (dC, dI) vwCl w H) XW_ks_ut) hP
        have hD : va_D A0 (XW cI cZ cO A Q fl un (f_step (it j0 (f_XtryOut_L23 fl un ut u0 u1 sv x r p0 p1) ((f_changeSetting (f_copyFrom ut un) (1 : Int32) p1).2))) u0 u1 sv x r) := Eq.mp (congrArg (fun w => va_D A0 w) XW_ks_ut) hD
        refine lv_iinc (v := nI (j0 + 1)) (lv' := [(3, .int (nI (j0 + 1))), (0, .ref (A 0)), (1, .int p0), (2, .int p1)]) hx hb dX4_tryOut_35 hl (k := 3) rfl (nI_add j0 1) (by decide) rfl (fun ls hl => ?_)
        refine lv_goto (tgt := 23) hx hb dX4_tryOut_38 (by decide) ?_
        have b3 : f_XtryOut_L23 fl un ut u0 u1 sv x r p0 p1 j0 (it j0 (f_XtryOut_L23 fl un ut u0 u1 sv x r p0 p1) ((f_changeSetting (f_copyFrom ut un) (1 : Int32) p1).2)) = (f_step (it j0 (f_XtryOut_L23 fl un ut u0 u1 sv x r p0 p1) ((f_changeSetting (f_copyFrom ut un) (1 : Int32) p1).2))) := by
          rw [f_XtryOut_L23]
        have e3 : it (j0 + 1) (f_XtryOut_L23 fl un ut u0 u1 sv x r p0 p1) ((f_changeSetting (f_copyFrom ut un) (1 : Int32) p1).2) = (f_step (it j0 (f_XtryOut_L23 fl un ut u0 u1 sv x r p0 p1) ((f_changeSetting (f_copyFrom ut un) (1 : Int32) p1).2))) := (it_s _ _ _).trans b3
        exact ih1 (j0 + 1) (by omega) H locs ls (by rw [e3]; exact hP) (by rw [e3]; exact hD) hS (lv_sub hl [1, 2, 3, 0] rfl)
  exact L1 p0.toNatClampNeg 0 (by omega) H locs ls hP hD hS (lv_sub hl [1, 2, 3, 0] rfl)

def rm_X4_outcome : Room := { frames := 4, cells := 0, slots := 0, locals := 87 }
theorem mi_X4_outcome : kM yX4_outcome wsX4_outcome cX4_outcome 2 (some .int) 1 := ⟨⟨_, rfl⟩, by decide, by decide, by decide +kernel⟩
def f_Xoutcome (fl : (Nat → Int32)) (un : BS) (ut : BS) (u0 : BS) (u1 : BS) (sv : SS) (x : BS) (r : BS) (p0 : Int32) : Int32 := if p0 = (0 : Int32) then ((f_allTicks ut) - (f_allTicks un)) else if p0 = (1 : Int32) then (f_order ut) else if p0 = (2 : Int32) then (f_greatestDistance ut) else if p0 = (3 : Int32) then (f_going ut) else (f_stepsTogether ut) - (f_stepsTogether un)
set_option maxHeartbeats 1000000 in
set_option maxRecDepth 100000 in
theorem c_X4_outcome (l : Launch) (dC : Nat → ClassId) (dI : Nat → Nat → Nat) (cI cZ cO : ClassId) (A : Nat → Nat) (Q : Nat → Nat → Nat) (fl : (Nat → Int32)) (un : BS) (ut : BS) (u0 : BS) (u1 : BS) (sv : SS) (x : BS) (r : BS) (p0 : Int32) : Met l yX4_outcome wsX4_outcome rm_X4_outcome (va_Pc [.ref (A 0), .int p0] (fun U => va_P (dC, dI) vwCl (XW cI cZ cO A Q fl un ut u0 u1 sv x r) U.heap ∧ va_K (dC, dI) vwCl (TY cI cZ cO) U)) (kQ (some (.int (f_Xoutcome fl un ut u0 u1 sv x r p0)))) 0 0 (fun _ => False) := by
  refine kofR (cc := cX4_outcome) (maxL := 2) (ret := some .int) (by decide) rfl (Nat.le_of_ble_eq_true rfl) ?_
  intro p e s m args below meth c ls S hr hlk hP hK hl
  obtain ⟨hx, hb, hml, hown, hts⟩ := id S
  have inX4 : ∀ w ∈ wsX40, w ∈ wsX4_outcome := fun w h => List.mem_cons_of_mem _ (List.mem_append_left _ (List.mem_append_right _ h))
  have hl : lv_has ls 2 [(0, .ref (A 0)), (1, .int p0)] := hl
  refine lv_iload_n hx hb dX4_outcome_0 rfl (lv_at hl 1 rfl) ?_
  by_cases c_1_0 : p0 = (0 : Int32)
  · refine lv_tableIn (off := 31) (tgt := 32) hx hb dX4_outcome_1 (by rw [c_1_0]; decide) (by rw [c_1_0]; decide) (by rw [c_1_0]; rfl) (by decide) ?_
    refine lv_aload_n hx hb dX4_outcome_32 rfl (lv_at hl 0 rfl) ?_
    refine va_get (D := (dC, dI)) (ci := 4) (v := .ref (A 2)) (C := RX4) (T := TX4) (N := 8) hx hb hts inX4 hown hK hP 0 rfl rfl 1 (by decide) (hts (.fieldLink RX4 16 "BoardMetronomes" "trial" "LBoardMetronomes$Bench;") (by decide +kernel)) (fun _ h9 => h9) rfl dX4_outcome_33 ?_
    refine kc_v (As := []) (rest := []) S (v := .int (f_allTicks ut)) (c_X0_allTicks l dC dI cI cZ cO (A 2) (Q 2) ut) gX4_outcome_X0_allTicks mi_X0_allTicks ⟨rfl, rfl⟩ ⟨Nat.le_of_ble_eq_true rfl, Nat.le_of_ble_eq_true rfl⟩ hK (XW_p_ut hP) 0 rfl rfl ⟨Nat.le_refl _, Nat.le_refl _⟩ dX4_outcome_36 rfl hl.1 rfl (Nat.le_of_ble_eq_true rfl) ?_
    refine lv_aload_n hx hb dX4_outcome_39 rfl (lv_at hl 0 rfl) ?_
    refine va_get (D := (dC, dI)) (ci := 4) (v := .ref (A 1)) (C := RX4) (T := TX4) (N := 8) hx hb hts inX4 hown hK hP 0 rfl rfl 0 (by decide) (hts (.fieldLink RX4 10 "BoardMetronomes" "now" "LBoardMetronomes$Bench;") (by decide +kernel)) (fun _ h9 => h9) rfl dX4_outcome_40 ?_
    refine kc_v (As := []) (rest := [.int (f_allTicks ut)]) S (v := .int (f_allTicks un)) (c_X0_allTicks l dC dI cI cZ cO (A 1) (Q 1) un) gX4_outcome_X0_allTicks mi_X0_allTicks ⟨rfl, rfl⟩ ⟨Nat.le_of_ble_eq_true rfl, Nat.le_of_ble_eq_true rfl⟩ hK (XW_p_un hP) 0 rfl rfl ⟨Nat.le_refl _, Nat.le_refl _⟩ dX4_outcome_43 rfl hl.1 rfl (Nat.le_of_ble_eq_true rfl) ?_
    refine lv_isub hx hb dX4_outcome_46 ?_
    have r1 : f_Xoutcome fl un ut u0 u1 sv x r p0 = (f_allTicks ut) - (f_allTicks un) := by
      rw [f_Xoutcome, if_pos c_1_0]
    exact kr_i hx hb hr hlk dX4_outcome_47 r1.symm
  by_cases c_1_1 : p0 = (1 : Int32)
  · refine lv_tableIn (off := 47) (tgt := 48) hx hb dX4_outcome_1 (by rw [c_1_1]; decide) (by rw [c_1_1]; decide) (by rw [c_1_1]; rfl) (by decide) ?_
    refine lv_aload_n hx hb dX4_outcome_48 rfl (lv_at hl 0 rfl) ?_
    refine va_get (D := (dC, dI)) (ci := 4) (v := .ref (A 2)) (C := RX4) (T := TX4) (N := 8) hx hb hts inX4 hown hK hP 0 rfl rfl 1 (by decide) (hts (.fieldLink RX4 16 "BoardMetronomes" "trial" "LBoardMetronomes$Bench;") (by decide +kernel)) (fun _ h9 => h9) rfl dX4_outcome_49 ?_
    refine kc_v (As := []) (rest := []) S (v := .int (f_order ut)) (c_X0_order l dC dI cI cZ cO (A 2) (Q 2) ut) gX4_outcome_X0_order mi_X0_order ⟨rfl, rfl⟩ ⟨Nat.le_of_ble_eq_true rfl, Nat.le_of_ble_eq_true rfl⟩ hK (XW_p_ut hP) 0 rfl rfl ⟨Nat.le_refl _, Nat.le_refl _⟩ dX4_outcome_52 rfl hl.1 rfl (Nat.le_of_ble_eq_true rfl) ?_
    have r2 : f_Xoutcome fl un ut u0 u1 sv x r p0 = f_order ut := by
      rw [f_Xoutcome, if_neg c_1_0, if_pos c_1_1]
    exact kr_i hx hb hr hlk dX4_outcome_55 r2.symm
  by_cases c_1_2 : p0 = (2 : Int32)
  · refine lv_tableIn (off := 55) (tgt := 56) hx hb dX4_outcome_1 (by rw [c_1_2]; decide) (by rw [c_1_2]; decide) (by rw [c_1_2]; rfl) (by decide) ?_
    refine lv_aload_n hx hb dX4_outcome_56 rfl (lv_at hl 0 rfl) ?_
    refine va_get (D := (dC, dI)) (ci := 4) (v := .ref (A 2)) (C := RX4) (T := TX4) (N := 8) hx hb hts inX4 hown hK hP 0 rfl rfl 1 (by decide) (hts (.fieldLink RX4 16 "BoardMetronomes" "trial" "LBoardMetronomes$Bench;") (by decide +kernel)) (fun _ h9 => h9) rfl dX4_outcome_57 ?_
    refine kc_v (As := []) (rest := []) S (v := .int (f_greatestDistance ut)) (c_X0_greatestDistance l dC dI cI cZ cO (A 2) (Q 2) ut) gX4_outcome_X0_greatestDistance mi_X0_greatestDistance ⟨rfl, rfl⟩ ⟨Nat.le_of_ble_eq_true rfl, Nat.le_of_ble_eq_true rfl⟩ hK (XW_p_ut hP) 0 rfl rfl ⟨Nat.le_refl _, Nat.le_refl _⟩ dX4_outcome_60 rfl hl.1 rfl (Nat.le_of_ble_eq_true rfl) ?_
    have r3 : f_Xoutcome fl un ut u0 u1 sv x r p0 = f_greatestDistance ut := by
      rw [f_Xoutcome, if_neg c_1_0, if_neg c_1_1, if_pos c_1_2]
    exact kr_i hx hb hr hlk dX4_outcome_63 r3.symm
  by_cases c_1_3 : p0 = (3 : Int32)
  · refine lv_tableIn (off := 63) (tgt := 64) hx hb dX4_outcome_1 (by rw [c_1_3]; decide) (by rw [c_1_3]; decide) (by rw [c_1_3]; rfl) (by decide) ?_
    refine lv_aload_n hx hb dX4_outcome_64 rfl (lv_at hl 0 rfl) ?_
    refine va_get (D := (dC, dI)) (ci := 4) (v := .ref (A 2)) (C := RX4) (T := TX4) (N := 8) hx hb hts inX4 hown hK hP 0 rfl rfl 1 (by decide) (hts (.fieldLink RX4 16 "BoardMetronomes" "trial" "LBoardMetronomes$Bench;") (by decide +kernel)) (fun _ h9 => h9) rfl dX4_outcome_65 ?_
    refine kc_v (As := []) (rest := []) S (v := .int (f_going ut)) (c_X0_going l dC dI cI cZ cO (A 2) (Q 2) ut) gX4_outcome_X0_going mi_X0_going ⟨rfl, rfl⟩ ⟨Nat.le_of_ble_eq_true rfl, Nat.le_of_ble_eq_true rfl⟩ hK (XW_p_ut hP) 0 rfl rfl ⟨Nat.le_refl _, Nat.le_refl _⟩ dX4_outcome_68 rfl hl.1 rfl (Nat.le_of_ble_eq_true rfl) ?_
    have r4 : f_Xoutcome fl un ut u0 u1 sv x r p0 = f_going ut := by
      rw [f_Xoutcome, if_neg c_1_0, if_neg c_1_1, if_neg c_1_2, if_pos c_1_3]
    exact kr_i hx hb hr hlk dX4_outcome_71 r4.symm
  refine lv_tableOut (tgt := 72) hx hb dX4_outcome_1 (by have e_0 := lv_neT c_1_0 (a := 0) (by decide); have e_1 := lv_neT c_1_1 (a := 1) (by decide); have e_2 := lv_neT c_1_2 (a := 2) (by decide); have e_3 := lv_neT c_1_3 (a := 3) (by decide); omega) (by decide) ?_
  refine lv_aload_n hx hb dX4_outcome_72 rfl (lv_at hl 0 rfl) ?_
  refine va_get (D := (dC, dI)) (ci := 4) (v := .ref (A 2)) (C := RX4) (T := TX4) (N := 8) hx hb hts inX4 hown hK hP 0 rfl rfl 1 (by decide) (hts (.fieldLink RX4 16 "BoardMetronomes" "trial" "LBoardMetronomes$Bench;") (by decide +kernel)) (fun _ h9 => h9) rfl dX4_outcome_73 ?_
  refine kc_v (As := []) (rest := []) S (v := .int (f_stepsTogether ut)) (c_X0_stepsTogether l dC dI cI cZ cO (A 2) (Q 2) ut) gX4_outcome_X0_stepsTogether mi_X0_stepsTogether ⟨rfl, rfl⟩ ⟨Nat.le_of_ble_eq_true rfl, Nat.le_of_ble_eq_true rfl⟩ hK (XW_p_ut hP) 0 rfl rfl ⟨Nat.le_refl _, Nat.le_refl _⟩ dX4_outcome_76 rfl hl.1 rfl (Nat.le_of_ble_eq_true rfl) ?_
  refine lv_aload_n hx hb dX4_outcome_79 rfl (lv_at hl 0 rfl) ?_
  refine va_get (D := (dC, dI)) (ci := 4) (v := .ref (A 1)) (C := RX4) (T := TX4) (N := 8) hx hb hts inX4 hown hK hP 0 rfl rfl 0 (by decide) (hts (.fieldLink RX4 10 "BoardMetronomes" "now" "LBoardMetronomes$Bench;") (by decide +kernel)) (fun _ h9 => h9) rfl dX4_outcome_80 ?_
  refine kc_v (As := []) (rest := [.int (f_stepsTogether ut)]) S (v := .int (f_stepsTogether un)) (c_X0_stepsTogether l dC dI cI cZ cO (A 1) (Q 1) un) gX4_outcome_X0_stepsTogether mi_X0_stepsTogether ⟨rfl, rfl⟩ ⟨Nat.le_of_ble_eq_true rfl, Nat.le_of_ble_eq_true rfl⟩ hK (XW_p_un hP) 0 rfl rfl ⟨Nat.le_refl _, Nat.le_refl _⟩ dX4_outcome_83 rfl hl.1 rfl (Nat.le_of_ble_eq_true rfl) ?_
  refine lv_isub hx hb dX4_outcome_86 ?_
  have r5 : f_Xoutcome fl un ut u0 u1 sv x r p0 = (f_stepsTogether ut) - (f_stepsTogether un) := by
    rw [f_Xoutcome, if_neg c_1_0, if_neg c_1_1, if_neg c_1_2, if_neg c_1_3]
  exact kr_i hx hb hr hlk dX4_outcome_87 r5.symm

def rm_X4_strengthOfGreatestOrder : Room := { frames := 5, cells := 0, slots := 0, locals := 111 }
theorem mi_X4_strengthOfGreatestOrder : kM yX4_strengthOfGreatestOrder wsX4_strengthOfGreatestOrder cX4_strengthOfGreatestOrder 6 (some .int) 1 := ⟨⟨_, rfl⟩, by decide, by decide, by decide +kernel⟩
def f_XstrengthOfGreatestOrder_L7 (fl : (Nat → Int32)) (un : BS) (ut : BS) (u0 : BS) (u1 : BS) (sv : SS) (x : BS) (r : BS) (p0 : Int32) (j0 : Nat) (x0 : (Int32 × Int32 × BS)) : Int32 × Int32 × BS := if (f_order (f_XtryOut fl un x0.2.2 u0 u1 sv x r p0 (nI (5 * j0)))) ≤ x0.2.1 then (x0.1, x0.2.1, (f_XtryOut fl un x0.2.2 u0 u1 sv x r p0 (nI (5 * j0)))) else (nI (5 * j0), f_order (f_XtryOut fl un x0.2.2 u0 u1 sv x r p0 (nI (5 * j0))), (f_XtryOut fl un x0.2.2 u0 u1 sv x r p0 (nI (5 * j0))))
def f_XstrengthOfGreatestOrder (fl : (Nat → Int32)) (un : BS) (ut : BS) (u0 : BS) (u1 : BS) (sv : SS) (x : BS) (r : BS) (p0 : Int32) : Int32 × BS := ((it 20 (f_XstrengthOfGreatestOrder_L7 fl un ut u0 u1 sv x r p0) ((0 : Int32), (-1 : Int32), ut)).1, (it 20 (f_XstrengthOfGreatestOrder_L7 fl un ut u0 u1 sv x r p0) ((0 : Int32), (-1 : Int32), ut)).2.2)
set_option maxHeartbeats 1000000 in
set_option maxRecDepth 100000 in
theorem c_X4_strengthOfGreatestOrder (l : Launch) (dC : Nat → ClassId) (dI : Nat → Nat → Nat) (cI cZ cO : ClassId) (A : Nat → Nat) (Q : Nat → Nat → Nat) (fl : (Nat → Int32)) (un : BS) (ut : BS) (u0 : BS) (u1 : BS) (sv : SS) (x : BS) (r : BS) (p0 : Int32) (sz : Nat) : Met l yX4_strengthOfGreatestOrder wsX4_strengthOfGreatestOrder rm_X4_strengthOfGreatestOrder (va_Pc [.ref (A 0), .int p0] (fun U => U.heap.size = sz ∧ va_P (dC, dI) vwCl (XW cI cZ cO A Q fl un ut u0 u1 sv x r) U.heap ∧ va_K (dC, dI) vwCl (TY cI cZ cO) U ∧ va_D (fun _ => True) (XW cI cZ cO A Q fl un ut u0 u1 sv x r))) (kQw (some (.int (f_XstrengthOfGreatestOrder fl un ut u0 u1 sv x r p0).1)) (dC, dI) vwCl (XW cI cZ cO A Q fl un ((f_XstrengthOfGreatestOrder fl un ut u0 u1 sv x r p0).2) u0 u1 sv x r) (va_A (XW cI cZ cO A Q fl un ut u0 u1 sv x r) sz)) 0 0 (va_A (XW cI cZ cO A Q fl un ut u0 u1 sv x r) sz) := by
  refine kofW (cc := cX4_strengthOfGreatestOrder) (maxL := 6) (ret := some .int) (by decide) rfl (Nat.le_of_ble_eq_true rfl) ?_
  intro p e s m args below meth c ls S hr hlk hnm hsz hP hK hD hS hA hl
  generalize hA0 : va_A (XW cI cZ cO A Q fl un ut u0 u1 sv x r) sz = A0 at hD hS hA ⊢
  subst hsz
  obtain ⟨hx, hb, hml, hown, hts⟩ := id S
  have inX4 : ∀ w ∈ wsX40, w ∈ wsX4_strengthOfGreatestOrder := fun w h => List.mem_cons_of_mem _ (List.mem_append_left _ (List.mem_append_right _ h))
  have hl : lv_has ls 6 [(0, .ref (A 0)), (1, .int p0)] := hl
  refine lv_iconst (v := (0 : Int32)) hx hb dX4_strengthOfGreatestOrder_0 (by decide) ?_
  refine lv_istore_n (lv' := [(2, .int (0 : Int32)), (0, .ref (A 0)), (1, .int p0)]) hx hb dX4_strengthOfGreatestOrder_1 rfl hl (by decide) rfl (fun ls hl => ?_)
  refine lv_iconst (v := (-1 : Int32)) hx hb dX4_strengthOfGreatestOrder_2 (by decide) ?_
  refine lv_istore_n (lv' := [(3, .int (-1 : Int32)), (2, .int (0 : Int32)), (0, .ref (A 0)), (1, .int p0)]) hx hb dX4_strengthOfGreatestOrder_3 rfl hl (by decide) rfl (fun ls hl => ?_)
  refine lv_iconst (v := (0 : Int32)) hx hb dX4_strengthOfGreatestOrder_4 (by decide) ?_
  refine lv_istore (lv' := [(4, .int (0 : Int32)), (3, .int (-1 : Int32)), (2, .int (0 : Int32)), (0, .ref (A 0)), (1, .int p0)]) hx hb dX4_strengthOfGreatestOrder_5 hl (by decide) rfl (fun ls hl => ?_)
  have L1 : ∀ (n j0 : Nat), j0 + n = 20 → ∀ (H : Heap) (locs : List Loc) (ls : Array Slot), va_P (dC, dI) vwCl (XW cI cZ cO A Q fl un ((it j0 (f_XstrengthOfGreatestOrder_L7 fl un ut u0 u1 sv x r p0) ((0 : Int32), (-1 : Int32), ut)).2.2) u0 u1 sv x r) H → va_D A0 (XW cI cZ cO A Q fl un ((it j0 (f_XstrengthOfGreatestOrder_L7 fl un ut u0 u1 sv x r p0) ((0 : Int32), (-1 : Int32), ut)).2.2) u0 u1 sv x r) → va_S A0 s.heap H locs → lv_has ls 6 [(0, .ref (A 0)), (1, .int p0), (2, .int ((it j0 (f_XstrengthOfGreatestOrder_L7 fl un ut u0 u1 sv x r p0) ((0 : Int32), (-1 : Int32), ut)).1)), (3, .int ((it j0 (f_XstrengthOfGreatestOrder_L7 fl un ut u0 u1 sv x r p0) ((0 : Int32), (-1 : Int32), ut)).2.1)), (4, .int (nI (5 * j0)))] → W p l e rm_X4_strengthOfGreatestOrder s m args below meth c H locs 0 0 (MQ below (kQw (some (.int (f_XstrengthOfGreatestOrder fl un ut u0 u1 sv x r p0).1)) (dC, dI) vwCl (XW cI cZ cO A Q fl un ((f_XstrengthOfGreatestOrder fl un ut u0 u1 sv x r p0).2) u0 u1 sv x r) A0) args s 0 0 A0) (F0 m 7 ls []) := by
    intro n
    induction n with
    | zero =>
      intro j0 hj1 H locs ls hP hD hS hl
      obtain rfl : j0 = 20 := by omega
      refine lv_iload hx hb dX4_strengthOfGreatestOrder_7 (lv_at hl 4 rfl) ?_
      refine lv_bipush (v := (95 : Int32)) hx hb dX4_strengthOfGreatestOrder_9 (by decide) ?_
      refine lv_icmp_gt (tgt := 48) hx hb dX4_strengthOfGreatestOrder_11 (by decide) (fun c_11 => ?_) (fun c_11 => ?_)
      · refine lv_iload_n hx hb dX4_strengthOfGreatestOrder_48 rfl (lv_at hl 2 rfl) ?_
        have r2 : f_XstrengthOfGreatestOrder fl un ut u0 u1 sv x r p0 = ((it 20 (f_XstrengthOfGreatestOrder_L7 fl un ut u0 u1 sv x r p0) ((0 : Int32), (-1 : Int32), ut)).1, (it 20 (f_XstrengthOfGreatestOrder_L7 fl un ut u0 u1 sv x r p0) ((0 : Int32), (-1 : Int32), ut)).2.2) := by
          rw [f_XstrengthOfGreatestOrder]
        exact kw_i hx hb hr hlk hP hS dX4_strengthOfGreatestOrder_49 (by rw [r2]) (by rw [r2])
      · exact absurd (nI_lt (a := 95) (by omega) (by omega)) c_11
    | succ n ih1 =>
      intro j0 hj1 H locs ls hP hD hS hl
      refine lv_iload hx hb dX4_strengthOfGreatestOrder_7 (lv_at hl 4 rfl) ?_
      refine lv_bipush (v := (95 : Int32)) hx hb dX4_strengthOfGreatestOrder_9 (by decide) ?_
      refine lv_icmp_gt (tgt := 48) hx hb dX4_strengthOfGreatestOrder_11 (by decide) (fun c_11 => ?_) (fun c_11 => ?_)
      · exact absurd c_11 (nI_nlt (a := 95) (by omega) (by decide))
      · refine lv_aload_n hx hb dX4_strengthOfGreatestOrder_14 rfl (lv_at hl 0 rfl) ?_
        refine lv_iload_n hx hb dX4_strengthOfGreatestOrder_15 rfl (lv_at hl 1 rfl) ?_
        refine lv_iload hx hb dX4_strengthOfGreatestOrder_16 (lv_at hl 4 rfl) ?_
        refine kc_w (As := [.int p0, .int (nI (5 * j0))]) (rest := []) S (v := none) (c_X4_tryOut l dC dI cI cZ cO A Q fl un ((it j0 (f_XstrengthOfGreatestOrder_L7 fl un ut u0 u1 sv x r p0) ((0 : Int32), (-1 : Int32), ut)).2.2) u0 u1 sv x r p0 (nI (5 * j0)) H.size) gX4_strengthOfGreatestOrder_X4_tryOut mi_X4_tryOut ⟨rfl, rfl⟩ ⟨Nat.le_of_ble_eq_true rfl, Nat.le_of_ble_eq_true rfl⟩ hK hP hD hS hA [0, 1, 2, 3, 4, 5, 6, 7, 8, 9, 10, 11, 12, 13, 14, 15, 16, 17, 18, 19, 20, 21, 22, 23, 24, 25, 26, 27, 28, 29, 30, 31, 32, 33, 34, 35, 36, 37, 38, 39, 40, 41, 42, 43, 44, 45, 46, 47, 48, 49, 50, 51, 52, 53, 54, 55, 56, 57, 58, 59, 60, 61, 62, 63, 64, 65, 66] XW_all XW_fst rfl 0 rfl rfl ⟨Nat.le_refl _, Nat.le_refl _⟩ dX4_strengthOfGreatestOrder_18 rfl hl.1 rfl (Nat.le_of_ble_eq_true rfl) (fun H locs hP hD hS => ?_)
        have hP : va_P (dC, dI) vwCl (XW cI cZ cO A Q fl un (f_XtryOut fl un ((it j0 (f_XstrengthOfGreatestOrder_L7 fl un ut u0 u1 sv x r p0) ((0 : Int32), (-1 : Int32), ut)).2.2) u0 u1 sv x r p0 (nI (5 * j0))) u0 u1 sv x r) H := Eq.mp (congrArg (fun w => va_P (dC, dI) vwCl w H) XW_ks) hP
        have hD : va_D A0 (XW cI cZ cO A Q fl un (f_XtryOut fl un ((it j0 (f_XstrengthOfGreatestOrder_L7 fl un ut u0 u1 sv x r p0) ((0 : Int32), (-1 : Int32), ut)).2.2) u0 u1 sv x r p0 (nI (5 * j0))) u0 u1 sv x r) := Eq.mp (congrArg (fun w => va_D A0 w) XW_ks) hD
        refine lv_aload_n hx hb dX4_strengthOfGreatestOrder_21 rfl (lv_at hl 0 rfl) ?_
        refine va_get (D := (dC, dI)) (ci := 4) (v := .ref (A 2)) (C := RX4) (T := TX4) (N := 8) hx hb hts inX4 hown hK hP 0 rfl rfl 1 (by decide) (hts (.fieldLink RX4 16 "BoardMetronomes" "trial" "LBoardMetronomes$Bench;") (by decide +kernel)) (fun _ h9 => h9) rfl dX4_strengthOfGreatestOrder_22 ?_
        refine kc_v (As := []) (rest := []) S (v := .int (f_order (f_XtryOut fl un ((it j0 (f_XstrengthOfGreatestOrder_L7 fl un ut u0 u1 sv x r p0) ((0 : Int32), (-1 : Int32), ut)).2.2) u0 u1 sv x r p0 (nI (5 * j0))))) (c_X0_order l dC dI cI cZ cO (A 2) (Q 2) (f_XtryOut fl un ((it j0 (f_XstrengthOfGreatestOrder_L7 fl un ut u0 u1 sv x r p0) ((0 : Int32), (-1 : Int32), ut)).2.2) u0 u1 sv x r p0 (nI (5 * j0)))) gX4_strengthOfGreatestOrder_X0_order mi_X0_order ⟨rfl, rfl⟩ ⟨Nat.le_of_ble_eq_true rfl, Nat.le_of_ble_eq_true rfl⟩ hK (XW_p_ut hP) 0 rfl rfl ⟨Nat.le_refl _, Nat.le_refl _⟩ dX4_strengthOfGreatestOrder_25 rfl hl.1 rfl (Nat.le_of_ble_eq_true rfl) ?_
        refine lv_istore (lv' := [(5, .int (f_order (f_XtryOut fl un ((it j0 (f_XstrengthOfGreatestOrder_L7 fl un ut u0 u1 sv x r p0) ((0 : Int32), (-1 : Int32), ut)).2.2) u0 u1 sv x r p0 (nI (5 * j0))))), (0, .ref (A 0)), (1, .int p0), (2, .int ((it j0 (f_XstrengthOfGreatestOrder_L7 fl un ut u0 u1 sv x r p0) ((0 : Int32), (-1 : Int32), ut)).1)), (3, .int ((it j0 (f_XstrengthOfGreatestOrder_L7 fl un ut u0 u1 sv x r p0) ((0 : Int32), (-1 : Int32), ut)).2.1)), (4, .int (nI (5 * j0)))]) hx hb dX4_strengthOfGreatestOrder_28 hl (by decide) rfl (fun ls hl => ?_)
        refine lv_iload hx hb dX4_strengthOfGreatestOrder_30 (lv_at hl 0 rfl) ?_
        refine lv_iload_n hx hb dX4_strengthOfGreatestOrder_32 rfl (lv_at hl 4 rfl) ?_
        refine lv_icmp_le (tgt := 42) hx hb dX4_strengthOfGreatestOrder_33 (by decide) (fun c_33 => ?_) (fun c_33 => ?_)
        · refine lv_iinc (v := nI (5 * (j0 + 1))) (lv' := [(4, .int (nI (5 * (j0 + 1)))), (5, .int (f_order (f_XtryOut fl un ((it j0 (f_XstrengthOfGreatestOrder_L7 fl un ut u0 u1 sv x r p0) ((0 : Int32), (-1 : Int32), ut)).2.2) u0 u1 sv x r p0 (nI (5 * j0))))), (0, .ref (A 0)), (1, .int p0), (2, .int ((it j0 (f_XstrengthOfGreatestOrder_L7 fl un ut u0 u1 sv x r p0) ((0 : Int32), (-1 : Int32), ut)).1)), (3, .int ((it j0 (f_XstrengthOfGreatestOrder_L7 fl un ut u0 u1 sv x r p0) ((0 : Int32), (-1 : Int32), ut)).2.1))]) hx hb dX4_strengthOfGreatestOrder_42 hl (k := 5) rfl ((nI_add (5 * j0) 5).trans (congrArg nI (by omega))) (by decide) rfl (fun ls hl => ?_)
          refine lv_goto (tgt := 7) hx hb dX4_strengthOfGreatestOrder_45 (by decide) ?_
          have b3 : f_XstrengthOfGreatestOrder_L7 fl un ut u0 u1 sv x r p0 j0 (it j0 (f_XstrengthOfGreatestOrder_L7 fl un ut u0 u1 sv x r p0) ((0 : Int32), (-1 : Int32), ut)) = ((it j0 (f_XstrengthOfGreatestOrder_L7 fl un ut u0 u1 sv x r p0) ((0 : Int32), (-1 : Int32), ut)).1, (it j0 (f_XstrengthOfGreatestOrder_L7 fl un ut u0 u1 sv x r p0) ((0 : Int32), (-1 : Int32), ut)).2.1, (f_XtryOut fl un ((it j0 (f_XstrengthOfGreatestOrder_L7 fl un ut u0 u1 sv x r p0) ((0 : Int32), (-1 : Int32), ut)).2.2) u0 u1 sv x r p0 (nI (5 * j0)))) := by
            rw [f_XstrengthOfGreatestOrder_L7, if_pos c_33]
          have e3 : it (j0 + 1) (f_XstrengthOfGreatestOrder_L7 fl un ut u0 u1 sv x r p0) ((0 : Int32), (-1 : Int32), ut) = ((it j0 (f_XstrengthOfGreatestOrder_L7 fl un ut u0 u1 sv x r p0) ((0 : Int32), (-1 : Int32), ut)).1, (it j0 (f_XstrengthOfGreatestOrder_L7 fl un ut u0 u1 sv x r p0) ((0 : Int32), (-1 : Int32), ut)).2.1, (f_XtryOut fl un ((it j0 (f_XstrengthOfGreatestOrder_L7 fl un ut u0 u1 sv x r p0) ((0 : Int32), (-1 : Int32), ut)).2.2) u0 u1 sv x r p0 (nI (5 * j0)))) := (it_s _ _ _).trans b3
          exact ih1 (j0 + 1) (by omega) H locs ls (by rw [e3]; exact hP) (by rw [e3]; exact hD) hS (by rw [e3]; exact lv_sub hl [2, 3, 4, 5, 0] rfl)
        · refine lv_iload hx hb dX4_strengthOfGreatestOrder_36 (lv_at hl 0 rfl) ?_
          refine lv_istore_n (lv' := [(3, .int (f_order (f_XtryOut fl un ((it j0 (f_XstrengthOfGreatestOrder_L7 fl un ut u0 u1 sv x r p0) ((0 : Int32), (-1 : Int32), ut)).2.2) u0 u1 sv x r p0 (nI (5 * j0))))), (5, .int (f_order (f_XtryOut fl un ((it j0 (f_XstrengthOfGreatestOrder_L7 fl un ut u0 u1 sv x r p0) ((0 : Int32), (-1 : Int32), ut)).2.2) u0 u1 sv x r p0 (nI (5 * j0))))), (0, .ref (A 0)), (1, .int p0), (2, .int ((it j0 (f_XstrengthOfGreatestOrder_L7 fl un ut u0 u1 sv x r p0) ((0 : Int32), (-1 : Int32), ut)).1)), (4, .int (nI (5 * j0)))]) hx hb dX4_strengthOfGreatestOrder_38 rfl hl (by decide) rfl (fun ls hl => ?_)
          refine lv_iload hx hb dX4_strengthOfGreatestOrder_39 (lv_at hl 5 rfl) ?_
          refine lv_istore_n (lv' := [(2, .int (nI (5 * j0))), (3, .int (f_order (f_XtryOut fl un ((it j0 (f_XstrengthOfGreatestOrder_L7 fl un ut u0 u1 sv x r p0) ((0 : Int32), (-1 : Int32), ut)).2.2) u0 u1 sv x r p0 (nI (5 * j0))))), (5, .int (f_order (f_XtryOut fl un ((it j0 (f_XstrengthOfGreatestOrder_L7 fl un ut u0 u1 sv x r p0) ((0 : Int32), (-1 : Int32), ut)).2.2) u0 u1 sv x r p0 (nI (5 * j0))))), (0, .ref (A 0)), (1, .int p0), (4, .int (nI (5 * j0)))]) hx hb dX4_strengthOfGreatestOrder_41 rfl hl (by decide) rfl (fun ls hl => ?_)
          refine lv_iinc (v := nI (5 * (j0 + 1))) (lv' := [(4, .int (nI (5 * (j0 + 1)))), (2, .int (nI (5 * j0))), (3, .int (f_order (f_XtryOut fl un ((it j0 (f_XstrengthOfGreatestOrder_L7 fl un ut u0 u1 sv x r p0) ((0 : Int32), (-1 : Int32), ut)).2.2) u0 u1 sv x r p0 (nI (5 * j0))))), (5, .int (f_order (f_XtryOut fl un ((it j0 (f_XstrengthOfGreatestOrder_L7 fl un ut u0 u1 sv x r p0) ((0 : Int32), (-1 : Int32), ut)).2.2) u0 u1 sv x r p0 (nI (5 * j0))))), (0, .ref (A 0)), (1, .int p0)]) hx hb dX4_strengthOfGreatestOrder_42 hl (k := 5) rfl ((nI_add (5 * j0) 5).trans (congrArg nI (by omega))) (by decide) rfl (fun ls hl => ?_)
          refine lv_goto (tgt := 7) hx hb dX4_strengthOfGreatestOrder_45 (by decide) ?_
          have b4 : f_XstrengthOfGreatestOrder_L7 fl un ut u0 u1 sv x r p0 j0 (it j0 (f_XstrengthOfGreatestOrder_L7 fl un ut u0 u1 sv x r p0) ((0 : Int32), (-1 : Int32), ut)) = (nI (5 * j0), f_order (f_XtryOut fl un ((it j0 (f_XstrengthOfGreatestOrder_L7 fl un ut u0 u1 sv x r p0) ((0 : Int32), (-1 : Int32), ut)).2.2) u0 u1 sv x r p0 (nI (5 * j0))), (f_XtryOut fl un ((it j0 (f_XstrengthOfGreatestOrder_L7 fl un ut u0 u1 sv x r p0) ((0 : Int32), (-1 : Int32), ut)).2.2) u0 u1 sv x r p0 (nI (5 * j0)))) := by
            rw [f_XstrengthOfGreatestOrder_L7, if_neg c_33]
          have e4 : it (j0 + 1) (f_XstrengthOfGreatestOrder_L7 fl un ut u0 u1 sv x r p0) ((0 : Int32), (-1 : Int32), ut) = (nI (5 * j0), f_order (f_XtryOut fl un ((it j0 (f_XstrengthOfGreatestOrder_L7 fl un ut u0 u1 sv x r p0) ((0 : Int32), (-1 : Int32), ut)).2.2) u0 u1 sv x r p0 (nI (5 * j0))), (f_XtryOut fl un ((it j0 (f_XstrengthOfGreatestOrder_L7 fl un ut u0 u1 sv x r p0) ((0 : Int32), (-1 : Int32), ut)).2.2) u0 u1 sv x r p0 (nI (5 * j0)))) := (it_s _ _ _).trans b4
          exact ih1 (j0 + 1) (by omega) H locs ls (by rw [e4]; exact hP) (by rw [e4]; exact hD) hS (by rw [e4]; exact lv_sub hl [4, 5, 1, 2, 0] rfl)
  exact L1 20 0 (by omega) s.heap [] ls hP hD hS (lv_sub hl [3, 4, 2, 1, 0] rfl)

def rm_X4_stepsUntilStopped : Room := { frames := 4, cells := 0, slots := 0, locals := 88 }
theorem mi_X4_stepsUntilStopped : kM yX4_stepsUntilStopped wsX4_stepsUntilStopped cX4_stepsUntilStopped 3 (some .int) 1 := ⟨⟨_, rfl⟩, by decide, by decide, by decide +kernel⟩
def f_XstepsUntilStopped_R13 (fl : (Nat → Int32)) (un : BS) (ut : BS) (u0 : BS) (u1 : BS) (sv : SS) (x : BS) (r : BS) (p0 : Int32) : Nat → Nat → BS → Int32 × BS
  | 0, j13_, y13_0 => ((-1 : Int32), y13_0)
  | n + 1, j13_, y13_0 => if (f_goes y13_0 p0) = true then (f_XstepsUntilStopped_R13 fl un ut u0 u1 sv x r p0 n (j13_ + 1) (f_step y13_0)) else (nI j13_, y13_0)
def f_XstepsUntilStopped (fl : (Nat → Int32)) (un : BS) (ut : BS) (u0 : BS) (u1 : BS) (sv : SS) (x : BS) (r : BS) (p0 : Int32) : Int32 × BS := f_XstepsUntilStopped_R13 fl un ut u0 u1 sv x r p0 501 0 (f_copyFrom ut un)
set_option maxHeartbeats 1000000 in
set_option maxRecDepth 100000 in
theorem c_X4_stepsUntilStopped (l : Launch) (dC : Nat → ClassId) (dI : Nat → Nat → Nat) (cI cZ cO : ClassId) (A : Nat → Nat) (Q : Nat → Nat → Nat) (fl : (Nat → Int32)) (un : BS) (ut : BS) (u0 : BS) (u1 : BS) (sv : SS) (x : BS) (r : BS) (p0 : Int32) (sz : Nat) : Met l yX4_stepsUntilStopped wsX4_stepsUntilStopped rm_X4_stepsUntilStopped (va_Pc [.ref (A 0), .int p0] (fun U => U.heap.size = sz ∧ va_P (dC, dI) vwCl (XW cI cZ cO A Q fl un ut u0 u1 sv x r) U.heap ∧ va_K (dC, dI) vwCl (TY cI cZ cO) U ∧ va_D (fun _ => True) (XW cI cZ cO A Q fl un ut u0 u1 sv x r))) (kQw (some (.int (f_XstepsUntilStopped fl un ut u0 u1 sv x r p0).1)) (dC, dI) vwCl (XW cI cZ cO A Q fl un ((f_XstepsUntilStopped fl un ut u0 u1 sv x r p0).2) u0 u1 sv x r) (va_A (XW cI cZ cO A Q fl un ut u0 u1 sv x r) sz)) 0 0 (va_A (XW cI cZ cO A Q fl un ut u0 u1 sv x r) sz) := by
  refine kofW (cc := cX4_stepsUntilStopped) (maxL := 3) (ret := some .int) (by decide) rfl (Nat.le_of_ble_eq_true rfl) ?_
  intro p e s m args below meth c ls S hr hlk hnm hsz hP hK hD hS hA hl
  generalize hA0 : va_A (XW cI cZ cO A Q fl un ut u0 u1 sv x r) sz = A0 at hD hS hA ⊢
  subst hsz
  obtain ⟨hx, hb, hml, hown, hts⟩ := id S
  have inX4 : ∀ w ∈ wsX40, w ∈ wsX4_stepsUntilStopped := fun w h => List.mem_cons_of_mem _ (List.mem_append_left _ (List.mem_append_right _ h))
  have hl : lv_has ls 3 [(0, .ref (A 0)), (1, .int p0)] := hl
  refine lv_aload_n hx hb dX4_stepsUntilStopped_0 rfl (lv_at hl 0 rfl) ?_
  refine va_get (D := (dC, dI)) (ci := 4) (v := .ref (A 2)) (C := RX4) (T := TX4) (N := 8) hx hb hts inX4 hown hK hP 0 rfl rfl 1 (by decide) (hts (.fieldLink RX4 16 "BoardMetronomes" "trial" "LBoardMetronomes$Bench;") (by decide +kernel)) (fun _ h9 => h9) rfl dX4_stepsUntilStopped_1 ?_
  refine lv_aload_n hx hb dX4_stepsUntilStopped_4 rfl (lv_at hl 0 rfl) ?_
  refine va_get (D := (dC, dI)) (ci := 4) (v := .ref (A 1)) (C := RX4) (T := TX4) (N := 8) hx hb hts inX4 hown hK hP 0 rfl rfl 0 (by decide) (hts (.fieldLink RX4 10 "BoardMetronomes" "now" "LBoardMetronomes$Bench;") (by decide +kernel)) (fun _ h9 => h9) rfl dX4_stepsUntilStopped_5 ?_
  refine kc_w (As := [.ref (A 1)]) (rest := []) S (v := none) (c_X0_copyFrom l dC dI cI cZ cO (A 2) (A 1) (Q 2) (Q 1) ut un s.heap.size) gX4_stepsUntilStopped_X0_copyFrom mi_X0_copyFrom ⟨rfl, rfl⟩ ⟨Nat.le_of_ble_eq_true rfl, Nat.le_of_ble_eq_true rfl⟩ hK hP hD hS hA [8, 9, 10, 11, 12, 13, 2, 3, 4, 5, 6, 7] XW_all_ut_un BW2_fst rfl 0 rfl rfl ⟨Nat.le_refl _, Nat.le_refl _⟩ dX4_stepsUntilStopped_8 rfl hl.1 rfl (Nat.le_of_ble_eq_true rfl) (fun H locs hP hD hS => ?_)
  have hP : va_P (dC, dI) vwCl (XW cI cZ cO A Q fl un (f_copyFrom ut un) u0 u1 sv x r) H := Eq.mp (congrArg (fun w => va_P (dC, dI) vwCl w H) XW_ks_ut_un) hP
  have hD : va_D A0 (XW cI cZ cO A Q fl un (f_copyFrom ut un) u0 u1 sv x r) := Eq.mp (congrArg (fun w => va_D A0 w) XW_ks_ut_un) hD
  refine lv_iconst (v := (0 : Int32)) hx hb dX4_stepsUntilStopped_11 (by decide) ?_
  refine lv_istore_n (lv' := [(2, .int (0 : Int32)), (0, .ref (A 0)), (1, .int p0)]) hx hb dX4_stepsUntilStopped_12 rfl hl (by decide) rfl (fun ls hl => ?_)
  have L1 : ∀ (n j13_ : Nat), j13_ + n = 501 → ∀ (y13_0 : BS), f_XstepsUntilStopped fl un ut u0 u1 sv x r p0 = f_XstepsUntilStopped_R13 fl un ut u0 u1 sv x r p0 n j13_ y13_0 → ∀ (H : Heap) (locs : List Loc) (ls : Array Slot), va_P (dC, dI) vwCl (XW cI cZ cO A Q fl un y13_0 u0 u1 sv x r) H → va_D A0 (XW cI cZ cO A Q fl un y13_0 u0 u1 sv x r) → va_S A0 s.heap H locs → lv_has ls 3 [(0, .ref (A 0)), (1, .int p0), (2, .int (nI j13_))] → W p l e rm_X4_stepsUntilStopped s m args below meth c H locs 0 0 (MQ below (kQw (some (.int (f_XstepsUntilStopped fl un ut u0 u1 sv x r p0).1)) (dC, dI) vwCl (XW cI cZ cO A Q fl un ((f_XstepsUntilStopped fl un ut u0 u1 sv x r p0).2) u0 u1 sv x r) A0) args s 0 0 A0) (F0 m 13 ls []) := by
    intro n
    induction n with
    | zero =>
      intro j13_ hj1 y13_0 hv1 H locs ls hP hD hS hl
      refine lv_iload_n hx hb dX4_stepsUntilStopped_13 rfl (lv_at hl 2 rfl) ?_
      refine lv_sipush (v := (500 : Int32)) hx hb dX4_stepsUntilStopped_14 (by decide) ?_
      refine lv_icmp_gt (tgt := 46) hx hb dX4_stepsUntilStopped_17 (by decide) (fun c_17 => ?_) (fun c_17 => ?_)
      · refine lv_iconst (v := (-1 : Int32)) hx hb dX4_stepsUntilStopped_46 (by decide) ?_
        have r2 : f_XstepsUntilStopped fl un ut u0 u1 sv x r p0 = ((-1 : Int32), y13_0) := by
          rw [hv1, f_XstepsUntilStopped_R13]
        exact kw_i hx hb hr hlk hP hS dX4_stepsUntilStopped_47 (by rw [r2]) (by rw [r2])
      · exact absurd (nI_lt (a := 500) (by omega) (by omega)) c_17
    | succ n ih1 =>
      intro j13_ hj1 y13_0 hv1 H locs ls hP hD hS hl
      refine lv_iload_n hx hb dX4_stepsUntilStopped_13 rfl (lv_at hl 2 rfl) ?_
      refine lv_sipush (v := (500 : Int32)) hx hb dX4_stepsUntilStopped_14 (by decide) ?_
      refine lv_icmp_gt (tgt := 46) hx hb dX4_stepsUntilStopped_17 (by decide) (fun c_17 => ?_) (fun c_17 => ?_)
      · exact absurd c_17 (nI_nlt (a := 500) (by omega) (by decide))
      · refine lv_aload_n hx hb dX4_stepsUntilStopped_20 rfl (lv_at hl 0 rfl) ?_
        refine va_get (D := (dC, dI)) (ci := 4) (v := .ref (A 2)) (C := RX4) (T := TX4) (N := 8) hx hb hts inX4 hown hK hP 0 rfl rfl 1 (by decide) (hts (.fieldLink RX4 16 "BoardMetronomes" "trial" "LBoardMetronomes$Bench;") (by decide +kernel)) (fun _ h9 => h9) rfl dX4_stepsUntilStopped_21 ?_
        refine lv_iload_n hx hb dX4_stepsUntilStopped_24 rfl (lv_at hl 1 rfl) ?_
        refine kc_v (As := [.int p0]) (rest := []) S (v := .int (bI (f_goes y13_0 p0))) (c_X0_goes l dC dI cI cZ cO (A 2) (Q 2) y13_0 p0) gX4_stepsUntilStopped_X0_goes mi_X0_goes ⟨rfl, rfl⟩ ⟨Nat.le_of_ble_eq_true rfl, Nat.le_of_ble_eq_true rfl⟩ hK (XW_p_ut hP) 0 rfl rfl ⟨Nat.le_refl _, Nat.le_refl _⟩ dX4_stepsUntilStopped_25 rfl hl.1 rfl (Nat.le_of_ble_eq_true rfl) ?_
        refine kb_ne (tgt := 33) hx hb dX4_stepsUntilStopped_28 (by decide) (fun c_28 => ?_) (fun c_28 => ?_)
        · refine lv_aload_n hx hb dX4_stepsUntilStopped_33 rfl (lv_at hl 0 rfl) ?_
          refine va_get (D := (dC, dI)) (ci := 4) (v := .ref (A 2)) (C := RX4) (T := TX4) (N := 8) hx hb hts inX4 hown hK hP 0 rfl rfl 1 (by decide) (hts (.fieldLink RX4 16 "BoardMetronomes" "trial" "LBoardMetronomes$Bench;") (by decide +kernel)) (fun _ h9 => h9) rfl dX4_stepsUntilStopped_34 ?_
          refine kc_w (As := []) (rest := []) S (v := none) (c_X0_step l dC dI cI cZ cO (A 2) (Q 2) y13_0 H.size) gX4_stepsUntilStopped_X0_step mi_X0_step ⟨rfl, rfl⟩ ⟨Nat.le_of_ble_eq_true rfl, Nat.le_of_ble_eq_true rfl⟩ hK hP hD hS hA [8, 9, 10, 11, 12, 13] XW_all_ut BW_fst rfl 0 rfl rfl ⟨Nat.le_refl _, Nat.le_refl _⟩ dX4_stepsUntilStopped_37 rfl hl.1 rfl (Nat.le_of_ble_eq_true rfl) (fun H locs hP hD hS => ?_)
          have hP : va_P (dC, dI) vwCl (XW cI cZ cO A Q fl un (f_step y13_0) u0 u1 sv x r) H := Eq.mp (congrArg (fun w => va_P (dC, dI) vwCl w H) XW_ks_ut) hP
          have hD : va_D A0 (XW cI cZ cO A Q fl un (f_step y13_0) u0 u1 sv x r) := Eq.mp (congrArg (fun w => va_D A0 w) XW_ks_ut) hD
          refine lv_iinc (v := nI (j13_ + 1)) (lv' := [(2, .int (nI (j13_ + 1))), (0, .ref (A 0)), (1, .int p0)]) hx hb dX4_stepsUntilStopped_40 hl (k := 2) rfl (nI_add j13_ 1) (by decide) rfl (fun ls hl => ?_)
          refine lv_goto (tgt := 13) hx hb dX4_stepsUntilStopped_43 (by decide) ?_
          exact ih1 (j13_ + 1) (by omega) (f_step y13_0) (by rw [hv1, f_XstepsUntilStopped_R13, if_pos c_28]) H locs ls hP hD hS (lv_sub hl [1, 2, 0] rfl)
        · refine lv_iload_n hx hb dX4_stepsUntilStopped_31 rfl (lv_at hl 2 rfl) ?_
          have r3 : f_XstepsUntilStopped fl un ut u0 u1 sv x r p0 = (nI j13_, y13_0) := by
            rw [hv1, f_XstepsUntilStopped_R13, if_neg c_28]
          exact kw_i hx hb hr hlk hP hS dX4_stepsUntilStopped_32 (by rw [r3]) (by rw [r3])
  exact L1 501 0 (by omega) (f_copyFrom ut un) (by rw [f_XstepsUntilStopped]) H locs ls hP hD hS (lv_sub hl [1, 2, 0] rfl)

def rm_X4_untilStep : Room := { frames := 4, cells := 0, slots := 0, locals := 88 }
theorem mi_X4_untilStep : kM yX4_untilStep wsX4_untilStep cX4_untilStep 2 (some .int) 0 := ⟨⟨_, rfl⟩, by decide, by decide, by decide +kernel⟩
def f_XuntilStep_R13 (fl : (Nat → Int32)) (un : BS) (ut : BS) (u0 : BS) (u1 : BS) (sv : SS) (x : BS) (r : BS) : Nat → Nat → BS → Int32 × BS
  | 0, j13_, y13_0 => ((-1 : Int32), y13_0)
  | n + 1, j13_, y13_0 => if (f_isInStep y13_0) = true then (nI j13_, y13_0) else f_XuntilStep_R13 fl un ut u0 u1 sv x r n (j13_ + 1) (f_step y13_0)
def f_XuntilStep (fl : (Nat → Int32)) (un : BS) (ut : BS) (u0 : BS) (u1 : BS) (sv : SS) (x : BS) (r : BS) : Int32 × BS := f_XuntilStep_R13 fl un ut u0 u1 sv x r 501 0 (f_copyFrom ut un)
set_option maxHeartbeats 1000000 in
set_option maxRecDepth 100000 in
theorem c_X4_untilStep (l : Launch) (dC : Nat → ClassId) (dI : Nat → Nat → Nat) (cI cZ cO : ClassId) (A : Nat → Nat) (Q : Nat → Nat → Nat) (fl : (Nat → Int32)) (un : BS) (ut : BS) (u0 : BS) (u1 : BS) (sv : SS) (x : BS) (r : BS) (sz : Nat) : Met l yX4_untilStep wsX4_untilStep rm_X4_untilStep (va_Pc [.ref (A 0)] (fun U => U.heap.size = sz ∧ va_P (dC, dI) vwCl (XW cI cZ cO A Q fl un ut u0 u1 sv x r) U.heap ∧ va_K (dC, dI) vwCl (TY cI cZ cO) U ∧ va_D (fun _ => True) (XW cI cZ cO A Q fl un ut u0 u1 sv x r))) (kQw (some (.int (f_XuntilStep fl un ut u0 u1 sv x r).1)) (dC, dI) vwCl (XW cI cZ cO A Q fl un ((f_XuntilStep fl un ut u0 u1 sv x r).2) u0 u1 sv x r) (va_A (XW cI cZ cO A Q fl un ut u0 u1 sv x r) sz)) 0 0 (va_A (XW cI cZ cO A Q fl un ut u0 u1 sv x r) sz) := by
  refine kofW (cc := cX4_untilStep) (maxL := 2) (ret := some .int) (by decide) rfl (Nat.le_of_ble_eq_true rfl) ?_
  intro p e s m args below meth c ls S hr hlk hnm hsz hP hK hD hS hA hl
  generalize hA0 : va_A (XW cI cZ cO A Q fl un ut u0 u1 sv x r) sz = A0 at hD hS hA ⊢
  subst hsz
  obtain ⟨hx, hb, hml, hown, hts⟩ := id S
  have inX4 : ∀ w ∈ wsX40, w ∈ wsX4_untilStep := fun w h => List.mem_cons_of_mem _ (List.mem_append_left _ (List.mem_append_right _ h))
  have hl : lv_has ls 2 [(0, .ref (A 0))] := hl
  refine lv_aload_n hx hb dX4_untilStep_0 rfl (lv_at hl 0 rfl) ?_
  refine va_get (D := (dC, dI)) (ci := 4) (v := .ref (A 2)) (C := RX4) (T := TX4) (N := 8) hx hb hts inX4 hown hK hP 0 rfl rfl 1 (by decide) (hts (.fieldLink RX4 16 "BoardMetronomes" "trial" "LBoardMetronomes$Bench;") (by decide +kernel)) (fun _ h9 => h9) rfl dX4_untilStep_1 ?_
  refine lv_aload_n hx hb dX4_untilStep_4 rfl (lv_at hl 0 rfl) ?_
  refine va_get (D := (dC, dI)) (ci := 4) (v := .ref (A 1)) (C := RX4) (T := TX4) (N := 8) hx hb hts inX4 hown hK hP 0 rfl rfl 0 (by decide) (hts (.fieldLink RX4 10 "BoardMetronomes" "now" "LBoardMetronomes$Bench;") (by decide +kernel)) (fun _ h9 => h9) rfl dX4_untilStep_5 ?_
  refine kc_w (As := [.ref (A 1)]) (rest := []) S (v := none) (c_X0_copyFrom l dC dI cI cZ cO (A 2) (A 1) (Q 2) (Q 1) ut un s.heap.size) gX4_untilStep_X0_copyFrom mi_X0_copyFrom ⟨rfl, rfl⟩ ⟨Nat.le_of_ble_eq_true rfl, Nat.le_of_ble_eq_true rfl⟩ hK hP hD hS hA [8, 9, 10, 11, 12, 13, 2, 3, 4, 5, 6, 7] XW_all_ut_un BW2_fst rfl 0 rfl rfl ⟨Nat.le_refl _, Nat.le_refl _⟩ dX4_untilStep_8 rfl hl.1 rfl (Nat.le_of_ble_eq_true rfl) (fun H locs hP hD hS => ?_)
  have hP : va_P (dC, dI) vwCl (XW cI cZ cO A Q fl un (f_copyFrom ut un) u0 u1 sv x r) H := Eq.mp (congrArg (fun w => va_P (dC, dI) vwCl w H) XW_ks_ut_un) hP
  have hD : va_D A0 (XW cI cZ cO A Q fl un (f_copyFrom ut un) u0 u1 sv x r) := Eq.mp (congrArg (fun w => va_D A0 w) XW_ks_ut_un) hD
  refine lv_iconst (v := (0 : Int32)) hx hb dX4_untilStep_11 (by decide) ?_
  refine lv_istore_n (lv' := [(1, .int (0 : Int32)), (0, .ref (A 0))]) hx hb dX4_untilStep_12 rfl hl (by decide) rfl (fun ls hl => ?_)
  have L1 : ∀ (n j13_ : Nat), j13_ + n = 501 → ∀ (y13_0 : BS), f_XuntilStep fl un ut u0 u1 sv x r = f_XuntilStep_R13 fl un ut u0 u1 sv x r n j13_ y13_0 → ∀ (H : Heap) (locs : List Loc) (ls : Array Slot), va_P (dC, dI) vwCl (XW cI cZ cO A Q fl un y13_0 u0 u1 sv x r) H → va_D A0 (XW cI cZ cO A Q fl un y13_0 u0 u1 sv x r) → va_S A0 s.heap H locs → lv_has ls 2 [(0, .ref (A 0)), (1, .int (nI j13_))] → W p l e rm_X4_untilStep s m args below meth c H locs 0 0 (MQ below (kQw (some (.int (f_XuntilStep fl un ut u0 u1 sv x r).1)) (dC, dI) vwCl (XW cI cZ cO A Q fl un ((f_XuntilStep fl un ut u0 u1 sv x r).2) u0 u1 sv x r) A0) args s 0 0 A0) (F0 m 13 ls []) := by
    intro n
    induction n with
    | zero =>
      intro j13_ hj1 y13_0 hv1 H locs ls hP hD hS hl
      refine lv_iload_n hx hb dX4_untilStep_13 rfl (lv_at hl 1 rfl) ?_
      refine lv_sipush (v := (500 : Int32)) hx hb dX4_untilStep_14 (by decide) ?_
      refine lv_icmp_gt (tgt := 45) hx hb dX4_untilStep_17 (by decide) (fun c_17 => ?_) (fun c_17 => ?_)
      · refine lv_iconst (v := (-1 : Int32)) hx hb dX4_untilStep_45 (by decide) ?_
        have r2 : f_XuntilStep fl un ut u0 u1 sv x r = ((-1 : Int32), y13_0) := by
          rw [hv1, f_XuntilStep_R13]
        exact kw_i hx hb hr hlk hP hS dX4_untilStep_46 (by rw [r2]) (by rw [r2])
      · exact absurd (nI_lt (a := 500) (by omega) (by omega)) c_17
    | succ n ih1 =>
      intro j13_ hj1 y13_0 hv1 H locs ls hP hD hS hl
      refine lv_iload_n hx hb dX4_untilStep_13 rfl (lv_at hl 1 rfl) ?_
      refine lv_sipush (v := (500 : Int32)) hx hb dX4_untilStep_14 (by decide) ?_
      refine lv_icmp_gt (tgt := 45) hx hb dX4_untilStep_17 (by decide) (fun c_17 => ?_) (fun c_17 => ?_)
      · exact absurd c_17 (nI_nlt (a := 500) (by omega) (by decide))
      · refine lv_aload_n hx hb dX4_untilStep_20 rfl (lv_at hl 0 rfl) ?_
        refine va_get (D := (dC, dI)) (ci := 4) (v := .ref (A 2)) (C := RX4) (T := TX4) (N := 8) hx hb hts inX4 hown hK hP 0 rfl rfl 1 (by decide) (hts (.fieldLink RX4 16 "BoardMetronomes" "trial" "LBoardMetronomes$Bench;") (by decide +kernel)) (fun _ h9 => h9) rfl dX4_untilStep_21 ?_
        refine kc_v (As := []) (rest := []) S (v := .int (bI (f_isInStep y13_0))) (c_X0_isInStep l dC dI cI cZ cO (A 2) (Q 2) y13_0) gX4_untilStep_X0_isInStep mi_X0_isInStep ⟨rfl, rfl⟩ ⟨Nat.le_of_ble_eq_true rfl, Nat.le_of_ble_eq_true rfl⟩ hK (XW_p_ut hP) 0 rfl rfl ⟨Nat.le_refl _, Nat.le_refl _⟩ dX4_untilStep_24 rfl hl.1 rfl (Nat.le_of_ble_eq_true rfl) ?_
        refine kb_eq (tgt := 32) hx hb dX4_untilStep_27 (by decide) (fun c_27 => ?_) (fun c_27 => ?_)
        · refine lv_aload_n hx hb dX4_untilStep_32 rfl (lv_at hl 0 rfl) ?_
          refine va_get (D := (dC, dI)) (ci := 4) (v := .ref (A 2)) (C := RX4) (T := TX4) (N := 8) hx hb hts inX4 hown hK hP 0 rfl rfl 1 (by decide) (hts (.fieldLink RX4 16 "BoardMetronomes" "trial" "LBoardMetronomes$Bench;") (by decide +kernel)) (fun _ h9 => h9) rfl dX4_untilStep_33 ?_
          refine kc_w (As := []) (rest := []) S (v := none) (c_X0_step l dC dI cI cZ cO (A 2) (Q 2) y13_0 H.size) gX4_untilStep_X0_step mi_X0_step ⟨rfl, rfl⟩ ⟨Nat.le_of_ble_eq_true rfl, Nat.le_of_ble_eq_true rfl⟩ hK hP hD hS hA [8, 9, 10, 11, 12, 13] XW_all_ut BW_fst rfl 0 rfl rfl ⟨Nat.le_refl _, Nat.le_refl _⟩ dX4_untilStep_36 rfl hl.1 rfl (Nat.le_of_ble_eq_true rfl) (fun H locs hP hD hS => ?_)
          have hP : va_P (dC, dI) vwCl (XW cI cZ cO A Q fl un (f_step y13_0) u0 u1 sv x r) H := Eq.mp (congrArg (fun w => va_P (dC, dI) vwCl w H) XW_ks_ut) hP
          have hD : va_D A0 (XW cI cZ cO A Q fl un (f_step y13_0) u0 u1 sv x r) := Eq.mp (congrArg (fun w => va_D A0 w) XW_ks_ut) hD
          refine lv_iinc (v := nI (j13_ + 1)) (lv' := [(1, .int (nI (j13_ + 1))), (0, .ref (A 0))]) hx hb dX4_untilStep_39 hl (k := 1) rfl (nI_add j13_ 1) (by decide) rfl (fun ls hl => ?_)
          refine lv_goto (tgt := 13) hx hb dX4_untilStep_42 (by decide) ?_
          exact ih1 (j13_ + 1) (by omega) (f_step y13_0) (by rw [hv1, f_XuntilStep_R13, if_neg c_27]) H locs ls hP hD hS (lv_sub hl [1, 0] rfl)
        · refine lv_iload_n hx hb dX4_untilStep_30 rfl (lv_at hl 1 rfl) ?_
          have r3 : f_XuntilStep fl un ut u0 u1 sv x r = (nI j13_, y13_0) := by
            rw [hv1, f_XuntilStep_R13, if_pos c_27]
          exact kw_i hx hb hr hlk hP hS dX4_untilStep_31 (by rw [r3]) (by rw [r3])
  exact L1 501 0 (by omega) (f_copyFrom ut un) (by rw [f_XuntilStep]) H locs ls hP hD hS (lv_sub hl [1, 0] rfl)

def rm_X4_farthest : Room := { frames := 3, cells := 0, slots := 0, locals := 69 }
theorem mi_X4_farthest : kM yX4_farthest wsX4_farthest cX4_farthest 2 (some .int) 1 := ⟨⟨_, rfl⟩, by decide, by decide, by decide +kernel⟩
def f_Xfarthest (fl : (Nat → Int32)) (un : BS) (ut : BS) (u0 : BS) (u1 : BS) (sv : SS) (x : BS) (r : BS) (p0 : Bool) : Int32 := f_farthestOfGoing un p0
set_option maxHeartbeats 1000000 in
set_option maxRecDepth 100000 in
theorem c_X4_farthest (l : Launch) (dC : Nat → ClassId) (dI : Nat → Nat → Nat) (cI cZ cO : ClassId) (A : Nat → Nat) (Q : Nat → Nat → Nat) (fl : (Nat → Int32)) (un : BS) (ut : BS) (u0 : BS) (u1 : BS) (sv : SS) (x : BS) (r : BS) (p0 : Bool) : Met l yX4_farthest wsX4_farthest rm_X4_farthest (va_Pc [.ref (A 0), .int (bI p0)] (fun U => va_P (dC, dI) vwCl (XW cI cZ cO A Q fl un ut u0 u1 sv x r) U.heap ∧ va_K (dC, dI) vwCl (TY cI cZ cO) U)) (kQ (some (.int (f_Xfarthest fl un ut u0 u1 sv x r p0)))) 0 0 (fun _ => False) := by
  refine kofR (cc := cX4_farthest) (maxL := 2) (ret := some .int) (by decide) rfl (Nat.le_of_ble_eq_true rfl) ?_
  intro p e s m args below meth c ls S hr hlk hP hK hl
  obtain ⟨hx, hb, hml, hown, hts⟩ := id S
  have inX4 : ∀ w ∈ wsX40, w ∈ wsX4_farthest := fun w h => List.mem_cons_of_mem _ (List.mem_append_left _ (List.mem_append_right _ h))
  have hl : lv_has ls 2 [(0, .ref (A 0)), (1, .int (bI p0))] := hl
  refine lv_aload_n hx hb dX4_farthest_0 rfl (lv_at hl 0 rfl) ?_
  refine va_get (D := (dC, dI)) (ci := 4) (v := .ref (A 1)) (C := RX4) (T := TX4) (N := 8) hx hb hts inX4 hown hK hP 0 rfl rfl 0 (by decide) (hts (.fieldLink RX4 10 "BoardMetronomes" "now" "LBoardMetronomes$Bench;") (by decide +kernel)) (fun _ h9 => h9) rfl dX4_farthest_1 ?_
  refine lv_iload_n hx hb dX4_farthest_4 rfl (lv_at hl 1 rfl) ?_
  refine kc_v (As := [.int (bI p0)]) (rest := []) S (v := .int (f_farthestOfGoing un p0)) (c_X0_farthestOfGoing l dC dI cI cZ cO (A 1) (Q 1) un p0) gX4_farthest_X0_farthestOfGoing mi_X0_farthestOfGoing ⟨rfl, rfl⟩ ⟨Nat.le_of_ble_eq_true rfl, Nat.le_of_ble_eq_true rfl⟩ hK (XW_p_un hP) 0 rfl rfl ⟨Nat.le_refl _, Nat.le_refl _⟩ dX4_farthest_5 rfl hl.1 rfl (Nat.le_of_ble_eq_true rfl) ?_
  have r1 : f_Xfarthest fl un ut u0 u1 sv x r p0 = f_farthestOfGoing un p0 := by
    rw [f_Xfarthest]
  exact kr_i hx hb hr hlk dX4_farthest_8 r1.symm

def rm_X4_withDistances : Room := { frames := 2, cells := 0, slots := 0, locals := 44 }
theorem mi_X4_withDistances : kM yX4_withDistances wsX4_withDistances cX4_withDistances 7 (some .long) 1 := ⟨⟨_, rfl⟩, by decide, by decide, by decide +kernel⟩
def f_XwithDistances_L23 (fl : (Nat → Int32)) (un : BS) (ut : BS) (u0 : BS) (u1 : BS) (sv : SS) (x : BS) (r : BS) (p0 : Int64) (j0 : Nat) (x0 : Int64) (j1 : Nat) (x1 : Int64) : Int64 := ((31 : Int64) * x1) + ((f_distance un (nI j0) (nI (j0 + 1 + j1))).toInt64)
def f_XwithDistances_L5 (fl : (Nat → Int32)) (un : BS) (ut : BS) (u0 : BS) (u1 : BS) (sv : SS) (x : BS) (r : BS) (p0 : Int64) (j0 : Nat) (x0 : Int64) : Int64 := it (((f_size un).toNatClampNeg) - (j0 + 1)) (f_XwithDistances_L23 fl un ut u0 u1 sv x r p0 j0 x0) x0
def f_XwithDistances (fl : (Nat → Int32)) (un : BS) (ut : BS) (u0 : BS) (u1 : BS) (sv : SS) (x : BS) (r : BS) (p0 : Int64) : Int64 := it ((f_size un).toNatClampNeg) (f_XwithDistances_L5 fl un ut u0 u1 sv x r p0) p0
set_option maxHeartbeats 1000000 in
set_option maxRecDepth 100000 in
theorem c_X4_withDistances (l : Launch) (dC : Nat → ClassId) (dI : Nat → Nat → Nat) (cI cZ cO : ClassId) (A : Nat → Nat) (Q : Nat → Nat → Nat) (fl : (Nat → Int32)) (un : BS) (ut : BS) (u0 : BS) (u1 : BS) (sv : SS) (x : BS) (r : BS) (p0 : Int64) : Met l yX4_withDistances wsX4_withDistances rm_X4_withDistances (va_Pc [.ref (A 0), .long p0] (fun U => va_P (dC, dI) vwCl (XW cI cZ cO A Q fl un ut u0 u1 sv x r) U.heap ∧ va_K (dC, dI) vwCl (TY cI cZ cO) U)) (kQ (some (.long (f_XwithDistances fl un ut u0 u1 sv x r p0)))) 0 0 (fun _ => False) := by
  refine kofR (cc := cX4_withDistances) (maxL := 7) (ret := some .long) (by decide) rfl (Nat.le_of_ble_eq_true rfl) ?_
  intro p e s m args below meth c ls S hr hlk hP hK hl
  obtain ⟨hx, hb, hml, hown, hts⟩ := id S
  have inX4 : ∀ w ∈ wsX40, w ∈ wsX4_withDistances := fun w h => List.mem_cons_of_mem _ (List.mem_append_left _ (List.mem_append_right _ h))
  have hl : lv_has ls 7 [(0, .ref (A 0)), (1, .long p0)] := hl
  refine lv_lload_n hx hb dX4_withDistances_0 rfl (lv_at hl 1 rfl) ?_
  refine lv_lstore_n (lv' := [(3, .long p0), (0, .ref (A 0)), (1, .long p0)]) hx hb dX4_withDistances_1 rfl hl (by decide) rfl (fun ls hl => ?_)
  refine lv_iconst (v := (0 : Int32)) hx hb dX4_withDistances_2 (by decide) ?_
  refine lv_istore (lv' := [(5, .int (0 : Int32)), (3, .long p0), (0, .ref (A 0)), (1, .long p0)]) hx hb dX4_withDistances_3 hl (by decide) rfl (fun ls hl => ?_)
  have L1 : ∀ (n j0 : Nat), j0 + n = (f_size un).toNatClampNeg → ∀ (ls : Array Slot), lv_has ls 7 [(0, .ref (A 0)), (1, .long p0), (3, .long (it j0 (f_XwithDistances_L5 fl un ut u0 u1 sv x r p0) p0)), (5, .int (nI j0))] → W p l e rm_X4_withDistances s m args below meth c s.heap [] 0 0 (MQ below (kQ (some (.long (f_XwithDistances fl un ut u0 u1 sv x r p0)))) args s 0 0 (fun _ => False)) (F0 m 5 ls []) := by
    intro n
    induction n with
    | zero =>
      intro j0 hj1 ls hl
      obtain rfl : j0 = (f_size un).toNatClampNeg := by omega
      refine lv_iload hx hb dX4_withDistances_5 (lv_at hl 3 rfl) ?_
      refine lv_aload_n hx hb dX4_withDistances_7 rfl (lv_at hl 0 rfl) ?_
      refine va_get (D := (dC, dI)) (ci := 4) (v := .ref (A 1)) (C := RX4) (T := TX4) (N := 8) hx hb hts inX4 hown hK hP 0 rfl rfl 0 (by decide) (hts (.fieldLink RX4 10 "BoardMetronomes" "now" "LBoardMetronomes$Bench;") (by decide +kernel)) (fun _ h9 => h9) rfl dX4_withDistances_8 ?_
      refine kc_v (As := []) (rest := [.int (nI ((f_size un).toNatClampNeg))]) S (v := .int (f_size un)) (c_X0_size l dC dI cI cZ cO (A 1) (Q 1) un) gX4_withDistances_X0_size mi_X0_size ⟨rfl, rfl⟩ ⟨Nat.le_of_ble_eq_true rfl, Nat.le_of_ble_eq_true rfl⟩ hK (XW_p_un hP) 0 rfl rfl ⟨Nat.le_refl _, Nat.le_refl _⟩ dX4_withDistances_11 rfl hl.1 rfl (Nat.le_of_ble_eq_true rfl) ?_
      refine lv_icmp_ge (tgt := 66) hx hb dX4_withDistances_14 (by decide) (fun c_14 => ?_) (fun c_14 => ?_)
      · refine lv_lload_n hx hb dX4_withDistances_66 rfl (lv_at hl 2 rfl) ?_
        have r2 : f_XwithDistances fl un ut u0 u1 sv x r p0 = it ((f_size un).toNatClampNeg) (f_XwithDistances_L5 fl un ut u0 u1 sv x r p0) p0 := by
          rw [f_XwithDistances]
        exact kr_l hx hb hr hlk dX4_withDistances_67 r2.symm
      · exact absurd (kn_ge (f_size un)) c_14
    | succ n ih1 =>
      intro j0 hj1 ls hl
      refine lv_iload hx hb dX4_withDistances_5 (lv_at hl 3 rfl) ?_
      refine lv_aload_n hx hb dX4_withDistances_7 rfl (lv_at hl 0 rfl) ?_
      refine va_get (D := (dC, dI)) (ci := 4) (v := .ref (A 1)) (C := RX4) (T := TX4) (N := 8) hx hb hts inX4 hown hK hP 0 rfl rfl 0 (by decide) (hts (.fieldLink RX4 10 "BoardMetronomes" "now" "LBoardMetronomes$Bench;") (by decide +kernel)) (fun _ h9 => h9) rfl dX4_withDistances_8 ?_
      refine kc_v (As := []) (rest := [.int (nI j0)]) S (v := .int (f_size un)) (c_X0_size l dC dI cI cZ cO (A 1) (Q 1) un) gX4_withDistances_X0_size mi_X0_size ⟨rfl, rfl⟩ ⟨Nat.le_of_ble_eq_true rfl, Nat.le_of_ble_eq_true rfl⟩ hK (XW_p_un hP) 0 rfl rfl ⟨Nat.le_refl _, Nat.le_refl _⟩ dX4_withDistances_11 rfl hl.1 rfl (Nat.le_of_ble_eq_true rfl) ?_
      refine lv_icmp_ge (tgt := 66) hx hb dX4_withDistances_14 (by decide) (fun c_14 => ?_) (fun c_14 => ?_)
      · exact absurd c_14 (kn_lt (b := (f_size un)) (by omega))
      · refine lv_iload hx hb dX4_withDistances_17 (lv_at hl 3 rfl) ?_
        refine lv_iconst (v := (1 : Int32)) hx hb dX4_withDistances_19 (by decide) ?_
        refine k_iaddn (x := j0) (y := 1) hx hb dX4_withDistances_20 ?_
        refine lv_istore (lv' := [(6, .int (nI (j0 + 1))), (0, .ref (A 0)), (1, .long p0), (3, .long (it j0 (f_XwithDistances_L5 fl un ut u0 u1 sv x r p0) p0)), (5, .int (nI j0))]) hx hb dX4_withDistances_21 hl (by decide) rfl (fun ls hl => ?_)
        have L3 : ∀ (n j1 : Nat), j1 + n = ((f_size un).toNatClampNeg) - (j0 + 1) → ∀ (ls : Array Slot), lv_has ls 7 [(0, .ref (A 0)), (1, .long p0), (3, .long (it j1 (f_XwithDistances_L23 fl un ut u0 u1 sv x r p0 j0 (it j0 (f_XwithDistances_L5 fl un ut u0 u1 sv x r p0) p0)) (it j0 (f_XwithDistances_L5 fl un ut u0 u1 sv x r p0) p0))), (5, .int (nI j0)), (6, .int (nI (j0 + 1 + j1)))] → W p l e rm_X4_withDistances s m args below meth c s.heap [] 0 0 (MQ below (kQ (some (.long (f_XwithDistances fl un ut u0 u1 sv x r p0)))) args s 0 0 (fun _ => False)) (F0 m 23 ls []) := by
          intro n
          induction n with
          | zero =>
            intro j1 hj3 ls hl
            obtain rfl : j1 = ((f_size un).toNatClampNeg) - (j0 + 1) := by omega
            refine lv_iload hx hb dX4_withDistances_23 (lv_at hl 4 rfl) ?_
            refine lv_aload_n hx hb dX4_withDistances_25 rfl (lv_at hl 0 rfl) ?_
            refine va_get (D := (dC, dI)) (ci := 4) (v := .ref (A 1)) (C := RX4) (T := TX4) (N := 8) hx hb hts inX4 hown hK hP 0 rfl rfl 0 (by decide) (hts (.fieldLink RX4 10 "BoardMetronomes" "now" "LBoardMetronomes$Bench;") (by decide +kernel)) (fun _ h9 => h9) rfl dX4_withDistances_26 ?_
            refine kc_v (As := []) (rest := [.int (nI (j0 + 1 + (((f_size un).toNatClampNeg) - (j0 + 1))))]) S (v := .int (f_size un)) (c_X0_size l dC dI cI cZ cO (A 1) (Q 1) un) gX4_withDistances_X0_size mi_X0_size ⟨rfl, rfl⟩ ⟨Nat.le_of_ble_eq_true rfl, Nat.le_of_ble_eq_true rfl⟩ hK (XW_p_un hP) 0 rfl rfl ⟨Nat.le_refl _, Nat.le_refl _⟩ dX4_withDistances_29 rfl hl.1 rfl (Nat.le_of_ble_eq_true rfl) ?_
            refine lv_icmp_ge (tgt := 60) hx hb dX4_withDistances_32 (by decide) (fun c_32 => ?_) (fun c_32 => ?_)
            · refine lv_iinc (v := nI (j0 + 1)) (lv' := [(5, .int (nI (j0 + 1))), (0, .ref (A 0)), (1, .long p0), (3, .long (it (((f_size un).toNatClampNeg) - (j0 + 1)) (f_XwithDistances_L23 fl un ut u0 u1 sv x r p0 j0 (it j0 (f_XwithDistances_L5 fl un ut u0 u1 sv x r p0) p0)) (it j0 (f_XwithDistances_L5 fl un ut u0 u1 sv x r p0) p0))), (6, .int (nI (j0 + 1 + (((f_size un).toNatClampNeg) - (j0 + 1)))))]) hx hb dX4_withDistances_60 hl (k := 3) rfl (nI_add j0 1) (by decide) rfl (fun ls hl => ?_)
              refine lv_goto (tgt := 5) hx hb dX4_withDistances_63 (by decide) ?_
              have b4 : f_XwithDistances_L5 fl un ut u0 u1 sv x r p0 j0 (it j0 (f_XwithDistances_L5 fl un ut u0 u1 sv x r p0) p0) = it (((f_size un).toNatClampNeg) - (j0 + 1)) (f_XwithDistances_L23 fl un ut u0 u1 sv x r p0 j0 (it j0 (f_XwithDistances_L5 fl un ut u0 u1 sv x r p0) p0)) (it j0 (f_XwithDistances_L5 fl un ut u0 u1 sv x r p0) p0) := by
                rw [f_XwithDistances_L5]
              have e4 : it (j0 + 1) (f_XwithDistances_L5 fl un ut u0 u1 sv x r p0) p0 = it (((f_size un).toNatClampNeg) - (j0 + 1)) (f_XwithDistances_L23 fl un ut u0 u1 sv x r p0 j0 (it j0 (f_XwithDistances_L5 fl un ut u0 u1 sv x r p0) p0)) (it j0 (f_XwithDistances_L5 fl un ut u0 u1 sv x r p0) p0) := (it_s _ _ _).trans b4
              exact ih1 (j0 + 1) (by omega) ls (by rw [e4]; exact lv_sub hl [1, 2, 3, 0] rfl)
            · exact absurd (by rw [show j0 + 1 + ((f_size un).toNatClampNeg - (j0 + 1)) = (f_size un).toNatClampNeg by omega]; exact kn_ge (f_size un)) c_32
          | succ n ih3 =>
            intro j1 hj3 ls hl
            refine lv_iload hx hb dX4_withDistances_23 (lv_at hl 4 rfl) ?_
            refine lv_aload_n hx hb dX4_withDistances_25 rfl (lv_at hl 0 rfl) ?_
            refine va_get (D := (dC, dI)) (ci := 4) (v := .ref (A 1)) (C := RX4) (T := TX4) (N := 8) hx hb hts inX4 hown hK hP 0 rfl rfl 0 (by decide) (hts (.fieldLink RX4 10 "BoardMetronomes" "now" "LBoardMetronomes$Bench;") (by decide +kernel)) (fun _ h9 => h9) rfl dX4_withDistances_26 ?_
            refine kc_v (As := []) (rest := [.int (nI (j0 + 1 + j1))]) S (v := .int (f_size un)) (c_X0_size l dC dI cI cZ cO (A 1) (Q 1) un) gX4_withDistances_X0_size mi_X0_size ⟨rfl, rfl⟩ ⟨Nat.le_of_ble_eq_true rfl, Nat.le_of_ble_eq_true rfl⟩ hK (XW_p_un hP) 0 rfl rfl ⟨Nat.le_refl _, Nat.le_refl _⟩ dX4_withDistances_29 rfl hl.1 rfl (Nat.le_of_ble_eq_true rfl) ?_
            refine lv_icmp_ge (tgt := 60) hx hb dX4_withDistances_32 (by decide) (fun c_32 => ?_) (fun c_32 => ?_)
            · exact absurd c_32 (kn_lt (b := (f_size un)) (by omega))
            · refine lv_ldc2 (v := (31 : Int64)) hx hb hown (hts (.constantLong RX4 246 (31)) (by decide +kernel)) dX4_withDistances_35 ?_
              refine lv_lload_n hx hb dX4_withDistances_38 rfl (lv_at hl 2 rfl) ?_
              refine lv_lmul hx hb dX4_withDistances_39 ?_
              refine lv_aload_n hx hb dX4_withDistances_40 rfl (lv_at hl 0 rfl) ?_
              refine va_get (D := (dC, dI)) (ci := 4) (v := .ref (A 1)) (C := RX4) (T := TX4) (N := 8) hx hb hts inX4 hown hK hP 0 rfl rfl 0 (by decide) (hts (.fieldLink RX4 10 "BoardMetronomes" "now" "LBoardMetronomes$Bench;") (by decide +kernel)) (fun _ h9 => h9) rfl dX4_withDistances_41 ?_
              refine lv_iload hx hb dX4_withDistances_44 (lv_at hl 3 rfl) ?_
              refine lv_iload hx hb dX4_withDistances_46 (lv_at hl 4 rfl) ?_
              refine kc_v (As := [.int (nI j0), .int (nI (j0 + 1 + j1))]) (rest := [.long ((31 : Int64) * (it j1 (f_XwithDistances_L23 fl un ut u0 u1 sv x r p0 j0 (it j0 (f_XwithDistances_L5 fl un ut u0 u1 sv x r p0) p0)) (it j0 (f_XwithDistances_L5 fl un ut u0 u1 sv x r p0) p0)))]) S (v := .int (f_distance un (nI j0) (nI (j0 + 1 + j1)))) (c_X0_distance l dC dI cI cZ cO (A 1) (Q 1) un (nI j0) (nI (j0 + 1 + j1))) gX4_withDistances_X0_distance mi_X0_distance ⟨rfl, rfl⟩ ⟨Nat.le_of_ble_eq_true rfl, Nat.le_of_ble_eq_true rfl⟩ hK (XW_p_un hP) 0 rfl rfl ⟨Nat.le_refl _, Nat.le_refl _⟩ dX4_withDistances_48 rfl hl.1 rfl (Nat.le_of_ble_eq_true rfl) ?_
              refine lv_i2l hx hb dX4_withDistances_51 rfl ?_
              refine lv_ladd hx hb dX4_withDistances_52 ?_
              refine lv_lstore_n (lv' := [(3, .long (((31 : Int64) * (it j1 (f_XwithDistances_L23 fl un ut u0 u1 sv x r p0 j0 (it j0 (f_XwithDistances_L5 fl un ut u0 u1 sv x r p0) p0)) (it j0 (f_XwithDistances_L5 fl un ut u0 u1 sv x r p0) p0))) + ((f_distance un (nI j0) (nI (j0 + 1 + j1))).toInt64))), (0, .ref (A 0)), (1, .long p0), (5, .int (nI j0)), (6, .int (nI (j0 + 1 + j1)))]) hx hb dX4_withDistances_53 rfl hl (by decide) rfl (fun ls hl => ?_)
              refine lv_iinc (v := nI ((j0 + 1 + j1) + 1)) (lv' := [(6, .int (nI ((j0 + 1 + j1) + 1))), (3, .long (((31 : Int64) * (it j1 (f_XwithDistances_L23 fl un ut u0 u1 sv x r p0 j0 (it j0 (f_XwithDistances_L5 fl un ut u0 u1 sv x r p0) p0)) (it j0 (f_XwithDistances_L5 fl un ut u0 u1 sv x r p0) p0))) + ((f_distance un (nI j0) (nI (j0 + 1 + j1))).toInt64))), (0, .ref (A 0)), (1, .long p0), (5, .int (nI j0))]) hx hb dX4_withDistances_54 hl (k := 4) rfl (nI_add (j0 + 1 + j1) 1) (by decide) rfl (fun ls hl => ?_)
              refine lv_goto (tgt := 23) hx hb dX4_withDistances_57 (by decide) ?_
              have b5 : f_XwithDistances_L23 fl un ut u0 u1 sv x r p0 j0 (it j0 (f_XwithDistances_L5 fl un ut u0 u1 sv x r p0) p0) j1 (it j1 (f_XwithDistances_L23 fl un ut u0 u1 sv x r p0 j0 (it j0 (f_XwithDistances_L5 fl un ut u0 u1 sv x r p0) p0)) (it j0 (f_XwithDistances_L5 fl un ut u0 u1 sv x r p0) p0)) = ((31 : Int64) * (it j1 (f_XwithDistances_L23 fl un ut u0 u1 sv x r p0 j0 (it j0 (f_XwithDistances_L5 fl un ut u0 u1 sv x r p0) p0)) (it j0 (f_XwithDistances_L5 fl un ut u0 u1 sv x r p0) p0))) + ((f_distance un (nI j0) (nI (j0 + 1 + j1))).toInt64) := by
                rw [f_XwithDistances_L23]
              have e5 : it (j1 + 1) (f_XwithDistances_L23 fl un ut u0 u1 sv x r p0 j0 (it j0 (f_XwithDistances_L5 fl un ut u0 u1 sv x r p0) p0)) (it j0 (f_XwithDistances_L5 fl un ut u0 u1 sv x r p0) p0) = ((31 : Int64) * (it j1 (f_XwithDistances_L23 fl un ut u0 u1 sv x r p0 j0 (it j0 (f_XwithDistances_L5 fl un ut u0 u1 sv x r p0) p0)) (it j0 (f_XwithDistances_L5 fl un ut u0 u1 sv x r p0) p0))) + ((f_distance un (nI j0) (nI (j0 + 1 + j1))).toInt64) := (it_s _ _ _).trans b5
              exact ih3 (j1 + 1) (by omega) ls (by rw [e5]; exact lv_sub hl [2, 3, 1, 4, 0] rfl)
        exact L3 (((f_size un).toNatClampNeg) - (j0 + 1)) 0 (by omega) ls (lv_sub hl [1, 2, 3, 4, 0] rfl)
  exact L1 ((f_size un).toNatClampNeg) 0 (by omega) ls (lv_sub hl [2, 3, 1, 0] rfl)

def rm_X4_withArms : Room := { frames := 5, cells := 0, slots := 0, locals := 110 }
theorem mi_X4_withArms : kM yX4_withArms wsX4_withArms cX4_withArms 7 (some .long) 1 := ⟨⟨_, rfl⟩, by decide, by decide, by decide +kernel⟩
def f_XwithArms_L20 (fl : (Nat → Int32)) (un : BS) (ut : BS) (u0 : BS) (u1 : BS) (sv : SS) (x : BS) (r : BS) (p0 : Int64) (j0 : Nat) (x0 : Int64 × BS) (j1 : Nat) (x1 : Int64) : Int64 := ((31 : Int64) * x1) + ((f_property un (nI j0) (nI j1)).toInt64)
def f_XwithArms_L5 (fl : (Nat → Int32)) (un : BS) (ut : BS) (u0 : BS) (u1 : BS) (sv : SS) (x : BS) (r : BS) (p0 : Int64) (j0 : Nat) (x0 : (Int64 × BS)) : Int64 × BS := (((31 : Int64) * (it 9 (f_XwithArms_L20 fl un ut u0 u1 sv x r p0 j0 x0) x0.1)) + (((f_XstepsUntilStopped fl un x0.2 u0 u1 sv x r (nI j0)).1).toInt64), (f_XstepsUntilStopped fl un x0.2 u0 u1 sv x r (nI j0)).2)
def f_XwithArms (fl : (Nat → Int32)) (un : BS) (ut : BS) (u0 : BS) (u1 : BS) (sv : SS) (x : BS) (r : BS) (p0 : Int64) : Int64 × BS := ((it ((f_size un).toNatClampNeg) (f_XwithArms_L5 fl un ut u0 u1 sv x r p0) (p0, ut)).1, (it ((f_size un).toNatClampNeg) (f_XwithArms_L5 fl un ut u0 u1 sv x r p0) (p0, ut)).2)
set_option maxHeartbeats 1000000 in
set_option maxRecDepth 100000 in
theorem c_X4_withArms (l : Launch) (dC : Nat → ClassId) (dI : Nat → Nat → Nat) (cI cZ cO : ClassId) (A : Nat → Nat) (Q : Nat → Nat → Nat) (fl : (Nat → Int32)) (un : BS) (ut : BS) (u0 : BS) (u1 : BS) (sv : SS) (x : BS) (r : BS) (p0 : Int64) (sz : Nat) : Met l yX4_withArms wsX4_withArms rm_X4_withArms (va_Pc [.ref (A 0), .long p0] (fun U => U.heap.size = sz ∧ va_P (dC, dI) vwCl (XW cI cZ cO A Q fl un ut u0 u1 sv x r) U.heap ∧ va_K (dC, dI) vwCl (TY cI cZ cO) U ∧ va_D (fun _ => True) (XW cI cZ cO A Q fl un ut u0 u1 sv x r))) (kQw (some (.long (f_XwithArms fl un ut u0 u1 sv x r p0).1)) (dC, dI) vwCl (XW cI cZ cO A Q fl un ((f_XwithArms fl un ut u0 u1 sv x r p0).2) u0 u1 sv x r) (va_A (XW cI cZ cO A Q fl un ut u0 u1 sv x r) sz)) 0 0 (va_A (XW cI cZ cO A Q fl un ut u0 u1 sv x r) sz) := by
  refine kofW (cc := cX4_withArms) (maxL := 7) (ret := some .long) (by decide) rfl (Nat.le_of_ble_eq_true rfl) ?_
  intro p e s m args below meth c ls S hr hlk hnm hsz hP hK hD hS hA hl
  generalize hA0 : va_A (XW cI cZ cO A Q fl un ut u0 u1 sv x r) sz = A0 at hD hS hA ⊢
  subst hsz
  obtain ⟨hx, hb, hml, hown, hts⟩ := id S
  have inX4 : ∀ w ∈ wsX40, w ∈ wsX4_withArms := fun w h => List.mem_cons_of_mem _ (List.mem_append_left _ (List.mem_append_right _ h))
  have hl : lv_has ls 7 [(0, .ref (A 0)), (1, .long p0)] := hl
  refine lv_lload_n hx hb dX4_withArms_0 rfl (lv_at hl 1 rfl) ?_
  refine lv_lstore_n (lv' := [(3, .long p0), (0, .ref (A 0)), (1, .long p0)]) hx hb dX4_withArms_1 rfl hl (by decide) rfl (fun ls hl => ?_)
  refine lv_iconst (v := (0 : Int32)) hx hb dX4_withArms_2 (by decide) ?_
  refine lv_istore (lv' := [(5, .int (0 : Int32)), (3, .long p0), (0, .ref (A 0)), (1, .long p0)]) hx hb dX4_withArms_3 hl (by decide) rfl (fun ls hl => ?_)
  have L1 : ∀ (n j0 : Nat), j0 + n = (f_size un).toNatClampNeg → ∀ (H : Heap) (locs : List Loc) (ls : Array Slot), va_P (dC, dI) vwCl (XW cI cZ cO A Q fl un ((it j0 (f_XwithArms_L5 fl un ut u0 u1 sv x r p0) (p0, ut)).2) u0 u1 sv x r) H → va_D A0 (XW cI cZ cO A Q fl un ((it j0 (f_XwithArms_L5 fl un ut u0 u1 sv x r p0) (p0, ut)).2) u0 u1 sv x r) → va_S A0 s.heap H locs → lv_has ls 7 [(0, .ref (A 0)), (1, .long p0), (3, .long ((it j0 (f_XwithArms_L5 fl un ut u0 u1 sv x r p0) (p0, ut)).1)), (5, .int (nI j0))] → W p l e rm_X4_withArms s m args below meth c H locs 0 0 (MQ below (kQw (some (.long (f_XwithArms fl un ut u0 u1 sv x r p0).1)) (dC, dI) vwCl (XW cI cZ cO A Q fl un ((f_XwithArms fl un ut u0 u1 sv x r p0).2) u0 u1 sv x r) A0) args s 0 0 A0) (F0 m 5 ls []) := by
    intro n
    induction n with
    | zero =>
      intro j0 hj1 H locs ls hP hD hS hl
      obtain rfl : j0 = (f_size un).toNatClampNeg := by omega
      refine lv_iload hx hb dX4_withArms_5 (lv_at hl 3 rfl) ?_
      refine lv_aload_n hx hb dX4_withArms_7 rfl (lv_at hl 0 rfl) ?_
      refine va_get (D := (dC, dI)) (ci := 4) (v := .ref (A 1)) (C := RX4) (T := TX4) (N := 8) hx hb hts inX4 hown hK hP 0 rfl rfl 0 (by decide) (hts (.fieldLink RX4 10 "BoardMetronomes" "now" "LBoardMetronomes$Bench;") (by decide +kernel)) (fun _ h9 => h9) rfl dX4_withArms_8 ?_
      refine kc_v (As := []) (rest := [.int (nI ((f_size un).toNatClampNeg))]) S (v := .int (f_size un)) (c_X0_size l dC dI cI cZ cO (A 1) (Q 1) un) gX4_withArms_X0_size mi_X0_size ⟨rfl, rfl⟩ ⟨Nat.le_of_ble_eq_true rfl, Nat.le_of_ble_eq_true rfl⟩ hK (XW_p_un hP) 0 rfl rfl ⟨Nat.le_refl _, Nat.le_refl _⟩ dX4_withArms_11 rfl hl.1 rfl (Nat.le_of_ble_eq_true rfl) ?_
      refine lv_icmp_ge (tgt := 72) hx hb dX4_withArms_14 (by decide) (fun c_14 => ?_) (fun c_14 => ?_)
      · refine lv_lload_n hx hb dX4_withArms_72 rfl (lv_at hl 2 rfl) ?_
        have r2 : f_XwithArms fl un ut u0 u1 sv x r p0 = ((it ((f_size un).toNatClampNeg) (f_XwithArms_L5 fl un ut u0 u1 sv x r p0) (p0, ut)).1, (it ((f_size un).toNatClampNeg) (f_XwithArms_L5 fl un ut u0 u1 sv x r p0) (p0, ut)).2) := by
          rw [f_XwithArms]
        exact kw_l hx hb hr hlk hP hS dX4_withArms_73 (by rw [r2]) (by rw [r2])
      · exact absurd (kn_ge (f_size un)) c_14
    | succ n ih1 =>
      intro j0 hj1 H locs ls hP hD hS hl
      refine lv_iload hx hb dX4_withArms_5 (lv_at hl 3 rfl) ?_
      refine lv_aload_n hx hb dX4_withArms_7 rfl (lv_at hl 0 rfl) ?_
      refine va_get (D := (dC, dI)) (ci := 4) (v := .ref (A 1)) (C := RX4) (T := TX4) (N := 8) hx hb hts inX4 hown hK hP 0 rfl rfl 0 (by decide) (hts (.fieldLink RX4 10 "BoardMetronomes" "now" "LBoardMetronomes$Bench;") (by decide +kernel)) (fun _ h9 => h9) rfl dX4_withArms_8 ?_
      refine kc_v (As := []) (rest := [.int (nI j0)]) S (v := .int (f_size un)) (c_X0_size l dC dI cI cZ cO (A 1) (Q 1) un) gX4_withArms_X0_size mi_X0_size ⟨rfl, rfl⟩ ⟨Nat.le_of_ble_eq_true rfl, Nat.le_of_ble_eq_true rfl⟩ hK (XW_p_un hP) 0 rfl rfl ⟨Nat.le_refl _, Nat.le_refl _⟩ dX4_withArms_11 rfl hl.1 rfl (Nat.le_of_ble_eq_true rfl) ?_
      refine lv_icmp_ge (tgt := 72) hx hb dX4_withArms_14 (by decide) (fun c_14 => ?_) (fun c_14 => ?_)
      · exact absurd c_14 (kn_lt (b := (f_size un)) (by omega))
      · refine lv_iconst (v := (0 : Int32)) hx hb dX4_withArms_17 (by decide) ?_
        refine lv_istore (lv' := [(6, .int (0 : Int32)), (0, .ref (A 0)), (1, .long p0), (3, .long ((it j0 (f_XwithArms_L5 fl un ut u0 u1 sv x r p0) (p0, ut)).1)), (5, .int (nI j0))]) hx hb dX4_withArms_18 hl (by decide) rfl (fun ls hl => ?_)
        have L3 : ∀ (n j1 : Nat), j1 + n = 9 → ∀ (ls : Array Slot), lv_has ls 7 [(0, .ref (A 0)), (1, .long p0), (3, .long (it j1 (f_XwithArms_L20 fl un ut u0 u1 sv x r p0 j0 (it j0 (f_XwithArms_L5 fl un ut u0 u1 sv x r p0) (p0, ut))) ((it j0 (f_XwithArms_L5 fl un ut u0 u1 sv x r p0) (p0, ut)).1))), (5, .int (nI j0)), (6, .int (nI j1))] → W p l e rm_X4_withArms s m args below meth c H locs 0 0 (MQ below (kQw (some (.long (f_XwithArms fl un ut u0 u1 sv x r p0).1)) (dC, dI) vwCl (XW cI cZ cO A Q fl un ((f_XwithArms fl un ut u0 u1 sv x r p0).2) u0 u1 sv x r) A0) args s 0 0 A0) (F0 m 20 ls []) := by
          intro n
          induction n with
          | zero =>
            intro j1 hj3 ls hl
            obtain rfl : j1 = 9 := by omega
            refine lv_iload hx hb dX4_withArms_20 (lv_at hl 4 rfl) ?_
            refine lv_bipush (v := (9 : Int32)) hx hb dX4_withArms_22 (by decide) ?_
            refine lv_icmp_ge (tgt := 52) hx hb dX4_withArms_24 (by decide) (fun c_24 => ?_) (fun c_24 => ?_)
            · refine lv_ldc2 (v := (31 : Int64)) hx hb hown (hts (.constantLong RX4 246 (31)) (by decide +kernel)) dX4_withArms_52 ?_
              refine lv_lload_n hx hb dX4_withArms_55 rfl (lv_at hl 2 rfl) ?_
              refine lv_lmul hx hb dX4_withArms_56 ?_
              refine lv_aload_n hx hb dX4_withArms_57 rfl (lv_at hl 0 rfl) ?_
              refine lv_iload hx hb dX4_withArms_58 (lv_at hl 3 rfl) ?_
              refine kc_w (As := [.int (nI j0)]) (rest := [.long ((31 : Int64) * (it 9 (f_XwithArms_L20 fl un ut u0 u1 sv x r p0 j0 (it j0 (f_XwithArms_L5 fl un ut u0 u1 sv x r p0) (p0, ut))) ((it j0 (f_XwithArms_L5 fl un ut u0 u1 sv x r p0) (p0, ut)).1)))]) S (v := (some (.int ((f_XstepsUntilStopped fl un ((it j0 (f_XwithArms_L5 fl un ut u0 u1 sv x r p0) (p0, ut)).2) u0 u1 sv x r (nI j0)).1)))) (c_X4_stepsUntilStopped l dC dI cI cZ cO A Q fl un ((it j0 (f_XwithArms_L5 fl un ut u0 u1 sv x r p0) (p0, ut)).2) u0 u1 sv x r (nI j0) H.size) gX4_withArms_X4_stepsUntilStopped mi_X4_stepsUntilStopped ⟨rfl, rfl⟩ ⟨Nat.le_of_ble_eq_true rfl, Nat.le_of_ble_eq_true rfl⟩ hK hP hD hS hA [0, 1, 2, 3, 4, 5, 6, 7, 8, 9, 10, 11, 12, 13, 14, 15, 16, 17, 18, 19, 20, 21, 22, 23, 24, 25, 26, 27, 28, 29, 30, 31, 32, 33, 34, 35, 36, 37, 38, 39, 40, 41, 42, 43, 44, 45, 46, 47, 48, 49, 50, 51, 52, 53, 54, 55, 56, 57, 58, 59, 60, 61, 62, 63, 64, 65, 66] XW_all XW_fst rfl 0 rfl rfl ⟨Nat.le_refl _, Nat.le_refl _⟩ dX4_withArms_60 rfl hl.1 rfl (Nat.le_of_ble_eq_true rfl) (fun H locs hP hD hS => ?_)
              have hP : va_P (dC, dI) vwCl (XW cI cZ cO A Q fl un ((f_XstepsUntilStopped fl un ((it j0 (f_XwithArms_L5 fl un ut u0 u1 sv x r p0) (p0, ut)).2) u0 u1 sv x r (nI j0)).2) u0 u1 sv x r) H := Eq.mp (congrArg (fun w => va_P (dC, dI) vwCl w H) XW_ks) hP
              have hD : va_D A0 (XW cI cZ cO A Q fl un ((f_XstepsUntilStopped fl un ((it j0 (f_XwithArms_L5 fl un ut u0 u1 sv x r p0) (p0, ut)).2) u0 u1 sv x r (nI j0)).2) u0 u1 sv x r) := Eq.mp (congrArg (fun w => va_D A0 w) XW_ks) hD
              refine lv_i2l hx hb dX4_withArms_63 rfl ?_
              refine lv_ladd hx hb dX4_withArms_64 ?_
              refine lv_lstore_n (lv' := [(3, .long (((31 : Int64) * (it 9 (f_XwithArms_L20 fl un ut u0 u1 sv x r p0 j0 (it j0 (f_XwithArms_L5 fl un ut u0 u1 sv x r p0) (p0, ut))) ((it j0 (f_XwithArms_L5 fl un ut u0 u1 sv x r p0) (p0, ut)).1))) + (((f_XstepsUntilStopped fl un ((it j0 (f_XwithArms_L5 fl un ut u0 u1 sv x r p0) (p0, ut)).2) u0 u1 sv x r (nI j0)).1).toInt64))), (0, .ref (A 0)), (1, .long p0), (5, .int (nI j0)), (6, .int (nI 9))]) hx hb dX4_withArms_65 rfl hl (by decide) rfl (fun ls hl => ?_)
              refine lv_iinc (v := nI (j0 + 1)) (lv' := [(5, .int (nI (j0 + 1))), (3, .long (((31 : Int64) * (it 9 (f_XwithArms_L20 fl un ut u0 u1 sv x r p0 j0 (it j0 (f_XwithArms_L5 fl un ut u0 u1 sv x r p0) (p0, ut))) ((it j0 (f_XwithArms_L5 fl un ut u0 u1 sv x r p0) (p0, ut)).1))) + (((f_XstepsUntilStopped fl un ((it j0 (f_XwithArms_L5 fl un ut u0 u1 sv x r p0) (p0, ut)).2) u0 u1 sv x r (nI j0)).1).toInt64))), (0, .ref (A 0)), (1, .long p0), (6, .int (nI 9))]) hx hb dX4_withArms_66 hl (k := 3) rfl (nI_add j0 1) (by decide) rfl (fun ls hl => ?_)
              refine lv_goto (tgt := 5) hx hb dX4_withArms_69 (by decide) ?_
              have b4 : f_XwithArms_L5 fl un ut u0 u1 sv x r p0 j0 (it j0 (f_XwithArms_L5 fl un ut u0 u1 sv x r p0) (p0, ut)) = (((31 : Int64) * (it 9 (f_XwithArms_L20 fl un ut u0 u1 sv x r p0 j0 (it j0 (f_XwithArms_L5 fl un ut u0 u1 sv x r p0) (p0, ut))) ((it j0 (f_XwithArms_L5 fl un ut u0 u1 sv x r p0) (p0, ut)).1))) + (((f_XstepsUntilStopped fl un ((it j0 (f_XwithArms_L5 fl un ut u0 u1 sv x r p0) (p0, ut)).2) u0 u1 sv x r (nI j0)).1).toInt64), (f_XstepsUntilStopped fl un ((it j0 (f_XwithArms_L5 fl un ut u0 u1 sv x r p0) (p0, ut)).2) u0 u1 sv x r (nI j0)).2) := by
                rw [f_XwithArms_L5]
              have e4 : it (j0 + 1) (f_XwithArms_L5 fl un ut u0 u1 sv x r p0) (p0, ut) = (((31 : Int64) * (it 9 (f_XwithArms_L20 fl un ut u0 u1 sv x r p0 j0 (it j0 (f_XwithArms_L5 fl un ut u0 u1 sv x r p0) (p0, ut))) ((it j0 (f_XwithArms_L5 fl un ut u0 u1 sv x r p0) (p0, ut)).1))) + (((f_XstepsUntilStopped fl un ((it j0 (f_XwithArms_L5 fl un ut u0 u1 sv x r p0) (p0, ut)).2) u0 u1 sv x r (nI j0)).1).toInt64), (f_XstepsUntilStopped fl un ((it j0 (f_XwithArms_L5 fl un ut u0 u1 sv x r p0) (p0, ut)).2) u0 u1 sv x r (nI j0)).2) := (it_s _ _ _).trans b4
              exact ih1 (j0 + 1) (by omega) H locs ls (by rw [e4]; exact hP) (by rw [e4]; exact hD) hS (by rw [e4]; exact lv_sub hl [2, 3, 1, 0] rfl)
            · exact absurd (nI_le (a := 9) (by omega) (by omega)) c_24
          | succ n ih3 =>
            intro j1 hj3 ls hl
            refine lv_iload hx hb dX4_withArms_20 (lv_at hl 4 rfl) ?_
            refine lv_bipush (v := (9 : Int32)) hx hb dX4_withArms_22 (by decide) ?_
            refine lv_icmp_ge (tgt := 52) hx hb dX4_withArms_24 (by decide) (fun c_24 => ?_) (fun c_24 => ?_)
            · exact absurd c_24 (nI_ge (b := 9) (by omega) (by decide))
            · refine lv_ldc2 (v := (31 : Int64)) hx hb hown (hts (.constantLong RX4 246 (31)) (by decide +kernel)) dX4_withArms_27 ?_
              refine lv_lload_n hx hb dX4_withArms_30 rfl (lv_at hl 2 rfl) ?_
              refine lv_lmul hx hb dX4_withArms_31 ?_
              refine lv_aload_n hx hb dX4_withArms_32 rfl (lv_at hl 0 rfl) ?_
              refine va_get (D := (dC, dI)) (ci := 4) (v := .ref (A 1)) (C := RX4) (T := TX4) (N := 8) hx hb hts inX4 hown hK hP 0 rfl rfl 0 (by decide) (hts (.fieldLink RX4 10 "BoardMetronomes" "now" "LBoardMetronomes$Bench;") (by decide +kernel)) (fun _ h9 => h9) rfl dX4_withArms_33 ?_
              refine lv_iload hx hb dX4_withArms_36 (lv_at hl 3 rfl) ?_
              refine lv_iload hx hb dX4_withArms_38 (lv_at hl 4 rfl) ?_
              refine kc_v (As := [.int (nI j0), .int (nI j1)]) (rest := [.long ((31 : Int64) * (it j1 (f_XwithArms_L20 fl un ut u0 u1 sv x r p0 j0 (it j0 (f_XwithArms_L5 fl un ut u0 u1 sv x r p0) (p0, ut))) ((it j0 (f_XwithArms_L5 fl un ut u0 u1 sv x r p0) (p0, ut)).1)))]) S (v := .int (f_property un (nI j0) (nI j1))) (c_X0_property l dC dI cI cZ cO (A 1) (Q 1) un (nI j0) (nI j1)) gX4_withArms_X0_property mi_X0_property ⟨rfl, rfl⟩ ⟨Nat.le_of_ble_eq_true rfl, Nat.le_of_ble_eq_true rfl⟩ hK (XW_p_un hP) 0 rfl rfl ⟨Nat.le_refl _, Nat.le_refl _⟩ dX4_withArms_40 rfl hl.1 rfl (Nat.le_of_ble_eq_true rfl) ?_
              refine lv_i2l hx hb dX4_withArms_43 rfl ?_
              refine lv_ladd hx hb dX4_withArms_44 ?_
              refine lv_lstore_n (lv' := [(3, .long (((31 : Int64) * (it j1 (f_XwithArms_L20 fl un ut u0 u1 sv x r p0 j0 (it j0 (f_XwithArms_L5 fl un ut u0 u1 sv x r p0) (p0, ut))) ((it j0 (f_XwithArms_L5 fl un ut u0 u1 sv x r p0) (p0, ut)).1))) + ((f_property un (nI j0) (nI j1)).toInt64))), (0, .ref (A 0)), (1, .long p0), (5, .int (nI j0)), (6, .int (nI j1))]) hx hb dX4_withArms_45 rfl hl (by decide) rfl (fun ls hl => ?_)
              refine lv_iinc (v := nI (j1 + 1)) (lv' := [(6, .int (nI (j1 + 1))), (3, .long (((31 : Int64) * (it j1 (f_XwithArms_L20 fl un ut u0 u1 sv x r p0 j0 (it j0 (f_XwithArms_L5 fl un ut u0 u1 sv x r p0) (p0, ut))) ((it j0 (f_XwithArms_L5 fl un ut u0 u1 sv x r p0) (p0, ut)).1))) + ((f_property un (nI j0) (nI j1)).toInt64))), (0, .ref (A 0)), (1, .long p0), (5, .int (nI j0))]) hx hb dX4_withArms_46 hl (k := 4) rfl (nI_add j1 1) (by decide) rfl (fun ls hl => ?_)
              refine lv_goto (tgt := 20) hx hb dX4_withArms_49 (by decide) ?_
              have b5 : f_XwithArms_L20 fl un ut u0 u1 sv x r p0 j0 (it j0 (f_XwithArms_L5 fl un ut u0 u1 sv x r p0) (p0, ut)) j1 (it j1 (f_XwithArms_L20 fl un ut u0 u1 sv x r p0 j0 (it j0 (f_XwithArms_L5 fl un ut u0 u1 sv x r p0) (p0, ut))) ((it j0 (f_XwithArms_L5 fl un ut u0 u1 sv x r p0) (p0, ut)).1)) = ((31 : Int64) * (it j1 (f_XwithArms_L20 fl un ut u0 u1 sv x r p0 j0 (it j0 (f_XwithArms_L5 fl un ut u0 u1 sv x r p0) (p0, ut))) ((it j0 (f_XwithArms_L5 fl un ut u0 u1 sv x r p0) (p0, ut)).1))) + ((f_property un (nI j0) (nI j1)).toInt64) := by
                rw [f_XwithArms_L20]
              have e5 : it (j1 + 1) (f_XwithArms_L20 fl un ut u0 u1 sv x r p0 j0 (it j0 (f_XwithArms_L5 fl un ut u0 u1 sv x r p0) (p0, ut))) ((it j0 (f_XwithArms_L5 fl un ut u0 u1 sv x r p0) (p0, ut)).1) = ((31 : Int64) * (it j1 (f_XwithArms_L20 fl un ut u0 u1 sv x r p0 j0 (it j0 (f_XwithArms_L5 fl un ut u0 u1 sv x r p0) (p0, ut))) ((it j0 (f_XwithArms_L5 fl un ut u0 u1 sv x r p0) (p0, ut)).1))) + ((f_property un (nI j0) (nI j1)).toInt64) := (it_s _ _ _).trans b5
              exact ih3 (j1 + 1) (by omega) ls (by rw [e5]; exact lv_sub hl [2, 3, 1, 4, 0] rfl)
        exact L3 9 0 (by omega) ls (lv_sub hl [1, 2, 3, 4, 0] rfl)
  exact L1 ((f_size un).toNatClampNeg) 0 (by omega) s.heap [] ls hP hD hS (lv_sub hl [2, 3, 1, 0] rfl)

def rm_X4_withSlotsAndText : Room := { frames := 1, cells := 0, slots := 0, locals := 21 }
theorem mi_X4_withSlotsAndText : kM yX4_withSlotsAndText wsX4_withSlotsAndText cX4_withSlotsAndText 6 (some .long) 1 := ⟨⟨_, rfl⟩, by decide, by decide, by decide +kernel⟩
def f_XwithSlotsAndText_L5 (fl : (Nat → Int32)) (un : BS) (ut : BS) (u0 : BS) (u1 : BS) (sv : SS) (x : BS) (r : BS) (p0 : Int64) (j0 : Nat) (x0 : Int64) : Int64 := if (fl j0) = 0 then (((31 : Int64) * x0) + ((0 : Int32).toInt64)) else ((31 : Int64) * x0) + ((1 : Int32).toInt64)
def f_XwithSlotsAndText_L58 (fl : (Nat → Int32)) (un : BS) (ut : BS) (u0 : BS) (u1 : BS) (sv : SS) (x : BS) (r : BS) (p0 : Int64) (j0 : Nat) (x0 : Int64) : Int64 := ((31 : Int64) * x0) + ((f_TsignAt x (nI j0)).toInt64)
def f_XwithSlotsAndText (fl : (Nat → Int32)) (un : BS) (ut : BS) (u0 : BS) (u1 : BS) (sv : SS) (x : BS) (r : BS) (p0 : Int64) : Int64 := it ((f_Tsize x).toNatClampNeg) (f_XwithSlotsAndText_L58 fl un ut u0 u1 sv x r p0) (((31 : Int64) * (it 2 (f_XwithSlotsAndText_L5 fl un ut u0 u1 sv x r p0) p0)) + ((f_Tsize x).toInt64))
set_option maxHeartbeats 1000000 in
set_option maxRecDepth 100000 in
theorem c_X4_withSlotsAndText (l : Launch) (dC : Nat → ClassId) (dI : Nat → Nat → Nat) (cI cZ cO : ClassId) (A : Nat → Nat) (Q : Nat → Nat → Nat) (fl : (Nat → Int32)) (un : BS) (ut : BS) (u0 : BS) (u1 : BS) (sv : SS) (x : BS) (r : BS) (p0 : Int64) : Met l yX4_withSlotsAndText wsX4_withSlotsAndText rm_X4_withSlotsAndText (va_Pc [.ref (A 0), .long p0] (fun U => va_P (dC, dI) vwCl (XW cI cZ cO A Q fl un ut u0 u1 sv x r) U.heap ∧ va_K (dC, dI) vwCl (TY cI cZ cO) U)) (kQ (some (.long (f_XwithSlotsAndText fl un ut u0 u1 sv x r p0)))) 0 0 (fun _ => False) := by
  refine kofR (cc := cX4_withSlotsAndText) (maxL := 6) (ret := some .long) (by decide) rfl (Nat.le_of_ble_eq_true rfl) ?_
  intro p e s m args below meth c ls S hr hlk hP hK hl
  obtain ⟨hx, hb, hml, hown, hts⟩ := id S
  have inX4 : ∀ w ∈ wsX40, w ∈ wsX4_withSlotsAndText := fun w h => List.mem_cons_of_mem _ (List.mem_append_left _ (List.mem_append_right _ h))
  have hl : lv_has ls 6 [(0, .ref (A 0)), (1, .long p0)] := hl
  refine lv_lload_n hx hb dX4_withSlotsAndText_0 rfl (lv_at hl 1 rfl) ?_
  refine lv_lstore_n (lv' := [(3, .long p0), (0, .ref (A 0)), (1, .long p0)]) hx hb dX4_withSlotsAndText_1 rfl hl (by decide) rfl (fun ls hl => ?_)
  refine lv_iconst (v := (0 : Int32)) hx hb dX4_withSlotsAndText_2 (by decide) ?_
  refine lv_istore (lv' := [(5, .int (0 : Int32)), (3, .long p0), (0, .ref (A 0)), (1, .long p0)]) hx hb dX4_withSlotsAndText_3 hl (by decide) rfl (fun ls hl => ?_)
  have L1 : ∀ (n j0 : Nat), j0 + n = 2 → ∀ (ls : Array Slot), lv_has ls 6 [(0, .ref (A 0)), (1, .long p0), (3, .long (it j0 (f_XwithSlotsAndText_L5 fl un ut u0 u1 sv x r p0) p0)), (5, .int (nI j0))] → W p l e rm_X4_withSlotsAndText s m args below meth c s.heap [] 0 0 (MQ below (kQ (some (.long (f_XwithSlotsAndText fl un ut u0 u1 sv x r p0)))) args s 0 0 (fun _ => False)) (F0 m 5 ls []) := by
    intro n
    induction n with
    | zero =>
      intro j0 hj1 ls hl
      obtain rfl : j0 = 2 := by omega
      refine lv_iload hx hb dX4_withSlotsAndText_5 (lv_at hl 3 rfl) ?_
      refine lv_iconst (v := (2 : Int32)) hx hb dX4_withSlotsAndText_7 (by decide) ?_
      refine lv_icmp_ge (tgt := 40) hx hb dX4_withSlotsAndText_8 (by decide) (fun c_8 => ?_) (fun c_8 => ?_)
      · refine lv_ldc2 (v := (31 : Int64)) hx hb hown (hts (.constantLong RX4 246 (31)) (by decide +kernel)) dX4_withSlotsAndText_40 ?_
        refine lv_lload_n hx hb dX4_withSlotsAndText_43 rfl (lv_at hl 2 rfl) ?_
        refine lv_lmul hx hb dX4_withSlotsAndText_44 ?_
        refine lv_aload_n hx hb dX4_withSlotsAndText_45 rfl (lv_at hl 0 rfl) ?_
        refine va_get (D := (dC, dI)) (ci := 4) (v := .ref (A 8)) (C := RX4) (T := TX4) (N := 8) hx hb hts inX4 hown hK hP 0 rfl rfl 6 (by decide) (hts (.fieldLink RX4 39 "BoardMetronomes" "text" "LBoardMetronomes$Text;") (by decide +kernel)) (fun _ h9 => h9) rfl dX4_withSlotsAndText_46 ?_
        refine kc_v (As := []) (rest := [.long ((31 : Int64) * (it 2 (f_XwithSlotsAndText_L5 fl un ut u0 u1 sv x r p0) p0))]) S (v := .int (f_Tsize x)) (c_X3_size l dC dI cI cZ cO (A 8) (Q 8) x) gX4_withSlotsAndText_X3_size mi_X3_size ⟨rfl, rfl⟩ ⟨Nat.le_of_ble_eq_true rfl, Nat.le_of_ble_eq_true rfl⟩ hK (XW_p_x hP) 0 rfl rfl ⟨Nat.le_refl _, Nat.le_refl _⟩ dX4_withSlotsAndText_49 rfl hl.1 rfl (Nat.le_of_ble_eq_true rfl) ?_
        refine lv_i2l hx hb dX4_withSlotsAndText_52 rfl ?_
        refine lv_ladd hx hb dX4_withSlotsAndText_53 ?_
        refine lv_lstore_n (lv' := [(3, .long (((31 : Int64) * (it 2 (f_XwithSlotsAndText_L5 fl un ut u0 u1 sv x r p0) p0)) + ((f_Tsize x).toInt64))), (0, .ref (A 0)), (1, .long p0), (5, .int (nI 2))]) hx hb dX4_withSlotsAndText_54 rfl hl (by decide) rfl (fun ls hl => ?_)
        refine lv_iconst (v := (0 : Int32)) hx hb dX4_withSlotsAndText_55 (by decide) ?_
        refine lv_istore (lv' := [(5, .int (0 : Int32)), (3, .long (((31 : Int64) * (it 2 (f_XwithSlotsAndText_L5 fl un ut u0 u1 sv x r p0) p0)) + ((f_Tsize x).toInt64))), (0, .ref (A 0)), (1, .long p0)]) hx hb dX4_withSlotsAndText_56 hl (by decide) rfl (fun ls hl => ?_)
        have L2 : ∀ (n j0 : Nat), j0 + n = (f_Tsize x).toNatClampNeg → ∀ (ls : Array Slot), lv_has ls 6 [(0, .ref (A 0)), (1, .long p0), (3, .long (it j0 (f_XwithSlotsAndText_L58 fl un ut u0 u1 sv x r p0) (((31 : Int64) * (it 2 (f_XwithSlotsAndText_L5 fl un ut u0 u1 sv x r p0) p0)) + ((f_Tsize x).toInt64)))), (5, .int (nI j0))] → W p l e rm_X4_withSlotsAndText s m args below meth c s.heap [] 0 0 (MQ below (kQ (some (.long (f_XwithSlotsAndText fl un ut u0 u1 sv x r p0)))) args s 0 0 (fun _ => False)) (F0 m 58 ls []) := by
          intro n
          induction n with
          | zero =>
            intro j0 hj2 ls hl
            obtain rfl : j0 = (f_Tsize x).toNatClampNeg := by omega
            refine lv_iload hx hb dX4_withSlotsAndText_58 (lv_at hl 3 rfl) ?_
            refine lv_aload_n hx hb dX4_withSlotsAndText_60 rfl (lv_at hl 0 rfl) ?_
            refine va_get (D := (dC, dI)) (ci := 4) (v := .ref (A 8)) (C := RX4) (T := TX4) (N := 8) hx hb hts inX4 hown hK hP 0 rfl rfl 6 (by decide) (hts (.fieldLink RX4 39 "BoardMetronomes" "text" "LBoardMetronomes$Text;") (by decide +kernel)) (fun _ h9 => h9) rfl dX4_withSlotsAndText_61 ?_
            refine kc_v (As := []) (rest := [.int (nI ((f_Tsize x).toNatClampNeg))]) S (v := .int (f_Tsize x)) (c_X3_size l dC dI cI cZ cO (A 8) (Q 8) x) gX4_withSlotsAndText_X3_size mi_X3_size ⟨rfl, rfl⟩ ⟨Nat.le_of_ble_eq_true rfl, Nat.le_of_ble_eq_true rfl⟩ hK (XW_p_x hP) 0 rfl rfl ⟨Nat.le_refl _, Nat.le_refl _⟩ dX4_withSlotsAndText_64 rfl hl.1 rfl (Nat.le_of_ble_eq_true rfl) ?_
            refine lv_icmp_ge (tgt := 93) hx hb dX4_withSlotsAndText_67 (by decide) (fun c_67 => ?_) (fun c_67 => ?_)
            · refine lv_lload_n hx hb dX4_withSlotsAndText_93 rfl (lv_at hl 2 rfl) ?_
              have r3 : f_XwithSlotsAndText fl un ut u0 u1 sv x r p0 = it ((f_Tsize x).toNatClampNeg) (f_XwithSlotsAndText_L58 fl un ut u0 u1 sv x r p0) (((31 : Int64) * (it 2 (f_XwithSlotsAndText_L5 fl un ut u0 u1 sv x r p0) p0)) + ((f_Tsize x).toInt64)) := by
                rw [f_XwithSlotsAndText]
              exact kr_l hx hb hr hlk dX4_withSlotsAndText_94 r3.symm
            · exact absurd (kn_ge (f_Tsize x)) c_67
          | succ n ih2 =>
            intro j0 hj2 ls hl
            refine lv_iload hx hb dX4_withSlotsAndText_58 (lv_at hl 3 rfl) ?_
            refine lv_aload_n hx hb dX4_withSlotsAndText_60 rfl (lv_at hl 0 rfl) ?_
            refine va_get (D := (dC, dI)) (ci := 4) (v := .ref (A 8)) (C := RX4) (T := TX4) (N := 8) hx hb hts inX4 hown hK hP 0 rfl rfl 6 (by decide) (hts (.fieldLink RX4 39 "BoardMetronomes" "text" "LBoardMetronomes$Text;") (by decide +kernel)) (fun _ h9 => h9) rfl dX4_withSlotsAndText_61 ?_
            refine kc_v (As := []) (rest := [.int (nI j0)]) S (v := .int (f_Tsize x)) (c_X3_size l dC dI cI cZ cO (A 8) (Q 8) x) gX4_withSlotsAndText_X3_size mi_X3_size ⟨rfl, rfl⟩ ⟨Nat.le_of_ble_eq_true rfl, Nat.le_of_ble_eq_true rfl⟩ hK (XW_p_x hP) 0 rfl rfl ⟨Nat.le_refl _, Nat.le_refl _⟩ dX4_withSlotsAndText_64 rfl hl.1 rfl (Nat.le_of_ble_eq_true rfl) ?_
            refine lv_icmp_ge (tgt := 93) hx hb dX4_withSlotsAndText_67 (by decide) (fun c_67 => ?_) (fun c_67 => ?_)
            · exact absurd c_67 (kn_lt (b := (f_Tsize x)) (by omega))
            · refine lv_ldc2 (v := (31 : Int64)) hx hb hown (hts (.constantLong RX4 246 (31)) (by decide +kernel)) dX4_withSlotsAndText_70 ?_
              refine lv_lload_n hx hb dX4_withSlotsAndText_73 rfl (lv_at hl 2 rfl) ?_
              refine lv_lmul hx hb dX4_withSlotsAndText_74 ?_
              refine lv_aload_n hx hb dX4_withSlotsAndText_75 rfl (lv_at hl 0 rfl) ?_
              refine va_get (D := (dC, dI)) (ci := 4) (v := .ref (A 8)) (C := RX4) (T := TX4) (N := 8) hx hb hts inX4 hown hK hP 0 rfl rfl 6 (by decide) (hts (.fieldLink RX4 39 "BoardMetronomes" "text" "LBoardMetronomes$Text;") (by decide +kernel)) (fun _ h9 => h9) rfl dX4_withSlotsAndText_76 ?_
              refine lv_iload hx hb dX4_withSlotsAndText_79 (lv_at hl 3 rfl) ?_
              refine kc_v (As := [.int (nI j0)]) (rest := [.long ((31 : Int64) * (it j0 (f_XwithSlotsAndText_L58 fl un ut u0 u1 sv x r p0) (((31 : Int64) * (it 2 (f_XwithSlotsAndText_L5 fl un ut u0 u1 sv x r p0) p0)) + ((f_Tsize x).toInt64))))]) S (v := .int (f_TsignAt x (nI j0))) (c_X3_signAt l dC dI cI cZ cO (A 8) (Q 8) x (nI j0)) gX4_withSlotsAndText_X3_signAt mi_X3_signAt ⟨rfl, rfl⟩ ⟨Nat.le_of_ble_eq_true rfl, Nat.le_of_ble_eq_true rfl⟩ hK (XW_p_x hP) 0 rfl rfl ⟨Nat.le_refl _, Nat.le_refl _⟩ dX4_withSlotsAndText_81 rfl hl.1 rfl (Nat.le_of_ble_eq_true rfl) ?_
              refine lv_i2l hx hb dX4_withSlotsAndText_84 rfl ?_
              refine lv_ladd hx hb dX4_withSlotsAndText_85 ?_
              refine lv_lstore_n (lv' := [(3, .long (((31 : Int64) * (it j0 (f_XwithSlotsAndText_L58 fl un ut u0 u1 sv x r p0) (((31 : Int64) * (it 2 (f_XwithSlotsAndText_L5 fl un ut u0 u1 sv x r p0) p0)) + ((f_Tsize x).toInt64)))) + ((f_TsignAt x (nI j0)).toInt64))), (0, .ref (A 0)), (1, .long p0), (5, .int (nI j0))]) hx hb dX4_withSlotsAndText_86 rfl hl (by decide) rfl (fun ls hl => ?_)
              refine lv_iinc (v := nI (j0 + 1)) (lv' := [(5, .int (nI (j0 + 1))), (3, .long (((31 : Int64) * (it j0 (f_XwithSlotsAndText_L58 fl un ut u0 u1 sv x r p0) (((31 : Int64) * (it 2 (f_XwithSlotsAndText_L5 fl un ut u0 u1 sv x r p0) p0)) + ((f_Tsize x).toInt64)))) + ((f_TsignAt x (nI j0)).toInt64))), (0, .ref (A 0)), (1, .long p0)]) hx hb dX4_withSlotsAndText_87 hl (k := 3) rfl (nI_add j0 1) (by decide) rfl (fun ls hl => ?_)
              refine lv_goto (tgt := 58) hx hb dX4_withSlotsAndText_90 (by decide) ?_
              have b4 : f_XwithSlotsAndText_L58 fl un ut u0 u1 sv x r p0 j0 (it j0 (f_XwithSlotsAndText_L58 fl un ut u0 u1 sv x r p0) (((31 : Int64) * (it 2 (f_XwithSlotsAndText_L5 fl un ut u0 u1 sv x r p0) p0)) + ((f_Tsize x).toInt64))) = ((31 : Int64) * (it j0 (f_XwithSlotsAndText_L58 fl un ut u0 u1 sv x r p0) (((31 : Int64) * (it 2 (f_XwithSlotsAndText_L5 fl un ut u0 u1 sv x r p0) p0)) + ((f_Tsize x).toInt64)))) + ((f_TsignAt x (nI j0)).toInt64) := by
                rw [f_XwithSlotsAndText_L58]
              have e4 : it (j0 + 1) (f_XwithSlotsAndText_L58 fl un ut u0 u1 sv x r p0) (((31 : Int64) * (it 2 (f_XwithSlotsAndText_L5 fl un ut u0 u1 sv x r p0) p0)) + ((f_Tsize x).toInt64)) = ((31 : Int64) * (it j0 (f_XwithSlotsAndText_L58 fl un ut u0 u1 sv x r p0) (((31 : Int64) * (it 2 (f_XwithSlotsAndText_L5 fl un ut u0 u1 sv x r p0) p0)) + ((f_Tsize x).toInt64)))) + ((f_TsignAt x (nI j0)).toInt64) := (it_s _ _ _).trans b4
              exact ih2 (j0 + 1) (by omega) ls (by rw [e4]; exact lv_sub hl [2, 3, 1, 0] rfl)
        exact L2 ((f_Tsize x).toNatClampNeg) 0 (by omega) ls (lv_sub hl [2, 3, 1, 0] rfl)
      · exact absurd (nI_le (a := 2) (by omega) (by omega)) c_8
    | succ n ih1 =>
      intro j0 hj1 ls hl
      refine lv_iload hx hb dX4_withSlotsAndText_5 (lv_at hl 3 rfl) ?_
      refine lv_iconst (v := (2 : Int32)) hx hb dX4_withSlotsAndText_7 (by decide) ?_
      refine lv_icmp_ge (tgt := 40) hx hb dX4_withSlotsAndText_8 (by decide) (fun c_8 => ?_) (fun c_8 => ?_)
      · exact absurd c_8 (nI_ge (b := 2) (by omega) (by decide))
      · refine lv_ldc2 (v := (31 : Int64)) hx hb hown (hts (.constantLong RX4 246 (31)) (by decide +kernel)) dX4_withSlotsAndText_11 ?_
        refine lv_lload_n hx hb dX4_withSlotsAndText_14 rfl (lv_at hl 2 rfl) ?_
        refine lv_lmul hx hb dX4_withSlotsAndText_15 ?_
        refine lv_aload_n hx hb dX4_withSlotsAndText_16 rfl (lv_at hl 0 rfl) ?_
        refine va_get (D := (dC, dI)) (ci := 4) (v := .ref (A 5)) (C := RX4) (T := TX4) (N := 8) hx hb hts inX4 hown hK hP 0 rfl rfl 4 (by decide) (hts (.fieldLink RX4 25 "BoardMetronomes" "slotFilled" "[Z") (by decide +kernel)) (fun _ h9 => h9) rfl dX4_withSlotsAndText_17 ?_
        refine lv_iload hx hb dX4_withSlotsAndText_20 (lv_at hl 3 rfl) ?_
        refine k_zald (D := (dC, dI)) hx hb hK hP 1 1 rfl rfl (j := j0) (by omega) (by decide) dX4_withSlotsAndText_22 ?_
        refine lv_if_eq (tgt := 30) hx hb dX4_withSlotsAndText_23 (by decide) (fun c_23 => ?_) (fun c_23 => ?_)
        · refine lv_iconst (v := (0 : Int32)) hx hb dX4_withSlotsAndText_30 (by decide) ?_
          refine lv_i2l hx hb dX4_withSlotsAndText_31 rfl ?_
          refine lv_ladd hx hb dX4_withSlotsAndText_32 ?_
          refine lv_lstore_n (lv' := [(3, .long (((31 : Int64) * (it j0 (f_XwithSlotsAndText_L5 fl un ut u0 u1 sv x r p0) p0)) + ((0 : Int32).toInt64))), (0, .ref (A 0)), (1, .long p0), (5, .int (nI j0))]) hx hb dX4_withSlotsAndText_33 rfl hl (by decide) rfl (fun ls hl => ?_)
          refine lv_iinc (v := nI (j0 + 1)) (lv' := [(5, .int (nI (j0 + 1))), (3, .long (((31 : Int64) * (it j0 (f_XwithSlotsAndText_L5 fl un ut u0 u1 sv x r p0) p0)) + ((0 : Int32).toInt64))), (0, .ref (A 0)), (1, .long p0)]) hx hb dX4_withSlotsAndText_34 hl (k := 3) rfl (nI_add j0 1) (by decide) rfl (fun ls hl => ?_)
          refine lv_goto (tgt := 5) hx hb dX4_withSlotsAndText_37 (by decide) ?_
          have b5 : f_XwithSlotsAndText_L5 fl un ut u0 u1 sv x r p0 j0 (it j0 (f_XwithSlotsAndText_L5 fl un ut u0 u1 sv x r p0) p0) = ((31 : Int64) * (it j0 (f_XwithSlotsAndText_L5 fl un ut u0 u1 sv x r p0) p0)) + ((0 : Int32).toInt64) := by
            rw [f_XwithSlotsAndText_L5, if_pos c_23]
          have e5 : it (j0 + 1) (f_XwithSlotsAndText_L5 fl un ut u0 u1 sv x r p0) p0 = ((31 : Int64) * (it j0 (f_XwithSlotsAndText_L5 fl un ut u0 u1 sv x r p0) p0)) + ((0 : Int32).toInt64) := (it_s _ _ _).trans b5
          exact ih1 (j0 + 1) (by omega) ls (by rw [e5]; exact lv_sub hl [2, 3, 1, 0] rfl)
        · refine lv_iconst (v := (1 : Int32)) hx hb dX4_withSlotsAndText_26 (by decide) ?_
          refine lv_goto (tgt := 31) hx hb dX4_withSlotsAndText_27 (by decide) ?_
          refine lv_i2l hx hb dX4_withSlotsAndText_31 rfl ?_
          refine lv_ladd hx hb dX4_withSlotsAndText_32 ?_
          refine lv_lstore_n (lv' := [(3, .long (((31 : Int64) * (it j0 (f_XwithSlotsAndText_L5 fl un ut u0 u1 sv x r p0) p0)) + ((1 : Int32).toInt64))), (0, .ref (A 0)), (1, .long p0), (5, .int (nI j0))]) hx hb dX4_withSlotsAndText_33 rfl hl (by decide) rfl (fun ls hl => ?_)
          refine lv_iinc (v := nI (j0 + 1)) (lv' := [(5, .int (nI (j0 + 1))), (3, .long (((31 : Int64) * (it j0 (f_XwithSlotsAndText_L5 fl un ut u0 u1 sv x r p0) p0)) + ((1 : Int32).toInt64))), (0, .ref (A 0)), (1, .long p0)]) hx hb dX4_withSlotsAndText_34 hl (k := 3) rfl (nI_add j0 1) (by decide) rfl (fun ls hl => ?_)
          refine lv_goto (tgt := 5) hx hb dX4_withSlotsAndText_37 (by decide) ?_
          have b6 : f_XwithSlotsAndText_L5 fl un ut u0 u1 sv x r p0 j0 (it j0 (f_XwithSlotsAndText_L5 fl un ut u0 u1 sv x r p0) p0) = ((31 : Int64) * (it j0 (f_XwithSlotsAndText_L5 fl un ut u0 u1 sv x r p0) p0)) + ((1 : Int32).toInt64) := by
            rw [f_XwithSlotsAndText_L5, if_neg c_23]
          have e6 : it (j0 + 1) (f_XwithSlotsAndText_L5 fl un ut u0 u1 sv x r p0) p0 = ((31 : Int64) * (it j0 (f_XwithSlotsAndText_L5 fl un ut u0 u1 sv x r p0) p0)) + ((1 : Int32).toInt64) := (it_s _ _ _).trans b6
          exact ih1 (j0 + 1) (by omega) ls (by rw [e6]; exact lv_sub hl [2, 3, 1, 0] rfl)
  exact L1 2 0 (by omega) ls (lv_sub hl [2, 3, 1, 0] rfl)

def rm_X4_readText : Room := { frames := 3, cells := 0, slots := 0, locals := 68 }
theorem mi_X4_readText : kM yX4_readText wsX4_readText cX4_readText 2 (some .int) 0 := ⟨⟨_, rfl⟩, by decide, by decide, by decide +kernel⟩
def f_XreadText_R9 (fl : (Nat → Int32)) (un : BS) (ut : BS) (u0 : BS) (u1 : BS) (sv : SS) (x : BS) (r : BS) : Nat → Nat → BS → Int32 × BS
  | 0, j9_, y9_0 => (f_Tsize x, y9_0)
  | n + 1, j9_, y9_0 => if ((f_Rreads y9_0 (f_TsignAt x (nI j9_))).1) = true then (f_XreadText_R9 fl un ut u0 u1 sv x r n (j9_ + 1) ((f_Rreads y9_0 (f_TsignAt x (nI j9_))).2)) else (nI j9_, (f_Rreads y9_0 (f_TsignAt x (nI j9_))).2)
def f_XreadText (fl : (Nat → Int32)) (un : BS) (ut : BS) (u0 : BS) (u1 : BS) (sv : SS) (x : BS) (r : BS) : Int32 × BS := f_XreadText_R9 fl un ut u0 u1 sv x r ((f_Tsize x).toNatClampNeg) 0 (f_RbeginText r)
set_option maxHeartbeats 1000000 in
set_option maxRecDepth 100000 in
theorem c_X4_readText (l : Launch) (dC : Nat → ClassId) (dI : Nat → Nat → Nat) (cI cZ cO : ClassId) (A : Nat → Nat) (Q : Nat → Nat → Nat) (fl : (Nat → Int32)) (un : BS) (ut : BS) (u0 : BS) (u1 : BS) (sv : SS) (x : BS) (r : BS) (sz : Nat) : Met l yX4_readText wsX4_readText rm_X4_readText (va_Pc [.ref (A 0)] (fun U => U.heap.size = sz ∧ va_P (dC, dI) vwCl (XW cI cZ cO A Q fl un ut u0 u1 sv x r) U.heap ∧ va_K (dC, dI) vwCl (TY cI cZ cO) U ∧ va_D (fun _ => True) (XW cI cZ cO A Q fl un ut u0 u1 sv x r))) (kQw (some (.int (f_XreadText fl un ut u0 u1 sv x r).1)) (dC, dI) vwCl (XW cI cZ cO A Q fl un ut u0 u1 sv x ((f_XreadText fl un ut u0 u1 sv x r).2)) (va_A (XW cI cZ cO A Q fl un ut u0 u1 sv x r) sz)) 0 0 (va_A (XW cI cZ cO A Q fl un ut u0 u1 sv x r) sz) := by
  refine kofW (cc := cX4_readText) (maxL := 2) (ret := some .int) (by decide) rfl (Nat.le_of_ble_eq_true rfl) ?_
  intro p e s m args below meth c ls S hr hlk hnm hsz hP hK hD hS hA hl
  generalize hA0 : va_A (XW cI cZ cO A Q fl un ut u0 u1 sv x r) sz = A0 at hD hS hA ⊢
  subst hsz
  obtain ⟨hx, hb, hml, hown, hts⟩ := id S
  have inX4 : ∀ w ∈ wsX40, w ∈ wsX4_readText := fun w h => List.mem_cons_of_mem _ (List.mem_append_left _ (List.mem_append_left _ (List.mem_append_right _ h)))
  have hl : lv_has ls 2 [(0, .ref (A 0))] := hl
  refine lv_aload_n hx hb dX4_readText_0 rfl (lv_at hl 0 rfl) ?_
  refine va_get (D := (dC, dI)) (ci := 4) (v := .ref (A 9)) (C := RX4) (T := TX4) (N := 8) hx hb hts inX4 hown hK hP 0 rfl rfl 7 (by decide) (hts (.fieldLink RX4 46 "BoardMetronomes" "reader" "LBoardMetronomes$OrderReader;") (by decide +kernel)) (fun _ h9 => h9) rfl dX4_readText_1 ?_
  refine kc_w (As := []) (rest := []) S (v := none) (c_X1_beginText l dC dI cI cZ cO (A 9) (Q 9) r s.heap.size) gX4_readText_X1_beginText mi_X1_beginText ⟨rfl, rfl⟩ ⟨Nat.le_of_ble_eq_true rfl, Nat.le_of_ble_eq_true rfl⟩ hK hP hD hS hA [66] XW_all_r RW_fst rfl 0 rfl rfl ⟨Nat.le_refl _, Nat.le_refl _⟩ dX4_readText_4 rfl hl.1 rfl (Nat.le_of_ble_eq_true rfl) (fun H locs hP hD hS => ?_)
  have hP : va_P (dC, dI) vwCl (XW cI cZ cO A Q fl un ut u0 u1 sv x (f_RbeginText r)) H := Eq.mp (congrArg (fun w => va_P (dC, dI) vwCl w H) XW_ks_r) hP
  have hD : va_D A0 (XW cI cZ cO A Q fl un ut u0 u1 sv x (f_RbeginText r)) := Eq.mp (congrArg (fun w => va_D A0 w) XW_ks_r) hD
  refine lv_iconst (v := (0 : Int32)) hx hb dX4_readText_7 (by decide) ?_
  refine lv_istore_n (lv' := [(1, .int (0 : Int32)), (0, .ref (A 0))]) hx hb dX4_readText_8 rfl hl (by decide) rfl (fun ls hl => ?_)
  have L1 : ∀ (n j9_ : Nat), j9_ + n = (f_Tsize x).toNatClampNeg → ∀ (y9_0 : BS), f_XreadText fl un ut u0 u1 sv x r = f_XreadText_R9 fl un ut u0 u1 sv x r n j9_ y9_0 → ∀ (H : Heap) (locs : List Loc) (ls : Array Slot), va_P (dC, dI) vwCl (XW cI cZ cO A Q fl un ut u0 u1 sv x y9_0) H → va_D A0 (XW cI cZ cO A Q fl un ut u0 u1 sv x y9_0) → va_S A0 s.heap H locs → lv_has ls 2 [(0, .ref (A 0)), (1, .int (nI j9_))] → W p l e rm_X4_readText s m args below meth c H locs 0 0 (MQ below (kQw (some (.int (f_XreadText fl un ut u0 u1 sv x r).1)) (dC, dI) vwCl (XW cI cZ cO A Q fl un ut u0 u1 sv x ((f_XreadText fl un ut u0 u1 sv x r).2)) A0) args s 0 0 A0) (F0 m 9 ls []) := by
    intro n
    induction n with
    | zero =>
      intro j9_ hj1 y9_0 hv1 H locs ls hP hD hS hl
      refine lv_iload_n hx hb dX4_readText_9 rfl (lv_at hl 1 rfl) ?_
      refine lv_aload_n hx hb dX4_readText_10 rfl (lv_at hl 0 rfl) ?_
      refine va_get (D := (dC, dI)) (ci := 4) (v := .ref (A 8)) (C := RX4) (T := TX4) (N := 8) hx hb hts inX4 hown hK hP 0 rfl rfl 6 (by decide) (hts (.fieldLink RX4 39 "BoardMetronomes" "text" "LBoardMetronomes$Text;") (by decide +kernel)) (fun _ h9 => h9) rfl dX4_readText_11 ?_
      refine kc_v (As := []) (rest := [.int (nI j9_)]) S (v := .int (f_Tsize x)) (c_X3_size l dC dI cI cZ cO (A 8) (Q 8) x) gX4_readText_X3_size mi_X3_size ⟨rfl, rfl⟩ ⟨Nat.le_of_ble_eq_true rfl, Nat.le_of_ble_eq_true rfl⟩ hK (XW_p_x hP) 0 rfl rfl ⟨Nat.le_refl _, Nat.le_refl _⟩ dX4_readText_14 rfl hl.1 rfl (Nat.le_of_ble_eq_true rfl) ?_
      refine lv_icmp_ge (tgt := 46) hx hb dX4_readText_17 (by decide) (fun c_17 => ?_) (fun c_17 => ?_)
      · refine lv_aload_n hx hb dX4_readText_46 rfl (lv_at hl 0 rfl) ?_
        refine va_get (D := (dC, dI)) (ci := 4) (v := .ref (A 8)) (C := RX4) (T := TX4) (N := 8) hx hb hts inX4 hown hK hP 0 rfl rfl 6 (by decide) (hts (.fieldLink RX4 39 "BoardMetronomes" "text" "LBoardMetronomes$Text;") (by decide +kernel)) (fun _ h9 => h9) rfl dX4_readText_47 ?_
        refine kc_v (As := []) (rest := []) S (v := .int (f_Tsize x)) (c_X3_size l dC dI cI cZ cO (A 8) (Q 8) x) gX4_readText_X3_size mi_X3_size ⟨rfl, rfl⟩ ⟨Nat.le_of_ble_eq_true rfl, Nat.le_of_ble_eq_true rfl⟩ hK (XW_p_x hP) 0 rfl rfl ⟨Nat.le_refl _, Nat.le_refl _⟩ dX4_readText_50 rfl hl.1 rfl (Nat.le_of_ble_eq_true rfl) ?_
        have r2 : f_XreadText fl un ut u0 u1 sv x r = (f_Tsize x, y9_0) := by
          rw [hv1, f_XreadText_R9]
        exact kw_i hx hb hr hlk hP hS dX4_readText_53 (by rw [r2]) (by rw [r2])
      · exact absurd (by rw [show j9_ = (f_Tsize x).toNatClampNeg by omega]; exact kn_ge (f_Tsize x)) c_17
    | succ n ih1 =>
      intro j9_ hj1 y9_0 hv1 H locs ls hP hD hS hl
      refine lv_iload_n hx hb dX4_readText_9 rfl (lv_at hl 1 rfl) ?_
      refine lv_aload_n hx hb dX4_readText_10 rfl (lv_at hl 0 rfl) ?_
      refine va_get (D := (dC, dI)) (ci := 4) (v := .ref (A 8)) (C := RX4) (T := TX4) (N := 8) hx hb hts inX4 hown hK hP 0 rfl rfl 6 (by decide) (hts (.fieldLink RX4 39 "BoardMetronomes" "text" "LBoardMetronomes$Text;") (by decide +kernel)) (fun _ h9 => h9) rfl dX4_readText_11 ?_
      refine kc_v (As := []) (rest := [.int (nI j9_)]) S (v := .int (f_Tsize x)) (c_X3_size l dC dI cI cZ cO (A 8) (Q 8) x) gX4_readText_X3_size mi_X3_size ⟨rfl, rfl⟩ ⟨Nat.le_of_ble_eq_true rfl, Nat.le_of_ble_eq_true rfl⟩ hK (XW_p_x hP) 0 rfl rfl ⟨Nat.le_refl _, Nat.le_refl _⟩ dX4_readText_14 rfl hl.1 rfl (Nat.le_of_ble_eq_true rfl) ?_
      refine lv_icmp_ge (tgt := 46) hx hb dX4_readText_17 (by decide) (fun c_17 => ?_) (fun c_17 => ?_)
      · exact absurd c_17 (kn_lt (b := (f_Tsize x)) (by omega))
      · refine lv_aload_n hx hb dX4_readText_20 rfl (lv_at hl 0 rfl) ?_
        refine va_get (D := (dC, dI)) (ci := 4) (v := .ref (A 9)) (C := RX4) (T := TX4) (N := 8) hx hb hts inX4 hown hK hP 0 rfl rfl 7 (by decide) (hts (.fieldLink RX4 46 "BoardMetronomes" "reader" "LBoardMetronomes$OrderReader;") (by decide +kernel)) (fun _ h9 => h9) rfl dX4_readText_21 ?_
        refine lv_aload_n hx hb dX4_readText_24 rfl (lv_at hl 0 rfl) ?_
        refine va_get (D := (dC, dI)) (ci := 4) (v := .ref (A 8)) (C := RX4) (T := TX4) (N := 8) hx hb hts inX4 hown hK hP 0 rfl rfl 6 (by decide) (hts (.fieldLink RX4 39 "BoardMetronomes" "text" "LBoardMetronomes$Text;") (by decide +kernel)) (fun _ h9 => h9) rfl dX4_readText_25 ?_
        refine lv_iload_n hx hb dX4_readText_28 rfl (lv_at hl 1 rfl) ?_
        refine kc_v (As := [.int (nI j9_)]) (rest := [.ref (A 9)]) S (v := .int (f_TsignAt x (nI j9_))) (c_X3_signAt l dC dI cI cZ cO (A 8) (Q 8) x (nI j9_)) gX4_readText_X3_signAt mi_X3_signAt ⟨rfl, rfl⟩ ⟨Nat.le_of_ble_eq_true rfl, Nat.le_of_ble_eq_true rfl⟩ hK (XW_p_x hP) 0 rfl rfl ⟨Nat.le_refl _, Nat.le_refl _⟩ dX4_readText_29 rfl hl.1 rfl (Nat.le_of_ble_eq_true rfl) ?_
        refine kc_w (As := [.int (f_TsignAt x (nI j9_))]) (rest := []) S (v := (some (.int (bI ((f_Rreads y9_0 (f_TsignAt x (nI j9_))).1))))) (c_X1_reads l dC dI cI cZ cO (A 9) (Q 9) y9_0 (f_TsignAt x (nI j9_)) H.size) gX4_readText_X1_reads mi_X1_reads ⟨rfl, rfl⟩ ⟨Nat.le_of_ble_eq_true rfl, Nat.le_of_ble_eq_true rfl⟩ hK hP hD hS hA [66] XW_all_r RW_fst rfl 0 rfl rfl ⟨Nat.le_refl _, Nat.le_refl _⟩ dX4_readText_32 rfl hl.1 rfl (Nat.le_of_ble_eq_true rfl) (fun H locs hP hD hS => ?_)
        have hP : va_P (dC, dI) vwCl (XW cI cZ cO A Q fl un ut u0 u1 sv x ((f_Rreads y9_0 (f_TsignAt x (nI j9_))).2)) H := Eq.mp (congrArg (fun w => va_P (dC, dI) vwCl w H) XW_ks_r) hP
        have hD : va_D A0 (XW cI cZ cO A Q fl un ut u0 u1 sv x ((f_Rreads y9_0 (f_TsignAt x (nI j9_))).2)) := Eq.mp (congrArg (fun w => va_D A0 w) XW_ks_r) hD
        refine kb_ne (tgt := 40) hx hb dX4_readText_35 (by decide) (fun c_35 => ?_) (fun c_35 => ?_)
        · refine lv_iinc (v := nI (j9_ + 1)) (lv' := [(1, .int (nI (j9_ + 1))), (0, .ref (A 0))]) hx hb dX4_readText_40 hl (k := 1) rfl (nI_add j9_ 1) (by decide) rfl (fun ls hl => ?_)
          refine lv_goto (tgt := 9) hx hb dX4_readText_43 (by decide) ?_
          exact ih1 (j9_ + 1) (by omega) ((f_Rreads y9_0 (f_TsignAt x (nI j9_))).2) (by rw [hv1, f_XreadText_R9, if_pos c_35]) H locs ls hP hD hS (lv_sub hl [1, 0] rfl)
        · refine lv_iload_n hx hb dX4_readText_38 rfl (lv_at hl 1 rfl) ?_
          have r3 : f_XreadText fl un ut u0 u1 sv x r = (nI j9_, (f_Rreads y9_0 (f_TsignAt x (nI j9_))).2) := by
            rw [hv1, f_XreadText_R9, if_neg c_35]
          exact kw_i hx hb hr hlk hP hS dX4_readText_39 (by rw [r3]) (by rw [r3])
  exact L1 ((f_Tsize x).toNatClampNeg) 0 (by omega) (f_RbeginText r) (by rw [f_XreadText]) H locs ls hP hD hS (lv_sub hl [1, 0] rfl)

def rm_X4_tellsBench : Room := { frames := 4, cells := 0, slots := 0, locals := 89 }
theorem mi_X4_tellsBench : kM yX4_tellsBench wsX4_tellsBench cX4_tellsBench 1 (some .boolean) 0 := ⟨⟨_, rfl⟩, by decide, by decide, by decide +kernel⟩
def f_XtellsBench (fl : (Nat → Int32)) (un : BS) (ut : BS) (u0 : BS) (u1 : BS) (sv : SS) (x : BS) (r : BS) : Bool × BS := if ((f_XreadText fl un ut u0 u1 sv x r).1) = (f_Tsize x) then (if ((f_Rreads ((f_XreadText fl un ut u0 u1 sv x r).2) (59 : Int32)).1) = true then (true, (f_Rreads ((f_XreadText fl un ut u0 u1 sv x r).2) (59 : Int32)).2) else (false, (f_Rreads ((f_XreadText fl un ut u0 u1 sv x r).2) (59 : Int32)).2)) else (false, (f_XreadText fl un ut u0 u1 sv x r).2)
set_option maxHeartbeats 1000000 in
set_option maxRecDepth 100000 in
theorem c_X4_tellsBench (l : Launch) (dC : Nat → ClassId) (dI : Nat → Nat → Nat) (cI cZ cO : ClassId) (A : Nat → Nat) (Q : Nat → Nat → Nat) (fl : (Nat → Int32)) (un : BS) (ut : BS) (u0 : BS) (u1 : BS) (sv : SS) (x : BS) (r : BS) (sz : Nat) : Met l yX4_tellsBench wsX4_tellsBench rm_X4_tellsBench (va_Pc [.ref (A 0)] (fun U => U.heap.size = sz ∧ va_P (dC, dI) vwCl (XW cI cZ cO A Q fl un ut u0 u1 sv x r) U.heap ∧ va_K (dC, dI) vwCl (TY cI cZ cO) U ∧ va_D (fun _ => True) (XW cI cZ cO A Q fl un ut u0 u1 sv x r))) (kQw (some (.int (bI (f_XtellsBench fl un ut u0 u1 sv x r).1))) (dC, dI) vwCl (XW cI cZ cO A Q fl un ut u0 u1 sv x ((f_XtellsBench fl un ut u0 u1 sv x r).2)) (va_A (XW cI cZ cO A Q fl un ut u0 u1 sv x r) sz)) 0 0 (va_A (XW cI cZ cO A Q fl un ut u0 u1 sv x r) sz) := by
  refine kofW (cc := cX4_tellsBench) (maxL := 1) (ret := some .boolean) (by decide) rfl (Nat.le_of_ble_eq_true rfl) ?_
  intro p e s m args below meth c ls S hr hlk hnm hsz hP hK hD hS hA hl
  generalize hA0 : va_A (XW cI cZ cO A Q fl un ut u0 u1 sv x r) sz = A0 at hD hS hA ⊢
  subst hsz
  obtain ⟨hx, hb, hml, hown, hts⟩ := id S
  have inX4 : ∀ w ∈ wsX40, w ∈ wsX4_tellsBench := fun w h => List.mem_cons_of_mem _ (List.mem_append_left _ (List.mem_append_left _ (List.mem_append_right _ h)))
  have hl : lv_has ls 1 [(0, .ref (A 0))] := hl
  refine lv_aload_n hx hb dX4_tellsBench_0 rfl (lv_at hl 0 rfl) ?_
  refine kc_w (As := []) (rest := []) S (v := (some (.int ((f_XreadText fl un ut u0 u1 sv x r).1)))) (c_X4_readText l dC dI cI cZ cO A Q fl un ut u0 u1 sv x r s.heap.size) gX4_tellsBench_X4_readText mi_X4_readText ⟨rfl, rfl⟩ ⟨Nat.le_of_ble_eq_true rfl, Nat.le_of_ble_eq_true rfl⟩ hK hP hD hS hA [0, 1, 2, 3, 4, 5, 6, 7, 8, 9, 10, 11, 12, 13, 14, 15, 16, 17, 18, 19, 20, 21, 22, 23, 24, 25, 26, 27, 28, 29, 30, 31, 32, 33, 34, 35, 36, 37, 38, 39, 40, 41, 42, 43, 44, 45, 46, 47, 48, 49, 50, 51, 52, 53, 54, 55, 56, 57, 58, 59, 60, 61, 62, 63, 64, 65, 66] XW_all XW_fst rfl 0 rfl rfl ⟨Nat.le_refl _, Nat.le_refl _⟩ dX4_tellsBench_1 rfl hl.1 rfl (Nat.le_of_ble_eq_true rfl) (fun H locs hP hD hS => ?_)
  have hP : va_P (dC, dI) vwCl (XW cI cZ cO A Q fl un ut u0 u1 sv x ((f_XreadText fl un ut u0 u1 sv x r).2)) H := Eq.mp (congrArg (fun w => va_P (dC, dI) vwCl w H) XW_ks) hP
  have hD : va_D A0 (XW cI cZ cO A Q fl un ut u0 u1 sv x ((f_XreadText fl un ut u0 u1 sv x r).2)) := Eq.mp (congrArg (fun w => va_D A0 w) XW_ks) hD
  refine lv_aload_n hx hb dX4_tellsBench_4 rfl (lv_at hl 0 rfl) ?_
  refine va_get (D := (dC, dI)) (ci := 4) (v := .ref (A 8)) (C := RX4) (T := TX4) (N := 8) hx hb hts inX4 hown hK hP 0 rfl rfl 6 (by decide) (hts (.fieldLink RX4 39 "BoardMetronomes" "text" "LBoardMetronomes$Text;") (by decide +kernel)) (fun _ h9 => h9) rfl dX4_tellsBench_5 ?_
  refine kc_v (As := []) (rest := [.int ((f_XreadText fl un ut u0 u1 sv x r).1)]) S (v := .int (f_Tsize x)) (c_X3_size l dC dI cI cZ cO (A 8) (Q 8) x) gX4_tellsBench_X3_size mi_X3_size ⟨rfl, rfl⟩ ⟨Nat.le_of_ble_eq_true rfl, Nat.le_of_ble_eq_true rfl⟩ hK (XW_p_x hP) 0 rfl rfl ⟨Nat.le_refl _, Nat.le_refl _⟩ dX4_tellsBench_8 rfl hl.1 rfl (Nat.le_of_ble_eq_true rfl) ?_
  refine lv_icmp_ne (tgt := 30) hx hb dX4_tellsBench_11 (by decide) (fun c_11 => ?_) (fun c_11 => ?_)
  · refine lv_iconst (v := (0 : Int32)) hx hb dX4_tellsBench_30 (by decide) ?_
    have r1 : f_XtellsBench fl un ut u0 u1 sv x r = (false, (f_XreadText fl un ut u0 u1 sv x r).2) := by
      rw [f_XtellsBench, if_neg c_11]
    exact kw_z (x := false) hx hb hr hlk hP hS dX4_tellsBench_31 rfl (by rw [r1]) (by rw [r1])
  · refine lv_aload_n hx hb dX4_tellsBench_14 rfl (lv_at hl 0 rfl) ?_
    refine va_get (D := (dC, dI)) (ci := 4) (v := .ref (A 9)) (C := RX4) (T := TX4) (N := 8) hx hb hts inX4 hown hK hP 0 rfl rfl 7 (by decide) (hts (.fieldLink RX4 46 "BoardMetronomes" "reader" "LBoardMetronomes$OrderReader;") (by decide +kernel)) (fun _ h9 => h9) rfl dX4_tellsBench_15 ?_
    refine lv_bipush (v := (59 : Int32)) hx hb dX4_tellsBench_18 (by decide) ?_
    refine kc_w (As := [.int (59 : Int32)]) (rest := []) S (v := (some (.int (bI ((f_Rreads ((f_XreadText fl un ut u0 u1 sv x r).2) (59 : Int32)).1))))) (c_X1_reads l dC dI cI cZ cO (A 9) (Q 9) ((f_XreadText fl un ut u0 u1 sv x r).2) (59 : Int32) H.size) gX4_tellsBench_X1_reads mi_X1_reads ⟨rfl, rfl⟩ ⟨Nat.le_of_ble_eq_true rfl, Nat.le_of_ble_eq_true rfl⟩ hK hP hD hS hA [66] XW_all_r RW_fst rfl 0 rfl rfl ⟨Nat.le_refl _, Nat.le_refl _⟩ dX4_tellsBench_20 rfl hl.1 rfl (Nat.le_of_ble_eq_true rfl) (fun H locs hP hD hS => ?_)
    have hP : va_P (dC, dI) vwCl (XW cI cZ cO A Q fl un ut u0 u1 sv x ((f_Rreads ((f_XreadText fl un ut u0 u1 sv x r).2) (59 : Int32)).2)) H := Eq.mp (congrArg (fun w => va_P (dC, dI) vwCl w H) XW_ks_r) hP
    have hD : va_D A0 (XW cI cZ cO A Q fl un ut u0 u1 sv x ((f_Rreads ((f_XreadText fl un ut u0 u1 sv x r).2) (59 : Int32)).2)) := Eq.mp (congrArg (fun w => va_D A0 w) XW_ks_r) hD
    refine kb_eq (tgt := 30) hx hb dX4_tellsBench_23 (by decide) (fun c_23 => ?_) (fun c_23 => ?_)
    · refine lv_iconst (v := (0 : Int32)) hx hb dX4_tellsBench_30 (by decide) ?_
      have r2 : f_XtellsBench fl un ut u0 u1 sv x r = (false, (f_Rreads ((f_XreadText fl un ut u0 u1 sv x r).2) (59 : Int32)).2) := by
        rw [f_XtellsBench, if_pos c_11, if_neg c_23]
      exact kw_z (x := false) hx hb hr hlk hP hS dX4_tellsBench_31 rfl (by rw [r2]) (by rw [r2])
    · refine lv_iconst (v := (1 : Int32)) hx hb dX4_tellsBench_26 (by decide) ?_
      refine lv_goto (tgt := 31) hx hb dX4_tellsBench_27 (by decide) ?_
      have r3 : f_XtellsBench fl un ut u0 u1 sv x r = (true, (f_Rreads ((f_XreadText fl un ut u0 u1 sv x r).2) (59 : Int32)).2) := by
        rw [f_XtellsBench, if_pos c_11, if_pos c_23]
      exact kw_z (x := true) hx hb hr hlk hP hS dX4_tellsBench_31 rfl (by rw [r3]) (by rw [r3])

def rm_X4_readsEndOfOrder : Room := { frames := 3, cells := 0, slots := 0, locals := 68 }
theorem mi_X4_readsEndOfOrder : kM yX4_readsEndOfOrder wsX4_readsEndOfOrder cX4_readsEndOfOrder 3 (some .boolean) 1 := ⟨⟨_, rfl⟩, by decide, by decide, by decide +kernel⟩
def f_XreadsEndOfOrder (fl : (Nat → Int32)) (un : BS) (ut : BS) (u0 : BS) (u1 : BS) (sv : SS) (x : BS) (r : BS) (p0 : Int32) : Bool × BS := if (f_Tsize x) ≤ p0 then (if ((f_Rreads r (59 : Int32)).1) = true then (true, (f_Rreads r (59 : Int32)).2) else (false, (f_Rreads r (59 : Int32)).2)) else if ((f_Rreads r (f_TsignAt x p0)).1) = true then (if (f_TsignAt x p0) = (59 : Int32) then (true, (f_Rreads r (f_TsignAt x p0)).2) else (false, (f_Rreads r (f_TsignAt x p0)).2)) else (false, (f_Rreads r (f_TsignAt x p0)).2)
set_option maxHeartbeats 1000000 in
set_option maxRecDepth 100000 in
theorem c_X4_readsEndOfOrder (l : Launch) (dC : Nat → ClassId) (dI : Nat → Nat → Nat) (cI cZ cO : ClassId) (A : Nat → Nat) (Q : Nat → Nat → Nat) (fl : (Nat → Int32)) (un : BS) (ut : BS) (u0 : BS) (u1 : BS) (sv : SS) (x : BS) (r : BS) (p0 : Int32) (sz : Nat) : Met l yX4_readsEndOfOrder wsX4_readsEndOfOrder rm_X4_readsEndOfOrder (va_Pc [.ref (A 0), .int p0] (fun U => U.heap.size = sz ∧ va_P (dC, dI) vwCl (XW cI cZ cO A Q fl un ut u0 u1 sv x r) U.heap ∧ va_K (dC, dI) vwCl (TY cI cZ cO) U ∧ va_D (fun _ => True) (XW cI cZ cO A Q fl un ut u0 u1 sv x r))) (kQw (some (.int (bI (f_XreadsEndOfOrder fl un ut u0 u1 sv x r p0).1))) (dC, dI) vwCl (XW cI cZ cO A Q fl un ut u0 u1 sv x ((f_XreadsEndOfOrder fl un ut u0 u1 sv x r p0).2)) (va_A (XW cI cZ cO A Q fl un ut u0 u1 sv x r) sz)) 0 0 (va_A (XW cI cZ cO A Q fl un ut u0 u1 sv x r) sz) := by
  refine kofW (cc := cX4_readsEndOfOrder) (maxL := 3) (ret := some .boolean) (by decide) rfl (Nat.le_of_ble_eq_true rfl) ?_
  intro p e s m args below meth c ls S hr hlk hnm hsz hP hK hD hS hA hl
  generalize hA0 : va_A (XW cI cZ cO A Q fl un ut u0 u1 sv x r) sz = A0 at hD hS hA ⊢
  subst hsz
  obtain ⟨hx, hb, hml, hown, hts⟩ := id S
  have inX4 : ∀ w ∈ wsX40, w ∈ wsX4_readsEndOfOrder := fun w h => List.mem_cons_of_mem _ (List.mem_append_left _ (List.mem_append_left _ (List.mem_append_right _ h)))
  have hl : lv_has ls 3 [(0, .ref (A 0)), (1, .int p0)] := hl
  refine lv_iload_n hx hb dX4_readsEndOfOrder_0 rfl (lv_at hl 1 rfl) ?_
  refine lv_aload_n hx hb dX4_readsEndOfOrder_1 rfl (lv_at hl 0 rfl) ?_
  refine va_get (D := (dC, dI)) (ci := 4) (v := .ref (A 8)) (C := RX4) (T := TX4) (N := 8) hx hb hts inX4 hown hK hP 0 rfl rfl 6 (by decide) (hts (.fieldLink RX4 39 "BoardMetronomes" "text" "LBoardMetronomes$Text;") (by decide +kernel)) (fun _ h9 => h9) rfl dX4_readsEndOfOrder_2 ?_
  refine kc_v (As := []) (rest := [.int p0]) S (v := .int (f_Tsize x)) (c_X3_size l dC dI cI cZ cO (A 8) (Q 8) x) gX4_readsEndOfOrder_X3_size mi_X3_size ⟨rfl, rfl⟩ ⟨Nat.le_of_ble_eq_true rfl, Nat.le_of_ble_eq_true rfl⟩ hK (XW_p_x hP) 0 rfl rfl ⟨Nat.le_refl _, Nat.le_refl _⟩ dX4_readsEndOfOrder_5 rfl hl.1 rfl (Nat.le_of_ble_eq_true rfl) ?_
  refine lv_icmp_ge (tgt := 22) hx hb dX4_readsEndOfOrder_8 (by decide) (fun c_8 => ?_) (fun c_8 => ?_)
  · refine lv_bipush (v := (59 : Int32)) hx hb dX4_readsEndOfOrder_22 (by decide) ?_
    refine lv_istore_n (lv' := [(2, .int (59 : Int32)), (0, .ref (A 0)), (1, .int p0)]) hx hb dX4_readsEndOfOrder_24 rfl hl (by decide) rfl (fun ls hl => ?_)
    refine lv_aload_n hx hb dX4_readsEndOfOrder_25 rfl (lv_at hl 1 rfl) ?_
    refine va_get (D := (dC, dI)) (ci := 4) (v := .ref (A 9)) (C := RX4) (T := TX4) (N := 8) hx hb hts inX4 hown hK hP 0 rfl rfl 7 (by decide) (hts (.fieldLink RX4 46 "BoardMetronomes" "reader" "LBoardMetronomes$OrderReader;") (by decide +kernel)) (fun _ h9 => h9) rfl dX4_readsEndOfOrder_26 ?_
    refine lv_iload_n hx hb dX4_readsEndOfOrder_29 rfl (lv_at hl 0 rfl) ?_
    refine kc_w (As := [.int (59 : Int32)]) (rest := []) S (v := (some (.int (bI ((f_Rreads r (59 : Int32)).1))))) (c_X1_reads l dC dI cI cZ cO (A 9) (Q 9) r (59 : Int32) s.heap.size) gX4_readsEndOfOrder_X1_reads mi_X1_reads ⟨rfl, rfl⟩ ⟨Nat.le_of_ble_eq_true rfl, Nat.le_of_ble_eq_true rfl⟩ hK hP hD hS hA [66] XW_all_r RW_fst rfl 0 rfl rfl ⟨Nat.le_refl _, Nat.le_refl _⟩ dX4_readsEndOfOrder_30 rfl hl.1 rfl (Nat.le_of_ble_eq_true rfl) (fun H locs hP hD hS => ?_)
    have hP : va_P (dC, dI) vwCl (XW cI cZ cO A Q fl un ut u0 u1 sv x ((f_Rreads r (59 : Int32)).2)) H := Eq.mp (congrArg (fun w => va_P (dC, dI) vwCl w H) XW_ks_r) hP
    have hD : va_D A0 (XW cI cZ cO A Q fl un ut u0 u1 sv x ((f_Rreads r (59 : Int32)).2)) := Eq.mp (congrArg (fun w => va_D A0 w) XW_ks_r) hD
    refine kb_eq (tgt := 46) hx hb dX4_readsEndOfOrder_33 (by decide) (fun c_33 => ?_) (fun c_33 => ?_)
    · refine lv_iconst (v := (0 : Int32)) hx hb dX4_readsEndOfOrder_46 (by decide) ?_
      have r1 : f_XreadsEndOfOrder fl un ut u0 u1 sv x r p0 = (false, (f_Rreads r (59 : Int32)).2) := by
        rw [f_XreadsEndOfOrder, if_pos c_8, if_neg c_33]
      exact kw_z (x := false) hx hb hr hlk hP hS dX4_readsEndOfOrder_47 rfl (by rw [r1]) (by rw [r1])
    · refine lv_iload_n hx hb dX4_readsEndOfOrder_36 rfl (lv_at hl 0 rfl) ?_
      refine lv_bipush (v := (59 : Int32)) hx hb dX4_readsEndOfOrder_37 (by decide) ?_
      refine lv_icmp_ne (tgt := 46) hx hb dX4_readsEndOfOrder_39 (by decide) (fun c_39 => ?_) (fun c_39 => ?_)
      · exact absurd (by decide) c_39
      · refine lv_iconst (v := (1 : Int32)) hx hb dX4_readsEndOfOrder_42 (by decide) ?_
        refine lv_goto (tgt := 47) hx hb dX4_readsEndOfOrder_43 (by decide) ?_
        have r2 : f_XreadsEndOfOrder fl un ut u0 u1 sv x r p0 = (true, (f_Rreads r (59 : Int32)).2) := by
          rw [f_XreadsEndOfOrder, if_pos c_8, if_pos c_33]
        exact kw_z (x := true) hx hb hr hlk hP hS dX4_readsEndOfOrder_47 rfl (by rw [r2]) (by rw [r2])
  · refine lv_aload_n hx hb dX4_readsEndOfOrder_11 rfl (lv_at hl 0 rfl) ?_
    refine va_get (D := (dC, dI)) (ci := 4) (v := .ref (A 8)) (C := RX4) (T := TX4) (N := 8) hx hb hts inX4 hown hK hP 0 rfl rfl 6 (by decide) (hts (.fieldLink RX4 39 "BoardMetronomes" "text" "LBoardMetronomes$Text;") (by decide +kernel)) (fun _ h9 => h9) rfl dX4_readsEndOfOrder_12 ?_
    refine lv_iload_n hx hb dX4_readsEndOfOrder_15 rfl (lv_at hl 1 rfl) ?_
    refine kc_v (As := [.int p0]) (rest := []) S (v := .int (f_TsignAt x p0)) (c_X3_signAt l dC dI cI cZ cO (A 8) (Q 8) x p0) gX4_readsEndOfOrder_X3_signAt mi_X3_signAt ⟨rfl, rfl⟩ ⟨Nat.le_of_ble_eq_true rfl, Nat.le_of_ble_eq_true rfl⟩ hK (XW_p_x hP) 0 rfl rfl ⟨Nat.le_refl _, Nat.le_refl _⟩ dX4_readsEndOfOrder_16 rfl hl.1 rfl (Nat.le_of_ble_eq_true rfl) ?_
    refine lv_goto (tgt := 24) hx hb dX4_readsEndOfOrder_19 (by decide) ?_
    refine lv_istore_n (lv' := [(2, .int (f_TsignAt x p0)), (0, .ref (A 0)), (1, .int p0)]) hx hb dX4_readsEndOfOrder_24 rfl hl (by decide) rfl (fun ls hl => ?_)
    refine lv_aload_n hx hb dX4_readsEndOfOrder_25 rfl (lv_at hl 1 rfl) ?_
    refine va_get (D := (dC, dI)) (ci := 4) (v := .ref (A 9)) (C := RX4) (T := TX4) (N := 8) hx hb hts inX4 hown hK hP 0 rfl rfl 7 (by decide) (hts (.fieldLink RX4 46 "BoardMetronomes" "reader" "LBoardMetronomes$OrderReader;") (by decide +kernel)) (fun _ h9 => h9) rfl dX4_readsEndOfOrder_26 ?_
    refine lv_iload_n hx hb dX4_readsEndOfOrder_29 rfl (lv_at hl 0 rfl) ?_
    refine kc_w (As := [.int (f_TsignAt x p0)]) (rest := []) S (v := (some (.int (bI ((f_Rreads r (f_TsignAt x p0)).1))))) (c_X1_reads l dC dI cI cZ cO (A 9) (Q 9) r (f_TsignAt x p0) s.heap.size) gX4_readsEndOfOrder_X1_reads mi_X1_reads ⟨rfl, rfl⟩ ⟨Nat.le_of_ble_eq_true rfl, Nat.le_of_ble_eq_true rfl⟩ hK hP hD hS hA [66] XW_all_r RW_fst rfl 0 rfl rfl ⟨Nat.le_refl _, Nat.le_refl _⟩ dX4_readsEndOfOrder_30 rfl hl.1 rfl (Nat.le_of_ble_eq_true rfl) (fun H locs hP hD hS => ?_)
    have hP : va_P (dC, dI) vwCl (XW cI cZ cO A Q fl un ut u0 u1 sv x ((f_Rreads r (f_TsignAt x p0)).2)) H := Eq.mp (congrArg (fun w => va_P (dC, dI) vwCl w H) XW_ks_r) hP
    have hD : va_D A0 (XW cI cZ cO A Q fl un ut u0 u1 sv x ((f_Rreads r (f_TsignAt x p0)).2)) := Eq.mp (congrArg (fun w => va_D A0 w) XW_ks_r) hD
    refine kb_eq (tgt := 46) hx hb dX4_readsEndOfOrder_33 (by decide) (fun c_33 => ?_) (fun c_33 => ?_)
    · refine lv_iconst (v := (0 : Int32)) hx hb dX4_readsEndOfOrder_46 (by decide) ?_
      have r3 : f_XreadsEndOfOrder fl un ut u0 u1 sv x r p0 = (false, (f_Rreads r (f_TsignAt x p0)).2) := by
        rw [f_XreadsEndOfOrder, if_neg c_8, if_neg c_33]
      exact kw_z (x := false) hx hb hr hlk hP hS dX4_readsEndOfOrder_47 rfl (by rw [r3]) (by rw [r3])
    · refine lv_iload_n hx hb dX4_readsEndOfOrder_36 rfl (lv_at hl 0 rfl) ?_
      refine lv_bipush (v := (59 : Int32)) hx hb dX4_readsEndOfOrder_37 (by decide) ?_
      refine lv_icmp_ne (tgt := 46) hx hb dX4_readsEndOfOrder_39 (by decide) (fun c_39 => ?_) (fun c_39 => ?_)
      · refine lv_iconst (v := (0 : Int32)) hx hb dX4_readsEndOfOrder_46 (by decide) ?_
        have r4 : f_XreadsEndOfOrder fl un ut u0 u1 sv x r p0 = (false, (f_Rreads r (f_TsignAt x p0)).2) := by
          rw [f_XreadsEndOfOrder, if_neg c_8, if_pos c_33, if_neg c_39]
        exact kw_z (x := false) hx hb hr hlk hP hS dX4_readsEndOfOrder_47 rfl (by rw [r4]) (by rw [r4])
      · refine lv_iconst (v := (1 : Int32)) hx hb dX4_readsEndOfOrder_42 (by decide) ?_
        refine lv_goto (tgt := 47) hx hb dX4_readsEndOfOrder_43 (by decide) ?_
        have r5 : f_XreadsEndOfOrder fl un ut u0 u1 sv x r p0 = (true, (f_Rreads r (f_TsignAt x p0)).2) := by
          rw [f_XreadsEndOfOrder, if_neg c_8, if_pos c_33, if_pos c_39]
        exact kw_z (x := true) hx hb hr hlk hP hS dX4_readsEndOfOrder_47 rfl (by rw [r5]) (by rw [r5])

def rm_X4_doOrder : Room := { frames := 5, cells := 0, slots := 0, locals := 111 }
theorem mi_X4_doOrder : kM yX4_doOrder wsX4_doOrder cX4_doOrder 1 (some .boolean) 0 := ⟨⟨_, rfl⟩, by decide, by decide, by decide +kernel⟩
def f_XdoOrder (fl : (Nat → Int32)) (un : BS) (ut : BS) (u0 : BS) (u1 : BS) (sv : SS) (x : BS) (r : BS) : Bool × BS := if (f_Rkind r) = (109 : Int32) then (if (f_isFull un) = true then (false, un) else (true, (f_add un (f_Rbeat r) (f_Rphase r) (f_Rspring r)).2)) else if (f_Rkind r) = (115 : Int32) then (if (f_hasTimeFor un (f_Rnumber r)) = true then (true, (f_letGoBy un (f_Rnumber r)).2) else (false, un)) else if (f_has un (f_Rnumber r)) = true then (true, (f_holdOrLetGo un (f_Rnumber r)).2) else (false, un)
set_option maxHeartbeats 1000000 in
set_option maxRecDepth 100000 in
theorem c_X4_doOrder (l : Launch) (dC : Nat → ClassId) (dI : Nat → Nat → Nat) (cI cZ cO : ClassId) (A : Nat → Nat) (Q : Nat → Nat → Nat) (fl : (Nat → Int32)) (un : BS) (ut : BS) (u0 : BS) (u1 : BS) (sv : SS) (x : BS) (r : BS) (sz : Nat) : Met l yX4_doOrder wsX4_doOrder rm_X4_doOrder (va_Pc [.ref (A 0)] (fun U => U.heap.size = sz ∧ va_P (dC, dI) vwCl (XW cI cZ cO A Q fl un ut u0 u1 sv x r) U.heap ∧ va_K (dC, dI) vwCl (TY cI cZ cO) U ∧ va_D (fun _ => True) (XW cI cZ cO A Q fl un ut u0 u1 sv x r))) (kQw (some (.int (bI (f_XdoOrder fl un ut u0 u1 sv x r).1))) (dC, dI) vwCl (XW cI cZ cO A Q fl ((f_XdoOrder fl un ut u0 u1 sv x r).2) ut u0 u1 sv x r) (va_A (XW cI cZ cO A Q fl un ut u0 u1 sv x r) sz)) 0 0 (va_A (XW cI cZ cO A Q fl un ut u0 u1 sv x r) sz) := by
  refine kofW (cc := cX4_doOrder) (maxL := 1) (ret := some .boolean) (by decide) rfl (Nat.le_of_ble_eq_true rfl) ?_
  intro p e s m args below meth c ls S hr hlk hnm hsz hP hK hD hS hA hl
  generalize hA0 : va_A (XW cI cZ cO A Q fl un ut u0 u1 sv x r) sz = A0 at hD hS hA ⊢
  subst hsz
  obtain ⟨hx, hb, hml, hown, hts⟩ := id S
  have inX4 : ∀ w ∈ wsX40, w ∈ wsX4_doOrder := fun w h => List.mem_cons_of_mem _ (List.mem_append_left _ (List.mem_append_left _ (List.mem_append_right _ h)))
  have hl : lv_has ls 1 [(0, .ref (A 0))] := hl
  refine lv_aload_n hx hb dX4_doOrder_0 rfl (lv_at hl 0 rfl) ?_
  refine va_get (D := (dC, dI)) (ci := 4) (v := .ref (A 9)) (C := RX4) (T := TX4) (N := 8) hx hb hts inX4 hown hK hP 0 rfl rfl 7 (by decide) (hts (.fieldLink RX4 46 "BoardMetronomes" "reader" "LBoardMetronomes$OrderReader;") (by decide +kernel)) (fun _ h9 => h9) rfl dX4_doOrder_1 ?_
  refine kc_v (As := []) (rest := []) S (v := .int (f_Rkind r)) (c_X1_kind l dC dI cI cZ cO (A 9) (Q 9) r) gX4_doOrder_X1_kind mi_X1_kind ⟨rfl, rfl⟩ ⟨Nat.le_of_ble_eq_true rfl, Nat.le_of_ble_eq_true rfl⟩ hK (XW_p_r hP) 0 rfl rfl ⟨Nat.le_refl _, Nat.le_refl _⟩ dX4_doOrder_4 rfl hl.1 rfl (Nat.le_of_ble_eq_true rfl) ?_
  by_cases c_7_109 : (f_Rkind r) = (109 : Int32)
  · refine lv_lookup (off := 25) (tgt := 32) hx hb dX4_doOrder_7 (by decide) (by rw [c_7_109]; rfl) (by decide) ?_
    refine lv_aload_n hx hb dX4_doOrder_32 rfl (lv_at hl 0 rfl) ?_
    refine va_get (D := (dC, dI)) (ci := 4) (v := .ref (A 1)) (C := RX4) (T := TX4) (N := 8) hx hb hts inX4 hown hK hP 0 rfl rfl 0 (by decide) (hts (.fieldLink RX4 10 "BoardMetronomes" "now" "LBoardMetronomes$Bench;") (by decide +kernel)) (fun _ h9 => h9) rfl dX4_doOrder_33 ?_
    refine kc_v (As := []) (rest := []) S (v := .int (bI (f_isFull un))) (c_X0_isFull l dC dI cI cZ cO (A 1) (Q 1) un) gX4_doOrder_X0_isFull mi_X0_isFull ⟨rfl, rfl⟩ ⟨Nat.le_of_ble_eq_true rfl, Nat.le_of_ble_eq_true rfl⟩ hK (XW_p_un hP) 0 rfl rfl ⟨Nat.le_refl _, Nat.le_refl _⟩ dX4_doOrder_36 rfl hl.1 rfl (Nat.le_of_ble_eq_true rfl) ?_
    refine kb_eq (tgt := 44) hx hb dX4_doOrder_39 (by decide) (fun c_39 => ?_) (fun c_39 => ?_)
    · refine lv_aload_n hx hb dX4_doOrder_44 rfl (lv_at hl 0 rfl) ?_
      refine va_get (D := (dC, dI)) (ci := 4) (v := .ref (A 1)) (C := RX4) (T := TX4) (N := 8) hx hb hts inX4 hown hK hP 0 rfl rfl 0 (by decide) (hts (.fieldLink RX4 10 "BoardMetronomes" "now" "LBoardMetronomes$Bench;") (by decide +kernel)) (fun _ h9 => h9) rfl dX4_doOrder_45 ?_
      refine lv_aload_n hx hb dX4_doOrder_48 rfl (lv_at hl 0 rfl) ?_
      refine va_get (D := (dC, dI)) (ci := 4) (v := .ref (A 9)) (C := RX4) (T := TX4) (N := 8) hx hb hts inX4 hown hK hP 0 rfl rfl 7 (by decide) (hts (.fieldLink RX4 46 "BoardMetronomes" "reader" "LBoardMetronomes$OrderReader;") (by decide +kernel)) (fun _ h9 => h9) rfl dX4_doOrder_49 ?_
      refine kc_v (As := []) (rest := [.ref (A 1)]) S (v := .int (f_Rbeat r)) (c_X1_beat l dC dI cI cZ cO (A 9) (Q 9) r) gX4_doOrder_X1_beat mi_X1_beat ⟨rfl, rfl⟩ ⟨Nat.le_of_ble_eq_true rfl, Nat.le_of_ble_eq_true rfl⟩ hK (XW_p_r hP) 0 rfl rfl ⟨Nat.le_refl _, Nat.le_refl _⟩ dX4_doOrder_52 rfl hl.1 rfl (Nat.le_of_ble_eq_true rfl) ?_
      refine lv_aload_n hx hb dX4_doOrder_55 rfl (lv_at hl 0 rfl) ?_
      refine va_get (D := (dC, dI)) (ci := 4) (v := .ref (A 9)) (C := RX4) (T := TX4) (N := 8) hx hb hts inX4 hown hK hP 0 rfl rfl 7 (by decide) (hts (.fieldLink RX4 46 "BoardMetronomes" "reader" "LBoardMetronomes$OrderReader;") (by decide +kernel)) (fun _ h9 => h9) rfl dX4_doOrder_56 ?_
      refine kc_v (As := []) (rest := [.int (f_Rbeat r), .ref (A 1)]) S (v := .int (f_Rphase r)) (c_X1_phase l dC dI cI cZ cO (A 9) (Q 9) r) gX4_doOrder_X1_phase mi_X1_phase ⟨rfl, rfl⟩ ⟨Nat.le_of_ble_eq_true rfl, Nat.le_of_ble_eq_true rfl⟩ hK (XW_p_r hP) 0 rfl rfl ⟨Nat.le_refl _, Nat.le_refl _⟩ dX4_doOrder_59 rfl hl.1 rfl (Nat.le_of_ble_eq_true rfl) ?_
      refine lv_aload_n hx hb dX4_doOrder_62 rfl (lv_at hl 0 rfl) ?_
      refine va_get (D := (dC, dI)) (ci := 4) (v := .ref (A 9)) (C := RX4) (T := TX4) (N := 8) hx hb hts inX4 hown hK hP 0 rfl rfl 7 (by decide) (hts (.fieldLink RX4 46 "BoardMetronomes" "reader" "LBoardMetronomes$OrderReader;") (by decide +kernel)) (fun _ h9 => h9) rfl dX4_doOrder_63 ?_
      refine kc_v (As := []) (rest := [.int (f_Rphase r), .int (f_Rbeat r), .ref (A 1)]) S (v := .int (f_Rspring r)) (c_X1_spring l dC dI cI cZ cO (A 9) (Q 9) r) gX4_doOrder_X1_spring mi_X1_spring ⟨rfl, rfl⟩ ⟨Nat.le_of_ble_eq_true rfl, Nat.le_of_ble_eq_true rfl⟩ hK (XW_p_r hP) 0 rfl rfl ⟨Nat.le_refl _, Nat.le_refl _⟩ dX4_doOrder_66 rfl hl.1 rfl (Nat.le_of_ble_eq_true rfl) ?_
      refine kc_w (As := [.int (f_Rbeat r), .int (f_Rphase r), .int (f_Rspring r)]) (rest := []) S (v := (some (.int ((f_add un (f_Rbeat r) (f_Rphase r) (f_Rspring r)).1)))) (c_X0_add l dC dI cI cZ cO (A 1) (Q 1) un (f_Rbeat r) (f_Rphase r) (f_Rspring r) s.heap.size) gX4_doOrder_X0_add mi_X0_add ⟨rfl, rfl⟩ ⟨Nat.le_of_ble_eq_true rfl, Nat.le_of_ble_eq_true rfl⟩ hK hP hD hS hA [2, 3, 4, 5, 6, 7] XW_all_un BW_fst rfl 0 rfl rfl ⟨Nat.le_refl _, Nat.le_refl _⟩ dX4_doOrder_69 rfl hl.1 rfl (Nat.le_of_ble_eq_true rfl) (fun H locs hP hD hS => ?_)
      have hP : va_P (dC, dI) vwCl (XW cI cZ cO A Q fl ((f_add un (f_Rbeat r) (f_Rphase r) (f_Rspring r)).2) ut u0 u1 sv x r) H := Eq.mp (congrArg (fun w => va_P (dC, dI) vwCl w H) XW_ks_un) hP
      have hD : va_D A0 (XW cI cZ cO A Q fl ((f_add un (f_Rbeat r) (f_Rphase r) (f_Rspring r)).2) ut u0 u1 sv x r) := Eq.mp (congrArg (fun w => va_D A0 w) XW_ks_un) hD
      refine lv_pop hx hb dX4_doOrder_72 rfl ?_
      refine lv_iconst (v := (1 : Int32)) hx hb dX4_doOrder_73 (by decide) ?_
      have r1 : f_XdoOrder fl un ut u0 u1 sv x r = (true, (f_add un (f_Rbeat r) (f_Rphase r) (f_Rspring r)).2) := by
        rw [f_XdoOrder, if_pos c_7_109, if_neg c_39]
      exact kw_z (x := true) hx hb hr hlk hP hS dX4_doOrder_74 rfl (by rw [r1]) (by rw [r1])
    · refine lv_iconst (v := (0 : Int32)) hx hb dX4_doOrder_42 (by decide) ?_
      have r2 : f_XdoOrder fl un ut u0 u1 sv x r = (false, un) := by
        rw [f_XdoOrder, if_pos c_7_109, if_pos c_39]
      exact kw_z (x := false) hx hb hr hlk hP hS dX4_doOrder_43 rfl (by rw [r2]) (by rw [r2])
  by_cases c_7_115 : (f_Rkind r) = (115 : Int32)
  · refine lv_lookup (off := 68) (tgt := 75) hx hb dX4_doOrder_7 (by decide) (by rw [c_7_115]; rfl) (by decide) ?_
    refine lv_aload_n hx hb dX4_doOrder_75 rfl (lv_at hl 0 rfl) ?_
    refine va_get (D := (dC, dI)) (ci := 4) (v := .ref (A 1)) (C := RX4) (T := TX4) (N := 8) hx hb hts inX4 hown hK hP 0 rfl rfl 0 (by decide) (hts (.fieldLink RX4 10 "BoardMetronomes" "now" "LBoardMetronomes$Bench;") (by decide +kernel)) (fun _ h9 => h9) rfl dX4_doOrder_76 ?_
    refine lv_aload_n hx hb dX4_doOrder_79 rfl (lv_at hl 0 rfl) ?_
    refine va_get (D := (dC, dI)) (ci := 4) (v := .ref (A 9)) (C := RX4) (T := TX4) (N := 8) hx hb hts inX4 hown hK hP 0 rfl rfl 7 (by decide) (hts (.fieldLink RX4 46 "BoardMetronomes" "reader" "LBoardMetronomes$OrderReader;") (by decide +kernel)) (fun _ h9 => h9) rfl dX4_doOrder_80 ?_
    refine kc_v (As := []) (rest := [.ref (A 1)]) S (v := .int (f_Rnumber r)) (c_X1_number l dC dI cI cZ cO (A 9) (Q 9) r) gX4_doOrder_X1_number mi_X1_number ⟨rfl, rfl⟩ ⟨Nat.le_of_ble_eq_true rfl, Nat.le_of_ble_eq_true rfl⟩ hK (XW_p_r hP) 0 rfl rfl ⟨Nat.le_refl _, Nat.le_refl _⟩ dX4_doOrder_83 rfl hl.1 rfl (Nat.le_of_ble_eq_true rfl) ?_
    refine kc_v (As := [.int (f_Rnumber r)]) (rest := []) S (v := .int (bI (f_hasTimeFor un (f_Rnumber r)))) (c_X0_hasTimeFor l dC dI cI cZ cO (A 1) (Q 1) un (f_Rnumber r)) gX4_doOrder_X0_hasTimeFor mi_X0_hasTimeFor ⟨rfl, rfl⟩ ⟨Nat.le_of_ble_eq_true rfl, Nat.le_of_ble_eq_true rfl⟩ hK (XW_p_un hP) 0 rfl rfl ⟨Nat.le_refl _, Nat.le_refl _⟩ dX4_doOrder_86 rfl hl.1 rfl (Nat.le_of_ble_eq_true rfl) ?_
    refine kb_ne (tgt := 94) hx hb dX4_doOrder_89 (by decide) (fun c_89 => ?_) (fun c_89 => ?_)
    · refine lv_aload_n hx hb dX4_doOrder_94 rfl (lv_at hl 0 rfl) ?_
      refine va_get (D := (dC, dI)) (ci := 4) (v := .ref (A 1)) (C := RX4) (T := TX4) (N := 8) hx hb hts inX4 hown hK hP 0 rfl rfl 0 (by decide) (hts (.fieldLink RX4 10 "BoardMetronomes" "now" "LBoardMetronomes$Bench;") (by decide +kernel)) (fun _ h9 => h9) rfl dX4_doOrder_95 ?_
      refine lv_aload_n hx hb dX4_doOrder_98 rfl (lv_at hl 0 rfl) ?_
      refine va_get (D := (dC, dI)) (ci := 4) (v := .ref (A 9)) (C := RX4) (T := TX4) (N := 8) hx hb hts inX4 hown hK hP 0 rfl rfl 7 (by decide) (hts (.fieldLink RX4 46 "BoardMetronomes" "reader" "LBoardMetronomes$OrderReader;") (by decide +kernel)) (fun _ h9 => h9) rfl dX4_doOrder_99 ?_
      refine kc_v (As := []) (rest := [.ref (A 1)]) S (v := .int (f_Rnumber r)) (c_X1_number l dC dI cI cZ cO (A 9) (Q 9) r) gX4_doOrder_X1_number mi_X1_number ⟨rfl, rfl⟩ ⟨Nat.le_of_ble_eq_true rfl, Nat.le_of_ble_eq_true rfl⟩ hK (XW_p_r hP) 0 rfl rfl ⟨Nat.le_refl _, Nat.le_refl _⟩ dX4_doOrder_102 rfl hl.1 rfl (Nat.le_of_ble_eq_true rfl) ?_
      refine kc_w (As := [.int (f_Rnumber r)]) (rest := []) S (v := (some (.int ((f_letGoBy un (f_Rnumber r)).1)))) (c_X0_letGoBy l dC dI cI cZ cO (A 1) (Q 1) un (f_Rnumber r) s.heap.size) gX4_doOrder_X0_letGoBy mi_X0_letGoBy ⟨rfl, rfl⟩ ⟨Nat.le_of_ble_eq_true rfl, Nat.le_of_ble_eq_true rfl⟩ hK hP hD hS hA [2, 3, 4, 5, 6, 7] XW_all_un BW_fst rfl 0 rfl rfl ⟨Nat.le_refl _, Nat.le_refl _⟩ dX4_doOrder_105 rfl hl.1 rfl (Nat.le_of_ble_eq_true rfl) (fun H locs hP hD hS => ?_)
      have hP : va_P (dC, dI) vwCl (XW cI cZ cO A Q fl ((f_letGoBy un (f_Rnumber r)).2) ut u0 u1 sv x r) H := Eq.mp (congrArg (fun w => va_P (dC, dI) vwCl w H) XW_ks_un) hP
      have hD : va_D A0 (XW cI cZ cO A Q fl ((f_letGoBy un (f_Rnumber r)).2) ut u0 u1 sv x r) := Eq.mp (congrArg (fun w => va_D A0 w) XW_ks_un) hD
      refine lv_pop hx hb dX4_doOrder_108 rfl ?_
      refine lv_iconst (v := (1 : Int32)) hx hb dX4_doOrder_109 (by decide) ?_
      have r3 : f_XdoOrder fl un ut u0 u1 sv x r = (true, (f_letGoBy un (f_Rnumber r)).2) := by
        rw [f_XdoOrder, if_neg c_7_109, if_pos c_7_115, if_pos c_89]
      exact kw_z (x := true) hx hb hr hlk hP hS dX4_doOrder_110 rfl (by rw [r3]) (by rw [r3])
    · refine lv_iconst (v := (0 : Int32)) hx hb dX4_doOrder_92 (by decide) ?_
      have r4 : f_XdoOrder fl un ut u0 u1 sv x r = (false, un) := by
        rw [f_XdoOrder, if_neg c_7_109, if_pos c_7_115, if_neg c_89]
      exact kw_z (x := false) hx hb hr hlk hP hS dX4_doOrder_93 rfl (by rw [r4]) (by rw [r4])
  refine lv_lookup (off := 104) (tgt := 111) hx hb dX4_doOrder_7 (by decide) (by rw [lv_osw (a := 109) (k := (109 : Int32)) c_7_109 (by decide)]; rw [lv_osw (a := 115) (k := (115 : Int32)) c_7_115 (by decide)]; rfl) (by decide) ?_
  refine lv_aload_n hx hb dX4_doOrder_111 rfl (lv_at hl 0 rfl) ?_
  refine va_get (D := (dC, dI)) (ci := 4) (v := .ref (A 1)) (C := RX4) (T := TX4) (N := 8) hx hb hts inX4 hown hK hP 0 rfl rfl 0 (by decide) (hts (.fieldLink RX4 10 "BoardMetronomes" "now" "LBoardMetronomes$Bench;") (by decide +kernel)) (fun _ h9 => h9) rfl dX4_doOrder_112 ?_
  refine lv_aload_n hx hb dX4_doOrder_115 rfl (lv_at hl 0 rfl) ?_
  refine va_get (D := (dC, dI)) (ci := 4) (v := .ref (A 9)) (C := RX4) (T := TX4) (N := 8) hx hb hts inX4 hown hK hP 0 rfl rfl 7 (by decide) (hts (.fieldLink RX4 46 "BoardMetronomes" "reader" "LBoardMetronomes$OrderReader;") (by decide +kernel)) (fun _ h9 => h9) rfl dX4_doOrder_116 ?_
  refine kc_v (As := []) (rest := [.ref (A 1)]) S (v := .int (f_Rnumber r)) (c_X1_number l dC dI cI cZ cO (A 9) (Q 9) r) gX4_doOrder_X1_number mi_X1_number ⟨rfl, rfl⟩ ⟨Nat.le_of_ble_eq_true rfl, Nat.le_of_ble_eq_true rfl⟩ hK (XW_p_r hP) 0 rfl rfl ⟨Nat.le_refl _, Nat.le_refl _⟩ dX4_doOrder_119 rfl hl.1 rfl (Nat.le_of_ble_eq_true rfl) ?_
  refine kc_v (As := [.int (f_Rnumber r)]) (rest := []) S (v := .int (bI (f_has un (f_Rnumber r)))) (c_X0_has l dC dI cI cZ cO (A 1) (Q 1) un (f_Rnumber r)) gX4_doOrder_X0_has mi_X0_has ⟨rfl, rfl⟩ ⟨Nat.le_of_ble_eq_true rfl, Nat.le_of_ble_eq_true rfl⟩ hK (XW_p_un hP) 0 rfl rfl ⟨Nat.le_refl _, Nat.le_refl _⟩ dX4_doOrder_122 rfl hl.1 rfl (Nat.le_of_ble_eq_true rfl) ?_
  refine kb_ne (tgt := 130) hx hb dX4_doOrder_125 (by decide) (fun c_125 => ?_) (fun c_125 => ?_)
  · refine lv_aload_n hx hb dX4_doOrder_130 rfl (lv_at hl 0 rfl) ?_
    refine va_get (D := (dC, dI)) (ci := 4) (v := .ref (A 1)) (C := RX4) (T := TX4) (N := 8) hx hb hts inX4 hown hK hP 0 rfl rfl 0 (by decide) (hts (.fieldLink RX4 10 "BoardMetronomes" "now" "LBoardMetronomes$Bench;") (by decide +kernel)) (fun _ h9 => h9) rfl dX4_doOrder_131 ?_
    refine lv_aload_n hx hb dX4_doOrder_134 rfl (lv_at hl 0 rfl) ?_
    refine va_get (D := (dC, dI)) (ci := 4) (v := .ref (A 9)) (C := RX4) (T := TX4) (N := 8) hx hb hts inX4 hown hK hP 0 rfl rfl 7 (by decide) (hts (.fieldLink RX4 46 "BoardMetronomes" "reader" "LBoardMetronomes$OrderReader;") (by decide +kernel)) (fun _ h9 => h9) rfl dX4_doOrder_135 ?_
    refine kc_v (As := []) (rest := [.ref (A 1)]) S (v := .int (f_Rnumber r)) (c_X1_number l dC dI cI cZ cO (A 9) (Q 9) r) gX4_doOrder_X1_number mi_X1_number ⟨rfl, rfl⟩ ⟨Nat.le_of_ble_eq_true rfl, Nat.le_of_ble_eq_true rfl⟩ hK (XW_p_r hP) 0 rfl rfl ⟨Nat.le_refl _, Nat.le_refl _⟩ dX4_doOrder_138 rfl hl.1 rfl (Nat.le_of_ble_eq_true rfl) ?_
    refine kc_w (As := [.int (f_Rnumber r)]) (rest := []) S (v := (some (.int ((f_holdOrLetGo un (f_Rnumber r)).1)))) (c_X0_holdOrLetGo l dC dI cI cZ cO (A 1) (Q 1) un (f_Rnumber r) s.heap.size) gX4_doOrder_X0_holdOrLetGo mi_X0_holdOrLetGo ⟨rfl, rfl⟩ ⟨Nat.le_of_ble_eq_true rfl, Nat.le_of_ble_eq_true rfl⟩ hK hP hD hS hA [2, 3, 4, 5, 6, 7] XW_all_un BW_fst rfl 0 rfl rfl ⟨Nat.le_refl _, Nat.le_refl _⟩ dX4_doOrder_141 rfl hl.1 rfl (Nat.le_of_ble_eq_true rfl) (fun H locs hP hD hS => ?_)
    have hP : va_P (dC, dI) vwCl (XW cI cZ cO A Q fl ((f_holdOrLetGo un (f_Rnumber r)).2) ut u0 u1 sv x r) H := Eq.mp (congrArg (fun w => va_P (dC, dI) vwCl w H) XW_ks_un) hP
    have hD : va_D A0 (XW cI cZ cO A Q fl ((f_holdOrLetGo un (f_Rnumber r)).2) ut u0 u1 sv x r) := Eq.mp (congrArg (fun w => va_D A0 w) XW_ks_un) hD
    refine lv_pop hx hb dX4_doOrder_144 rfl ?_
    refine lv_iconst (v := (1 : Int32)) hx hb dX4_doOrder_145 (by decide) ?_
    have r5 : f_XdoOrder fl un ut u0 u1 sv x r = (true, (f_holdOrLetGo un (f_Rnumber r)).2) := by
      rw [f_XdoOrder, if_neg c_7_109, if_neg c_7_115, if_pos c_125]
    exact kw_z (x := true) hx hb hr hlk hP hS dX4_doOrder_146 rfl (by rw [r5]) (by rw [r5])
  · refine lv_iconst (v := (0 : Int32)) hx hb dX4_doOrder_128 (by decide) ?_
    have r6 : f_XdoOrder fl un ut u0 u1 sv x r = (false, un) := by
      rw [f_XdoOrder, if_neg c_7_109, if_neg c_7_115, if_neg c_125]
    exact kw_z (x := false) hx hb hr hlk hP hS dX4_doOrder_129 rfl (by rw [r6]) (by rw [r6])

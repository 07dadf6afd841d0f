def rm_X4_isWithin : Room := { frames := 0, cells := 0, slots := 0, locals := 0 }
theorem mi_X4_isWithin : kM yX4_isWithin wsX4_isWithin cX4_isWithin 3 (some .boolean) 3 := ⟨⟨_, rfl⟩, by decide, by decide, by decide +kernel⟩
def f_XisWithin (p0 : Int32) (p1 : Int32) (p2 : Int32) : Bool := if p0 < p1 then false else if p2 < p0 then false else true
set_option maxHeartbeats 1000000 in
set_option maxRecDepth 100000 in
theorem c_X4_isWithin (l : Launch) (p0 : Int32) (p1 : Int32) (p2 : Int32) : Met l yX4_isWithin wsX4_isWithin rm_X4_isWithin (va_Pc [.int p0, .int p1, .int p2] (fun _ => True)) (kQ (some (.int (bI (f_XisWithin p0 p1 p2))))) 0 0 (fun _ => False) := by
  refine kofP (cc := cX4_isWithin) (maxL := 3) (ret := some .boolean) (by decide) rfl (Nat.le_of_ble_eq_true rfl) ?_
  intro p e s m args below meth c ls S hr hlk hl
  obtain ⟨hx, hb, hml, hown, hts⟩ := id S
  have hl : lv_has ls 3 [(0, .int p0), (1, .int p1), (2, .int p2)] := hl
  refine lv_iload_n hx hb dX4_isWithin_0 rfl (lv_at hl 0 rfl) ?_
  refine lv_iload_n hx hb dX4_isWithin_1 rfl (lv_at hl 1 rfl) ?_
  refine lv_icmp_lt (tgt := 14) hx hb dX4_isWithin_2 (by decide) (fun c_2 => ?_) (fun c_2 => ?_)
  · refine lv_iconst (v := (0 : Int32)) hx hb dX4_isWithin_14 (by decide) ?_
    have r1 : f_XisWithin p0 p1 p2 = false := by
      rw [f_XisWithin, if_pos c_2]
    exact kr_z (x := false) hx hb hr hlk dX4_isWithin_15 rfl r1
  · refine lv_iload_n hx hb dX4_isWithin_5 rfl (lv_at hl 0 rfl) ?_
    refine lv_iload_n hx hb dX4_isWithin_6 rfl (lv_at hl 2 rfl) ?_
    refine lv_icmp_gt (tgt := 14) hx hb dX4_isWithin_7 (by decide) (fun c_7 => ?_) (fun c_7 => ?_)
    · refine lv_iconst (v := (0 : Int32)) hx hb dX4_isWithin_14 (by decide) ?_
      have r2 : f_XisWithin p0 p1 p2 = false := by
        rw [f_XisWithin, if_neg c_2, if_pos c_7]
      exact kr_z (x := false) hx hb hr hlk dX4_isWithin_15 rfl r2
    · refine lv_iconst (v := (1 : Int32)) hx hb dX4_isWithin_10 (by decide) ?_
      refine lv_goto (tgt := 15) hx hb dX4_isWithin_11 (by decide) ?_
      have r3 : f_XisWithin p0 p1 p2 = true := by
        rw [f_XisWithin, if_neg c_2, if_neg c_7]
      exact kr_z (x := true) hx hb hr hlk dX4_isWithin_15 rfl r3

def rm_X4_isBeat : Room := { frames := 1, cells := 0, slots := 0, locals := 22 }
theorem mi_X4_isBeat : kM yX4_isBeat wsX4_isBeat cX4_isBeat 1 (some .boolean) 1 := ⟨⟨_, rfl⟩, by decide, by decide, by decide +kernel⟩
def f_XisBeat (p0 : Int32) : Bool := (f_XisWithin p0 (40 : Int32) (208 : Int32))
set_option maxHeartbeats 1000000 in
set_option maxRecDepth 100000 in
theorem c_X4_isBeat (l : Launch) (p0 : Int32) : Met l yX4_isBeat wsX4_isBeat rm_X4_isBeat (va_Pc [.int p0] (fun _ => True)) (kQ (some (.int (bI (f_XisBeat p0))))) 0 0 (fun _ => False) := by
  refine kofP (cc := cX4_isBeat) (maxL := 1) (ret := some .boolean) (by decide) rfl (Nat.le_of_ble_eq_true rfl) ?_
  intro p e s m args below meth c ls S hr hlk hl
  obtain ⟨hx, hb, hml, hown, hts⟩ := id S
  have hl : lv_has ls 1 [(0, .int p0)] := hl
  refine lv_iload_n hx hb dX4_isBeat_0 rfl (lv_at hl 0 rfl) ?_
  refine lv_bipush (v := (40 : Int32)) hx hb dX4_isBeat_1 (by decide) ?_
  refine lv_sipush (v := (208 : Int32)) hx hb dX4_isBeat_3 (by decide) ?_
  refine kc_p (y := yX4_isWithin) (As := [.int p0, .int (40 : Int32), .int (208 : Int32)]) (rest := []) rfl S (v := .int (bI (f_XisWithin p0 (40 : Int32) (208 : Int32)))) (c_X4_isWithin l p0 (40 : Int32) (208 : Int32)) gX4_isBeat_X4_isWithin mi_X4_isWithin ⟨rfl, rfl⟩ ⟨Nat.le_of_ble_eq_true rfl, Nat.le_of_ble_eq_true rfl⟩ ⟨Nat.le_refl _, Nat.le_refl _⟩ dX4_isBeat_6 rfl hl.1 rfl (Nat.le_of_ble_eq_true rfl) ?_
  have r1 : f_XisBeat p0 = (f_XisWithin p0 (40 : Int32) (208 : Int32)) := by
    rw [f_XisBeat]
  exact kr_z (x := (f_XisWithin p0 (40 : Int32) (208 : Int32))) hx hb hr hlk dX4_isBeat_9 rfl r1

def rm_X4_isSpring : Room := { frames := 1, cells := 0, slots := 0, locals := 22 }
theorem mi_X4_isSpring : kM yX4_isSpring wsX4_isSpring cX4_isSpring 1 (some .boolean) 1 := ⟨⟨_, rfl⟩, by decide, by decide, by decide +kernel⟩
def f_XisSpring (p0 : Int32) : Bool := (f_XisWithin p0 (0 : Int32) (999 : Int32))
set_option maxHeartbeats 1000000 in
set_option maxRecDepth 100000 in
theorem c_X4_isSpring (l : Launch) (p0 : Int32) : Met l yX4_isSpring wsX4_isSpring rm_X4_isSpring (va_Pc [.int p0] (fun _ => True)) (kQ (some (.int (bI (f_XisSpring p0))))) 0 0 (fun _ => False) := by
  refine kofP (cc := cX4_isSpring) (maxL := 1) (ret := some .boolean) (by decide) rfl (Nat.le_of_ble_eq_true rfl) ?_
  intro p e s m args below meth c ls S hr hlk hl
  obtain ⟨hx, hb, hml, hown, hts⟩ := id S
  have hl : lv_has ls 1 [(0, .int p0)] := hl
  refine lv_iload_n hx hb dX4_isSpring_0 rfl (lv_at hl 0 rfl) ?_
  refine lv_iconst (v := (0 : Int32)) hx hb dX4_isSpring_1 (by decide) ?_
  refine lv_sipush (v := (999 : Int32)) hx hb dX4_isSpring_2 (by decide) ?_
  refine kc_p (y := yX4_isWithin) (As := [.int p0, .int (0 : Int32), .int (999 : Int32)]) (rest := []) rfl S (v := .int (bI (f_XisWithin p0 (0 : Int32) (999 : Int32)))) (c_X4_isWithin l p0 (0 : Int32) (999 : Int32)) gX4_isSpring_X4_isWithin mi_X4_isWithin ⟨rfl, rfl⟩ ⟨Nat.le_of_ble_eq_true rfl, Nat.le_of_ble_eq_true rfl⟩ ⟨Nat.le_refl _, Nat.le_refl _⟩ dX4_isSpring_5 rfl hl.1 rfl (Nat.le_of_ble_eq_true rfl) ?_
  have r1 : f_XisSpring p0 = (f_XisWithin p0 (0 : Int32) (999 : Int32)) := by
    rw [f_XisSpring]
  exact kr_z (x := (f_XisWithin p0 (0 : Int32) (999 : Int32))) hx hb hr hlk dX4_isSpring_8 rfl r1

def rm_X4_isSetting : Room := { frames := 1, cells := 0, slots := 0, locals := 22 }
theorem mi_X4_isSetting : kM yX4_isSetting wsX4_isSetting cX4_isSetting 1 (some .boolean) 1 := ⟨⟨_, rfl⟩, by decide, by decide, by decide +kernel⟩
def f_XisSetting (p0 : Int32) : Bool := (f_XisWithin p0 (0 : Int32) (2 : Int32))
set_option maxHeartbeats 1000000 in
set_option maxRecDepth 100000 in
theorem c_X4_isSetting (l : Launch) (p0 : Int32) : Met l yX4_isSetting wsX4_isSetting rm_X4_isSetting (va_Pc [.int p0] (fun _ => True)) (kQ (some (.int (bI (f_XisSetting p0))))) 0 0 (fun _ => False) := by
  refine kofP (cc := cX4_isSetting) (maxL := 1) (ret := some .boolean) (by decide) rfl (Nat.le_of_ble_eq_true rfl) ?_
  intro p e s m args below meth c ls S hr hlk hl
  obtain ⟨hx, hb, hml, hown, hts⟩ := id S
  have hl : lv_has ls 1 [(0, .int p0)] := hl
  refine lv_iload_n hx hb dX4_isSetting_0 rfl (lv_at hl 0 rfl) ?_
  refine lv_iconst (v := (0 : Int32)) hx hb dX4_isSetting_1 (by decide) ?_
  refine lv_iconst (v := (2 : Int32)) hx hb dX4_isSetting_2 (by decide) ?_
  refine kc_p (y := yX4_isWithin) (As := [.int p0, .int (0 : Int32), .int (2 : Int32)]) (rest := []) rfl S (v := .int (bI (f_XisWithin p0 (0 : Int32) (2 : Int32)))) (c_X4_isWithin l p0 (0 : Int32) (2 : Int32)) gX4_isSetting_X4_isWithin mi_X4_isWithin ⟨rfl, rfl⟩ ⟨Nat.le_of_ble_eq_true rfl, Nat.le_of_ble_eq_true rfl⟩ ⟨Nat.le_refl _, Nat.le_refl _⟩ dX4_isSetting_3 rfl hl.1 rfl (Nat.le_of_ble_eq_true rfl) ?_
  have r1 : f_XisSetting p0 = (f_XisWithin p0 (0 : Int32) (2 : Int32)) := by
    rw [f_XisSetting]
  exact kr_z (x := (f_XisWithin p0 (0 : Int32) (2 : Int32))) hx hb hr hlk dX4_isSetting_6 rfl r1

def rm_X4_isSlot : Room := { frames := 1, cells := 0, slots := 0, locals := 22 }
def f_XisSlot (p0 : Int32) : Bool := (f_XisWithin p0 (0 : Int32) (1 : Int32))
def rm_X4_highestOf : Room := { frames := 0, cells := 0, slots := 0, locals := 0 }
theorem mi_X4_highestOf : kM yX4_highestOf wsX4_highestOf cX4_highestOf 1 (some .int) 1 := ⟨⟨_, rfl⟩, by decide, by decide, by decide +kernel⟩
def f_XhighestOf (p0 : Int32) : Int32 := if p0 = (0 : Int32) then (95 : Int32) else if p0 = (1 : Int32) then (99 : Int32) else (900 : Int32)
set_option maxHeartbeats 1000000 in
set_option maxRecDepth 100000 in
theorem c_X4_highestOf (l : Launch) (p0 : Int32) : Met l yX4_highestOf wsX4_highestOf rm_X4_highestOf (va_Pc [.int p0] (fun _ => True)) (kQ (some (.int (f_XhighestOf p0)))) 0 0 (fun _ => False) := by
  refine kofP (cc := cX4_highestOf) (maxL := 1) (ret := some .int) (by decide) rfl (Nat.le_of_ble_eq_true rfl) ?_
  intro p e s m args below meth c ls S hr hlk hl
  obtain ⟨hx, hb, hml, hown, hts⟩ := id S
  have hl : lv_has ls 1 [(0, .int p0)] := hl
  refine lv_iload_n hx hb dX4_highestOf_0 rfl (lv_at hl 0 rfl) ?_
  by_cases c_1_0 : p0 = (0 : Int32)
  · refine lv_lookup (off := 27) (tgt := 28) hx hb dX4_highestOf_1 (by decide) (by rw [c_1_0]; rfl) (by decide) ?_
    refine lv_bipush (v := (95 : Int32)) hx hb dX4_highestOf_28 (by decide) ?_
    have r1 : f_XhighestOf p0 = (95 : Int32) := by
      rw [f_XhighestOf, if_pos c_1_0]
    exact kr_i hx hb hr hlk dX4_highestOf_30 r1.symm
  by_cases c_1_1 : p0 = (1 : Int32)
  · refine lv_lookup (off := 30) (tgt := 31) hx hb dX4_highestOf_1 (by decide) (by rw [c_1_1]; rfl) (by decide) ?_
    refine lv_bipush (v := (99 : Int32)) hx hb dX4_highestOf_31 (by decide) ?_
    have r2 : f_XhighestOf p0 = (99 : Int32) := by
      rw [f_XhighestOf, if_neg c_1_0, if_pos c_1_1]
    exact kr_i hx hb hr hlk dX4_highestOf_33 r2.symm
  refine lv_lookup (off := 33) (tgt := 34) hx hb dX4_highestOf_1 (by decide) (by rw [lv_osw (a := 0) (k := (0 : Int32)) c_1_0 (by decide)]; rw [lv_osw (a := 1) (k := (1 : Int32)) c_1_1 (by decide)]; rfl) (by decide) ?_
  refine lv_sipush (v := (900 : Int32)) hx hb dX4_highestOf_34 (by decide) ?_
  have r3 : f_XhighestOf p0 = (900 : Int32) := by
    rw [f_XhighestOf, if_neg c_1_0, if_neg c_1_1]
  exact kr_i hx hb hr hlk dX4_highestOf_37 r3.symm

def rm_X4_figure : Room := { frames := 5, cells := 0, slots := 0, locals := 109 }
theorem mi_X4_figure : kM yX4_figure wsX4_figure cX4_figure 2 (some .int) 1 := ⟨⟨_, rfl⟩, by decide, by decide, by decide +kernel⟩
def f_Xfigure (fl : (Nat → Int32)) (un : BS) (ut : BS) (u0 : BS) (u1 : BS) (sv : SS) (x : BS) (r : BS) (p0 : Int32) : Int32 := if p0 = (11 : Int32) then (f_Ssize sv) else f_figureOf un p0
set_option maxHeartbeats 1000000 in
set_option maxRecDepth 100000 in
theorem c_X4_figure (l : Launch) (dC : Nat → ClassId) (dI : Nat → Nat → Nat) (cI cZ cO : ClassId) (A : Nat → Nat) (Q : Nat → Nat → Nat) (fl : (Nat → Int32)) (un : BS) (ut : BS) (u0 : BS) (u1 : BS) (sv : SS) (x : BS) (r : BS) (p0 : Int32) : Met l yX4_figure wsX4_figure rm_X4_figure (va_Pc [.ref (A 0), .int p0] (fun U => va_P (dC, dI) vwCl (XW cI cZ cO A Q fl un ut u0 u1 sv x r) U.heap ∧ va_K (dC, dI) vwCl (TY cI cZ cO) U)) (kQ (some (.int (f_Xfigure fl un ut u0 u1 sv x r p0)))) 0 0 (fun _ => False) := by
  refine kofR (cc := cX4_figure) (maxL := 2) (ret := some .int) (by decide) rfl (Nat.le_of_ble_eq_true rfl) ?_
  intro p e s m args below meth c ls S hr hlk hP hK hl
  obtain ⟨hx, hb, hml, hown, hts⟩ := id S
  have inX4 : ∀ w ∈ wsX40, w ∈ wsX4_figure := fun w h => List.mem_cons_of_mem _ (List.mem_append_left _ (List.mem_append_left _ (List.mem_append_right _ h)))
  have hl : lv_has ls 2 [(0, .ref (A 0)), (1, .int p0)] := hl
  refine lv_iload_n hx hb dX4_figure_0 rfl (lv_at hl 1 rfl) ?_
  refine lv_bipush (v := (11 : Int32)) hx hb dX4_figure_1 (by decide) ?_
  refine lv_icmp_ne (tgt := 16) hx hb dX4_figure_3 (by decide) (fun c_3 => ?_) (fun c_3 => ?_)
  · refine lv_aload_n hx hb dX4_figure_16 rfl (lv_at hl 0 rfl) ?_
    refine va_get (D := (dC, dI)) (ci := 4) (v := .ref (A 1)) (C := RX4) (T := TX4) (N := 8) hx hb hts inX4 hown hK hP 0 rfl rfl 0 (by decide) (hts (.fieldLink RX4 10 "BoardMetronomes" "now" "LBoardMetronomes$Bench;") (by decide +kernel)) (fun _ h9 => h9) rfl dX4_figure_17 ?_
    refine lv_iload_n hx hb dX4_figure_20 rfl (lv_at hl 1 rfl) ?_
    refine kc_v (As := [.int p0]) (rest := []) S (v := .int (f_figureOf un p0)) (c_X0_figureOf l dC dI cI cZ cO (A 1) (Q 1) un p0) gX4_figure_X0_figureOf mi_X0_figureOf ⟨rfl, rfl⟩ ⟨Nat.le_of_ble_eq_true rfl, Nat.le_of_ble_eq_true rfl⟩ hK (XW_p_un hP) 0 rfl rfl ⟨Nat.le_refl _, Nat.le_refl _⟩ dX4_figure_21 rfl hl.1 rfl (Nat.le_of_ble_eq_true rfl) ?_
    have r1 : f_Xfigure fl un ut u0 u1 sv x r p0 = f_figureOf un p0 := by
      rw [f_Xfigure, if_neg c_3]
    exact kr_i hx hb hr hlk dX4_figure_24 r1.symm
  · refine lv_aload_n hx hb dX4_figure_6 rfl (lv_at hl 0 rfl) ?_
    refine va_get (D := (dC, dI)) (ci := 4) (v := .ref (A 6)) (C := RX4) (T := TX4) (N := 8) hx hb hts inX4 hown hK hP 0 rfl rfl 5 (by decide) (hts (.fieldLink RX4 32 "BoardMetronomes" "saved" "LBoardMetronomes$SavedStates;") (by decide +kernel)) (fun _ h9 => h9) rfl dX4_figure_7 ?_
    refine kc_v (As := []) (rest := []) S (v := .int (f_Ssize sv)) (c_X2_size l dC dI cI cZ cO A Q sv) gX4_figure_X2_size mi_X2_size ⟨rfl, rfl⟩ ⟨Nat.le_of_ble_eq_true rfl, Nat.le_of_ble_eq_true rfl⟩ hK (XW_p_S hP) 0 rfl rfl ⟨Nat.le_refl _, Nat.le_refl _⟩ dX4_figure_10 rfl hl.1 rfl (Nat.le_of_ble_eq_true rfl) ?_
    refine lv_goto (tgt := 24) hx hb dX4_figure_13 (by decide) ?_
    have r2 : f_Xfigure fl un ut u0 u1 sv x r p0 = f_Ssize sv := by
      rw [f_Xfigure, if_pos c_3]
    exact kr_i hx hb hr hlk dX4_figure_24 r2.symm

def rm_X4_tryOut : Room := { frames := 4, cells := 0, slots := 0, locals := 88 }
theorem mi_X4_tryOut : kM yX4_tryOut wsX4_tryOut cX4_tryOut 4 none 2 := ⟨⟨_, rfl⟩, by decide, by decide, by decide +kernel⟩
def f_XtryOut_L23 (fl : (Nat → Int32)) (un : BS) (ut : BS) (u0 : BS) (u1 : BS) (sv : SS) (x : BS) (r : BS) (p0 : Int32) (p1 : Int32) (j0 : Nat) (x0 : BS) : BS := (f_step x0)
def f_XtryOut (fl : (Nat → Int32)) (un : BS) (ut : BS) (u0 : BS) (u1 : BS) (sv : SS) (x : BS) (r : BS) (p0 : Int32) (p1 : Int32) : BS := it p0.toNatClampNeg (f_XtryOut_L23 fl un ut u0 u1 sv x r p0 p1) ((f_changeSetting (f_copyFrom ut un) (1 : Int32) p1).2)
set_option maxHeartbeats 1000000 in
set_option maxRecDepth 100000 in
theorem c_X4_tryOut (l : Launch) (dC : Nat → ClassId) (dI : Nat → Nat → Nat) (cI cZ cO : ClassId) (A : Nat → Nat) (Q : Nat → Nat → Nat) (fl : (Nat → Int32)) (un : BS) (ut : BS) (u0 : BS) (u1 : BS) (sv : SS) (x : BS) (r : BS) (p0 : Int32) (p1 : Int32) (sz : Nat) : Met l yX4_tryOut wsX4_tryOut rm_X4_tryOut (va_Pc [.ref (A 0), .int p0, .int p1] (fun U => U.heap.size = sz ∧ va_P (dC, dI) vwCl (XW cI cZ cO A Q fl un ut u0 u1 sv x r) U.heap ∧ va_K (dC, dI) vwCl (TY cI cZ cO) U ∧ va_D (fun _ => True) (XW cI cZ cO A Q fl un ut u0 u1 sv x r))) (kQw none (dC, dI) vwCl (XW cI cZ cO A Q fl un (f_XtryOut fl un ut u0 u1 sv x r p0 p1) u0 u1 sv x r) (va_A (XW cI cZ cO A Q fl un ut u0 u1 sv x r) sz)) 0 0 (va_A (XW cI cZ cO A Q fl un ut u0 u1 sv x r) sz) := by
  refine kofW (cc := cX4_tryOut) (maxL := 4) (ret := none) (by decide) rfl (Nat.le_of_ble_eq_true rfl) ?_
  intro p e s m args below meth c ls S hr hlk hnm hsz hP hK hD hS hA hl
  generalize hA0 : va_A (XW cI cZ cO A Q fl un ut u0 u1 sv x r) sz = A0 at hD hS hA ⊢
  subst hsz
  obtain ⟨hx, hb, hml, hown, hts⟩ := id S
  have inX4 : ∀ w ∈ wsX40, w ∈ wsX4_tryOut := fun w h => List.mem_cons_of_mem _ (List.mem_append_left _ (List.mem_append_right _ h))
  have hl : lv_has ls 4 [(0, .ref (A 0)), (1, .int p0), (2, .int p1)] := hl
  refine lv_aload_n hx hb dX4_tryOut_0 rfl (lv_at hl 0 rfl) ?_
  refine va_get (D := (dC, dI)) (ci := 4) (v := .ref (A 2)) (C := RX4) (T := TX4) (N := 8) hx hb hts inX4 hown hK hP 0 rfl rfl 1 (by decide) (hts (.fieldLink RX4 16 "BoardMetronomes" "trial" "LBoardMetronomes$Bench;") (by decide +kernel)) (fun _ h9 => h9) rfl dX4_tryOut_1 ?_
  refine lv_aload_n hx hb dX4_tryOut_4 rfl (lv_at hl 0 rfl) ?_
  refine va_get (D := (dC, dI)) (ci := 4) (v := .ref (A 1)) (C := RX4) (T := TX4) (N := 8) hx hb hts inX4 hown hK hP 0 rfl rfl 0 (by decide) (hts (.fieldLink RX4 10 "BoardMetronomes" "now" "LBoardMetronomes$Bench;") (by decide +kernel)) (fun _ h9 => h9) rfl dX4_tryOut_5 ?_
  refine kc_w (As := [.ref (A 1)]) (rest := []) S (v := none) (c_X0_copyFrom l dC dI cI cZ cO (A 2) (A 1) (Q 2) (Q 1) ut un s.heap.size) gX4_tryOut_X0_copyFrom mi_X0_copyFrom ⟨rfl, rfl⟩ ⟨Nat.le_of_ble_eq_true rfl, Nat.le_of_ble_eq_true rfl⟩ hK hP hD hS hA [8, 9, 10, 11, 12, 13, 2, 3, 4, 5, 6, 7] XW_all_ut_un BW2_fst rfl 0 rfl rfl ⟨Nat.le_refl _, Nat.le_refl _⟩ dX4_tryOut_8 rfl hl.1 rfl (Nat.le_of_ble_eq_true rfl) (fun H locs hP hD hS => ?_)
  have hP : va_P (dC, dI) vwCl (XW cI cZ cO A Q fl un (f_copyFrom ut un) u0 u1 sv x r) H := Eq.mp (congrArg (fun w => va_P (dC, dI) vwCl w H) XW_ks_ut_un) hP
  have hD : va_D A0 (XW cI cZ cO A Q fl un (f_copyFrom ut un) u0 u1 sv x r) := Eq.mp (congrArg (fun w => va_D A0 w) XW_ks_ut_un) hD
  refine lv_aload_n hx hb dX4_tryOut_11 rfl (lv_at hl 0 rfl) ?_
  refine va_get (D := (dC, dI)) (ci := 4) (v := .ref (A 2)) (C := RX4) (T := TX4) (N := 8) hx hb hts inX4 hown hK hP 0 rfl rfl 1 (by decide) (hts (.fieldLink RX4 16 "BoardMetronomes" "trial" "LBoardMetronomes$Bench;") (by decide +kernel)) (fun _ h9 => h9) rfl dX4_tryOut_12 ?_
  refine lv_iconst (v := (1 : Int32)) hx hb dX4_tryOut_15 (by decide) ?_
  refine lv_iload_n hx hb dX4_tryOut_16 rfl (lv_at hl 2 rfl) ?_
  refine kc_w (As := [.int (1 : Int32), .int p1]) (rest := []) S (v := (some (.int ((f_changeSetting (f_copyFrom ut un) (1 : Int32) p1).1)))) (c_X0_changeSetting l dC dI cI cZ cO (A 2) (Q 2) (f_copyFrom ut un) (1 : Int32) p1 H.size) gX4_tryOut_X0_changeSetting mi_X0_changeSetting ⟨rfl, rfl⟩ ⟨Nat.le_of_ble_eq_true rfl, Nat.le_of_ble_eq_true rfl⟩ hK hP hD hS hA [8, 9, 10, 11, 12, 13] XW_all_ut BW_fst rfl 0 rfl rfl ⟨Nat.le_refl _, Nat.le_refl _⟩ dX4_tryOut_17 rfl hl.1 rfl (Nat.le_of_ble_eq_true rfl) (fun H locs hP hD hS => ?_)
  have hP : va_P (dC, dI) vwCl (XW cI cZ cO A Q fl un ((f_changeSetting (f_copyFrom ut un) (1 : Int32) p1).2) u0 u1 sv x r) H := Eq.mp (congrArg (fun w => va_P (dC, dI) vwCl w H) XW_ks_ut) hP
  have hD : va_D A0 (XW cI cZ cO A Q fl un ((f_changeSetting (f_copyFrom ut un) (1 : Int32) p1).2) u0 u1 sv x r) := Eq.mp (congrArg (fun w => va_D A0 w) XW_ks_ut) hD
  refine lv_pop hx hb dX4_tryOut_20 rfl ?_
  refine lv_iconst (v := (0 : Int32)) hx hb dX4_tryOut_21 (by decide) ?_
  refine lv_istore_n (lv' := [(3, .int (0 : Int32)), (0, .ref (A 0)), (1, .int p0), (2, .int p1)]) hx hb dX4_tryOut_22 rfl hl (by decide) rfl (fun ls hl => ?_)
  have L1 : ∀ (n j0 : Nat), j0 + n = p0.toNatClampNeg → ∀ (H : Heap) (locs : List Loc) (ls : Array Slot), va_P (dC, dI) vwCl (XW cI cZ cO A Q fl un (it j0 (f_XtryOut_L23 fl un ut u0 u1 sv x r p0 p1) ((f_changeSetting (f_copyFrom ut un) (1 : Int32) p1).2)) u0 u1 sv x r) H → va_D A0 (XW cI cZ cO A Q fl un (it j0 (f_XtryOut_L23 fl un ut u0 u1 sv x r p0 p1) ((f_changeSetting (f_copyFrom ut un) (1 : Int32) p1).2)) u0 u1 sv x r) → va_S A0 s.heap H locs → lv_has ls 4 [(0, .ref (A 0)), (1, .int p0), (2, .int p1), (3, .int (nI j0))] → W p l e rm_X4_tryOut s m args below meth c H locs 0 0 (MQ below (kQw none (dC, dI) vwCl (XW cI cZ cO A Q fl un (f_XtryOut fl un ut u0 u1 sv x r p0 p1) u0 u1 sv x r) A0) args s 0 0 A0) (F0 m 23 ls []) := by
    intro n
    induction n with
    | zero =>
      intro j0 hj1 H locs ls hP hD hS hl
      obtain rfl : j0 = p0.toNatClampNeg := by omega
      refine lv_iload_n hx hb dX4_tryOut_23 rfl (lv_at hl 3 rfl) ?_
      refine lv_iload_n hx hb dX4_tryOut_24 rfl (lv_at hl 1 rfl) ?_
      refine lv_icmp_ge (tgt := 41) hx hb dX4_tryOut_25 (by decide) (fun c_25 => ?_) (fun c_25 => ?_)
      · have r2 : f_XtryOut fl un ut u0 u1 sv x r p0 p1 = it p0.toNatClampNeg (f_XtryOut_L23 fl un ut u0 u1 sv x r p0 p1) ((f_changeSetting (f_copyFrom ut un) (1 : Int32) p1).2) := by
          rw [f_XtryOut]
        exact kw_v hx hb hr hlk hP hS dX4_tryOut_41 (by rw [r2])
      · exact absurd (kn_ge p0) c_25
    | succ n ih1 =>
      intro j0 hj1 H locs ls hP hD hS hl
      refine lv_iload_n hx hb dX4_tryOut_23 rfl (lv_at hl 3 rfl) ?_
      refine lv_iload_n hx hb dX4_tryOut_24 rfl (lv_at hl 1 rfl) ?_
      refine lv_icmp_ge (tgt := 41) hx hb dX4_tryOut_25 (by decide) (fun c_25 => ?_) (fun c_25 => ?_)
      · exact absurd c_25 (kn_lt (b := p0) (by omega))
      · refine lv_aload_n hx hb dX4_tryOut_28 rfl (lv_at hl 0 rfl) ?_
        refine va_get (D := (dC, dI)) (ci := 4) (v := .ref (A 2)) (C := RX4) (T := TX4) (N := 8) hx hb hts inX4 hown hK hP 0 rfl rfl 1 (by decide) (hts (.fieldLink RX4 16 "BoardMetronomes" "trial" "LBoardMetronomes$Bench;") (by decide +kernel)) (fun _ h9 => h9) rfl dX4_tryOut_29 ?_
        refine kc_w (As := []) (rest := []) S (v := none) (c_X0_step l dC dI cI cZ cO (A 2) (Q 2) (it j0 (f_XtryOut_L23 fl un ut u0 u1 sv x r p0 p1) ((f_changeSetting (f_copyFrom ut un) (1 : Int32) p1).2)) H.size) gX4_tryOut_X0_step mi_X0_step ⟨rfl, rfl⟩ ⟨Nat.le_of_ble_eq_true rfl, Nat.le_of_ble_eq_true rfl⟩ hK hP hD hS hA [8, 9, 10, 11, 12, 13] XW_all_ut BW_fst rfl 0 rfl rfl ⟨Nat.le_refl _, Nat.le_refl _⟩ dX4_tryOut_32 rfl hl.1 rfl (Nat.le_of_ble_eq_true rfl) (fun H locs hP hD hS => ?_)
        have hP : va_P (dC, dI) vwCl (XW cI cZ cO A Q fl un (f_step (it j0 (f_XtryOut_L23 fl un ut u0 u1 sv x r p0 p1) ((f_changeSetting (f_copyFrom ut un) (1 : Int32) p1).2))) u0 u1 sv x r) H := Eq.mp (congrArg (fun w => va_P (dC, dI) vwCl w H) XW_ks_ut) hP
        have hD : va_D A0 (XW cI cZ cO A Q fl un (f_step (it j0 (f_XtryOut_L23 fl un ut u0 u1 sv x r p0 p1) ((f_changeSetting (f_copyFrom ut un) (1 : Int32) p1).2))) u0 u1 sv x r) := Eq.mp (congrArg (fun w => va_D A0 w) XW_ks_ut) hD
        refine lv_iinc (v := nI (j0 + 1)) (lv' := [(3, .int (nI (j0 + 1))), (0, .ref (A 0)), (1, .int p0), (2, .int p1)]) hx hb dX4_tryOut_35 hl (k := 3) rfl (nI_add j0 1) (by decide) rfl (fun ls hl => ?_)
        refine lv_goto (tgt := 23) hx hb dX4_tryOut_38 (by decide) ?_
        have b3 : f_XtryOut_L23 fl un ut u0 u1 sv x r p0 p1 j0 (it j0 (f_XtryOut_L23 fl un ut u0 u1 sv x r p0 p1) ((f_changeSetting (f_copyFrom ut un) (1 : Int32) p1).2)) = (f_step (it j0 (f_XtryOut_L23 fl un ut u0 u1 sv x r p0 p1) ((f_changeSetting (f_copyFrom ut un) (1 : Int32) p1).2))) := by
          rw [f_XtryOut_L23]
        have e3 : it (j0 + 1) (f_XtryOut_L23 fl un ut u0 u1 sv x r p0 p1) ((f_changeSetting (f_copyFrom ut un) (1 : Int32) p1).2) = (f_step (it j0 (f_XtryOut_L23 fl un ut u0 u1 sv x r p0 p1) ((f_changeSetting (f_copyFrom ut un) (1 : Int32) p1).2))) := (it_s _ _ _).trans b3
        exact ih1 (j0 + 1) (by omega) H locs ls (by rw [e3]; exact hP) (by rw [e3]; exact hD) hS (lv_sub hl [1, 2, 3, 0] rfl)
  exact L1 p0.toNatClampNeg 0 (by omega) H locs ls hP hD hS (lv_sub hl [1, 2, 3, 0] rfl)

def rm_X4_outcome : Room := { frames := 4, cells := 0, slots := 0, locals := 87 }
theorem mi_X4_outcome : kM yX4_outcome wsX4_outcome cX4_outcome 2 (some .int) 1 := ⟨⟨_, rfl⟩, by decide, by decide, by decide +kernel⟩
def f_Xoutcome (fl : (Nat → Int32)) (un : BS) (ut : BS) (u0 : BS) (u1 : BS) (sv : SS) (x : BS) (r : BS) (p0 : Int32) : Int32 := if p0 = (0 : Int32) then ((f_allTicks ut) - (f_allTicks un)) else if p0 = (1 : Int32) then (f_order ut) else if p0 = (2 : Int32) then (f_greatestDistance ut) else if p0 = (3 : Int32) then (f_going ut) else (f_stepsTogether ut) - (f_stepsTogether un)
set_option maxHeartbeats 1000000 in
set_option maxRecDepth 100000 in
theorem c_X4_outcome (l : Launch) (dC : Nat → ClassId) (dI : Nat → Nat → Nat) (cI cZ cO : ClassId) (A : Nat → Nat) (Q : Nat → Nat → Nat) (fl : (Nat → Int32)) (un : BS) (ut : BS) (u0 : BS) (u1 : BS) (sv : SS) (x : BS) (r : BS) (p0 : Int32) : Met l yX4_outcome wsX4_outcome rm_X4_outcome (va_Pc [.ref (A 0), .int p0] (fun U => va_P (dC, dI) vwCl (XW cI cZ cO A Q fl un ut u0 u1 sv x r) U.heap ∧ va_K (dC, dI) vwCl (TY cI cZ cO) U)) (kQ (some (.int (f_Xoutcome fl un ut u0 u1 sv x r p0)))) 0 0 (fun _ => False) := by
  refine kofR (cc := cX4_outcome) (maxL := 2) (ret := some .int) (by decide) rfl (Nat.le_of_ble_eq_true rfl) ?_
  intro p e s m args below meth c ls S hr hlk hP hK hl
  obtain ⟨hx, hb, hml, hown, hts⟩ := id S
  have inX4 : ∀ w ∈ wsX40, w ∈ wsX4_outcome := fun w h => List.mem_cons_of_mem _ (List.mem_append_left _ (List.mem_append_right _ h))
  have hl : lv_has ls 2 [(0, .ref (A 0)), (1, .int p0)] := hl
  refine lv_iload_n hx hb dX4_outcome_0 rfl (lv_at hl 1 rfl) ?_
  by_cases c_1_0 : p0 = (0 : Int32)
  · refine lv_tableIn (off := 31) (tgt := 32) hx hb dX4_outcome_1 (by rw [c_1_0]; decide) (by rw [c_1_0]; decide) (by rw [c_1_0]; rfl) (by decide) ?_
    refine lv_aload_n hx hb dX4_outcome_32 rfl (lv_at hl 0 rfl) ?_
    refine va_get (D := (dC, dI)) (ci := 4) (v := .ref (A 2)) (C := RX4) (T := TX4) (N := 8) hx hb hts inX4 hown hK hP 0 rfl rfl 1 (by decide) (hts (.fieldLink RX4 16 "BoardMetronomes" "trial" "LBoardMetronomes$Bench;") (by decide +kernel)) (fun _ h9 => h9) rfl dX4_outcome_33 ?_
    refine kc_v (As := []) (rest := []) S (v := .int (f_allTicks ut)) (c_X0_allTicks l dC dI cI cZ cO (A 2) (Q 2) ut) gX4_outcome_X0_allTicks mi_X0_allTicks ⟨rfl, rfl⟩ ⟨Nat.le_of_ble_eq_true rfl, Nat.le_of_ble_eq_true rfl⟩ hK (XW_p_ut hP) 0 rfl rfl ⟨Nat.le_refl _, Nat.le_refl _⟩ dX4_outcome_36 rfl hl.1 rfl (Nat.le_of_ble_eq_true rfl) ?_
    refine lv_aload_n hx hb dX4_outcome_39 rfl (lv_at hl 0 rfl) ?_
    refine va_get (D := (dC, dI)) (ci := 4) (v := .ref (A 1)) (C := RX4) (T := TX4) (N := 8) hx hb hts inX4 hown hK hP 0 rfl rfl 0 (by decide) (hts (.fieldLink RX4 10 "BoardMetronomes" "now" "LBoardMetronomes$Bench;") (by decide +kernel)) (fun _ h9 => h9) rfl dX4_outcome_40 ?_
    refine kc_v (As := []) (rest := [.int (f_allTicks ut)]) S (v := .int (f_allTicks un)) (c_X0_allTicks l dC dI cI cZ cO (A 1) (Q 1) un) gX4_outcome_X0_allTicks mi_X0_allTicks ⟨rfl, rfl⟩ ⟨Nat.le_of_ble_eq_true rfl, Nat.le_of_ble_eq_true rfl⟩ hK (XW_p_un hP) 0 rfl rfl ⟨Nat.le_refl _, Nat.le_refl _⟩ dX4_outcome_43 rfl hl.1 rfl (Nat.le_of_ble_eq_true rfl) ?_
    refine lv_isub hx hb dX4_outcome_46 ?_
    have r1 : f_Xoutcome fl un ut u0 u1 sv x r p0 = (f_allTicks ut) - (f_allTicks un) := by
      rw [f_Xoutcome, if_pos c_1_0]
    exact kr_i hx hb hr hlk dX4_outcome_47 r1.symm
  by_cases c_1_1 : p0 = (1 : Int32)
  · refine lv_tableIn (off := 47) (tgt := 48) hx hb dX4_outcome_1 (by rw [c_1_1]; decide) (by rw [c_1_1]; decide) (by rw [c_1_1]; rfl) (by decide) ?_
    refine lv_aload_n hx hb dX4_outcome_48 rfl (lv_at hl 0 rfl) ?_
    refine va_get (D := (dC, dI)) (ci := 4) (v := .ref (A 2)) (C := RX4) (T := TX4) (N := 8) hx hb hts inX4 hown hK hP 0 rfl rfl 1 (by decide) (hts (.fieldLink RX4 16 "BoardMetronomes" "trial" "LBoardMetronomes$Bench;") (by decide +kernel)) (fun _ h9 => h9) rfl dX4_outcome_49 ?_
    refine kc_v (As := []) (rest := []) S (v := .int (f_order ut)) (c_X0_order l dC dI cI cZ cO (A 2) (Q 2) ut) gX4_outcome_X0_order mi_X0_order ⟨rfl, rfl⟩ ⟨Nat.le_of_ble_eq_true rfl, Nat.le_of_ble_eq_true rfl⟩ hK (XW_p_ut hP) 0 rfl rfl ⟨Nat.le_refl _, Nat.le_refl _⟩ dX4_outcome_52 rfl hl.1 rfl (Nat.le_of_ble_eq_true rfl) ?_
    have r2 : f_Xoutcome fl un ut u0 u1 sv x r p0 = f_order ut := by
      rw [f_Xoutcome, if_neg c_1_0, if_pos c_1_1]
    exact kr_i hx hb hr hlk dX4_outcome_55 r2.symm
  by_cases c_1_2 : p0 = (2 : Int32)
  · refine lv_tableIn (off := 55) (tgt := 56) hx hb dX4_outcome_1 (by rw [c_1_2]; decide) (by rw [c_1_2]; decide) (by rw [c_1_2]; rfl) (by decide) ?_
    refine lv_aload_n hx hb dX4_outcome_56 rfl (lv_at hl 0 rfl) ?_
    refine va_get (D := (dC, dI)) (ci := 4) (v := .ref (A 2)) (C := RX4) (T := TX4) (N := 8) hx hb hts inX4 hown hK hP 0 rfl rfl 1 (by decide) (hts (.fieldLink RX4 16 "BoardMetronomes" "trial" "LBoardMetronomes$Bench;") (by decide +kernel)) (fun _ h9 => h9) rfl dX4_outcome_57 ?_
    refine kc_v (As := []) (rest := []) S (v := .int (f_greatestDistance ut)) (c_X0_greatestDistance l dC dI cI cZ cO (A 2) (Q 2) ut) gX4_outcome_X0_greatestDistance mi_X0_greatestDistance ⟨rfl, rfl⟩ ⟨Nat.le_of_ble_eq_true rfl, Nat.le_of_ble_eq_true rfl⟩ hK (XW_p_ut hP) 0 rfl rfl ⟨Nat.le_refl _, Nat.le_refl _⟩ dX4_outcome_60 rfl hl.1 rfl (Nat.le_of_ble_eq_true rfl) ?_
    have r3 : f_Xoutcome fl un ut u0 u1 sv x r p0 = f_greatestDistance ut := by
      rw [f_Xoutcome, if_neg c_1_0, if_neg c_1_1, if_pos c_1_2]
    exact kr_i hx hb hr hlk dX4_outcome_63 r3.symm
  by_cases c_1_3 : p0 = (3 : Int32)
  · refine lv_tableIn (off := 63) (tgt := 64) hx hb dX4_outcome_1 (by rw [c_1_3]; decide) (by rw [c_1_3]; decide) (by rw [c_1_3]; rfl) (by decide) ?_
    refine lv_aload_n hx hb dX4_outcome_64 rfl (lv_at hl 0 rfl) ?_
    refine va_get (D := (dC, dI)) (ci := 4) (v := .ref (A 2)) (C := RX4) (T := TX4) (N := 8) hx hb hts inX4 hown hK hP 0 rfl rfl 1 (by decide) (hts (.fieldLink RX4 16 "BoardMetronomes" "trial" "LBoardMetronomes$Bench;") (by decide +kernel)) (fun _ h9 => h9) rfl dX4_outcome_65 ?_
    refine kc_v (As := []) (rest := []) S (v := .int (f_going ut)) (c_X0_going l dC dI cI cZ cO (A 2) (Q 2) ut) gX4_outcome_X0_going mi_X0_going ⟨rfl, rfl⟩ ⟨Nat.le_of_ble_eq_true rfl, Nat.le_of_ble_eq_true rfl⟩ hK (XW_p_ut hP) 0 rfl rfl ⟨Nat.le_refl _, Nat.le_refl _⟩ dX4_outcome_68 rfl hl.1 rfl (Nat.le_of_ble_eq_true rfl) ?_
    have r4 : f_Xoutcome fl un ut u0 u1 sv x r p0 = f_going ut := by
      rw [f_Xoutcome, if_neg c_1_0, if_neg c_1_1, if_neg c_1_2, if_pos c_1_3]
    exact kr_i hx hb hr hlk dX4_outcome_71 r4.symm
  refine lv_tableOut (tgt := 72) hx hb dX4_outcome_1 (by have e_0 := lv_neT c_1_0 (a := 0) (by decide); have e_1 := lv_neT c_1_1 (a := 1) (by decide); have e_2 := lv_neT c_1_2 (a := 2) (by decide); have e_3 := lv_neT c_1_3 (a := 3) (by decide); omega) (by decide) ?_
  refine lv_aload_n hx hb dX4_outcome_72 rfl (lv_at hl 0 rfl) ?_
  refine va_get (D := (dC, dI)) (ci := 4) (v := .ref (A 2)) (C := RX4) (T := TX4) (N := 8) hx hb hts inX4 hown hK hP 0 rfl rfl 1 (by decide) (hts (.fieldLink RX4 16 "BoardMetronomes" "trial" "LBoardMetronomes$Bench;") (by decide +kernel)) (fun _ h9 => h9) rfl dX4_outcome_73 ?_
  refine kc_v (As := []) (rest := []) S (v := .int (f_stepsTogether ut)) (c_X0_stepsTogether l dC dI cI cZ cO (A 2) (Q 2) ut) gX4_outcome_X0_stepsTogether mi_X0_stepsTogether ⟨rfl, rfl⟩ ⟨Nat.le_of_ble_eq_true rfl, Nat.le_of_ble_eq_true rfl⟩ hK (XW_p_ut hP) 0 rfl rfl ⟨Nat.le_refl _, Nat.le_refl _⟩ dX4_outcome_76 rfl hl.1 rfl (Nat.le_of_ble_eq_true rfl) ?_
  refine lv_aload_n hx hb dX4_outcome_79 rfl (lv_at hl 0 rfl) ?_
  refine va_get (D := (dC, dI)) (ci := 4) (v := .ref (A 1)) (C := RX4) (T := TX4) (N := 8) hx hb hts inX4 hown hK hP 0 rfl rfl 0 (by decide) (hts (.fieldLink RX4 10 "BoardMetronomes" "now" "LBoardMetronomes$Bench;") (by decide +kernel)) (fun _ h9 => h9) rfl dX4_outcome_80 ?_
  refine kc_v (As := []) (rest := [.int (f_stepsTogether ut)]) S (v := .int (f_stepsTogether un)) (c_X0_stepsTogether l dC dI cI cZ cO (A 1) (Q 1) un) gX4_outcome_X0_stepsTogether mi_X0_stepsTogether ⟨rfl, rfl⟩ ⟨Nat.le_of_ble_eq_true rfl, Nat.le_of_ble_eq_true rfl⟩ hK (XW_p_un hP) 0 rfl rfl ⟨Nat.le_refl _, Nat.le_refl _⟩ dX4_outcome_83 rfl hl.1 rfl (Nat.le_of_ble_eq_true rfl) ?_
  refine lv_isub hx hb dX4_outcome_86 ?_
  have r5 : f_Xoutcome fl un ut u0 u1 sv x r p0 = (f_stepsTogether ut) - (f_stepsTogether un) := by
    rw [f_Xoutcome, if_neg c_1_0, if_neg c_1_1, if_neg c_1_2, if_neg c_1_3]
  exact kr_i hx hb hr hlk dX4_outcome_87 r5.symm

def rm_X4_strengthOfGreatestOrder : Room := { frames := 5, cells := 0, slots := 0, locals := 111 }
def f_XstrengthOfGreatestOrder_L7 (fl : (Nat → Int32)) (un : BS) (ut : BS) (u0 : BS) (u1 : BS) (sv : SS) (x : BS) (r : BS) (p0 : Int32) (j0 : Nat) (x0 : (Int32 × Int32 × BS)) : Int32 × Int32 × BS := if (f_order (f_XtryOut fl un x0.2.2 u0 u1 sv x r p0 (nI (5 * j0)))) ≤ x0.2.1 then (x0.1, x0.2.1, (f_XtryOut fl un x0.2.2 u0 u1 sv x r p0 (nI (5 * j0)))) else (nI (5 * j0), f_order (f_XtryOut fl un x0.2.2 u0 u1 sv x r p0 (nI (5 * j0))), (f_XtryOut fl un x0.2.2 u0 u1 sv x r p0 (nI (5 * j0))))
def f_XstrengthOfGreatestOrder (fl : (Nat → Int32)) (un : BS) (ut : BS) (u0 : BS) (u1 : BS) (sv : SS) (x : BS) (r : BS) (p0 : Int32) : Int32 × BS := ((it 20 (f_XstrengthOfGreatestOrder_L7 fl un ut u0 u1 sv x r p0) ((0 : Int32), (-1 : Int32), ut)).1, (it 20 (f_XstrengthOfGreatestOrder_L7 fl un ut u0 u1 sv x r p0) ((0 : Int32), (-1 : Int32), ut)).2.2)
def rm_X4_stepsUntilStopped : Room := { frames := 4, cells := 0, slots := 0, locals := 88 }
def f_XstepsUntilStopped_R13 (fl : (Nat → Int32)) (un : BS) (ut : BS) (u0 : BS) (u1 : BS) (sv : SS) (x : BS) (r : BS) (p0 : Int32) : Nat → Nat → BS → Int32 × BS
  | 0, j13_, y13_0 => ((-1 : Int32), y13_0)
  | n + 1, j13_, y13_0 => if (f_goes y13_0 p0) = true then (f_XstepsUntilStopped_R13 fl un ut u0 u1 sv x r p0 n (j13_ + 1) (f_step y13_0)) else (nI j13_, y13_0)
def f_XstepsUntilStopped (fl : (Nat → Int32)) (un : BS) (ut : BS) (u0 : BS) (u1 : BS) (sv : SS) (x : BS) (r : BS) (p0 : Int32) : Int32 × BS := f_XstepsUntilStopped_R13 fl un ut u0 u1 sv x r p0 501 0 (f_copyFrom ut un)
def rm_X4_untilStep : Room := { frames := 4, cells := 0, slots := 0, locals := 88 }
def f_XuntilStep_R13 (fl : (Nat → Int32)) (un : BS) (ut : BS) (u0 : BS) (u1 : BS) (sv : SS) (x : BS) (r : BS) : Nat → Nat → BS → Int32 × BS
  | 0, j13_, y13_0 => ((-1 : Int32), y13_0)
  | n + 1, j13_, y13_0 => if (f_isInStep y13_0) = true then (nI j13_, y13_0) else f_XuntilStep_R13 fl un ut u0 u1 sv x r n (j13_ + 1) (f_step y13_0)
def f_XuntilStep (fl : (Nat → Int32)) (un : BS) (ut : BS) (u0 : BS) (u1 : BS) (sv : SS) (x : BS) (r : BS) : Int32 × BS := f_XuntilStep_R13 fl un ut u0 u1 sv x r 501 0 (f_copyFrom ut un)
def rm_X4_farthest : Room := { frames := 3, cells := 0, slots := 0, locals := 69 }
theorem mi_X4_farthest : kM yX4_farthest wsX4_farthest cX4_farthest 2 (some .int) 1 := ⟨⟨_, rfl⟩, by decide, by decide, by decide +kernel⟩
def f_Xfarthest (fl : (Nat → Int32)) (un : BS) (ut : BS) (u0 : BS) (u1 : BS) (sv : SS) (x : BS) (r : BS) (p0 : Bool) : Int32 := f_farthestOfGoing un p0
set_option maxHeartbeats 1000000 in
set_option maxRecDepth 100000 in
theorem c_X4_farthest (l : Launch) (dC : Nat → ClassId) (dI : Nat → Nat → Nat) (cI cZ cO : ClassId) (A : Nat → Nat) (Q : Nat → Nat → Nat) (fl : (Nat → Int32)) (un : BS) (ut : BS) (u0 : BS) (u1 : BS) (sv : SS) (x : BS) (r : BS) (p0 : Bool) : Met l yX4_farthest wsX4_farthest rm_X4_farthest (va_Pc [.ref (A 0), .int (bI p0)] (fun U => va_P (dC, dI) vwCl (XW cI cZ cO A Q fl un ut u0 u1 sv x r) U.heap ∧ va_K (dC, dI) vwCl (TY cI cZ cO) U)) (kQ (some (.int (f_Xfarthest fl un ut u0 u1 sv x r p0)))) 0 0 (fun _ => False) := by
  refine kofR (cc := cX4_farthest) (maxL := 2) (ret := some .int) (by decide) rfl (Nat.le_of_ble_eq_true rfl) ?_
  intro p e s m args below meth c ls S hr hlk hP hK hl
  obtain ⟨hx, hb, hml, hown, hts⟩ := id S
  have inX4 : ∀ w ∈ wsX40, w ∈ wsX4_farthest := fun w h => List.mem_cons_of_mem _ (List.mem_append_left _ (List.mem_append_right _ h))
  have hl : lv_has ls 2 [(0, .ref (A 0)), (1, .int (bI p0))] := hl
  refine lv_aload_n hx hb dX4_farthest_0 rfl (lv_at hl 0 rfl) ?_
  refine va_get (D := (dC, dI)) (ci := 4) (v := .ref (A 1)) (C := RX4) (T := TX4) (N := 8) hx hb hts inX4 hown hK hP 0 rfl rfl 0 (by decide) (hts (.fieldLink RX4 10 "BoardMetronomes" "now" "LBoardMetronomes$Bench;") (by decide +kernel)) (fun _ h9 => h9) rfl dX4_farthest_1 ?_
  refine lv_iload_n hx hb dX4_farthest_4 rfl (lv_at hl 1 rfl) ?_
  refine kc_v (As := [.int (bI p0)]) (rest := []) S (v := .int (f_farthestOfGoing un p0)) (c_X0_farthestOfGoing l dC dI cI cZ cO (A 1) (Q 1) un p0) gX4_farthest_X0_farthestOfGoing mi_X0_farthestOfGoing ⟨rfl, rfl⟩ ⟨Nat.le_of_ble_eq_true rfl, Nat.le_of_ble_eq_true rfl⟩ hK (XW_p_un hP) 0 rfl rfl ⟨Nat.le_refl _, Nat.le_refl _⟩ dX4_farthest_5 rfl hl.1 rfl (Nat.le_of_ble_eq_true rfl) ?_
  have r1 : f_Xfarthest fl un ut u0 u1 sv x r p0 = f_farthestOfGoing un p0 := by
    rw [f_Xfarthest]
  exact kr_i hx hb hr hlk dX4_farthest_8 r1.symm

def rm_X4_withDistances : Room := { frames := 2, cells := 0, slots := 0, locals := 44 }
def f_XwithDistances_L23 (fl : (Nat → Int32)) (un : BS) (ut : BS) (u0 : BS) (u1 : BS) (sv : SS) (x : BS) (r : BS) (p0 : Int64) (j0 : Nat) (x0 : Int64) (j1 : Nat) (x1 : Int64) : Int64 := ((31 : Int64) * x1) + ((f_distance un (nI j0) (nI (j0 + 1 + j1))).toInt64)
def f_XwithDistances_L5 (fl : (Nat → Int32)) (un : BS) (ut : BS) (u0 : BS) (u1 : BS) (sv : SS) (x : BS) (r : BS) (p0 : Int64) (j0 : Nat) (x0 : Int64) : Int64 := it (((f_size un).toNatClampNeg) - (j0 + 1)) (f_XwithDistances_L23 fl un ut u0 u1 sv x r p0 j0 x0) x0
def f_XwithDistances (fl : (Nat → Int32)) (un : BS) (ut : BS) (u0 : BS) (u1 : BS) (sv : SS) (x : BS) (r : BS) (p0 : Int64) : Int64 := it ((f_size un).toNatClampNeg) (f_XwithDistances_L5 fl un ut u0 u1 sv x r p0) p0
def rm_X4_withArms : Room := { frames := 5, cells := 0, slots := 0, locals := 110 }
def f_XwithArms_L20 (fl : (Nat → Int32)) (un : BS) (ut : BS) (u0 : BS) (u1 : BS) (sv : SS) (x : BS) (r : BS) (p0 : Int64) (j0 : Nat) (x0 : Int64 × BS) (j1 : Nat) (x1 : Int64) : Int64 := ((31 : Int64) * x1) + ((f_property un (nI j0) (nI j1)).toInt64)
def f_XwithArms_L5 (fl : (Nat → Int32)) (un : BS) (ut : BS) (u0 : BS) (u1 : BS) (sv : SS) (x : BS) (r : BS) (p0 : Int64) (j0 : Nat) (x0 : (Int64 × BS)) : Int64 × BS := (((31 : Int64) * (it 9 (f_XwithArms_L20 fl un ut u0 u1 sv x r p0 j0 x0) x0.1)) + (((f_XstepsUntilStopped fl un x0.2 u0 u1 sv x r (nI j0)).1).toInt64), (f_XstepsUntilStopped fl un x0.2 u0 u1 sv x r (nI j0)).2)
def f_XwithArms (fl : (Nat → Int32)) (un : BS) (ut : BS) (u0 : BS) (u1 : BS) (sv : SS) (x : BS) (r : BS) (p0 : Int64) : Int64 × BS := ((it ((f_size un).toNatClampNeg) (f_XwithArms_L5 fl un ut u0 u1 sv x r p0) (p0, ut)).1, (it ((f_size un).toNatClampNeg) (f_XwithArms_L5 fl un ut u0 u1 sv x r p0) (p0, ut)).2)
def rm_X4_withSlotsAndText : Room := { frames := 1, cells := 0, slots := 0, locals := 21 }
def f_XwithSlotsAndText_L5 (fl : (Nat → Int32)) (un : BS) (ut : BS) (u0 : BS) (u1 : BS) (sv : SS) (x : BS) (r : BS) (p0 : Int64) (j0 : Nat) (x0 : Int64) : Int64 := if (fl j0) = 0 then (((31 : Int64) * x0) + ((0 : Int32).toInt64)) else ((31 : Int64) * x0) + ((1 : Int32).toInt64)
def f_XwithSlotsAndText_L58 (fl : (Nat → Int32)) (un : BS) (ut : BS) (u0 : BS) (u1 : BS) (sv : SS) (x : BS) (r : BS) (p0 : Int64) (j0 : Nat) (x0 : Int64) : Int64 := ((31 : Int64) * x0) + ((f_TsignAt x (nI j0)).toInt64)
def f_XwithSlotsAndText (fl : (Nat → Int32)) (un : BS) (ut : BS) (u0 : BS) (u1 : BS) (sv : SS) (x : BS) (r : BS) (p0 : Int64) : Int64 := it ((f_Tsize x).toNatClampNeg) (f_XwithSlotsAndText_L58 fl un ut u0 u1 sv x r p0) (((31 : Int64) * (it 2 (f_XwithSlotsAndText_L5 fl un ut u0 u1 sv x r p0) p0)) + ((f_Tsize x).toInt64))
def rm_X4_readText : Room := { frames := 3, cells := 0, slots := 0, locals := 68 }
def f_XreadText_R9 (fl : (Nat → Int32)) (un : BS) (ut : BS) (u0 : BS) (u1 : BS) (sv : SS) (x : BS) (r : BS) : Nat → Nat → BS → Int32 × BS
  | 0, j9_, y9_0 => (f_Tsize x, y9_0)
  | n + 1, j9_, y9_0 => if ((f_Rreads y9_0 (f_TsignAt x (nI j9_))).1) = true then (f_XreadText_R9 fl un ut u0 u1 sv x r n (j9_ + 1) ((f_Rreads y9_0 (f_TsignAt x (nI j9_))).2)) else (nI j9_, (f_Rreads y9_0 (f_TsignAt x (nI j9_))).2)
def f_XreadText (fl : (Nat → Int32)) (un : BS) (ut : BS) (u0 : BS) (u1 : BS) (sv : SS) (x : BS) (r : BS) : Int32 × BS := f_XreadText_R9 fl un ut u0 u1 sv x r ((f_Tsize x).toNatClampNeg) 0 (f_RbeginText r)
def rm_X4_tellsBench : Room := { frames := 4, cells := 0, slots := 0, locals := 89 }
def f_XtellsBench (fl : (Nat → Int32)) (un : BS) (ut : BS) (u0 : BS) (u1 : BS) (sv : SS) (x : BS) (r : BS) : Bool × BS := if ((f_XreadText fl un ut u0 u1 sv x r).1) = (f_Tsize x) then (if ((f_Rreads ((f_XreadText fl un ut u0 u1 sv x r).2) (59 : Int32)).1) = true then (true, (f_Rreads ((f_XreadText fl un ut u0 u1 sv x r).2) (59 : Int32)).2) else (false, (f_Rreads ((f_XreadText fl un ut u0 u1 sv x r).2) (59 : Int32)).2)) else (false, (f_XreadText fl un ut u0 u1 sv x r).2)
def rm_X4_readsEndOfOrder : Room := { frames := 3, cells := 0, slots := 0, locals := 68 }
def f_XreadsEndOfOrder (fl : (Nat → Int32)) (un : BS) (ut : BS) (u0 : BS) (u1 : BS) (sv : SS) (x : BS) (r : BS) (p0 : Int32) : Bool × BS := if (f_Tsize x) ≤ p0 then (if ((f_Rreads r (59 : Int32)).1) = true then (true, (f_Rreads r (59 : Int32)).2) else (false, (f_Rreads r (59 : Int32)).2)) else if ((f_Rreads r (f_TsignAt x p0)).1) = true then (if (f_TsignAt x p0) = (59 : Int32) then (true, (f_Rreads r (f_TsignAt x p0)).2) else (false, (f_Rreads r (f_TsignAt x p0)).2)) else (false, (f_Rreads r (f_TsignAt x p0)).2)
def rm_X4_doOrder : Room := { frames := 5, cells := 0, slots := 0, locals := 111 }
def f_XdoOrder (fl : (Nat → Int32)) (un : BS) (ut : BS) (u0 : BS) (u1 : BS) (sv : SS) (x : BS) (r : BS) : Bool × BS := if (f_Rkind r) = (109 : Int32) then (if (f_isFull un) = true then (false, un) else (true, (f_add un (f_Rbeat r) (f_Rphase r) (f_Rspring r)).2)) else if (f_Rkind r) = (115 : Int32) then (if (f_hasTimeFor un (f_Rnumber r)) = true then (true, (f_letGoBy un (f_Rnumber r)).2) else (false, un)) else if (f_has un (f_Rnumber r)) = true then (true, (f_holdOrLetGo un (f_Rnumber r)).2) else (false, un)
def rm_X4_metronome : Room := { frames := 6, cells := 1, slots := 6, locals := 82 }
theorem mi_X4_metronome : kM yX4_metronome wsX4_metronome cX4_metronome 4 (some .int) 3 := ⟨⟨_, rfl⟩, by decide, by decide, by decide +kernel⟩
def f_Xmetronome (fl : (Nat → Int32)) (un : BS) (ut : BS) (u0 : BS) (u1 : BS) (sv : SS) (x : BS) (r : BS) (p0 : Int32) (p1 : Int32) (p2 : Int32) : Except (Nat × BS) (Int32 × BS × SS) := if (f_XisBeat p0) = true then (if (f_XisWithin p1 (0 : Int32) (3599 : Int32)) = true then (if (f_XisSpring p2) = true then (if (f_isFull un) = true then (.error (2, r)) else .ok ((f_add un p0 p1 p2).1, (f_add un p0 p1 p2).2, (f_Spush sv.1 sv.2.1 sv.2.2 un))) else .error (1, r)) else .error (1, r)) else .error (1, r)
set_option maxHeartbeats 1000000 in
set_option maxRecDepth 100000 in
theorem c_X4_metronome (l : Launch) (hst : l.stackTraces = false) (dC : Nat → ClassId) (dI : Nat → Nat → Nat) (cI cZ cO : ClassId) (A : Nat → Nat) (Q : Nat → Nat → Nat) (fl : (Nat → Int32)) (un : BS) (ut : BS) (u0 : BS) (u1 : BS) (sv : SS) (x : BS) (r : BS) (p0 : Int32) (p1 : Int32) (p2 : Int32) (sz : Nat) (hS1 : sv.1 < 6) (hS2 : sv.2.1 ≤ 6) : vx_Met l yX4_metronome wsX4_metronome rm_X4_metronome (va_Pc [.ref (A 0), .int p0, .int p1, .int p2] (fun U => U.heap.size = sz ∧ va_P (dC, dI) vwCl (XW cI cZ cO A Q fl un ut u0 u1 sv x r) U.heap ∧ va_K (dC, dI) vwCl (TY cI cZ cO) U ∧ va_D (fun _ => True) (XW cI cZ cO A Q fl un ut u0 u1 sv x r) ∧ XT (va_A (XW cI cZ cO A Q fl un ut u0 u1 sv x r) sz) U)) (kQx (f_Xmetronome fl un ut u0 u1 sv x r p0 p1 p2) (fun z => kQw (some (.int z.1)) (dC, dI) vwCl (XW cI cZ cO A Q fl z.2.1 ut u0 u1 z.2.2 x r) (va_A (XW cI cZ cO A Q fl un ut u0 u1 sv x r) sz))) (xC (f_Xmetronome fl un ut u0 u1 sv x r p0 p1 p2) (dC, dI) vwCl (fun r1 => XW cI cZ cO A Q fl un ut u0 u1 sv x r1) (va_A (XW cI cZ cO A Q fl un ut u0 u1 sv x r) sz)) 1 6 (va_A (XW cI cZ cO A Q fl un ut u0 u1 sv x r) sz) := by
  refine kofX (cc := cX4_metronome) (maxL := 4) (ret := some .int) (by decide) rfl (Nat.le_of_ble_eq_true rfl) ?_
  intro p e s m args below meth c ls S hr hlk hnm hsz hP hK hD hS hA hX htab hl
  generalize hA0 : va_A (XW cI cZ cO A Q fl un ut u0 u1 sv x r) sz = A0 at hD hS hA hX ⊢
  subst hsz
  obtain ⟨hx, hb, hml, hown, hts⟩ := id S
  have inX4 : ∀ w ∈ wsX40, w ∈ wsX4_metronome := fun w h => List.mem_cons_of_mem _ (List.mem_append_left _ (List.mem_append_left _ (List.mem_append_left _ (List.mem_append_left _ (List.mem_append_right _ h)))))
  have hl : lv_has ls 4 [(0, .ref (A 0)), (1, .int p0), (2, .int p1), (3, .int p2)] := hl
  refine lv_iload_n hx hb dX4_metronome_0 rfl (lv_at hl 1 rfl) ?_
  refine kc_p (y := yX4_isBeat) (As := [.int p0]) (rest := []) rfl S (v := .int (bI (f_XisBeat p0))) (c_X4_isBeat l p0) gX4_metronome_X4_isBeat mi_X4_isBeat ⟨rfl, rfl⟩ ⟨Nat.le_of_ble_eq_true rfl, Nat.le_of_ble_eq_true rfl⟩ ⟨Nat.zero_le _, Nat.zero_le _⟩ dX4_metronome_1 rfl hl.1 rfl (Nat.le_of_ble_eq_true rfl) ?_
  refine kb_eq (tgt := 25) hx hb dX4_metronome_4 (by decide) (fun c_4 => ?_) (fun c_4 => ?_)
  · have r1 : f_Xmetronome fl un ut u0 u1 sv x r p0 p1 p2 = .error (1, r) := by
      rw [f_Xmetronome, if_neg c_4]
    exact kx_thr (k := 1) (r1 := r) (W1 := XW cI cZ cO A Q fl un ut u0 u1 sv x r) (text := "beat, phase or spring is out of range") hx hb hst hown hlk (hml.trans hl.1.symm) htab (by decide) (hts (.classLink RX4 61 "java/lang/IllegalArgumentException") (by decide +kernel)) (hts (.initialized "java/lang/IllegalArgumentException") (by decide +kernel)) (fun w h => hts w ((fun w h => List.mem_cons_of_mem _ (List.mem_append_left _ (List.mem_append_right _ h))) w h)) hX (by decide) hS hP rfl dX4_metronome_25 dX4_metronome_28 dX4_metronome_29 dX4_metronome_31 dX4_metronome_34 (Nat.le_of_ble_eq_true rfl) (Nat.le_of_ble_eq_true rfl) (Nat.le_of_ble_eq_true rfl) (Nat.le_of_ble_eq_true rfl) (Nat.le_of_ble_eq_true rfl) (Nat.le_of_ble_eq_true rfl) r1
  · refine lv_iload_n hx hb dX4_metronome_7 rfl (lv_at hl 2 rfl) ?_
    refine lv_iconst (v := (0 : Int32)) hx hb dX4_metronome_8 (by decide) ?_
    refine lv_sipush (v := (3599 : Int32)) hx hb dX4_metronome_9 (by decide) ?_
    refine kc_p (y := yX4_isWithin) (As := [.int p1, .int (0 : Int32), .int (3599 : Int32)]) (rest := []) rfl S (v := .int (bI (f_XisWithin p1 (0 : Int32) (3599 : Int32)))) (c_X4_isWithin l p1 (0 : Int32) (3599 : Int32)) gX4_metronome_X4_isWithin mi_X4_isWithin ⟨rfl, rfl⟩ ⟨Nat.le_of_ble_eq_true rfl, Nat.le_of_ble_eq_true rfl⟩ ⟨Nat.zero_le _, Nat.zero_le _⟩ dX4_metronome_12 rfl hl.1 rfl (Nat.le_of_ble_eq_true rfl) ?_
    refine kb_eq (tgt := 25) hx hb dX4_metronome_15 (by decide) (fun c_15 => ?_) (fun c_15 => ?_)
    · have r2 : f_Xmetronome fl un ut u0 u1 sv x r p0 p1 p2 = .error (1, r) := by
        rw [f_Xmetronome, if_pos c_4, if_neg c_15]
      exact kx_thr (k := 1) (r1 := r) (W1 := XW cI cZ cO A Q fl un ut u0 u1 sv x r) (text := "beat, phase or spring is out of range") hx hb hst hown hlk (hml.trans hl.1.symm) htab (by decide) (hts (.classLink RX4 61 "java/lang/IllegalArgumentException") (by decide +kernel)) (hts (.initialized "java/lang/IllegalArgumentException") (by decide +kernel)) (fun w h => hts w ((fun w h => List.mem_cons_of_mem _ (List.mem_append_left _ (List.mem_append_right _ h))) w h)) hX (by decide) hS hP rfl dX4_metronome_25 dX4_metronome_28 dX4_metronome_29 dX4_metronome_31 dX4_metronome_34 (Nat.le_of_ble_eq_true rfl) (Nat.le_of_ble_eq_true rfl) (Nat.le_of_ble_eq_true rfl) (Nat.le_of_ble_eq_true rfl) (Nat.le_of_ble_eq_true rfl) (Nat.le_of_ble_eq_true rfl) r2
    · refine lv_iload_n hx hb dX4_metronome_18 rfl (lv_at hl 3 rfl) ?_
      refine kc_p (y := yX4_isSpring) (As := [.int p2]) (rest := []) rfl S (v := .int (bI (f_XisSpring p2))) (c_X4_isSpring l p2) gX4_metronome_X4_isSpring mi_X4_isSpring ⟨rfl, rfl⟩ ⟨Nat.le_of_ble_eq_true rfl, Nat.le_of_ble_eq_true rfl⟩ ⟨Nat.zero_le _, Nat.zero_le _⟩ dX4_metronome_19 rfl hl.1 rfl (Nat.le_of_ble_eq_true rfl) ?_
      refine kb_ne (tgt := 35) hx hb dX4_metronome_22 (by decide) (fun c_22 => ?_) (fun c_22 => ?_)
      · refine lv_aload_n hx hb dX4_metronome_35 rfl (lv_at hl 0 rfl) ?_
        refine va_get (D := (dC, dI)) (ci := 4) (v := .ref (A 1)) (C := RX4) (T := TX4) (N := 8) hx hb hts inX4 hown hK hP 0 rfl rfl 0 (by decide) (hts (.fieldLink RX4 10 "BoardMetronomes" "now" "LBoardMetronomes$Bench;") (by decide +kernel)) (fun _ h9 => h9) rfl dX4_metronome_36 ?_
        refine kc_v (As := []) (rest := []) S (v := .int (bI (f_isFull un))) (c_X0_isFull l dC dI cI cZ cO (A 1) (Q 1) un) gX4_metronome_X0_isFull mi_X0_isFull ⟨rfl, rfl⟩ ⟨Nat.le_of_ble_eq_true rfl, Nat.le_of_ble_eq_true rfl⟩ hK (XW_p_un hP) 0 rfl rfl ⟨Nat.zero_le _, Nat.zero_le _⟩ dX4_metronome_39 rfl hl.1 rfl (Nat.le_of_ble_eq_true rfl) ?_
        refine kb_eq (tgt := 55) hx hb dX4_metronome_42 (by decide) (fun c_42 => ?_) (fun c_42 => ?_)
        · refine lv_aload_n hx hb dX4_metronome_55 rfl (lv_at hl 0 rfl) ?_
          refine va_get (D := (dC, dI)) (ci := 4) (v := .ref (A 6)) (C := RX4) (T := TX4) (N := 8) hx hb hts inX4 hown hK hP 0 rfl rfl 5 (by decide) (hts (.fieldLink RX4 32 "BoardMetronomes" "saved" "LBoardMetronomes$SavedStates;") (by decide +kernel)) (fun _ h9 => h9) rfl dX4_metronome_56 ?_
          refine lv_aload_n hx hb dX4_metronome_59 rfl (lv_at hl 0 rfl) ?_
          refine va_get (D := (dC, dI)) (ci := 4) (v := .ref (A 1)) (C := RX4) (T := TX4) (N := 8) hx hb hts inX4 hown hK hP 0 rfl rfl 0 (by decide) (hts (.fieldLink RX4 10 "BoardMetronomes" "now" "LBoardMetronomes$Bench;") (by decide +kernel)) (fun _ h9 => h9) rfl dX4_metronome_60 ?_
          refine kc_w (As := [.ref (A 1)]) (rest := []) S (v := none) (c_X2_push l dC dI cI cZ cO A Q (A 1) (Q 1) sv.1 sv.2.1 sv.2.2 un s.heap.size hS1 hS2) gX4_metronome_X2_push mi_X2_push ⟨rfl, rfl⟩ ⟨Nat.le_of_ble_eq_true rfl, Nat.le_of_ble_eq_true rfl⟩ hK hP hD hS hA [26, 27, 28, 29, 30, 31, 32, 33, 34, 35, 36, 37, 38, 39, 40, 41, 42, 43, 44, 45, 46, 47, 48, 49, 50, 51, 52, 53, 54, 55, 56, 57, 58, 59, 60, 61, 62, 63, 2, 3, 4, 5, 6, 7] XW_all_S_un SWB_fst rfl 0 rfl rfl ⟨Nat.zero_le _, Nat.zero_le _⟩ dX4_metronome_63 rfl hl.1 rfl (Nat.le_of_ble_eq_true rfl) (fun H locs hP hD hS => ?_)
          have hP : va_P (dC, dI) vwCl (XW cI cZ cO A Q fl un ut u0 u1 (f_Spush sv.1 sv.2.1 sv.2.2 un) x r) H := Eq.mp (congrArg (fun w => va_P (dC, dI) vwCl w H) XW_ks_S_un) hP
          have hD : va_D A0 (XW cI cZ cO A Q fl un ut u0 u1 (f_Spush sv.1 sv.2.1 sv.2.2 un) x r) := Eq.mp (congrArg (fun w => va_D A0 w) XW_ks_S_un) hD
          refine lv_aload_n hx hb dX4_metronome_66 rfl (lv_at hl 0 rfl) ?_
          refine va_get (D := (dC, dI)) (ci := 4) (v := .ref (A 1)) (C := RX4) (T := TX4) (N := 8) hx hb hts inX4 hown hK hP 0 rfl rfl 0 (by decide) (hts (.fieldLink RX4 10 "BoardMetronomes" "now" "LBoardMetronomes$Bench;") (by decide +kernel)) (fun _ h9 => h9) rfl dX4_metronome_67 ?_
          refine lv_iload_n hx hb dX4_metronome_70 rfl (lv_at hl 1 rfl) ?_
          refine lv_iload_n hx hb dX4_metronome_71 rfl (lv_at hl 2 rfl) ?_
          refine lv_iload_n hx hb dX4_metronome_72 rfl (lv_at hl 3 rfl) ?_
          refine kc_w (As := [.int p0, .int p1, .int p2]) (rest := []) S (v := (some (.int ((f_add un p0 p1 p2).1)))) (c_X0_add l dC dI cI cZ cO (A 1) (Q 1) un p0 p1 p2 H.size) gX4_metronome_X0_add mi_X0_add ⟨rfl, rfl⟩ ⟨Nat.le_of_ble_eq_true rfl, Nat.le_of_ble_eq_true rfl⟩ hK hP hD hS hA [2, 3, 4, 5, 6, 7] XW_all_un BW_fst rfl 0 rfl rfl ⟨Nat.zero_le _, Nat.zero_le _⟩ dX4_metronome_73 rfl hl.1 rfl (Nat.le_of_ble_eq_true rfl) (fun H locs hP hD hS => ?_)
          have hP : va_P (dC, dI) vwCl (XW cI cZ cO A Q fl ((f_add un p0 p1 p2).2) ut u0 u1 (f_Spush sv.1 sv.2.1 sv.2.2 un) x r) H := Eq.mp (congrArg (fun w => va_P (dC, dI) vwCl w H) XW_ks_un) hP
          have hD : va_D A0 (XW cI cZ cO A Q fl ((f_add un p0 p1 p2).2) ut u0 u1 (f_Spush sv.1 sv.2.1 sv.2.2 un) x r) := Eq.mp (congrArg (fun w => va_D A0 w) XW_ks_un) hD
          have r3 : f_Xmetronome fl un ut u0 u1 sv x r p0 p1 p2 = .ok ((f_add un p0 p1 p2).1, (f_add un p0 p1 p2).2, (f_Spush sv.1 sv.2.1 sv.2.2 un)) := by
            rw [f_Xmetronome, if_pos c_4, if_pos c_15, if_pos c_22, if_neg c_42]
          exact kx_ret r3 (kw_i hx hb hr hlk hP hS dX4_metronome_76 rfl rfl) (Nat.zero_le _) (Nat.zero_le _)
        · have r4 : f_Xmetronome fl un ut u0 u1 sv x r p0 p1 p2 = .error (2, r) := by
            rw [f_Xmetronome, if_pos c_4, if_pos c_15, if_pos c_22, if_pos c_42]
          exact kx_thr (k := 2) (r1 := r) (W1 := XW cI cZ cO A Q fl un ut u0 u1 sv x r) (text := "there are 6 metronomes") hx hb hst hown hlk (hml.trans hl.1.symm) htab (by decide) (hts (.classLink RX4 72 "java/lang/IllegalStateException") (by decide +kernel)) (hts (.initialized "java/lang/IllegalStateException") (by decide +kernel)) (fun w h => hts w ((fun w h => List.mem_cons_of_mem _ (List.mem_append_right _ h)) w h)) hX (by decide) hS hP rfl dX4_metronome_45 dX4_metronome_48 dX4_metronome_49 dX4_metronome_51 dX4_metronome_54 (Nat.le_of_ble_eq_true rfl) (Nat.le_of_ble_eq_true rfl) (Nat.le_of_ble_eq_true rfl) (Nat.le_of_ble_eq_true rfl) (Nat.le_of_ble_eq_true rfl) (Nat.le_of_ble_eq_true rfl) r4
      · have r5 : f_Xmetronome fl un ut u0 u1 sv x r p0 p1 p2 = .error (1, r) := by
          rw [f_Xmetronome, if_pos c_4, if_pos c_15, if_neg c_22]
        exact kx_thr (k := 1) (r1 := r) (W1 := XW cI cZ cO A Q fl un ut u0 u1 sv x r) (text := "beat, phase or spring is out of range") hx hb hst hown hlk (hml.trans hl.1.symm) htab (by decide) (hts (.classLink RX4 61 "java/lang/IllegalArgumentException") (by decide +kernel)) (hts (.initialized "java/lang/IllegalArgumentException") (by decide +kernel)) (fun w h => hts w ((fun w h => List.mem_cons_of_mem _ (List.mem_append_left _ (List.mem_append_right _ h))) w h)) hX (by decide) hS hP rfl dX4_metronome_25 dX4_metronome_28 dX4_metronome_29 dX4_metronome_31 dX4_metronome_34 (Nat.le_of_ble_eq_true rfl) (Nat.le_of_ble_eq_true rfl) (Nat.le_of_ble_eq_true rfl) (Nat.le_of_ble_eq_true rfl) (Nat.le_of_ble_eq_true rfl) (Nat.le_of_ble_eq_true rfl) r5

def rm_X4_weigh : Room := { frames := 6, cells := 1, slots := 6, locals := 82 }
theorem mi_X4_weigh : kM yX4_weigh wsX4_weigh cX4_weigh 3 (some .int) 2 := ⟨⟨_, rfl⟩, by decide, by decide, by decide +kernel⟩
def f_Xweigh (fl : (Nat → Int32)) (un : BS) (ut : BS) (u0 : BS) (u1 : BS) (sv : SS) (x : BS) (r : BS) (p0 : Int32) (p1 : Int32) : Except (Nat × BS) (Int32 × BS × SS) := if (f_has un p0) = true then (if (f_XisBeat p1) = true then (.ok ((f_changeBeat un p0 p1).1, (f_changeBeat un p0 p1).2, (f_Spush sv.1 sv.2.1 sv.2.2 un))) else .error (1, r)) else .error (3, r)
set_option maxHeartbeats 1000000 in
set_option maxRecDepth 100000 in
theorem c_X4_weigh (l : Launch) (hst : l.stackTraces = false) (dC : Nat → ClassId) (dI : Nat → Nat → Nat) (cI cZ cO : ClassId) (A : Nat → Nat) (Q : Nat → Nat → Nat) (fl : (Nat → Int32)) (un : BS) (ut : BS) (u0 : BS) (u1 : BS) (sv : SS) (x : BS) (r : BS) (p0 : Int32) (p1 : Int32) (sz : Nat) (hS1 : sv.1 < 6) (hS2 : sv.2.1 ≤ 6) : vx_Met l yX4_weigh wsX4_weigh rm_X4_weigh (va_Pc [.ref (A 0), .int p0, .int p1] (fun U => U.heap.size = sz ∧ va_P (dC, dI) vwCl (XW cI cZ cO A Q fl un ut u0 u1 sv x r) U.heap ∧ va_K (dC, dI) vwCl (TY cI cZ cO) U ∧ va_D (fun _ => True) (XW cI cZ cO A Q fl un ut u0 u1 sv x r) ∧ XT (va_A (XW cI cZ cO A Q fl un ut u0 u1 sv x r) sz) U)) (kQx (f_Xweigh fl un ut u0 u1 sv x r p0 p1) (fun z => kQw (some (.int z.1)) (dC, dI) vwCl (XW cI cZ cO A Q fl z.2.1 ut u0 u1 z.2.2 x r) (va_A (XW cI cZ cO A Q fl un ut u0 u1 sv x r) sz))) (xC (f_Xweigh fl un ut u0 u1 sv x r p0 p1) (dC, dI) vwCl (fun r1 => XW cI cZ cO A Q fl un ut u0 u1 sv x r1) (va_A (XW cI cZ cO A Q fl un ut u0 u1 sv x r) sz)) 1 6 (va_A (XW cI cZ cO A Q fl un ut u0 u1 sv x r) sz) := by
  refine kofX (cc := cX4_weigh) (maxL := 3) (ret := some .int) (by decide) rfl (Nat.le_of_ble_eq_true rfl) ?_
  intro p e s m args below meth c ls S hr hlk hnm hsz hP hK hD hS hA hX htab hl
  generalize hA0 : va_A (XW cI cZ cO A Q fl un ut u0 u1 sv x r) sz = A0 at hD hS hA hX ⊢
  subst hsz
  obtain ⟨hx, hb, hml, hown, hts⟩ := id S
  have inX4 : ∀ w ∈ wsX40, w ∈ wsX4_weigh := fun w h => List.mem_cons_of_mem _ (List.mem_append_left _ (List.mem_append_left _ (List.mem_append_left _ (List.mem_append_left _ (List.mem_append_right _ h)))))
  have hl : lv_has ls 3 [(0, .ref (A 0)), (1, .int p0), (2, .int p1)] := hl
  refine lv_aload_n hx hb dX4_weigh_0 rfl (lv_at hl 0 rfl) ?_
  refine va_get (D := (dC, dI)) (ci := 4) (v := .ref (A 1)) (C := RX4) (T := TX4) (N := 8) hx hb hts inX4 hown hK hP 0 rfl rfl 0 (by decide) (hts (.fieldLink RX4 10 "BoardMetronomes" "now" "LBoardMetronomes$Bench;") (by decide +kernel)) (fun _ h9 => h9) rfl dX4_weigh_1 ?_
  refine lv_iload_n hx hb dX4_weigh_4 rfl (lv_at hl 1 rfl) ?_
  refine kc_v (As := [.int p0]) (rest := []) S (v := .int (bI (f_has un p0))) (c_X0_has l dC dI cI cZ cO (A 1) (Q 1) un p0) gX4_weigh_X0_has mi_X0_has ⟨rfl, rfl⟩ ⟨Nat.le_of_ble_eq_true rfl, Nat.le_of_ble_eq_true rfl⟩ hK (XW_p_un hP) 0 rfl rfl ⟨Nat.zero_le _, Nat.zero_le _⟩ dX4_weigh_5 rfl hl.1 rfl (Nat.le_of_ble_eq_true rfl) ?_
  refine kb_ne (tgt := 21) hx hb dX4_weigh_8 (by decide) (fun c_8 => ?_) (fun c_8 => ?_)
  · refine lv_iload_n hx hb dX4_weigh_21 rfl (lv_at hl 2 rfl) ?_
    refine kc_p (y := yX4_isBeat) (As := [.int p1]) (rest := []) rfl S (v := .int (bI (f_XisBeat p1))) (c_X4_isBeat l p1) gX4_weigh_X4_isBeat mi_X4_isBeat ⟨rfl, rfl⟩ ⟨Nat.le_of_ble_eq_true rfl, Nat.le_of_ble_eq_true rfl⟩ ⟨Nat.zero_le _, Nat.zero_le _⟩ dX4_weigh_22 rfl hl.1 rfl (Nat.le_of_ble_eq_true rfl) ?_
    refine kb_ne (tgt := 38) hx hb dX4_weigh_25 (by decide) (fun c_25 => ?_) (fun c_25 => ?_)
    · refine lv_aload_n hx hb dX4_weigh_38 rfl (lv_at hl 0 rfl) ?_
      refine va_get (D := (dC, dI)) (ci := 4) (v := .ref (A 6)) (C := RX4) (T := TX4) (N := 8) hx hb hts inX4 hown hK hP 0 rfl rfl 5 (by decide) (hts (.fieldLink RX4 32 "BoardMetronomes" "saved" "LBoardMetronomes$SavedStates;") (by decide +kernel)) (fun _ h9 => h9) rfl dX4_weigh_39 ?_
      refine lv_aload_n hx hb dX4_weigh_42 rfl (lv_at hl 0 rfl) ?_
      refine va_get (D := (dC, dI)) (ci := 4) (v := .ref (A 1)) (C := RX4) (T := TX4) (N := 8) hx hb hts inX4 hown hK hP 0 rfl rfl 0 (by decide) (hts (.fieldLink RX4 10 "BoardMetronomes" "now" "LBoardMetronomes$Bench;") (by decide +kernel)) (fun _ h9 => h9) rfl dX4_weigh_43 ?_
      refine kc_w (As := [.ref (A 1)]) (rest := []) S (v := none) (c_X2_push l dC dI cI cZ cO A Q (A 1) (Q 1) sv.1 sv.2.1 sv.2.2 un s.heap.size hS1 hS2) gX4_weigh_X2_push mi_X2_push ⟨rfl, rfl⟩ ⟨Nat.le_of_ble_eq_true rfl, Nat.le_of_ble_eq_true rfl⟩ hK hP hD hS hA [26, 27, 28, 29, 30, 31, 32, 33, 34, 35, 36, 37, 38, 39, 40, 41, 42, 43, 44, 45, 46, 47, 48, 49, 50, 51, 52, 53, 54, 55, 56, 57, 58, 59, 60, 61, 62, 63, 2, 3, 4, 5, 6, 7] XW_all_S_un SWB_fst rfl 0 rfl rfl ⟨Nat.zero_le _, Nat.zero_le _⟩ dX4_weigh_46 rfl hl.1 rfl (Nat.le_of_ble_eq_true rfl) (fun H locs hP hD hS => ?_)
      have hP : va_P (dC, dI) vwCl (XW cI cZ cO A Q fl un ut u0 u1 (f_Spush sv.1 sv.2.1 sv.2.2 un) x r) H := Eq.mp (congrArg (fun w => va_P (dC, dI) vwCl w H) XW_ks_S_un) hP
      have hD : va_D A0 (XW cI cZ cO A Q fl un ut u0 u1 (f_Spush sv.1 sv.2.1 sv.2.2 un) x r) := Eq.mp (congrArg (fun w => va_D A0 w) XW_ks_S_un) hD
      refine lv_aload_n hx hb dX4_weigh_49 rfl (lv_at hl 0 rfl) ?_
      refine va_get (D := (dC, dI)) (ci := 4) (v := .ref (A 1)) (C := RX4) (T := TX4) (N := 8) hx hb hts inX4 hown hK hP 0 rfl rfl 0 (by decide) (hts (.fieldLink RX4 10 "BoardMetronomes" "now" "LBoardMetronomes$Bench;") (by decide +kernel)) (fun _ h9 => h9) rfl dX4_weigh_50 ?_
      refine lv_iload_n hx hb dX4_weigh_53 rfl (lv_at hl 1 rfl) ?_
      refine lv_iload_n hx hb dX4_weigh_54 rfl (lv_at hl 2 rfl) ?_
      refine kc_w (As := [.int p0, .int p1]) (rest := []) S (v := (some (.int ((f_changeBeat un p0 p1).1)))) (c_X0_changeBeat l dC dI cI cZ cO (A 1) (Q 1) un p0 p1 H.size) gX4_weigh_X0_changeBeat mi_X0_changeBeat ⟨rfl, rfl⟩ ⟨Nat.le_of_ble_eq_true rfl, Nat.le_of_ble_eq_true rfl⟩ hK hP hD hS hA [2, 3, 4, 5, 6, 7] XW_all_un BW_fst rfl 0 rfl rfl ⟨Nat.zero_le _, Nat.zero_le _⟩ dX4_weigh_55 rfl hl.1 rfl (Nat.le_of_ble_eq_true rfl) (fun H locs hP hD hS => ?_)
      have hP : va_P (dC, dI) vwCl (XW cI cZ cO A Q fl ((f_changeBeat un p0 p1).2) ut u0 u1 (f_Spush sv.1 sv.2.1 sv.2.2 un) x r) H := Eq.mp (congrArg (fun w => va_P (dC, dI) vwCl w H) XW_ks_un) hP
      have hD : va_D A0 (XW cI cZ cO A Q fl ((f_changeBeat un p0 p1).2) ut u0 u1 (f_Spush sv.1 sv.2.1 sv.2.2 un) x r) := Eq.mp (congrArg (fun w => va_D A0 w) XW_ks_un) hD
      have r1 : f_Xweigh fl un ut u0 u1 sv x r p0 p1 = .ok ((f_changeBeat un p0 p1).1, (f_changeBeat un p0 p1).2, (f_Spush sv.1 sv.2.1 sv.2.2 un)) := by
        rw [f_Xweigh, if_pos c_8, if_pos c_25]
      exact kx_ret r1 (kw_i hx hb hr hlk hP hS dX4_weigh_58 rfl rfl) (Nat.zero_le _) (Nat.zero_le _)
    · have r2 : f_Xweigh fl un ut u0 u1 sv x r p0 p1 = .error (1, r) := by
        rw [f_Xweigh, if_pos c_8, if_neg c_25]
      exact kx_thr (k := 1) (r1 := r) (W1 := XW cI cZ cO A Q fl un ut u0 u1 sv x r) (text := "beat is out of range") hx hb hst hown hlk (hml.trans hl.1.symm) htab (by decide) (hts (.classLink RX4 61 "java/lang/IllegalArgumentException") (by decide +kernel)) (hts (.initialized "java/lang/IllegalArgumentException") (by decide +kernel)) (fun w h => hts w ((fun w h => List.mem_cons_of_mem _ (List.mem_append_right _ h)) w h)) hX (by decide) hS hP rfl dX4_weigh_28 dX4_weigh_31 dX4_weigh_32 dX4_weigh_34 dX4_weigh_37 (Nat.le_of_ble_eq_true rfl) (Nat.le_of_ble_eq_true rfl) (Nat.le_of_ble_eq_true rfl) (Nat.le_of_ble_eq_true rfl) (Nat.le_of_ble_eq_true rfl) (Nat.le_of_ble_eq_true rfl) r2
  · have r3 : f_Xweigh fl un ut u0 u1 sv x r p0 p1 = .error (3, r) := by
      rw [f_Xweigh, if_neg c_8]
    exact kx_thr (k := 3) (r1 := r) (W1 := XW cI cZ cO A Q fl un ut u0 u1 sv x r) (text := "no such metronome") hx hb hst hown hlk (hml.trans hl.1.symm) htab (by decide) (hts (.classLink RX4 88 "java/lang/IndexOutOfBoundsException") (by decide +kernel)) (hts (.initialized "java/lang/IndexOutOfBoundsException") (by decide +kernel)) (fun w h => hts w ((fun w h => List.mem_cons_of_mem _ (List.mem_append_left _ (List.mem_append_right _ h))) w h)) hX (by decide) hS hP rfl dX4_weigh_11 dX4_weigh_14 dX4_weigh_15 dX4_weigh_17 dX4_weigh_20 (Nat.le_of_ble_eq_true rfl) (Nat.le_of_ble_eq_true rfl) (Nat.le_of_ble_eq_true rfl) (Nat.le_of_ble_eq_true rfl) (Nat.le_of_ble_eq_true rfl) (Nat.le_of_ble_eq_true rfl) r3

def rm_X4_wind : Room := { frames := 6, cells := 1, slots := 6, locals := 82 }
theorem mi_X4_wind : kM yX4_wind wsX4_wind cX4_wind 3 (some .int) 2 := ⟨⟨_, rfl⟩, by decide, by decide, by decide +kernel⟩
def f_Xwind (fl : (Nat → Int32)) (un : BS) (ut : BS) (u0 : BS) (u1 : BS) (sv : SS) (x : BS) (r : BS) (p0 : Int32) (p1 : Int32) : Except (Nat × BS) (Int32 × BS × SS) := if (f_has un p0) = true then (if (f_XisSpring p1) = true then (.ok ((f_changeSpring un p0 p1).1, (f_changeSpring un p0 p1).2, (f_Spush sv.1 sv.2.1 sv.2.2 un))) else .error (1, r)) else .error (3, r)
set_option maxHeartbeats 1000000 in
set_option maxRecDepth 100000 in
theorem c_X4_wind (l : Launch) (hst : l.stackTraces = false) (dC : Nat → ClassId) (dI : Nat → Nat → Nat) (cI cZ cO : ClassId) (A : Nat → Nat) (Q : Nat → Nat → Nat) (fl : (Nat → Int32)) (un : BS) (ut : BS) (u0 : BS) (u1 : BS) (sv : SS) (x : BS) (r : BS) (p0 : Int32) (p1 : Int32) (sz : Nat) (hS1 : sv.1 < 6) (hS2 : sv.2.1 ≤ 6) : vx_Met l yX4_wind wsX4_wind rm_X4_wind (va_Pc [.ref (A 0), .int p0, .int p1] (fun U => U.heap.size = sz ∧ va_P (dC, dI) vwCl (XW cI cZ cO A Q fl un ut u0 u1 sv x r) U.heap ∧ va_K (dC, dI) vwCl (TY cI cZ cO) U ∧ va_D (fun _ => True) (XW cI cZ cO A Q fl un ut u0 u1 sv x r) ∧ XT (va_A (XW cI cZ cO A Q fl un ut u0 u1 sv x r) sz) U)) (kQx (f_Xwind fl un ut u0 u1 sv x r p0 p1) (fun z => kQw (some (.int z.1)) (dC, dI) vwCl (XW cI cZ cO A Q fl z.2.1 ut u0 u1 z.2.2 x r) (va_A (XW cI cZ cO A Q fl un ut u0 u1 sv x r) sz))) (xC (f_Xwind fl un ut u0 u1 sv x r p0 p1) (dC, dI) vwCl (fun r1 => XW cI cZ cO A Q fl un ut u0 u1 sv x r1) (va_A (XW cI cZ cO A Q fl un ut u0 u1 sv x r) sz)) 1 6 (va_A (XW cI cZ cO A Q fl un ut u0 u1 sv x r) sz) := by
  refine kofX (cc := cX4_wind) (maxL := 3) (ret := some .int) (by decide) rfl (Nat.le_of_ble_eq_true rfl) ?_
  intro p e s m args below meth c ls S hr hlk hnm hsz hP hK hD hS hA hX htab hl
  generalize hA0 : va_A (XW cI cZ cO A Q fl un ut u0 u1 sv x r) sz = A0 at hD hS hA hX ⊢
  subst hsz
  obtain ⟨hx, hb, hml, hown, hts⟩ := id S
  have inX4 : ∀ w ∈ wsX40, w ∈ wsX4_wind := fun w h => List.mem_cons_of_mem _ (List.mem_append_left _ (List.mem_append_left _ (List.mem_append_left _ (List.mem_append_left _ (List.mem_append_right _ h)))))
  have hl : lv_has ls 3 [(0, .ref (A 0)), (1, .int p0), (2, .int p1)] := hl
  refine lv_aload_n hx hb dX4_wind_0 rfl (lv_at hl 0 rfl) ?_
  refine va_get (D := (dC, dI)) (ci := 4) (v := .ref (A 1)) (C := RX4) (T := TX4) (N := 8) hx hb hts inX4 hown hK hP 0 rfl rfl 0 (by decide) (hts (.fieldLink RX4 10 "BoardMetronomes" "now" "LBoardMetronomes$Bench;") (by decide +kernel)) (fun _ h9 => h9) rfl dX4_wind_1 ?_
  refine lv_iload_n hx hb dX4_wind_4 rfl (lv_at hl 1 rfl) ?_
  refine kc_v (As := [.int p0]) (rest := []) S (v := .int (bI (f_has un p0))) (c_X0_has l dC dI cI cZ cO (A 1) (Q 1) un p0) gX4_wind_X0_has mi_X0_has ⟨rfl, rfl⟩ ⟨Nat.le_of_ble_eq_true rfl, Nat.le_of_ble_eq_true rfl⟩ hK (XW_p_un hP) 0 rfl rfl ⟨Nat.zero_le _, Nat.zero_le _⟩ dX4_wind_5 rfl hl.1 rfl (Nat.le_of_ble_eq_true rfl) ?_
  refine kb_ne (tgt := 21) hx hb dX4_wind_8 (by decide) (fun c_8 => ?_) (fun c_8 => ?_)
  · refine lv_iload_n hx hb dX4_wind_21 rfl (lv_at hl 2 rfl) ?_
    refine kc_p (y := yX4_isSpring) (As := [.int p1]) (rest := []) rfl S (v := .int (bI (f_XisSpring p1))) (c_X4_isSpring l p1) gX4_wind_X4_isSpring mi_X4_isSpring ⟨rfl, rfl⟩ ⟨Nat.le_of_ble_eq_true rfl, Nat.le_of_ble_eq_true rfl⟩ ⟨Nat.zero_le _, Nat.zero_le _⟩ dX4_wind_22 rfl hl.1 rfl (Nat.le_of_ble_eq_true rfl) ?_
    refine kb_ne (tgt := 38) hx hb dX4_wind_25 (by decide) (fun c_25 => ?_) (fun c_25 => ?_)
    · refine lv_aload_n hx hb dX4_wind_38 rfl (lv_at hl 0 rfl) ?_
      refine va_get (D := (dC, dI)) (ci := 4) (v := .ref (A 6)) (C := RX4) (T := TX4) (N := 8) hx hb hts inX4 hown hK hP 0 rfl rfl 5 (by decide) (hts (.fieldLink RX4 32 "BoardMetronomes" "saved" "LBoardMetronomes$SavedStates;") (by decide +kernel)) (fun _ h9 => h9) rfl dX4_wind_39 ?_
      refine lv_aload_n hx hb dX4_wind_42 rfl (lv_at hl 0 rfl) ?_
      refine va_get (D := (dC, dI)) (ci := 4) (v := .ref (A 1)) (C := RX4) (T := TX4) (N := 8) hx hb hts inX4 hown hK hP 0 rfl rfl 0 (by decide) (hts (.fieldLink RX4 10 "BoardMetronomes" "now" "LBoardMetronomes$Bench;") (by decide +kernel)) (fun _ h9 => h9) rfl dX4_wind_43 ?_
      refine kc_w (As := [.ref (A 1)]) (rest := []) S (v := none) (c_X2_push l dC dI cI cZ cO A Q (A 1) (Q 1) sv.1 sv.2.1 sv.2.2 un s.heap.size hS1 hS2) gX4_wind_X2_push mi_X2_push ⟨rfl, rfl⟩ ⟨Nat.le_of_ble_eq_true rfl, Nat.le_of_ble_eq_true rfl⟩ hK hP hD hS hA [26, 27, 28, 29, 30, 31, 32, 33, 34, 35, 36, 37, 38, 39, 40, 41, 42, 43, 44, 45, 46, 47, 48, 49, 50, 51, 52, 53, 54, 55, 56, 57, 58, 59, 60, 61, 62, 63, 2, 3, 4, 5, 6, 7] XW_all_S_un SWB_fst rfl 0 rfl rfl ⟨Nat.zero_le _, Nat.zero_le _⟩ dX4_wind_46 rfl hl.1 rfl (Nat.le_of_ble_eq_true rfl) (fun H locs hP hD hS => ?_)
      have hP : va_P (dC, dI) vwCl (XW cI cZ cO A Q fl un ut u0 u1 (f_Spush sv.1 sv.2.1 sv.2.2 un) x r) H := Eq.mp (congrArg (fun w => va_P (dC, dI) vwCl w H) XW_ks_S_un) hP
      have hD : va_D A0 (XW cI cZ cO A Q fl un ut u0 u1 (f_Spush sv.1 sv.2.1 sv.2.2 un) x r) := Eq.mp (congrArg (fun w => va_D A0 w) XW_ks_S_un) hD
      refine lv_aload_n hx hb dX4_wind_49 rfl (lv_at hl 0 rfl) ?_
      refine va_get (D := (dC, dI)) (ci := 4) (v := .ref (A 1)) (C := RX4) (T := TX4) (N := 8) hx hb hts inX4 hown hK hP 0 rfl rfl 0 (by decide) (hts (.fieldLink RX4 10 "BoardMetronomes" "now" "LBoardMetronomes$Bench;") (by decide +kernel)) (fun _ h9 => h9) rfl dX4_wind_50 ?_
      refine lv_iload_n hx hb dX4_wind_53 rfl (lv_at hl 1 rfl) ?_
      refine lv_iload_n hx hb dX4_wind_54 rfl (lv_at hl 2 rfl) ?_
      refine kc_w (As := [.int p0, .int p1]) (rest := []) S (v := (some (.int ((f_changeSpring un p0 p1).1)))) (c_X0_changeSpring l dC dI cI cZ cO (A 1) (Q 1) un p0 p1 H.size) gX4_wind_X0_changeSpring mi_X0_changeSpring ⟨rfl, rfl⟩ ⟨Nat.le_of_ble_eq_true rfl, Nat.le_of_ble_eq_true rfl⟩ hK hP hD hS hA [2, 3, 4, 5, 6, 7] XW_all_un BW_fst rfl 0 rfl rfl ⟨Nat.zero_le _, Nat.zero_le _⟩ dX4_wind_55 rfl hl.1 rfl (Nat.le_of_ble_eq_true rfl) (fun H locs hP hD hS => ?_)
      have hP : va_P (dC, dI) vwCl (XW cI cZ cO A Q fl ((f_changeSpring un p0 p1).2) ut u0 u1 (f_Spush sv.1 sv.2.1 sv.2.2 un) x r) H := Eq.mp (congrArg (fun w => va_P (dC, dI) vwCl w H) XW_ks_un) hP
      have hD : va_D A0 (XW cI cZ cO A Q fl ((f_changeSpring un p0 p1).2) ut u0 u1 (f_Spush sv.1 sv.2.1 sv.2.2 un) x r) := Eq.mp (congrArg (fun w => va_D A0 w) XW_ks_un) hD
      have r1 : f_Xwind fl un ut u0 u1 sv x r p0 p1 = .ok ((f_changeSpring un p0 p1).1, (f_changeSpring un p0 p1).2, (f_Spush sv.1 sv.2.1 sv.2.2 un)) := by
        rw [f_Xwind, if_pos c_8, if_pos c_25]
      exact kx_ret r1 (kw_i hx hb hr hlk hP hS dX4_wind_58 rfl rfl) (Nat.zero_le _) (Nat.zero_le _)
    · have r2 : f_Xwind fl un ut u0 u1 sv x r p0 p1 = .error (1, r) := by
        rw [f_Xwind, if_pos c_8, if_neg c_25]
      exact kx_thr (k := 1) (r1 := r) (W1 := XW cI cZ cO A Q fl un ut u0 u1 sv x r) (text := "spring is out of range") hx hb hst hown hlk (hml.trans hl.1.symm) htab (by decide) (hts (.classLink RX4 61 "java/lang/IllegalArgumentException") (by decide +kernel)) (hts (.initialized "java/lang/IllegalArgumentException") (by decide +kernel)) (fun w h => hts w ((fun w h => List.mem_cons_of_mem _ (List.mem_append_right _ h)) w h)) hX (by decide) hS hP rfl dX4_wind_28 dX4_wind_31 dX4_wind_32 dX4_wind_34 dX4_wind_37 (Nat.le_of_ble_eq_true rfl) (Nat.le_of_ble_eq_true rfl) (Nat.le_of_ble_eq_true rfl) (Nat.le_of_ble_eq_true rfl) (Nat.le_of_ble_eq_true rfl) (Nat.le_of_ble_eq_true rfl) r2
  · have r3 : f_Xwind fl un ut u0 u1 sv x r p0 p1 = .error (3, r) := by
      rw [f_Xwind, if_neg c_8]
    exact kx_thr (k := 3) (r1 := r) (W1 := XW cI cZ cO A Q fl un ut u0 u1 sv x r) (text := "no such metronome") hx hb hst hown hlk (hml.trans hl.1.symm) htab (by decide) (hts (.classLink RX4 88 "java/lang/IndexOutOfBoundsException") (by decide +kernel)) (hts (.initialized "java/lang/IndexOutOfBoundsException") (by decide +kernel)) (fun w h => hts w ((fun w h => List.mem_cons_of_mem _ (List.mem_append_left _ (List.mem_append_right _ h))) w h)) hX (by decide) hS hP rfl dX4_wind_11 dX4_wind_14 dX4_wind_15 dX4_wind_17 dX4_wind_20 (Nat.le_of_ble_eq_true rfl) (Nat.le_of_ble_eq_true rfl) (Nat.le_of_ble_eq_true rfl) (Nat.le_of_ble_eq_true rfl) (Nat.le_of_ble_eq_true rfl) (Nat.le_of_ble_eq_true rfl) r3

def rm_X4_hold : Room := { frames := 6, cells := 1, slots := 6, locals := 82 }
theorem mi_X4_hold : kM yX4_hold wsX4_hold cX4_hold 2 (some .int) 1 := ⟨⟨_, rfl⟩, by decide, by decide, by decide +kernel⟩
def f_Xhold (fl : (Nat → Int32)) (un : BS) (ut : BS) (u0 : BS) (u1 : BS) (sv : SS) (x : BS) (r : BS) (p0 : Int32) : Except (Nat × BS) (Int32 × BS × SS) := if (f_has un p0) = true then (.ok ((f_holdOrLetGo un p0).1, (f_holdOrLetGo un p0).2, (f_Spush sv.1 sv.2.1 sv.2.2 un))) else .error (3, r)
set_option maxHeartbeats 1000000 in
set_option maxRecDepth 100000 in
theorem c_X4_hold (l : Launch) (hst : l.stackTraces = false) (dC : Nat → ClassId) (dI : Nat → Nat → Nat) (cI cZ cO : ClassId) (A : Nat → Nat) (Q : Nat → Nat → Nat) (fl : (Nat → Int32)) (un : BS) (ut : BS) (u0 : BS) (u1 : BS) (sv : SS) (x : BS) (r : BS) (p0 : Int32) (sz : Nat) (hS1 : sv.1 < 6) (hS2 : sv.2.1 ≤ 6) : vx_Met l yX4_hold wsX4_hold rm_X4_hold (va_Pc [.ref (A 0), .int p0] (fun U => U.heap.size = sz ∧ va_P (dC, dI) vwCl (XW cI cZ cO A Q fl un ut u0 u1 sv x r) U.heap ∧ va_K (dC, dI) vwCl (TY cI cZ cO) U ∧ va_D (fun _ => True) (XW cI cZ cO A Q fl un ut u0 u1 sv x r) ∧ XT (va_A (XW cI cZ cO A Q fl un ut u0 u1 sv x r) sz) U)) (kQx (f_Xhold fl un ut u0 u1 sv x r p0) (fun z => kQw (some (.int z.1)) (dC, dI) vwCl (XW cI cZ cO A Q fl z.2.1 ut u0 u1 z.2.2 x r) (va_A (XW cI cZ cO A Q fl un ut u0 u1 sv x r) sz))) (xC (f_Xhold fl un ut u0 u1 sv x r p0) (dC, dI) vwCl (fun r1 => XW cI cZ cO A Q fl un ut u0 u1 sv x r1) (va_A (XW cI cZ cO A Q fl un ut u0 u1 sv x r) sz)) 1 6 (va_A (XW cI cZ cO A Q fl un ut u0 u1 sv x r) sz) := by
  refine kofX (cc := cX4_hold) (maxL := 2) (ret := some .int) (by decide) rfl (Nat.le_of_ble_eq_true rfl) ?_
  intro p e s m args below meth c ls S hr hlk hnm hsz hP hK hD hS hA hX htab hl
  generalize hA0 : va_A (XW cI cZ cO A Q fl un ut u0 u1 sv x r) sz = A0 at hD hS hA hX ⊢
  subst hsz
  obtain ⟨hx, hb, hml, hown, hts⟩ := id S
  have inX4 : ∀ w ∈ wsX40, w ∈ wsX4_hold := fun w h => List.mem_cons_of_mem _ (List.mem_append_left _ (List.mem_append_left _ (List.mem_append_left _ (List.mem_append_right _ h))))
  have hl : lv_has ls 2 [(0, .ref (A 0)), (1, .int p0)] := hl
  refine lv_aload_n hx hb dX4_hold_0 rfl (lv_at hl 0 rfl) ?_
  refine va_get (D := (dC, dI)) (ci := 4) (v := .ref (A 1)) (C := RX4) (T := TX4) (N := 8) hx hb hts inX4 hown hK hP 0 rfl rfl 0 (by decide) (hts (.fieldLink RX4 10 "BoardMetronomes" "now" "LBoardMetronomes$Bench;") (by decide +kernel)) (fun _ h9 => h9) rfl dX4_hold_1 ?_
  refine lv_iload_n hx hb dX4_hold_4 rfl (lv_at hl 1 rfl) ?_
  refine kc_v (As := [.int p0]) (rest := []) S (v := .int (bI (f_has un p0))) (c_X0_has l dC dI cI cZ cO (A 1) (Q 1) un p0) gX4_hold_X0_has mi_X0_has ⟨rfl, rfl⟩ ⟨Nat.le_of_ble_eq_true rfl, Nat.le_of_ble_eq_true rfl⟩ hK (XW_p_un hP) 0 rfl rfl ⟨Nat.zero_le _, Nat.zero_le _⟩ dX4_hold_5 rfl hl.1 rfl (Nat.le_of_ble_eq_true rfl) ?_
  refine kb_ne (tgt := 21) hx hb dX4_hold_8 (by decide) (fun c_8 => ?_) (fun c_8 => ?_)
  · refine lv_aload_n hx hb dX4_hold_21 rfl (lv_at hl 0 rfl) ?_
    refine va_get (D := (dC, dI)) (ci := 4) (v := .ref (A 6)) (C := RX4) (T := TX4) (N := 8) hx hb hts inX4 hown hK hP 0 rfl rfl 5 (by decide) (hts (.fieldLink RX4 32 "BoardMetronomes" "saved" "LBoardMetronomes$SavedStates;") (by decide +kernel)) (fun _ h9 => h9) rfl dX4_hold_22 ?_
    refine lv_aload_n hx hb dX4_hold_25 rfl (lv_at hl 0 rfl) ?_
    refine va_get (D := (dC, dI)) (ci := 4) (v := .ref (A 1)) (C := RX4) (T := TX4) (N := 8) hx hb hts inX4 hown hK hP 0 rfl rfl 0 (by decide) (hts (.fieldLink RX4 10 "BoardMetronomes" "now" "LBoardMetronomes$Bench;") (by decide +kernel)) (fun _ h9 => h9) rfl dX4_hold_26 ?_
    refine kc_w (As := [.ref (A 1)]) (rest := []) S (v := none) (c_X2_push l dC dI cI cZ cO A Q (A 1) (Q 1) sv.1 sv.2.1 sv.2.2 un s.heap.size hS1 hS2) gX4_hold_X2_push mi_X2_push ⟨rfl, rfl⟩ ⟨Nat.le_of_ble_eq_true rfl, Nat.le_of_ble_eq_true rfl⟩ hK hP hD hS hA [26, 27, 28, 29, 30, 31, 32, 33, 34, 35, 36, 37, 38, 39, 40, 41, 42, 43, 44, 45, 46, 47, 48, 49, 50, 51, 52, 53, 54, 55, 56, 57, 58, 59, 60, 61, 62, 63, 2, 3, 4, 5, 6, 7] XW_all_S_un SWB_fst rfl 0 rfl rfl ⟨Nat.zero_le _, Nat.zero_le _⟩ dX4_hold_29 rfl hl.1 rfl (Nat.le_of_ble_eq_true rfl) (fun H locs hP hD hS => ?_)
    have hP : va_P (dC, dI) vwCl (XW cI cZ cO A Q fl un ut u0 u1 (f_Spush sv.1 sv.2.1 sv.2.2 un) x r) H := Eq.mp (congrArg (fun w => va_P (dC, dI) vwCl w H) XW_ks_S_un) hP
    have hD : va_D A0 (XW cI cZ cO A Q fl un ut u0 u1 (f_Spush sv.1 sv.2.1 sv.2.2 un) x r) := Eq.mp (congrArg (fun w => va_D A0 w) XW_ks_S_un) hD
    refine lv_aload_n hx hb dX4_hold_32 rfl (lv_at hl 0 rfl) ?_
    refine va_get (D := (dC, dI)) (ci := 4) (v := .ref (A 1)) (C := RX4) (T := TX4) (N := 8) hx hb hts inX4 hown hK hP 0 rfl rfl 0 (by decide) (hts (.fieldLink RX4 10 "BoardMetronomes" "now" "LBoardMetronomes$Bench;") (by decide +kernel)) (fun _ h9 => h9) rfl dX4_hold_33 ?_
    refine lv_iload_n hx hb dX4_hold_36 rfl (lv_at hl 1 rfl) ?_
    refine kc_w (As := [.int p0]) (rest := []) S (v := (some (.int ((f_holdOrLetGo un p0).1)))) (c_X0_holdOrLetGo l dC dI cI cZ cO (A 1) (Q 1) un p0 H.size) gX4_hold_X0_holdOrLetGo mi_X0_holdOrLetGo ⟨rfl, rfl⟩ ⟨Nat.le_of_ble_eq_true rfl, Nat.le_of_ble_eq_true rfl⟩ hK hP hD hS hA [2, 3, 4, 5, 6, 7] XW_all_un BW_fst rfl 0 rfl rfl ⟨Nat.zero_le _, Nat.zero_le _⟩ dX4_hold_37 rfl hl.1 rfl (Nat.le_of_ble_eq_true rfl) (fun H locs hP hD hS => ?_)
    have hP : va_P (dC, dI) vwCl (XW cI cZ cO A Q fl ((f_holdOrLetGo un p0).2) ut u0 u1 (f_Spush sv.1 sv.2.1 sv.2.2 un) x r) H := Eq.mp (congrArg (fun w => va_P (dC, dI) vwCl w H) XW_ks_un) hP
    have hD : va_D A0 (XW cI cZ cO A Q fl ((f_holdOrLetGo un p0).2) ut u0 u1 (f_Spush sv.1 sv.2.1 sv.2.2 un) x r) := Eq.mp (congrArg (fun w => va_D A0 w) XW_ks_un) hD
    have r1 : f_Xhold fl un ut u0 u1 sv x r p0 = .ok ((f_holdOrLetGo un p0).1, (f_holdOrLetGo un p0).2, (f_Spush sv.1 sv.2.1 sv.2.2 un)) := by
      rw [f_Xhold, if_pos c_8]
    exact kx_ret r1 (kw_i hx hb hr hlk hP hS dX4_hold_40 rfl rfl) (Nat.zero_le _) (Nat.zero_le _)
  · have r2 : f_Xhold fl un ut u0 u1 sv x r p0 = .error (3, r) := by
      rw [f_Xhold, if_neg c_8]
    exact kx_thr (k := 3) (r1 := r) (W1 := XW cI cZ cO A Q fl un ut u0 u1 sv x r) (text := "no such metronome") hx hb hst hown hlk (hml.trans hl.1.symm) htab (by decide) (hts (.classLink RX4 88 "java/lang/IndexOutOfBoundsException") (by decide +kernel)) (hts (.initialized "java/lang/IndexOutOfBoundsException") (by decide +kernel)) (fun w h => hts w ((fun w h => List.mem_cons_of_mem _ (List.mem_append_right _ h)) w h)) hX (by decide) hS hP rfl dX4_hold_11 dX4_hold_14 dX4_hold_15 dX4_hold_17 dX4_hold_20 (Nat.le_of_ble_eq_true rfl) (Nat.le_of_ble_eq_true rfl) (Nat.le_of_ble_eq_true rfl) (Nat.le_of_ble_eq_true rfl) (Nat.le_of_ble_eq_true rfl) (Nat.le_of_ble_eq_true rfl) r2

def rm_X4_take : Room := { frames := 6, cells := 1, slots := 6, locals := 82 }
theorem mi_X4_take : kM yX4_take wsX4_take cX4_take 1 (some .int) 0 := ⟨⟨_, rfl⟩, by decide, by decide, by decide +kernel⟩
def f_Xtake (fl : (Nat → Int32)) (un : BS) (ut : BS) (u0 : BS) (u1 : BS) (sv : SS) (x : BS) (r : BS) : Except (Nat × BS) (Int32 × BS × SS) := if (f_isEmpty un) = true then (.error (2, r)) else .ok ((f_removeLast un).1, (f_removeLast un).2, (f_Spush sv.1 sv.2.1 sv.2.2 un))
set_option maxHeartbeats 1000000 in
set_option maxRecDepth 100000 in
theorem c_X4_take (l : Launch) (hst : l.stackTraces = false) (dC : Nat → ClassId) (dI : Nat → Nat → Nat) (cI cZ cO : ClassId) (A : Nat → Nat) (Q : Nat → Nat → Nat) (fl : (Nat → Int32)) (un : BS) (ut : BS) (u0 : BS) (u1 : BS) (sv : SS) (x : BS) (r : BS) (sz : Nat) (hS1 : sv.1 < 6) (hS2 : sv.2.1 ≤ 6) : vx_Met l yX4_take wsX4_take rm_X4_take (va_Pc [.ref (A 0)] (fun U => U.heap.size = sz ∧ va_P (dC, dI) vwCl (XW cI cZ cO A Q fl un ut u0 u1 sv x r) U.heap ∧ va_K (dC, dI) vwCl (TY cI cZ cO) U ∧ va_D (fun _ => True) (XW cI cZ cO A Q fl un ut u0 u1 sv x r) ∧ XT (va_A (XW cI cZ cO A Q fl un ut u0 u1 sv x r) sz) U)) (kQx (f_Xtake fl un ut u0 u1 sv x r) (fun z => kQw (some (.int z.1)) (dC, dI) vwCl (XW cI cZ cO A Q fl z.2.1 ut u0 u1 z.2.2 x r) (va_A (XW cI cZ cO A Q fl un ut u0 u1 sv x r) sz))) (xC (f_Xtake fl un ut u0 u1 sv x r) (dC, dI) vwCl (fun r1 => XW cI cZ cO A Q fl un ut u0 u1 sv x r1) (va_A (XW cI cZ cO A Q fl un ut u0 u1 sv x r) sz)) 1 6 (va_A (XW cI cZ cO A Q fl un ut u0 u1 sv x r) sz) := by
  refine kofX (cc := cX4_take) (maxL := 1) (ret := some .int) (by decide) rfl (Nat.le_of_ble_eq_true rfl) ?_
  intro p e s m args below meth c ls S hr hlk hnm hsz hP hK hD hS hA hX htab hl
  generalize hA0 : va_A (XW cI cZ cO A Q fl un ut u0 u1 sv x r) sz = A0 at hD hS hA hX ⊢
  subst hsz
  obtain ⟨hx, hb, hml, hown, hts⟩ := id S
  have inX4 : ∀ w ∈ wsX40, w ∈ wsX4_take := fun w h => List.mem_cons_of_mem _ (List.mem_append_left _ (List.mem_append_left _ (List.mem_append_left _ (List.mem_append_right _ h))))
  have hl : lv_has ls 1 [(0, .ref (A 0))] := hl
  refine lv_aload_n hx hb dX4_take_0 rfl (lv_at hl 0 rfl) ?_
  refine va_get (D := (dC, dI)) (ci := 4) (v := .ref (A 1)) (C := RX4) (T := TX4) (N := 8) hx hb hts inX4 hown hK hP 0 rfl rfl 0 (by decide) (hts (.fieldLink RX4 10 "BoardMetronomes" "now" "LBoardMetronomes$Bench;") (by decide +kernel)) (fun _ h9 => h9) rfl dX4_take_1 ?_
  refine kc_v (As := []) (rest := []) S (v := .int (bI (f_isEmpty un))) (c_X0_isEmpty l dC dI cI cZ cO (A 1) (Q 1) un) gX4_take_X0_isEmpty mi_X0_isEmpty ⟨rfl, rfl⟩ ⟨Nat.le_of_ble_eq_true rfl, Nat.le_of_ble_eq_true rfl⟩ hK (XW_p_un hP) 0 rfl rfl ⟨Nat.zero_le _, Nat.zero_le _⟩ dX4_take_4 rfl hl.1 rfl (Nat.le_of_ble_eq_true rfl) ?_
  refine kb_eq (tgt := 20) hx hb dX4_take_7 (by decide) (fun c_7 => ?_) (fun c_7 => ?_)
  · refine lv_aload_n hx hb dX4_take_20 rfl (lv_at hl 0 rfl) ?_
    refine va_get (D := (dC, dI)) (ci := 4) (v := .ref (A 6)) (C := RX4) (T := TX4) (N := 8) hx hb hts inX4 hown hK hP 0 rfl rfl 5 (by decide) (hts (.fieldLink RX4 32 "BoardMetronomes" "saved" "LBoardMetronomes$SavedStates;") (by decide +kernel)) (fun _ h9 => h9) rfl dX4_take_21 ?_
    refine lv_aload_n hx hb dX4_take_24 rfl (lv_at hl 0 rfl) ?_
    refine va_get (D := (dC, dI)) (ci := 4) (v := .ref (A 1)) (C := RX4) (T := TX4) (N := 8) hx hb hts inX4 hown hK hP 0 rfl rfl 0 (by decide) (hts (.fieldLink RX4 10 "BoardMetronomes" "now" "LBoardMetronomes$Bench;") (by decide +kernel)) (fun _ h9 => h9) rfl dX4_take_25 ?_
    refine kc_w (As := [.ref (A 1)]) (rest := []) S (v := none) (c_X2_push l dC dI cI cZ cO A Q (A 1) (Q 1) sv.1 sv.2.1 sv.2.2 un s.heap.size hS1 hS2) gX4_take_X2_push mi_X2_push ⟨rfl, rfl⟩ ⟨Nat.le_of_ble_eq_true rfl, Nat.le_of_ble_eq_true rfl⟩ hK hP hD hS hA [26, 27, 28, 29, 30, 31, 32, 33, 34, 35, 36, 37, 38, 39, 40, 41, 42, 43, 44, 45, 46, 47, 48, 49, 50, 51, 52, 53, 54, 55, 56, 57, 58, 59, 60, 61, 62, 63, 2, 3, 4, 5, 6, 7] XW_all_S_un SWB_fst rfl 0 rfl rfl ⟨Nat.zero_le _, Nat.zero_le _⟩ dX4_take_28 rfl hl.1 rfl (Nat.le_of_ble_eq_true rfl) (fun H locs hP hD hS => ?_)
    have hP : va_P (dC, dI) vwCl (XW cI cZ cO A Q fl un ut u0 u1 (f_Spush sv.1 sv.2.1 sv.2.2 un) x r) H := Eq.mp (congrArg (fun w => va_P (dC, dI) vwCl w H) XW_ks_S_un) hP
    have hD : va_D A0 (XW cI cZ cO A Q fl un ut u0 u1 (f_Spush sv.1 sv.2.1 sv.2.2 un) x r) := Eq.mp (congrArg (fun w => va_D A0 w) XW_ks_S_un) hD
    refine lv_aload_n hx hb dX4_take_31 rfl (lv_at hl 0 rfl) ?_
    refine va_get (D := (dC, dI)) (ci := 4) (v := .ref (A 1)) (C := RX4) (T := TX4) (N := 8) hx hb hts inX4 hown hK hP 0 rfl rfl 0 (by decide) (hts (.fieldLink RX4 10 "BoardMetronomes" "now" "LBoardMetronomes$Bench;") (by decide +kernel)) (fun _ h9 => h9) rfl dX4_take_32 ?_
    refine kc_w (As := []) (rest := []) S (v := (some (.int ((f_removeLast un).1)))) (c_X0_removeLast l dC dI cI cZ cO (A 1) (Q 1) un H.size) gX4_take_X0_removeLast mi_X0_removeLast ⟨rfl, rfl⟩ ⟨Nat.le_of_ble_eq_true rfl, Nat.le_of_ble_eq_true rfl⟩ hK hP hD hS hA [2, 3, 4, 5, 6, 7] XW_all_un BW_fst rfl 0 rfl rfl ⟨Nat.zero_le _, Nat.zero_le _⟩ dX4_take_35 rfl hl.1 rfl (Nat.le_of_ble_eq_true rfl) (fun H locs hP hD hS => ?_)
    have hP : va_P (dC, dI) vwCl (XW cI cZ cO A Q fl ((f_removeLast un).2) ut u0 u1 (f_Spush sv.1 sv.2.1 sv.2.2 un) x r) H := Eq.mp (congrArg (fun w => va_P (dC, dI) vwCl w H) XW_ks_un) hP
    have hD : va_D A0 (XW cI cZ cO A Q fl ((f_removeLast un).2) ut u0 u1 (f_Spush sv.1 sv.2.1 sv.2.2 un) x r) := Eq.mp (congrArg (fun w => va_D A0 w) XW_ks_un) hD
    have r1 : f_Xtake fl un ut u0 u1 sv x r = .ok ((f_removeLast un).1, (f_removeLast un).2, (f_Spush sv.1 sv.2.1 sv.2.2 un)) := by
      rw [f_Xtake, if_neg c_7]
    exact kx_ret r1 (kw_i hx hb hr hlk hP hS dX4_take_38 rfl rfl) (Nat.zero_le _) (Nat.zero_le _)
  · have r2 : f_Xtake fl un ut u0 u1 sv x r = .error (2, r) := by
      rw [f_Xtake, if_pos c_7]
    exact kx_thr (k := 2) (r1 := r) (W1 := XW cI cZ cO A Q fl un ut u0 u1 sv x r) (text := "there is no metronome") hx hb hst hown hlk (hml.trans hl.1.symm) htab (by decide) (hts (.classLink RX4 72 "java/lang/IllegalStateException") (by decide +kernel)) (hts (.initialized "java/lang/IllegalStateException") (by decide +kernel)) (fun w h => hts w ((fun w h => List.mem_cons_of_mem _ (List.mem_append_right _ h)) w h)) hX (by decide) hS hP rfl dX4_take_10 dX4_take_13 dX4_take_14 dX4_take_16 dX4_take_19 (Nat.le_of_ble_eq_true rfl) (Nat.le_of_ble_eq_true rfl) (Nat.le_of_ble_eq_true rfl) (Nat.le_of_ble_eq_true rfl) (Nat.le_of_ble_eq_true rfl) (Nat.le_of_ble_eq_true rfl) r2

def rm_X4_run : Room := { frames := 6, cells := 1, slots := 6, locals := 111 }
theorem mi_X4_run : kM yX4_run wsX4_run cX4_run 2 (some .int) 1 := ⟨⟨_, rfl⟩, by decide, by decide, by decide +kernel⟩
def f_Xrun (fl : (Nat → Int32)) (un : BS) (ut : BS) (u0 : BS) (u1 : BS) (sv : SS) (x : BS) (r : BS) (p0 : Int32) : Except (Nat × BS) (Int32 × BS × SS) := if (f_XisWithin p0 (1 : Int32) (500 : Int32)) = true then (if (f_hasTimeFor un p0) = true then (.ok ((f_letGoBy un p0).1, (f_letGoBy un p0).2, (f_Spush sv.1 sv.2.1 sv.2.2 un))) else .error (2, r)) else .error (1, r)
set_option maxHeartbeats 1000000 in
set_option maxRecDepth 100000 in
theorem c_X4_run (l : Launch) (hst : l.stackTraces = false) (dC : Nat → ClassId) (dI : Nat → Nat → Nat) (cI cZ cO : ClassId) (A : Nat → Nat) (Q : Nat → Nat → Nat) (fl : (Nat → Int32)) (un : BS) (ut : BS) (u0 : BS) (u1 : BS) (sv : SS) (x : BS) (r : BS) (p0 : Int32) (sz : Nat) (hS1 : sv.1 < 6) (hS2 : sv.2.1 ≤ 6) : vx_Met l yX4_run wsX4_run rm_X4_run (va_Pc [.ref (A 0), .int p0] (fun U => U.heap.size = sz ∧ va_P (dC, dI) vwCl (XW cI cZ cO A Q fl un ut u0 u1 sv x r) U.heap ∧ va_K (dC, dI) vwCl (TY cI cZ cO) U ∧ va_D (fun _ => True) (XW cI cZ cO A Q fl un ut u0 u1 sv x r) ∧ XT (va_A (XW cI cZ cO A Q fl un ut u0 u1 sv x r) sz) U)) (kQx (f_Xrun fl un ut u0 u1 sv x r p0) (fun z => kQw (some (.int z.1)) (dC, dI) vwCl (XW cI cZ cO A Q fl z.2.1 ut u0 u1 z.2.2 x r) (va_A (XW cI cZ cO A Q fl un ut u0 u1 sv x r) sz))) (xC (f_Xrun fl un ut u0 u1 sv x r p0) (dC, dI) vwCl (fun r1 => XW cI cZ cO A Q fl un ut u0 u1 sv x r1) (va_A (XW cI cZ cO A Q fl un ut u0 u1 sv x r) sz)) 1 6 (va_A (XW cI cZ cO A Q fl un ut u0 u1 sv x r) sz) := by
  refine kofX (cc := cX4_run) (maxL := 2) (ret := some .int) (by decide) rfl (Nat.le_of_ble_eq_true rfl) ?_
  intro p e s m args below meth c ls S hr hlk hnm hsz hP hK hD hS hA hX htab hl
  generalize hA0 : va_A (XW cI cZ cO A Q fl un ut u0 u1 sv x r) sz = A0 at hD hS hA hX ⊢
  subst hsz
  obtain ⟨hx, hb, hml, hown, hts⟩ := id S
  have inX4 : ∀ w ∈ wsX40, w ∈ wsX4_run := fun w h => List.mem_cons_of_mem _ (List.mem_append_left _ (List.mem_append_left _ (List.mem_append_left _ (List.mem_append_left _ (List.mem_append_right _ h)))))
  have hl : lv_has ls 2 [(0, .ref (A 0)), (1, .int p0)] := hl
  refine lv_iload_n hx hb dX4_run_0 rfl (lv_at hl 1 rfl) ?_
  refine lv_iconst (v := (1 : Int32)) hx hb dX4_run_1 (by decide) ?_
  refine lv_sipush (v := (500 : Int32)) hx hb dX4_run_2 (by decide) ?_
  refine kc_p (y := yX4_isWithin) (As := [.int p0, .int (1 : Int32), .int (500 : Int32)]) (rest := []) rfl S (v := .int (bI (f_XisWithin p0 (1 : Int32) (500 : Int32)))) (c_X4_isWithin l p0 (1 : Int32) (500 : Int32)) gX4_run_X4_isWithin mi_X4_isWithin ⟨rfl, rfl⟩ ⟨Nat.le_of_ble_eq_true rfl, Nat.le_of_ble_eq_true rfl⟩ ⟨Nat.zero_le _, Nat.zero_le _⟩ dX4_run_5 rfl hl.1 rfl (Nat.le_of_ble_eq_true rfl) ?_
  refine kb_ne (tgt := 21) hx hb dX4_run_8 (by decide) (fun c_8 => ?_) (fun c_8 => ?_)
  · refine lv_aload_n hx hb dX4_run_21 rfl (lv_at hl 0 rfl) ?_
    refine va_get (D := (dC, dI)) (ci := 4) (v := .ref (A 1)) (C := RX4) (T := TX4) (N := 8) hx hb hts inX4 hown hK hP 0 rfl rfl 0 (by decide) (hts (.fieldLink RX4 10 "BoardMetronomes" "now" "LBoardMetronomes$Bench;") (by decide +kernel)) (fun _ h9 => h9) rfl dX4_run_22 ?_
    refine lv_iload_n hx hb dX4_run_25 rfl (lv_at hl 1 rfl) ?_
    refine kc_v (As := [.int p0]) (rest := []) S (v := .int (bI (f_hasTimeFor un p0))) (c_X0_hasTimeFor l dC dI cI cZ cO (A 1) (Q 1) un p0) gX4_run_X0_hasTimeFor mi_X0_hasTimeFor ⟨rfl, rfl⟩ ⟨Nat.le_of_ble_eq_true rfl, Nat.le_of_ble_eq_true rfl⟩ hK (XW_p_un hP) 0 rfl rfl ⟨Nat.zero_le _, Nat.zero_le _⟩ dX4_run_26 rfl hl.1 rfl (Nat.le_of_ble_eq_true rfl) ?_
    refine kb_ne (tgt := 42) hx hb dX4_run_29 (by decide) (fun c_29 => ?_) (fun c_29 => ?_)
    · refine lv_aload_n hx hb dX4_run_42 rfl (lv_at hl 0 rfl) ?_
      refine va_get (D := (dC, dI)) (ci := 4) (v := .ref (A 6)) (C := RX4) (T := TX4) (N := 8) hx hb hts inX4 hown hK hP 0 rfl rfl 5 (by decide) (hts (.fieldLink RX4 32 "BoardMetronomes" "saved" "LBoardMetronomes$SavedStates;") (by decide +kernel)) (fun _ h9 => h9) rfl dX4_run_43 ?_
      refine lv_aload_n hx hb dX4_run_46 rfl (lv_at hl 0 rfl) ?_
      refine va_get (D := (dC, dI)) (ci := 4) (v := .ref (A 1)) (C := RX4) (T := TX4) (N := 8) hx hb hts inX4 hown hK hP 0 rfl rfl 0 (by decide) (hts (.fieldLink RX4 10 "BoardMetronomes" "now" "LBoardMetronomes$Bench;") (by decide +kernel)) (fun _ h9 => h9) rfl dX4_run_47 ?_
      refine kc_w (As := [.ref (A 1)]) (rest := []) S (v := none) (c_X2_push l dC dI cI cZ cO A Q (A 1) (Q 1) sv.1 sv.2.1 sv.2.2 un s.heap.size hS1 hS2) gX4_run_X2_push mi_X2_push ⟨rfl, rfl⟩ ⟨Nat.le_of_ble_eq_true rfl, Nat.le_of_ble_eq_true rfl⟩ hK hP hD hS hA [26, 27, 28, 29, 30, 31, 32, 33, 34, 35, 36, 37, 38, 39, 40, 41, 42, 43, 44, 45, 46, 47, 48, 49, 50, 51, 52, 53, 54, 55, 56, 57, 58, 59, 60, 61, 62, 63, 2, 3, 4, 5, 6, 7] XW_all_S_un SWB_fst rfl 0 rfl rfl ⟨Nat.zero_le _, Nat.zero_le _⟩ dX4_run_50 rfl hl.1 rfl (Nat.le_of_ble_eq_true rfl) (fun H locs hP hD hS => ?_)
      have hP : va_P (dC, dI) vwCl (XW cI cZ cO A Q fl un ut u0 u1 (f_Spush sv.1 sv.2.1 sv.2.2 un) x r) H := Eq.mp (congrArg (fun w => va_P (dC, dI) vwCl w H) XW_ks_S_un) hP
      have hD : va_D A0 (XW cI cZ cO A Q fl un ut u0 u1 (f_Spush sv.1 sv.2.1 sv.2.2 un) x r) := Eq.mp (congrArg (fun w => va_D A0 w) XW_ks_S_un) hD
      refine lv_aload_n hx hb dX4_run_53 rfl (lv_at hl 0 rfl) ?_
      refine va_get (D := (dC, dI)) (ci := 4) (v := .ref (A 1)) (C := RX4) (T := TX4) (N := 8) hx hb hts inX4 hown hK hP 0 rfl rfl 0 (by decide) (hts (.fieldLink RX4 10 "BoardMetronomes" "now" "LBoardMetronomes$Bench;") (by decide +kernel)) (fun _ h9 => h9) rfl dX4_run_54 ?_
      refine lv_iload_n hx hb dX4_run_57 rfl (lv_at hl 1 rfl) ?_
      refine kc_w (As := [.int p0]) (rest := []) S (v := (some (.int ((f_letGoBy un p0).1)))) (c_X0_letGoBy l dC dI cI cZ cO (A 1) (Q 1) un p0 H.size) gX4_run_X0_letGoBy mi_X0_letGoBy ⟨rfl, rfl⟩ ⟨Nat.le_of_ble_eq_true rfl, Nat.le_of_ble_eq_true rfl⟩ hK hP hD hS hA [2, 3, 4, 5, 6, 7] XW_all_un BW_fst rfl 0 rfl rfl ⟨Nat.zero_le _, Nat.zero_le _⟩ dX4_run_58 rfl hl.1 rfl (Nat.le_of_ble_eq_true rfl) (fun H locs hP hD hS => ?_)
      have hP : va_P (dC, dI) vwCl (XW cI cZ cO A Q fl ((f_letGoBy un p0).2) ut u0 u1 (f_Spush sv.1 sv.2.1 sv.2.2 un) x r) H := Eq.mp (congrArg (fun w => va_P (dC, dI) vwCl w H) XW_ks_un) hP
      have hD : va_D A0 (XW cI cZ cO A Q fl ((f_letGoBy un p0).2) ut u0 u1 (f_Spush sv.1 sv.2.1 sv.2.2 un) x r) := Eq.mp (congrArg (fun w => va_D A0 w) XW_ks_un) hD
      have r1 : f_Xrun fl un ut u0 u1 sv x r p0 = .ok ((f_letGoBy un p0).1, (f_letGoBy un p0).2, (f_Spush sv.1 sv.2.1 sv.2.2 un)) := by
        rw [f_Xrun, if_pos c_8, if_pos c_29]
      exact kx_ret r1 (kw_i hx hb hr hlk hP hS dX4_run_61 rfl rfl) (Nat.zero_le _) (Nat.zero_le _)
    · have r2 : f_Xrun fl un ut u0 u1 sv x r p0 = .error (2, r) := by
        rw [f_Xrun, if_pos c_8, if_neg c_29]
      exact kx_thr (k := 2) (r1 := r) (W1 := XW cI cZ cO A Q fl un ut u0 u1 sv x r) (text := "there would be more than 99999 steps") hx hb hst hown hlk (hml.trans hl.1.symm) htab (by decide) (hts (.classLink RX4 72 "java/lang/IllegalStateException") (by decide +kernel)) (hts (.initialized "java/lang/IllegalStateException") (by decide +kernel)) (fun w h => hts w ((fun w h => List.mem_cons_of_mem _ (List.mem_append_right _ h)) w h)) hX (by decide) hS hP rfl dX4_run_32 dX4_run_35 dX4_run_36 dX4_run_38 dX4_run_41 (Nat.le_of_ble_eq_true rfl) (Nat.le_of_ble_eq_true rfl) (Nat.le_of_ble_eq_true rfl) (Nat.le_of_ble_eq_true rfl) (Nat.le_of_ble_eq_true rfl) (Nat.le_of_ble_eq_true rfl) r2
  · have r3 : f_Xrun fl un ut u0 u1 sv x r p0 = .error (1, r) := by
      rw [f_Xrun, if_neg c_8]
    exact kx_thr (k := 1) (r1 := r) (W1 := XW cI cZ cO A Q fl un ut u0 u1 sv x r) (text := "steps is out of range") hx hb hst hown hlk (hml.trans hl.1.symm) htab (by decide) (hts (.classLink RX4 61 "java/lang/IllegalArgumentException") (by decide +kernel)) (hts (.initialized "java/lang/IllegalArgumentException") (by decide +kernel)) (fun w h => hts w ((fun w h => List.mem_cons_of_mem _ (List.mem_append_left _ (List.mem_append_right _ h))) w h)) hX (by decide) hS hP rfl dX4_run_11 dX4_run_14 dX4_run_15 dX4_run_17 dX4_run_20 (Nat.le_of_ble_eq_true rfl) (Nat.le_of_ble_eq_true rfl) (Nat.le_of_ble_eq_true rfl) (Nat.le_of_ble_eq_true rfl) (Nat.le_of_ble_eq_true rfl) (Nat.le_of_ble_eq_true rfl) r3

def rm_X4_set : Room := { frames := 6, cells := 1, slots := 6, locals := 82 }
theorem mi_X4_set : kM yX4_set wsX4_set cX4_set 3 (some .int) 2 := ⟨⟨_, rfl⟩, by decide, by decide, by decide +kernel⟩
def f_Xset (fl : (Nat → Int32)) (un : BS) (ut : BS) (u0 : BS) (u1 : BS) (sv : SS) (x : BS) (r : BS) (p0 : Int32) (p1 : Int32) : Except (Nat × BS) (Int32 × BS × SS) := if (f_XisSetting p0) = true then (if (f_XisWithin p1 (0 : Int32) (f_XhighestOf p0)) = true then (.ok ((f_changeSetting un p0 p1).1, (f_changeSetting un p0 p1).2, (f_Spush sv.1 sv.2.1 sv.2.2 un))) else .error (1, r)) else .error (3, r)
set_option maxHeartbeats 1000000 in
set_option maxRecDepth 100000 in
theorem c_X4_set (l : Launch) (hst : l.stackTraces = false) (dC : Nat → ClassId) (dI : Nat → Nat → Nat) (cI cZ cO : ClassId) (A : Nat → Nat) (Q : Nat → Nat → Nat) (fl : (Nat → Int32)) (un : BS) (ut : BS) (u0 : BS) (u1 : BS) (sv : SS) (x : BS) (r : BS) (p0 : Int32) (p1 : Int32) (sz : Nat) (hS1 : sv.1 < 6) (hS2 : sv.2.1 ≤ 6) : vx_Met l yX4_set wsX4_set rm_X4_set (va_Pc [.ref (A 0), .int p0, .int p1] (fun U => U.heap.size = sz ∧ va_P (dC, dI) vwCl (XW cI cZ cO A Q fl un ut u0 u1 sv x r) U.heap ∧ va_K (dC, dI) vwCl (TY cI cZ cO) U ∧ va_D (fun _ => True) (XW cI cZ cO A Q fl un ut u0 u1 sv x r) ∧ XT (va_A (XW cI cZ cO A Q fl un ut u0 u1 sv x r) sz) U)) (kQx (f_Xset fl un ut u0 u1 sv x r p0 p1) (fun z => kQw (some (.int z.1)) (dC, dI) vwCl (XW cI cZ cO A Q fl z.2.1 ut u0 u1 z.2.2 x r) (va_A (XW cI cZ cO A Q fl un ut u0 u1 sv x r) sz))) (xC (f_Xset fl un ut u0 u1 sv x r p0 p1) (dC, dI) vwCl (fun r1 => XW cI cZ cO A Q fl un ut u0 u1 sv x r1) (va_A (XW cI cZ cO A Q fl un ut u0 u1 sv x r) sz)) 1 6 (va_A (XW cI cZ cO A Q fl un ut u0 u1 sv x r) sz) := by
  refine kofX (cc := cX4_set) (maxL := 3) (ret := some .int) (by decide) rfl (Nat.le_of_ble_eq_true rfl) ?_
  intro p e s m args below meth c ls S hr hlk hnm hsz hP hK hD hS hA hX htab hl
  generalize hA0 : va_A (XW cI cZ cO A Q fl un ut u0 u1 sv x r) sz = A0 at hD hS hA hX ⊢
  subst hsz
  obtain ⟨hx, hb, hml, hown, hts⟩ := id S
  have inX4 : ∀ w ∈ wsX40, w ∈ wsX4_set := fun w h => List.mem_cons_of_mem _ (List.mem_append_left _ (List.mem_append_left _ (List.mem_append_left _ (List.mem_append_left _ (List.mem_append_right _ h)))))
  have hl : lv_has ls 3 [(0, .ref (A 0)), (1, .int p0), (2, .int p1)] := hl
  refine lv_iload_n hx hb dX4_set_0 rfl (lv_at hl 1 rfl) ?_
  refine kc_p (y := yX4_isSetting) (As := [.int p0]) (rest := []) rfl S (v := .int (bI (f_XisSetting p0))) (c_X4_isSetting l p0) gX4_set_X4_isSetting mi_X4_isSetting ⟨rfl, rfl⟩ ⟨Nat.le_of_ble_eq_true rfl, Nat.le_of_ble_eq_true rfl⟩ ⟨Nat.zero_le _, Nat.zero_le _⟩ dX4_set_1 rfl hl.1 rfl (Nat.le_of_ble_eq_true rfl) ?_
  refine kb_ne (tgt := 17) hx hb dX4_set_4 (by decide) (fun c_4 => ?_) (fun c_4 => ?_)
  · refine lv_iload_n hx hb dX4_set_17 rfl (lv_at hl 2 rfl) ?_
    refine lv_iconst (v := (0 : Int32)) hx hb dX4_set_18 (by decide) ?_
    refine lv_iload_n hx hb dX4_set_19 rfl (lv_at hl 1 rfl) ?_
    refine kc_p (y := yX4_highestOf) (As := [.int p0]) (rest := [.int (0 : Int32), .int p1]) rfl S (v := .int (f_XhighestOf p0)) (c_X4_highestOf l p0) gX4_set_X4_highestOf mi_X4_highestOf ⟨rfl, rfl⟩ ⟨Nat.le_of_ble_eq_true rfl, Nat.le_of_ble_eq_true rfl⟩ ⟨Nat.zero_le _, Nat.zero_le _⟩ dX4_set_20 rfl hl.1 rfl (Nat.le_of_ble_eq_true rfl) ?_
    refine kc_p (y := yX4_isWithin) (As := [.int p1, .int (0 : Int32), .int (f_XhighestOf p0)]) (rest := []) rfl S (v := .int (bI (f_XisWithin p1 (0 : Int32) (f_XhighestOf p0)))) (c_X4_isWithin l p1 (0 : Int32) (f_XhighestOf p0)) gX4_set_X4_isWithin mi_X4_isWithin ⟨rfl, rfl⟩ ⟨Nat.le_of_ble_eq_true rfl, Nat.le_of_ble_eq_true rfl⟩ ⟨Nat.zero_le _, Nat.zero_le _⟩ dX4_set_23 rfl hl.1 rfl (Nat.le_of_ble_eq_true rfl) ?_
    refine kb_ne (tgt := 39) hx hb dX4_set_26 (by decide) (fun c_26 => ?_) (fun c_26 => ?_)
    · refine lv_aload_n hx hb dX4_set_39 rfl (lv_at hl 0 rfl) ?_
      refine va_get (D := (dC, dI)) (ci := 4) (v := .ref (A 6)) (C := RX4) (T := TX4) (N := 8) hx hb hts inX4 hown hK hP 0 rfl rfl 5 (by decide) (hts (.fieldLink RX4 32 "BoardMetronomes" "saved" "LBoardMetronomes$SavedStates;") (by decide +kernel)) (fun _ h9 => h9) rfl dX4_set_40 ?_
      refine lv_aload_n hx hb dX4_set_43 rfl (lv_at hl 0 rfl) ?_
      refine va_get (D := (dC, dI)) (ci := 4) (v := .ref (A 1)) (C := RX4) (T := TX4) (N := 8) hx hb hts inX4 hown hK hP 0 rfl rfl 0 (by decide) (hts (.fieldLink RX4 10 "BoardMetronomes" "now" "LBoardMetronomes$Bench;") (by decide +kernel)) (fun _ h9 => h9) rfl dX4_set_44 ?_
      refine kc_w (As := [.ref (A 1)]) (rest := []) S (v := none) (c_X2_push l dC dI cI cZ cO A Q (A 1) (Q 1) sv.1 sv.2.1 sv.2.2 un s.heap.size hS1 hS2) gX4_set_X2_push mi_X2_push ⟨rfl, rfl⟩ ⟨Nat.le_of_ble_eq_true rfl, Nat.le_of_ble_eq_true rfl⟩ hK hP hD hS hA [26, 27, 28, 29, 30, 31, 32, 33, 34, 35, 36, 37, 38, 39, 40, 41, 42, 43, 44, 45, 46, 47, 48, 49, 50, 51, 52, 53, 54, 55, 56, 57, 58, 59, 60, 61, 62, 63, 2, 3, 4, 5, 6, 7] XW_all_S_un SWB_fst rfl 0 rfl rfl ⟨Nat.zero_le _, Nat.zero_le _⟩ dX4_set_47 rfl hl.1 rfl (Nat.le_of_ble_eq_true rfl) (fun H locs hP hD hS => ?_)
      have hP : va_P (dC, dI) vwCl (XW cI cZ cO A Q fl un ut u0 u1 (f_Spush sv.1 sv.2.1 sv.2.2 un) x r) H := Eq.mp (congrArg (fun w => va_P (dC, dI) vwCl w H) XW_ks_S_un) hP
      have hD : va_D A0 (XW cI cZ cO A Q fl un ut u0 u1 (f_Spush sv.1 sv.2.1 sv.2.2 un) x r) := Eq.mp (congrArg (fun w => va_D A0 w) XW_ks_S_un) hD
      refine lv_aload_n hx hb dX4_set_50 rfl (lv_at hl 0 rfl) ?_
      refine va_get (D := (dC, dI)) (ci := 4) (v := .ref (A 1)) (C := RX4) (T := TX4) (N := 8) hx hb hts inX4 hown hK hP 0 rfl rfl 0 (by decide) (hts (.fieldLink RX4 10 "BoardMetronomes" "now" "LBoardMetronomes$Bench;") (by decide +kernel)) (fun _ h9 => h9) rfl dX4_set_51 ?_
      refine lv_iload_n hx hb dX4_set_54 rfl (lv_at hl 1 rfl) ?_
      refine lv_iload_n hx hb dX4_set_55 rfl (lv_at hl 2 rfl) ?_
      refine kc_w (As := [.int p0, .int p1]) (rest := []) S (v := (some (.int ((f_changeSetting un p0 p1).1)))) (c_X0_changeSetting l dC dI cI cZ cO (A 1) (Q 1) un p0 p1 H.size) gX4_set_X0_changeSetting mi_X0_changeSetting ⟨rfl, rfl⟩ ⟨Nat.le_of_ble_eq_true rfl, Nat.le_of_ble_eq_true rfl⟩ hK hP hD hS hA [2, 3, 4, 5, 6, 7] XW_all_un BW_fst rfl 0 rfl rfl ⟨Nat.zero_le _, Nat.zero_le _⟩ dX4_set_56 rfl hl.1 rfl (Nat.le_of_ble_eq_true rfl) (fun H locs hP hD hS => ?_)
      have hP : va_P (dC, dI) vwCl (XW cI cZ cO A Q fl ((f_changeSetting un p0 p1).2) ut u0 u1 (f_Spush sv.1 sv.2.1 sv.2.2 un) x r) H := Eq.mp (congrArg (fun w => va_P (dC, dI) vwCl w H) XW_ks_un) hP
      have hD : va_D A0 (XW cI cZ cO A Q fl ((f_changeSetting un p0 p1).2) ut u0 u1 (f_Spush sv.1 sv.2.1 sv.2.2 un) x r) := Eq.mp (congrArg (fun w => va_D A0 w) XW_ks_un) hD
      have r1 : f_Xset fl un ut u0 u1 sv x r p0 p1 = .ok ((f_changeSetting un p0 p1).1, (f_changeSetting un p0 p1).2, (f_Spush sv.1 sv.2.1 sv.2.2 un)) := by
        rw [f_Xset, if_pos c_4, if_pos c_26]
      exact kx_ret r1 (kw_i hx hb hr hlk hP hS dX4_set_59 rfl rfl) (Nat.zero_le _) (Nat.zero_le _)
    · have r2 : f_Xset fl un ut u0 u1 sv x r p0 p1 = .error (1, r) := by
        rw [f_Xset, if_pos c_4, if_neg c_26]
      exact kx_thr (k := 1) (r1 := r) (W1 := XW cI cZ cO A Q fl un ut u0 u1 sv x r) (text := "value is out of range") hx hb hst hown hlk (hml.trans hl.1.symm) htab (by decide) (hts (.classLink RX4 61 "java/lang/IllegalArgumentException") (by decide +kernel)) (hts (.initialized "java/lang/IllegalArgumentException") (by decide +kernel)) (fun w h => hts w ((fun w h => List.mem_cons_of_mem _ (List.mem_append_right _ h)) w h)) hX (by decide) hS hP rfl dX4_set_29 dX4_set_32 dX4_set_33 dX4_set_35 dX4_set_38 (Nat.le_of_ble_eq_true rfl) (Nat.le_of_ble_eq_true rfl) (Nat.le_of_ble_eq_true rfl) (Nat.le_of_ble_eq_true rfl) (Nat.le_of_ble_eq_true rfl) (Nat.le_of_ble_eq_true rfl) r2
  · have r3 : f_Xset fl un ut u0 u1 sv x r p0 p1 = .error (3, r) := by
      rw [f_Xset, if_neg c_4]
    exact kx_thr (k := 3) (r1 := r) (W1 := XW cI cZ cO A Q fl un ut u0 u1 sv x r) (text := "no such setting") hx hb hst hown hlk (hml.trans hl.1.symm) htab (by decide) (hts (.classLink RX4 88 "java/lang/IndexOutOfBoundsException") (by decide +kernel)) (hts (.initialized "java/lang/IndexOutOfBoundsException") (by decide +kernel)) (fun w h => hts w ((fun w h => List.mem_cons_of_mem _ (List.mem_append_left _ (List.mem_append_right _ h))) w h)) hX (by decide) hS hP rfl dX4_set_7 dX4_set_10 dX4_set_11 dX4_set_13 dX4_set_16 (Nat.le_of_ble_eq_true rfl) (Nat.le_of_ble_eq_true rfl) (Nat.le_of_ble_eq_true rfl) (Nat.le_of_ble_eq_true rfl) (Nat.le_of_ble_eq_true rfl) (Nat.le_of_ble_eq_true rfl) r3

def rm_X4_append : Room := { frames := 6, cells := 1, slots := 6, locals := 82 }
def f_Xappend (fl : (Nat → Int32)) (un : BS) (ut : BS) (u0 : BS) (u1 : BS) (sv : SS) (x : BS) (r : BS) (p0 : Int32) : Except (Nat × BS) (Int32 × BS) := if (f_XisWithin p0 (33 : Int32) (126 : Int32)) = true then (if (f_TisFull x) = true then (.error (2, r)) else .ok ((f_Tadd x p0).1, (f_Tadd x p0).2)) else .error (1, r)
def rm_X4_play : Room := { frames := 6, cells := 1, slots := 6, locals := 131 }
def f_Xplay_R41 (fl : (Nat → Int32)) (un : BS) (ut : BS) (u0 : BS) (u1 : BS) (sv : SS) (x : BS) (r : BS) : Nat → Nat → Int32 → Bool → BS → BS → Except (Nat × BS) (Int32 × BS × SS × BS × BS)
  | 0, j41_, y41_0, y41_1, y41_2, y41_3 => .ok (y41_0, y41_2, (f_Spush sv.1 sv.2.1 sv.2.2 un), (f_Tempty x).2, y41_3)
  | n + 1, j41_, y41_0, y41_1, y41_2, y41_3 => if y41_1 = true then (if ((f_XreadsEndOfOrder fl y41_2 ut u0 u1 (f_Spush sv.1 sv.2.1 sv.2.2 un) x y41_3 (nI j41_)).1) = true then (if ((f_XdoOrder fl y41_2 ut u0 u1 (f_Spush sv.1 sv.2.1 sv.2.2 un) x ((f_XreadsEndOfOrder fl y41_2 ut u0 u1 (f_Spush sv.1 sv.2.1 sv.2.2 un) x y41_3 (nI j41_)).2)).1) = true then (f_Xplay_R41 fl un ut u0 u1 sv x r n (j41_ + 1) (y41_0 + (1 : Int32)) ((f_XdoOrder fl y41_2 ut u0 u1 (f_Spush sv.1 sv.2.1 sv.2.2 un) x ((f_XreadsEndOfOrder fl y41_2 ut u0 u1 (f_Spush sv.1 sv.2.1 sv.2.2 un) x y41_3 (nI j41_)).2)).1) ((f_XdoOrder fl y41_2 ut u0 u1 (f_Spush sv.1 sv.2.1 sv.2.2 un) x ((f_XreadsEndOfOrder fl y41_2 ut u0 u1 (f_Spush sv.1 sv.2.1 sv.2.2 un) x y41_3 (nI j41_)).2)).2) ((f_XreadsEndOfOrder fl y41_2 ut u0 u1 (f_Spush sv.1 sv.2.1 sv.2.2 un) x y41_3 (nI j41_)).2)) else f_Xplay_R41 fl un ut u0 u1 sv x r n (j41_ + 1) (y41_0 + (0 : Int32)) ((f_XdoOrder fl y41_2 ut u0 u1 (f_Spush sv.1 sv.2.1 sv.2.2 un) x ((f_XreadsEndOfOrder fl y41_2 ut u0 u1 (f_Spush sv.1 sv.2.1 sv.2.2 un) x y41_3 (nI j41_)).2)).1) ((f_XdoOrder fl y41_2 ut u0 u1 (f_Spush sv.1 sv.2.1 sv.2.2 un) x ((f_XreadsEndOfOrder fl y41_2 ut u0 u1 (f_Spush sv.1 sv.2.1 sv.2.2 un) x y41_3 (nI j41_)).2)).2) ((f_XreadsEndOfOrder fl y41_2 ut u0 u1 (f_Spush sv.1 sv.2.1 sv.2.2 un) x y41_3 (nI j41_)).2)) else f_Xplay_R41 fl un ut u0 u1 sv x r n (j41_ + 1) y41_0 y41_1 y41_2 ((f_XreadsEndOfOrder fl y41_2 ut u0 u1 (f_Spush sv.1 sv.2.1 sv.2.2 un) x y41_3 (nI j41_)).2)) else .ok (y41_0, y41_2, (f_Spush sv.1 sv.2.1 sv.2.2 un), (f_Tempty x).2, y41_3)
def f_Xplay (fl : (Nat → Int32)) (un : BS) (ut : BS) (u0 : BS) (u1 : BS) (sv : SS) (x : BS) (r : BS) : Except (Nat × BS) (Int32 × BS × SS × BS × BS) := if ((f_XtellsBench fl un ut u0 u1 sv x r).1) = true then (f_Xplay_R41 fl un ut u0 u1 sv x r ((f_Tsize x).toNatClampNeg + 1) 0 (0 : Int32) true un (f_RbeginText ((f_XtellsBench fl un ut u0 u1 sv x r).2))) else .error (1, (f_XtellsBench fl un ut u0 u1 sv x r).2)
theorem f_XisSlot_in {x : Int32} (h : f_XisSlot x = true) : vp_in x 2 := by
  by_cases h1 : x < 0
  · rw [f_XisSlot, f_XisWithin, if_pos h1] at h; cases h
  · by_cases h2 : (1 : Int32) < x
    · rw [f_XisSlot, f_XisWithin, if_neg h1, if_pos h2] at h; cases h
    · exact kin_of h1 (n := 2) (fun h3 => h2 (Int32.lt_of_lt_of_le (by decide : (1 : Int32) < 2) h3)) (by decide)

def rm_X4_keep : Room := { frames := 6, cells := 1, slots := 6, locals := 82 }
def f_Xkeep (fl : (Nat → Int32)) (un : BS) (ut : BS) (u0 : BS) (u1 : BS) (sv : SS) (x : BS) (r : BS) (p0 : Int32) : Except (Nat × BS) (Int32 × (Nat → Int32) × BS × BS) := if (f_XisSlot p0) = true then (if f_XslotBench fl un ut u0 u1 sv x r p0 = 3 then (.ok (f_steps un, upd fl p0.toNatClampNeg (1 : Int32), (f_copyFrom u0 un), u1)) else (.ok (f_steps un, upd fl p0.toNatClampNeg (1 : Int32), u0, (f_copyFrom u1 un)))) else .error (1, r)
def rm_X4_goBack : Room := { frames := 6, cells := 1, slots := 6, locals := 82 }
def f_XgoBack (fl : (Nat → Int32)) (un : BS) (ut : BS) (u0 : BS) (u1 : BS) (sv : SS) (x : BS) (r : BS) (p0 : Int32) : Except (Nat × BS) (Int32 × BS × SS) := if (f_XisSlot p0) = true then (if (fl p0.toNatClampNeg) = 0 then (.error (2, r)) else if f_XslotBench fl un ut u0 u1 (f_Spush sv.1 sv.2.1 sv.2.2 un) x r p0 = 3 then (.ok (f_steps (f_copyFrom un u0), (f_copyFrom un u0), (f_Spush sv.1 sv.2.1 sv.2.2 un))) else (.ok (f_steps (f_copyFrom un u1), (f_copyFrom un u1), (f_Spush sv.1 sv.2.1 sv.2.2 un)))) else .error (1, r)
def rm_X4_undo : Room := { frames := 6, cells := 1, slots := 6, locals := 82 }
theorem mi_X4_undo : kM yX4_undo wsX4_undo cX4_undo 1 (some .int) 0 := ⟨⟨_, rfl⟩, by decide, by decide, by decide +kernel⟩
def f_Xundo (fl : (Nat → Int32)) (un : BS) (ut : BS) (u0 : BS) (u1 : BS) (sv : SS) (x : BS) (r : BS) : Except (Nat × BS) (Int32 × BS × SS) := if (f_Ssize sv) = 0 then (.error (2, r)) else .ok ((f_SpopInto sv.1 sv.2.1 sv.2.2 un).1, (f_SpopInto sv.1 sv.2.1 sv.2.2 un).2.2, (f_SpopInto sv.1 sv.2.1 sv.2.2 un).2.1)
set_option maxHeartbeats 1000000 in
set_option maxRecDepth 100000 in
theorem c_X4_undo (l : Launch) (hst : l.stackTraces = false) (dC : Nat → ClassId) (dI : Nat → Nat → Nat) (cI cZ cO : ClassId) (A : Nat → Nat) (Q : Nat → Nat → Nat) (fl : (Nat → Int32)) (un : BS) (ut : BS) (u0 : BS) (u1 : BS) (sv : SS) (x : BS) (r : BS) (sz : Nat) (hS1 : sv.1 < 6) (hS2 : sv.2.1 ≤ 6) : vx_Met l yX4_undo wsX4_undo rm_X4_undo (va_Pc [.ref (A 0)] (fun U => U.heap.size = sz ∧ va_P (dC, dI) vwCl (XW cI cZ cO A Q fl un ut u0 u1 sv x r) U.heap ∧ va_K (dC, dI) vwCl (TY cI cZ cO) U ∧ va_D (fun _ => True) (XW cI cZ cO A Q fl un ut u0 u1 sv x r) ∧ XT (va_A (XW cI cZ cO A Q fl un ut u0 u1 sv x r) sz) U)) (kQx (f_Xundo fl un ut u0 u1 sv x r) (fun z => kQw (some (.int z.1)) (dC, dI) vwCl (XW cI cZ cO A Q fl z.2.1 ut u0 u1 z.2.2 x r) (va_A (XW cI cZ cO A Q fl un ut u0 u1 sv x r) sz))) (xC (f_Xundo fl un ut u0 u1 sv x r) (dC, dI) vwCl (fun r1 => XW cI cZ cO A Q fl un ut u0 u1 sv x r1) (va_A (XW cI cZ cO A Q fl un ut u0 u1 sv x r) sz)) 1 6 (va_A (XW cI cZ cO A Q fl un ut u0 u1 sv x r) sz) := by
  refine kofX (cc := cX4_undo) (maxL := 1) (ret := some .int) (by decide) rfl (Nat.le_of_ble_eq_true rfl) ?_
  intro p e s m args below meth c ls S hr hlk hnm hsz hP hK hD hS hA hX htab hl
  generalize hA0 : va_A (XW cI cZ cO A Q fl un ut u0 u1 sv x r) sz = A0 at hD hS hA hX ⊢
  subst hsz
  obtain ⟨hx, hb, hml, hown, hts⟩ := id S
  have inX4 : ∀ w ∈ wsX40, w ∈ wsX4_undo := fun w h => List.mem_cons_of_mem _ (List.mem_append_left _ (List.mem_append_left _ (List.mem_append_left _ (List.mem_append_right _ h))))
  have hl : lv_has ls 1 [(0, .ref (A 0))] := hl
  refine lv_aload_n hx hb dX4_undo_0 rfl (lv_at hl 0 rfl) ?_
  refine va_get (D := (dC, dI)) (ci := 4) (v := .ref (A 6)) (C := RX4) (T := TX4) (N := 8) hx hb hts inX4 hown hK hP 0 rfl rfl 5 (by decide) (hts (.fieldLink RX4 32 "BoardMetronomes" "saved" "LBoardMetronomes$SavedStates;") (by decide +kernel)) (fun _ h9 => h9) rfl dX4_undo_1 ?_
  refine kc_v (As := []) (rest := []) S (v := .int (f_Ssize sv)) (c_X2_size l dC dI cI cZ cO A Q sv) gX4_undo_X2_size mi_X2_size ⟨rfl, rfl⟩ ⟨Nat.le_of_ble_eq_true rfl, Nat.le_of_ble_eq_true rfl⟩ hK (XW_p_S hP) 0 rfl rfl ⟨Nat.zero_le _, Nat.zero_le _⟩ dX4_undo_4 rfl hl.1 rfl (Nat.le_of_ble_eq_true rfl) ?_
  refine lv_if_ne (tgt := 20) hx hb dX4_undo_7 (by decide) (fun c_7 => ?_) (fun c_7 => ?_)
  · refine lv_aload_n hx hb dX4_undo_20 rfl (lv_at hl 0 rfl) ?_
    refine va_get (D := (dC, dI)) (ci := 4) (v := .ref (A 6)) (C := RX4) (T := TX4) (N := 8) hx hb hts inX4 hown hK hP 0 rfl rfl 5 (by decide) (hts (.fieldLink RX4 32 "BoardMetronomes" "saved" "LBoardMetronomes$SavedStates;") (by decide +kernel)) (fun _ h9 => h9) rfl dX4_undo_21 ?_
    refine lv_aload_n hx hb dX4_undo_24 rfl (lv_at hl 0 rfl) ?_
    refine va_get (D := (dC, dI)) (ci := 4) (v := .ref (A 1)) (C := RX4) (T := TX4) (N := 8) hx hb hts inX4 hown hK hP 0 rfl rfl 0 (by decide) (hts (.fieldLink RX4 10 "BoardMetronomes" "now" "LBoardMetronomes$Bench;") (by decide +kernel)) (fun _ h9 => h9) rfl dX4_undo_25 ?_
    refine kc_w (As := [.ref (A 1)]) (rest := []) S (v := (some (.int ((f_SpopInto sv.1 sv.2.1 sv.2.2 un).1)))) (c_X2_popInto l dC dI cI cZ cO A Q (A 1) (Q 1) sv.1 sv.2.1 sv.2.2 un s.heap.size hS1 hS2) gX4_undo_X2_popInto mi_X2_popInto ⟨rfl, rfl⟩ ⟨Nat.le_of_ble_eq_true rfl, Nat.le_of_ble_eq_true rfl⟩ hK hP hD hS hA [26, 27, 28, 29, 30, 31, 32, 33, 34, 35, 36, 37, 38, 39, 40, 41, 42, 43, 44, 45, 46, 47, 48, 49, 50, 51, 52, 53, 54, 55, 56, 57, 58, 59, 60, 61, 62, 63, 2, 3, 4, 5, 6, 7] XW_all_S_un SWB_fst rfl 0 rfl rfl ⟨Nat.zero_le _, Nat.zero_le _⟩ dX4_undo_28 rfl hl.1 rfl (Nat.le_of_ble_eq_true rfl) (fun H locs hP hD hS => ?_)
    have hP : va_P (dC, dI) vwCl (XW cI cZ cO A Q fl ((f_SpopInto sv.1 sv.2.1 sv.2.2 un).2.2) ut u0 u1 ((f_SpopInto sv.1 sv.2.1 sv.2.2 un).2.1) x r) H := Eq.mp (congrArg (fun w => va_P (dC, dI) vwCl w H) XW_ks_S_un) hP
    have hD : va_D A0 (XW cI cZ cO A Q fl ((f_SpopInto sv.1 sv.2.1 sv.2.2 un).2.2) ut u0 u1 ((f_SpopInto sv.1 sv.2.1 sv.2.2 un).2.1) x r) := Eq.mp (congrArg (fun w => va_D A0 w) XW_ks_S_un) hD
    have r1 : f_Xundo fl un ut u0 u1 sv x r = .ok ((f_SpopInto sv.1 sv.2.1 sv.2.2 un).1, (f_SpopInto sv.1 sv.2.1 sv.2.2 un).2.2, (f_SpopInto sv.1 sv.2.1 sv.2.2 un).2.1) := by
      rw [f_Xundo, if_neg c_7]
    exact kx_ret r1 (kw_i hx hb hr hlk hP hS dX4_undo_31 rfl rfl) (Nat.zero_le _) (Nat.zero_le _)
  · have r2 : f_Xundo fl un ut u0 u1 sv x r = .error (2, r) := by
      rw [f_Xundo, if_pos c_7]
    exact kx_thr (k := 2) (r1 := r) (W1 := XW cI cZ cO A Q fl un ut u0 u1 sv x r) (text := "there is no saved state") hx hb hst hown hlk (hml.trans hl.1.symm) htab (by decide) (hts (.classLink RX4 72 "java/lang/IllegalStateException") (by decide +kernel)) (hts (.initialized "java/lang/IllegalStateException") (by decide +kernel)) (fun w h => hts w ((fun w h => List.mem_cons_of_mem _ (List.mem_append_right _ h)) w h)) hX (by decide) hS hP rfl dX4_undo_10 dX4_undo_13 dX4_undo_14 dX4_undo_16 dX4_undo_19 (Nat.le_of_ble_eq_true rfl) (Nat.le_of_ble_eq_true rfl) (Nat.le_of_ble_eq_true rfl) (Nat.le_of_ble_eq_true rfl) (Nat.le_of_ble_eq_true rfl) (Nat.le_of_ble_eq_true rfl) r2

def rm_X4_arm : Room := { frames := 6, cells := 1, slots := 6, locals := 82 }
theorem mi_X4_arm : kM yX4_arm wsX4_arm cX4_arm 3 (some .int) 2 := ⟨⟨_, rfl⟩, by decide, by decide, by decide +kernel⟩
def f_Xarm (fl : (Nat → Int32)) (un : BS) (ut : BS) (u0 : BS) (u1 : BS) (sv : SS) (x : BS) (r : BS) (p0 : Int32) (p1 : Int32) : Except (Nat × BS) (Int32) := if (f_has un p0) = true then (if (f_XisWithin p1 (0 : Int32) (8 : Int32)) = true then (.ok (f_property un p0 p1)) else .error (1, r)) else .error (3, r)
set_option maxHeartbeats 1000000 in
set_option maxRecDepth 100000 in
theorem c_X4_arm (l : Launch) (hst : l.stackTraces = false) (dC : Nat → ClassId) (dI : Nat → Nat → Nat) (cI cZ cO : ClassId) (A : Nat → Nat) (Q : Nat → Nat → Nat) (fl : (Nat → Int32)) (un : BS) (ut : BS) (u0 : BS) (u1 : BS) (sv : SS) (x : BS) (r : BS) (p0 : Int32) (p1 : Int32) (sz : Nat) : vx_Met l yX4_arm wsX4_arm rm_X4_arm (va_Pc [.ref (A 0), .int p0, .int p1] (fun U => U.heap.size = sz ∧ va_P (dC, dI) vwCl (XW cI cZ cO A Q fl un ut u0 u1 sv x r) U.heap ∧ va_K (dC, dI) vwCl (TY cI cZ cO) U ∧ va_D (fun _ => True) (XW cI cZ cO A Q fl un ut u0 u1 sv x r) ∧ XT (va_A (XW cI cZ cO A Q fl un ut u0 u1 sv x r) sz) U)) (kQx (f_Xarm fl un ut u0 u1 sv x r p0 p1) (fun z => kQw (some (.int z)) (dC, dI) vwCl (XW cI cZ cO A Q fl un ut u0 u1 sv x r) (va_A (XW cI cZ cO A Q fl un ut u0 u1 sv x r) sz))) (xC (f_Xarm fl un ut u0 u1 sv x r p0 p1) (dC, dI) vwCl (fun r1 => XW cI cZ cO A Q fl un ut u0 u1 sv x r1) (va_A (XW cI cZ cO A Q fl un ut u0 u1 sv x r) sz)) 1 6 (va_A (XW cI cZ cO A Q fl un ut u0 u1 sv x r) sz) := by
  refine kofX (cc := cX4_arm) (maxL := 3) (ret := some .int) (by decide) rfl (Nat.le_of_ble_eq_true rfl) ?_
  intro p e s m args below meth c ls S hr hlk hnm hsz hP hK hD hS hA hX htab hl
  generalize hA0 : va_A (XW cI cZ cO A Q fl un ut u0 u1 sv x r) sz = A0 at hD hS hA hX ⊢
  subst hsz
  obtain ⟨hx, hb, hml, hown, hts⟩ := id S
  have inX4 : ∀ w ∈ wsX40, w ∈ wsX4_arm := fun w h => List.mem_cons_of_mem _ (List.mem_append_left _ (List.mem_append_left _ (List.mem_append_left _ (List.mem_append_right _ h))))
  have hl : lv_has ls 3 [(0, .ref (A 0)), (1, .int p0), (2, .int p1)] := hl
  refine lv_aload_n hx hb dX4_arm_0 rfl (lv_at hl 0 rfl) ?_
  refine va_get (D := (dC, dI)) (ci := 4) (v := .ref (A 1)) (C := RX4) (T := TX4) (N := 8) hx hb hts inX4 hown hK hP 0 rfl rfl 0 (by decide) (hts (.fieldLink RX4 10 "BoardMetronomes" "now" "LBoardMetronomes$Bench;") (by decide +kernel)) (fun _ h9 => h9) rfl dX4_arm_1 ?_
  refine lv_iload_n hx hb dX4_arm_4 rfl (lv_at hl 1 rfl) ?_
  refine kc_v (As := [.int p0]) (rest := []) S (v := .int (bI (f_has un p0))) (c_X0_has l dC dI cI cZ cO (A 1) (Q 1) un p0) gX4_arm_X0_has mi_X0_has ⟨rfl, rfl⟩ ⟨Nat.le_of_ble_eq_true rfl, Nat.le_of_ble_eq_true rfl⟩ hK (XW_p_un hP) 0 rfl rfl ⟨Nat.zero_le _, Nat.zero_le _⟩ dX4_arm_5 rfl hl.1 rfl (Nat.le_of_ble_eq_true rfl) ?_
  refine kb_ne (tgt := 21) hx hb dX4_arm_8 (by decide) (fun c_8 => ?_) (fun c_8 => ?_)
  · refine lv_iload_n hx hb dX4_arm_21 rfl (lv_at hl 2 rfl) ?_
    refine lv_iconst (v := (0 : Int32)) hx hb dX4_arm_22 (by decide) ?_
    refine lv_bipush (v := (8 : Int32)) hx hb dX4_arm_23 (by decide) ?_
    refine kc_p (y := yX4_isWithin) (As := [.int p1, .int (0 : Int32), .int (8 : Int32)]) (rest := []) rfl S (v := .int (bI (f_XisWithin p1 (0 : Int32) (8 : Int32)))) (c_X4_isWithin l p1 (0 : Int32) (8 : Int32)) gX4_arm_X4_isWithin mi_X4_isWithin ⟨rfl, rfl⟩ ⟨Nat.le_of_ble_eq_true rfl, Nat.le_of_ble_eq_true rfl⟩ ⟨Nat.zero_le _, Nat.zero_le _⟩ dX4_arm_25 rfl hl.1 rfl (Nat.le_of_ble_eq_true rfl) ?_
    refine kb_ne (tgt := 41) hx hb dX4_arm_28 (by decide) (fun c_28 => ?_) (fun c_28 => ?_)
    · refine lv_aload_n hx hb dX4_arm_41 rfl (lv_at hl 0 rfl) ?_
      refine va_get (D := (dC, dI)) (ci := 4) (v := .ref (A 1)) (C := RX4) (T := TX4) (N := 8) hx hb hts inX4 hown hK hP 0 rfl rfl 0 (by decide) (hts (.fieldLink RX4 10 "BoardMetronomes" "now" "LBoardMetronomes$Bench;") (by decide +kernel)) (fun _ h9 => h9) rfl dX4_arm_42 ?_
      refine lv_iload_n hx hb dX4_arm_45 rfl (lv_at hl 1 rfl) ?_
      refine lv_iload_n hx hb dX4_arm_46 rfl (lv_at hl 2 rfl) ?_
      refine kc_v (As := [.int p0, .int p1]) (rest := []) S (v := .int (f_property un p0 p1)) (c_X0_property l dC dI cI cZ cO (A 1) (Q 1) un p0 p1) gX4_arm_X0_property mi_X0_property ⟨rfl, rfl⟩ ⟨Nat.le_of_ble_eq_true rfl, Nat.le_of_ble_eq_true rfl⟩ hK (XW_p_un hP) 0 rfl rfl ⟨Nat.zero_le _, Nat.zero_le _⟩ dX4_arm_47 rfl hl.1 rfl (Nat.le_of_ble_eq_true rfl) ?_
      have r1 : f_Xarm fl un ut u0 u1 sv x r p0 p1 = .ok (f_property un p0 p1) := by
        rw [f_Xarm, if_pos c_8, if_pos c_28]
      exact kx_ret r1 (kw_i hx hb hr hlk hP hS dX4_arm_50 rfl rfl) (Nat.zero_le _) (Nat.zero_le _)
    · have r2 : f_Xarm fl un ut u0 u1 sv x r p0 p1 = .error (1, r) := by
        rw [f_Xarm, if_pos c_8, if_neg c_28]
      exact kx_thr (k := 1) (r1 := r) (W1 := XW cI cZ cO A Q fl un ut u0 u1 sv x r) (text := "what is not 0 to 8") hx hb hst hown hlk (hml.trans hl.1.symm) htab (by decide) (hts (.classLink RX4 61 "java/lang/IllegalArgumentException") (by decide +kernel)) (hts (.initialized "java/lang/IllegalArgumentException") (by decide +kernel)) (fun w h => hts w ((fun w h => List.mem_cons_of_mem _ (List.mem_append_right _ h)) w h)) hX (by decide) hS hP rfl dX4_arm_31 dX4_arm_34 dX4_arm_35 dX4_arm_37 dX4_arm_40 (Nat.le_of_ble_eq_true rfl) (Nat.le_of_ble_eq_true rfl) (Nat.le_of_ble_eq_true rfl) (Nat.le_of_ble_eq_true rfl) (Nat.le_of_ble_eq_true rfl) (Nat.le_of_ble_eq_true rfl) r2
  · have r3 : f_Xarm fl un ut u0 u1 sv x r p0 p1 = .error (3, r) := by
      rw [f_Xarm, if_neg c_8]
    exact kx_thr (k := 3) (r1 := r) (W1 := XW cI cZ cO A Q fl un ut u0 u1 sv x r) (text := "no such metronome") hx hb hst hown hlk (hml.trans hl.1.symm) htab (by decide) (hts (.classLink RX4 88 "java/lang/IndexOutOfBoundsException") (by decide +kernel)) (hts (.initialized "java/lang/IndexOutOfBoundsException") (by decide +kernel)) (fun w h => hts w ((fun w h => List.mem_cons_of_mem _ (List.mem_append_left _ (List.mem_append_right _ h))) w h)) hX (by decide) hS hP rfl dX4_arm_11 dX4_arm_14 dX4_arm_15 dX4_arm_17 dX4_arm_20 (Nat.le_of_ble_eq_true rfl) (Nat.le_of_ble_eq_true rfl) (Nat.le_of_ble_eq_true rfl) (Nat.le_of_ble_eq_true rfl) (Nat.le_of_ble_eq_true rfl) (Nat.le_of_ble_eq_true rfl) r3

def rm_X4_apart : Room := { frames := 6, cells := 1, slots := 6, locals := 82 }
theorem mi_X4_apart : kM yX4_apart wsX4_apart cX4_apart 3 (some .int) 2 := ⟨⟨_, rfl⟩, by decide, by decide, by decide +kernel⟩
def f_Xapart (fl : (Nat → Int32)) (un : BS) (ut : BS) (u0 : BS) (u1 : BS) (sv : SS) (x : BS) (r : BS) (p0 : Int32) (p1 : Int32) : Except (Nat × BS) (Int32) := if (f_has un p0) = true then (if (f_has un p1) = true then (if p0 = p1 then (.error (1, r)) else .ok (f_distance un p0 p1)) else .error (3, r)) else .error (3, r)
set_option maxHeartbeats 1000000 in
set_option maxRecDepth 100000 in
theorem c_X4_apart (l : Launch) (hst : l.stackTraces = false) (dC : Nat → ClassId) (dI : Nat → Nat → Nat) (cI cZ cO : ClassId) (A : Nat → Nat) (Q : Nat → Nat → Nat) (fl : (Nat → Int32)) (un : BS) (ut : BS) (u0 : BS) (u1 : BS) (sv : SS) (x : BS) (r : BS) (p0 : Int32) (p1 : Int32) (sz : Nat) : vx_Met l yX4_apart wsX4_apart rm_X4_apart (va_Pc [.ref (A 0), .int p0, .int p1] (fun U => U.heap.size = sz ∧ va_P (dC, dI) vwCl (XW cI cZ cO A Q fl un ut u0 u1 sv x r) U.heap ∧ va_K (dC, dI) vwCl (TY cI cZ cO) U ∧ va_D (fun _ => True) (XW cI cZ cO A Q fl un ut u0 u1 sv x r) ∧ XT (va_A (XW cI cZ cO A Q fl un ut u0 u1 sv x r) sz) U)) (kQx (f_Xapart fl un ut u0 u1 sv x r p0 p1) (fun z => kQw (some (.int z)) (dC, dI) vwCl (XW cI cZ cO A Q fl un ut u0 u1 sv x r) (va_A (XW cI cZ cO A Q fl un ut u0 u1 sv x r) sz))) (xC (f_Xapart fl un ut u0 u1 sv x r p0 p1) (dC, dI) vwCl (fun r1 => XW cI cZ cO A Q fl un ut u0 u1 sv x r1) (va_A (XW cI cZ cO A Q fl un ut u0 u1 sv x r) sz)) 1 6 (va_A (XW cI cZ cO A Q fl un ut u0 u1 sv x r) sz) := by
  refine kofX (cc := cX4_apart) (maxL := 3) (ret := some .int) (by decide) rfl (Nat.le_of_ble_eq_true rfl) ?_
  intro p e s m args below meth c ls S hr hlk hnm hsz hP hK hD hS hA hX htab hl
  generalize hA0 : va_A (XW cI cZ cO A Q fl un ut u0 u1 sv x r) sz = A0 at hD hS hA hX ⊢
  subst hsz
  obtain ⟨hx, hb, hml, hown, hts⟩ := id S
  have inX4 : ∀ w ∈ wsX40, w ∈ wsX4_apart := fun w h => List.mem_cons_of_mem _ (List.mem_append_left _ (List.mem_append_left _ (List.mem_append_left _ (List.mem_append_right _ h))))
  have hl : lv_has ls 3 [(0, .ref (A 0)), (1, .int p0), (2, .int p1)] := hl
  refine lv_aload_n hx hb dX4_apart_0 rfl (lv_at hl 0 rfl) ?_
  refine va_get (D := (dC, dI)) (ci := 4) (v := .ref (A 1)) (C := RX4) (T := TX4) (N := 8) hx hb hts inX4 hown hK hP 0 rfl rfl 0 (by decide) (hts (.fieldLink RX4 10 "BoardMetronomes" "now" "LBoardMetronomes$Bench;") (by decide +kernel)) (fun _ h9 => h9) rfl dX4_apart_1 ?_
  refine lv_iload_n hx hb dX4_apart_4 rfl (lv_at hl 1 rfl) ?_
  refine kc_v (As := [.int p0]) (rest := []) S (v := .int (bI (f_has un p0))) (c_X0_has l dC dI cI cZ cO (A 1) (Q 1) un p0) gX4_apart_X0_has mi_X0_has ⟨rfl, rfl⟩ ⟨Nat.le_of_ble_eq_true rfl, Nat.le_of_ble_eq_true rfl⟩ hK (XW_p_un hP) 0 rfl rfl ⟨Nat.zero_le _, Nat.zero_le _⟩ dX4_apart_5 rfl hl.1 rfl (Nat.le_of_ble_eq_true rfl) ?_
  refine kb_eq (tgt := 22) hx hb dX4_apart_8 (by decide) (fun c_8 => ?_) (fun c_8 => ?_)
  · have r1 : f_Xapart fl un ut u0 u1 sv x r p0 p1 = .error (3, r) := by
      rw [f_Xapart, if_neg c_8]
    exact kx_thr (k := 3) (r1 := r) (W1 := XW cI cZ cO A Q fl un ut u0 u1 sv x r) (text := "no such metronome") hx hb hst hown hlk (hml.trans hl.1.symm) htab (by decide) (hts (.classLink RX4 88 "java/lang/IndexOutOfBoundsException") (by decide +kernel)) (hts (.initialized "java/lang/IndexOutOfBoundsException") (by decide +kernel)) (fun w h => hts w ((fun w h => List.mem_cons_of_mem _ (List.mem_append_left _ (List.mem_append_right _ h))) w h)) hX (by decide) hS hP rfl dX4_apart_22 dX4_apart_25 dX4_apart_26 dX4_apart_28 dX4_apart_31 (Nat.le_of_ble_eq_true rfl) (Nat.le_of_ble_eq_true rfl) (Nat.le_of_ble_eq_true rfl) (Nat.le_of_ble_eq_true rfl) (Nat.le_of_ble_eq_true rfl) (Nat.le_of_ble_eq_true rfl) r1
  · refine lv_aload_n hx hb dX4_apart_11 rfl (lv_at hl 0 rfl) ?_
    refine va_get (D := (dC, dI)) (ci := 4) (v := .ref (A 1)) (C := RX4) (T := TX4) (N := 8) hx hb hts inX4 hown hK hP 0 rfl rfl 0 (by decide) (hts (.fieldLink RX4 10 "BoardMetronomes" "now" "LBoardMetronomes$Bench;") (by decide +kernel)) (fun _ h9 => h9) rfl dX4_apart_12 ?_
    refine lv_iload_n hx hb dX4_apart_15 rfl (lv_at hl 2 rfl) ?_
    refine kc_v (As := [.int p1]) (rest := []) S (v := .int (bI (f_has un p1))) (c_X0_has l dC dI cI cZ cO (A 1) (Q 1) un p1) gX4_apart_X0_has mi_X0_has ⟨rfl, rfl⟩ ⟨Nat.le_of_ble_eq_true rfl, Nat.le_of_ble_eq_true rfl⟩ hK (XW_p_un hP) 0 rfl rfl ⟨Nat.zero_le _, Nat.zero_le _⟩ dX4_apart_16 rfl hl.1 rfl (Nat.le_of_ble_eq_true rfl) ?_
    refine kb_ne (tgt := 32) hx hb dX4_apart_19 (by decide) (fun c_19 => ?_) (fun c_19 => ?_)
    · refine lv_iload_n hx hb dX4_apart_32 rfl (lv_at hl 1 rfl) ?_
      refine lv_iload_n hx hb dX4_apart_33 rfl (lv_at hl 2 rfl) ?_
      refine lv_icmp_ne (tgt := 47) hx hb dX4_apart_34 (by decide) (fun c_34 => ?_) (fun c_34 => ?_)
      · refine lv_aload_n hx hb dX4_apart_47 rfl (lv_at hl 0 rfl) ?_
        refine va_get (D := (dC, dI)) (ci := 4) (v := .ref (A 1)) (C := RX4) (T := TX4) (N := 8) hx hb hts inX4 hown hK hP 0 rfl rfl 0 (by decide) (hts (.fieldLink RX4 10 "BoardMetronomes" "now" "LBoardMetronomes$Bench;") (by decide +kernel)) (fun _ h9 => h9) rfl dX4_apart_48 ?_
        refine lv_iload_n hx hb dX4_apart_51 rfl (lv_at hl 1 rfl) ?_
        refine lv_iload_n hx hb dX4_apart_52 rfl (lv_at hl 2 rfl) ?_
        refine kc_v (As := [.int p0, .int p1]) (rest := []) S (v := .int (f_distance un p0 p1)) (c_X0_distance l dC dI cI cZ cO (A 1) (Q 1) un p0 p1) gX4_apart_X0_distance mi_X0_distance ⟨rfl, rfl⟩ ⟨Nat.le_of_ble_eq_true rfl, Nat.le_of_ble_eq_true rfl⟩ hK (XW_p_un hP) 0 rfl rfl ⟨Nat.zero_le _, Nat.zero_le _⟩ dX4_apart_53 rfl hl.1 rfl (Nat.le_of_ble_eq_true rfl) ?_
        have r2 : f_Xapart fl un ut u0 u1 sv x r p0 p1 = .ok (f_distance un p0 p1) := by
          rw [f_Xapart, if_pos c_8, if_pos c_19, if_neg c_34]
        exact kx_ret r2 (kw_i hx hb hr hlk hP hS dX4_apart_56 rfl rfl) (Nat.zero_le _) (Nat.zero_le _)
      · have r3 : f_Xapart fl un ut u0 u1 sv x r p0 p1 = .error (1, r) := by
          rw [f_Xapart, if_pos c_8, if_pos c_19, if_pos c_34]
        exact kx_thr (k := 1) (r1 := r) (W1 := XW cI cZ cO A Q fl un ut u0 u1 sv x r) (text := "both are the same") hx hb hst hown hlk (hml.trans hl.1.symm) htab (by decide) (hts (.classLink RX4 61 "java/lang/IllegalArgumentException") (by decide +kernel)) (hts (.initialized "java/lang/IllegalArgumentException") (by decide +kernel)) (fun w h => hts w ((fun w h => List.mem_cons_of_mem _ (List.mem_append_right _ h)) w h)) hX (by decide) hS hP rfl dX4_apart_37 dX4_apart_40 dX4_apart_41 dX4_apart_43 dX4_apart_46 (Nat.le_of_ble_eq_true rfl) (Nat.le_of_ble_eq_true rfl) (Nat.le_of_ble_eq_true rfl) (Nat.le_of_ble_eq_true rfl) (Nat.le_of_ble_eq_true rfl) (Nat.le_of_ble_eq_true rfl) r3
    · have r4 : f_Xapart fl un ut u0 u1 sv x r p0 p1 = .error (3, r) := by
        rw [f_Xapart, if_pos c_8, if_neg c_19]
      exact kx_thr (k := 3) (r1 := r) (W1 := XW cI cZ cO A Q fl un ut u0 u1 sv x r) (text := "no such metronome") hx hb hst hown hlk (hml.trans hl.1.symm) htab (by decide) (hts (.classLink RX4 88 "java/lang/IndexOutOfBoundsException") (by decide +kernel)) (hts (.initialized "java/lang/IndexOutOfBoundsException") (by decide +kernel)) (fun w h => hts w ((fun w h => List.mem_cons_of_mem _ (List.mem_append_left _ (List.mem_append_right _ h))) w h)) hX (by decide) hS hP rfl dX4_apart_22 dX4_apart_25 dX4_apart_26 dX4_apart_28 dX4_apart_31 (Nat.le_of_ble_eq_true rfl) (Nat.le_of_ble_eq_true rfl) (Nat.le_of_ble_eq_true rfl) (Nat.le_of_ble_eq_true rfl) (Nat.le_of_ble_eq_true rfl) (Nat.le_of_ble_eq_true rfl) r4

def rm_X4_count : Room := { frames := 6, cells := 1, slots := 6, locals := 130 }
theorem mi_X4_count : kM yX4_count wsX4_count cX4_count 2 (some .int) 1 := ⟨⟨_, rfl⟩, by decide, by decide, by decide +kernel⟩
def f_Xcount (fl : (Nat → Int32)) (un : BS) (ut : BS) (u0 : BS) (u1 : BS) (sv : SS) (x : BS) (r : BS) (p0 : Int32) : Except (Nat × BS) (Int32) := if (f_XisWithin p0 (0 : Int32) (11 : Int32)) = true then (.ok (f_Xfigure fl un ut u0 u1 sv x r p0)) else .error (1, r)
set_option maxHeartbeats 1000000 in
set_option maxRecDepth 100000 in
theorem c_X4_count (l : Launch) (hst : l.stackTraces = false) (dC : Nat → ClassId) (dI : Nat → Nat → Nat) (cI cZ cO : ClassId) (A : Nat → Nat) (Q : Nat → Nat → Nat) (fl : (Nat → Int32)) (un : BS) (ut : BS) (u0 : BS) (u1 : BS) (sv : SS) (x : BS) (r : BS) (p0 : Int32) (sz : Nat) : vx_Met l yX4_count wsX4_count rm_X4_count (va_Pc [.ref (A 0), .int p0] (fun U => U.heap.size = sz ∧ va_P (dC, dI) vwCl (XW cI cZ cO A Q fl un ut u0 u1 sv x r) U.heap ∧ va_K (dC, dI) vwCl (TY cI cZ cO) U ∧ va_D (fun _ => True) (XW cI cZ cO A Q fl un ut u0 u1 sv x r) ∧ XT (va_A (XW cI cZ cO A Q fl un ut u0 u1 sv x r) sz) U)) (kQx (f_Xcount fl un ut u0 u1 sv x r p0) (fun z => kQw (some (.int z)) (dC, dI) vwCl (XW cI cZ cO A Q fl un ut u0 u1 sv x r) (va_A (XW cI cZ cO A Q fl un ut u0 u1 sv x r) sz))) (xC (f_Xcount fl un ut u0 u1 sv x r p0) (dC, dI) vwCl (fun r1 => XW cI cZ cO A Q fl un ut u0 u1 sv x r1) (va_A (XW cI cZ cO A Q fl un ut u0 u1 sv x r) sz)) 1 6 (va_A (XW cI cZ cO A Q fl un ut u0 u1 sv x r) sz) := by
  refine kofX (cc := cX4_count) (maxL := 2) (ret := some .int) (by decide) rfl (Nat.le_of_ble_eq_true rfl) ?_
  intro p e s m args below meth c ls S hr hlk hnm hsz hP hK hD hS hA hX htab hl
  generalize hA0 : va_A (XW cI cZ cO A Q fl un ut u0 u1 sv x r) sz = A0 at hD hS hA hX ⊢
  subst hsz
  obtain ⟨hx, hb, hml, hown, hts⟩ := id S
  have inX4 : ∀ w ∈ wsX40, w ∈ wsX4_count := fun w h => List.mem_cons_of_mem _ (List.mem_append_left _ (List.mem_append_left _ (List.mem_append_left _ (List.mem_append_right _ h))))
  have hl : lv_has ls 2 [(0, .ref (A 0)), (1, .int p0)] := hl
  refine lv_iload_n hx hb dX4_count_0 rfl (lv_at hl 1 rfl) ?_
  refine lv_iconst (v := (0 : Int32)) hx hb dX4_count_1 (by decide) ?_
  refine lv_bipush (v := (11 : Int32)) hx hb dX4_count_2 (by decide) ?_
  refine kc_p (y := yX4_isWithin) (As := [.int p0, .int (0 : Int32), .int (11 : Int32)]) (rest := []) rfl S (v := .int (bI (f_XisWithin p0 (0 : Int32) (11 : Int32)))) (c_X4_isWithin l p0 (0 : Int32) (11 : Int32)) gX4_count_X4_isWithin mi_X4_isWithin ⟨rfl, rfl⟩ ⟨Nat.le_of_ble_eq_true rfl, Nat.le_of_ble_eq_true rfl⟩ ⟨Nat.zero_le _, Nat.zero_le _⟩ dX4_count_4 rfl hl.1 rfl (Nat.le_of_ble_eq_true rfl) ?_
  refine kb_ne (tgt := 20) hx hb dX4_count_7 (by decide) (fun c_7 => ?_) (fun c_7 => ?_)
  · refine lv_aload_n hx hb dX4_count_20 rfl (lv_at hl 0 rfl) ?_
    refine lv_iload_n hx hb dX4_count_21 rfl (lv_at hl 1 rfl) ?_
    refine kc_v (As := [.int p0]) (rest := []) S (v := .int (f_Xfigure fl un ut u0 u1 sv x r p0)) (c_X4_figure l dC dI cI cZ cO A Q fl un ut u0 u1 sv x r p0) gX4_count_X4_figure mi_X4_figure ⟨rfl, rfl⟩ ⟨Nat.le_of_ble_eq_true rfl, Nat.le_of_ble_eq_true rfl⟩ hK hP 0 rfl rfl ⟨Nat.zero_le _, Nat.zero_le _⟩ dX4_count_22 rfl hl.1 rfl (Nat.le_of_ble_eq_true rfl) ?_
    have r1 : f_Xcount fl un ut u0 u1 sv x r p0 = .ok (f_Xfigure fl un ut u0 u1 sv x r p0) := by
      rw [f_Xcount, if_pos c_7]
    exact kx_ret r1 (kw_i hx hb hr hlk hP hS dX4_count_25 rfl rfl) (Nat.zero_le _) (Nat.zero_le _)
  · have r2 : f_Xcount fl un ut u0 u1 sv x r p0 = .error (1, r) := by
      rw [f_Xcount, if_neg c_7]
    exact kx_thr (k := 1) (r1 := r) (W1 := XW cI cZ cO A Q fl un ut u0 u1 sv x r) (text := "what is not 0 to 11") hx hb hst hown hlk (hml.trans hl.1.symm) htab (by decide) (hts (.classLink RX4 61 "java/lang/IllegalArgumentException") (by decide +kernel)) (hts (.initialized "java/lang/IllegalArgumentException") (by decide +kernel)) (fun w h => hts w ((fun w h => List.mem_cons_of_mem _ (List.mem_append_right _ h)) w h)) hX (by decide) hS hP rfl dX4_count_10 dX4_count_13 dX4_count_14 dX4_count_16 dX4_count_19 (Nat.le_of_ble_eq_true rfl) (Nat.le_of_ble_eq_true rfl) (Nat.le_of_ble_eq_true rfl) (Nat.le_of_ble_eq_true rfl) (Nat.le_of_ble_eq_true rfl) (Nat.le_of_ble_eq_true rfl) r2

def rm_X4_setting : Room := { frames := 6, cells := 1, slots := 6, locals := 82 }
theorem mi_X4_setting : kM yX4_setting wsX4_setting cX4_setting 2 (some .int) 1 := ⟨⟨_, rfl⟩, by decide, by decide, by decide +kernel⟩
def f_Xsetting (fl : (Nat → Int32)) (un : BS) (ut : BS) (u0 : BS) (u1 : BS) (sv : SS) (x : BS) (r : BS) (p0 : Int32) : Except (Nat × BS) (Int32) := if (f_XisSetting p0) = true then (.ok (f_settingValue un p0)) else .error (3, r)
set_option maxHeartbeats 1000000 in
set_option maxRecDepth 100000 in
theorem c_X4_setting (l : Launch) (hst : l.stackTraces = false) (dC : Nat → ClassId) (dI : Nat → Nat → Nat) (cI cZ cO : ClassId) (A : Nat → Nat) (Q : Nat → Nat → Nat) (fl : (Nat → Int32)) (un : BS) (ut : BS) (u0 : BS) (u1 : BS) (sv : SS) (x : BS) (r : BS) (p0 : Int32) (sz : Nat) : vx_Met l yX4_setting wsX4_setting rm_X4_setting (va_Pc [.ref (A 0), .int p0] (fun U => U.heap.size = sz ∧ va_P (dC, dI) vwCl (XW cI cZ cO A Q fl un ut u0 u1 sv x r) U.heap ∧ va_K (dC, dI) vwCl (TY cI cZ cO) U ∧ va_D (fun _ => True) (XW cI cZ cO A Q fl un ut u0 u1 sv x r) ∧ XT (va_A (XW cI cZ cO A Q fl un ut u0 u1 sv x r) sz) U)) (kQx (f_Xsetting fl un ut u0 u1 sv x r p0) (fun z => kQw (some (.int z)) (dC, dI) vwCl (XW cI cZ cO A Q fl un ut u0 u1 sv x r) (va_A (XW cI cZ cO A Q fl un ut u0 u1 sv x r) sz))) (xC (f_Xsetting fl un ut u0 u1 sv x r p0) (dC, dI) vwCl (fun r1 => XW cI cZ cO A Q fl un ut u0 u1 sv x r1) (va_A (XW cI cZ cO A Q fl un ut u0 u1 sv x r) sz)) 1 6 (va_A (XW cI cZ cO A Q fl un ut u0 u1 sv x r) sz) := by
  refine kofX (cc := cX4_setting) (maxL := 2) (ret := some .int) (by decide) rfl (Nat.le_of_ble_eq_true rfl) ?_
  intro p e s m args below meth c ls S hr hlk hnm hsz hP hK hD hS hA hX htab hl
  generalize hA0 : va_A (XW cI cZ cO A Q fl un ut u0 u1 sv x r) sz = A0 at hD hS hA hX ⊢
  subst hsz
  obtain ⟨hx, hb, hml, hown, hts⟩ := id S
  have inX4 : ∀ w ∈ wsX40, w ∈ wsX4_setting := fun w h => List.mem_cons_of_mem _ (List.mem_append_left _ (List.mem_append_left _ (List.mem_append_right _ h)))
  have hl : lv_has ls 2 [(0, .ref (A 0)), (1, .int p0)] := hl
  refine lv_iload_n hx hb dX4_setting_0 rfl (lv_at hl 1 rfl) ?_
  refine kc_p (y := yX4_isSetting) (As := [.int p0]) (rest := []) rfl S (v := .int (bI (f_XisSetting p0))) (c_X4_isSetting l p0) gX4_setting_X4_isSetting mi_X4_isSetting ⟨rfl, rfl⟩ ⟨Nat.le_of_ble_eq_true rfl, Nat.le_of_ble_eq_true rfl⟩ ⟨Nat.zero_le _, Nat.zero_le _⟩ dX4_setting_1 rfl hl.1 rfl (Nat.le_of_ble_eq_true rfl) ?_
  refine kb_ne (tgt := 17) hx hb dX4_setting_4 (by decide) (fun c_4 => ?_) (fun c_4 => ?_)
  · refine lv_aload_n hx hb dX4_setting_17 rfl (lv_at hl 0 rfl) ?_
    refine va_get (D := (dC, dI)) (ci := 4) (v := .ref (A 1)) (C := RX4) (T := TX4) (N := 8) hx hb hts inX4 hown hK hP 0 rfl rfl 0 (by decide) (hts (.fieldLink RX4 10 "BoardMetronomes" "now" "LBoardMetronomes$Bench;") (by decide +kernel)) (fun _ h9 => h9) rfl dX4_setting_18 ?_
    refine lv_iload_n hx hb dX4_setting_21 rfl (lv_at hl 1 rfl) ?_
    refine kc_v (As := [.int p0]) (rest := []) S (v := .int (f_settingValue un p0)) (c_X0_settingValue l dC dI cI cZ cO (A 1) (Q 1) un p0) gX4_setting_X0_settingValue mi_X0_settingValue ⟨rfl, rfl⟩ ⟨Nat.le_of_ble_eq_true rfl, Nat.le_of_ble_eq_true rfl⟩ hK (XW_p_un hP) 0 rfl rfl ⟨Nat.zero_le _, Nat.zero_le _⟩ dX4_setting_22 rfl hl.1 rfl (Nat.le_of_ble_eq_true rfl) ?_
    have r1 : f_Xsetting fl un ut u0 u1 sv x r p0 = .ok (f_settingValue un p0) := by
      rw [f_Xsetting, if_pos c_4]
    exact kx_ret r1 (kw_i hx hb hr hlk hP hS dX4_setting_25 rfl rfl) (Nat.zero_le _) (Nat.zero_le _)
  · have r2 : f_Xsetting fl un ut u0 u1 sv x r p0 = .error (3, r) := by
      rw [f_Xsetting, if_neg c_4]
    exact kx_thr (k := 3) (r1 := r) (W1 := XW cI cZ cO A Q fl un ut u0 u1 sv x r) (text := "no such setting") hx hb hst hown hlk (hml.trans hl.1.symm) htab (by decide) (hts (.classLink RX4 88 "java/lang/IndexOutOfBoundsException") (by decide +kernel)) (hts (.initialized "java/lang/IndexOutOfBoundsException") (by decide +kernel)) (fun w h => hts w ((fun w h => List.mem_cons_of_mem _ (List.mem_append_right _ h)) w h)) hX (by decide) hS hP rfl dX4_setting_7 dX4_setting_10 dX4_setting_11 dX4_setting_13 dX4_setting_16 (Nat.le_of_ble_eq_true rfl) (Nat.le_of_ble_eq_true rfl) (Nat.le_of_ble_eq_true rfl) (Nat.le_of_ble_eq_true rfl) (Nat.le_of_ble_eq_true rfl) (Nat.le_of_ble_eq_true rfl) r2

def rm_X4_ifRun : Room := { frames := 6, cells := 1, slots := 6, locals := 111 }
theorem mi_X4_ifRun : kM yX4_ifRun wsX4_ifRun cX4_ifRun 4 (some .int) 3 := ⟨⟨_, rfl⟩, by decide, by decide, by decide +kernel⟩
def f_XifRun (fl : (Nat → Int32)) (un : BS) (ut : BS) (u0 : BS) (u1 : BS) (sv : SS) (x : BS) (r : BS) (p0 : Int32) (p1 : Int32) (p2 : Int32) : Except (Nat × BS) (Int32 × BS) := if (f_XisWithin p0 (1 : Int32) (500 : Int32)) = true then (if (f_XisWithin p1 (0 : Int32) (99 : Int32)) = true then (if (f_XisWithin p2 (0 : Int32) (4 : Int32)) = true then (.ok (f_Xoutcome fl un (f_XtryOut fl un ut u0 u1 sv x r p0 p1) u0 u1 sv x r p2, (f_XtryOut fl un ut u0 u1 sv x r p0 p1))) else .error (1, r)) else .error (1, r)) else .error (1, r)
set_option maxHeartbeats 1000000 in
set_option maxRecDepth 100000 in
theorem c_X4_ifRun (l : Launch) (hst : l.stackTraces = false) (dC : Nat → ClassId) (dI : Nat → Nat → Nat) (cI cZ cO : ClassId) (A : Nat → Nat) (Q : Nat → Nat → Nat) (fl : (Nat → Int32)) (un : BS) (ut : BS) (u0 : BS) (u1 : BS) (sv : SS) (x : BS) (r : BS) (p0 : Int32) (p1 : Int32) (p2 : Int32) (sz : Nat) : vx_Met l yX4_ifRun wsX4_ifRun rm_X4_ifRun (va_Pc [.ref (A 0), .int p0, .int p1, .int p2] (fun U => U.heap.size = sz ∧ va_P (dC, dI) vwCl (XW cI cZ cO A Q fl un ut u0 u1 sv x r) U.heap ∧ va_K (dC, dI) vwCl (TY cI cZ cO) U ∧ va_D (fun _ => True) (XW cI cZ cO A Q fl un ut u0 u1 sv x r) ∧ XT (va_A (XW cI cZ cO A Q fl un ut u0 u1 sv x r) sz) U)) (kQx (f_XifRun fl un ut u0 u1 sv x r p0 p1 p2) (fun z => kQw (some (.int z.1)) (dC, dI) vwCl (XW cI cZ cO A Q fl un z.2 u0 u1 sv x r) (va_A (XW cI cZ cO A Q fl un ut u0 u1 sv x r) sz))) (xC (f_XifRun fl un ut u0 u1 sv x r p0 p1 p2) (dC, dI) vwCl (fun r1 => XW cI cZ cO A Q fl un ut u0 u1 sv x r1) (va_A (XW cI cZ cO A Q fl un ut u0 u1 sv x r) sz)) 1 6 (va_A (XW cI cZ cO A Q fl un ut u0 u1 sv x r) sz) := by
  refine kofX (cc := cX4_ifRun) (maxL := 4) (ret := some .int) (by decide) rfl (Nat.le_of_ble_eq_true rfl) ?_
  intro p e s m args below meth c ls S hr hlk hnm hsz hP hK hD hS hA hX htab hl
  generalize hA0 : va_A (XW cI cZ cO A Q fl un ut u0 u1 sv x r) sz = A0 at hD hS hA hX ⊢
  subst hsz
  obtain ⟨hx, hb, hml, hown, hts⟩ := id S
  have inX4 : ∀ w ∈ wsX40, w ∈ wsX4_ifRun := fun w h => List.mem_cons_of_mem _ (List.mem_append_left _ (List.mem_append_left _ (List.mem_append_right _ h)))
  have hl : lv_has ls 4 [(0, .ref (A 0)), (1, .int p0), (2, .int p1), (3, .int p2)] := hl
  refine lv_iload_n hx hb dX4_ifRun_0 rfl (lv_at hl 1 rfl) ?_
  refine lv_iconst (v := (1 : Int32)) hx hb dX4_ifRun_1 (by decide) ?_
  refine lv_sipush (v := (500 : Int32)) hx hb dX4_ifRun_2 (by decide) ?_
  refine kc_p (y := yX4_isWithin) (As := [.int p0, .int (1 : Int32), .int (500 : Int32)]) (rest := []) rfl S (v := .int (bI (f_XisWithin p0 (1 : Int32) (500 : Int32)))) (c_X4_isWithin l p0 (1 : Int32) (500 : Int32)) gX4_ifRun_X4_isWithin mi_X4_isWithin ⟨rfl, rfl⟩ ⟨Nat.le_of_ble_eq_true rfl, Nat.le_of_ble_eq_true rfl⟩ ⟨Nat.zero_le _, Nat.zero_le _⟩ dX4_ifRun_5 rfl hl.1 rfl (Nat.le_of_ble_eq_true rfl) ?_
  refine kb_eq (tgt := 30) hx hb dX4_ifRun_8 (by decide) (fun c_8 => ?_) (fun c_8 => ?_)
  · have r1 : f_XifRun fl un ut u0 u1 sv x r p0 p1 p2 = .error (1, r) := by
      rw [f_XifRun, if_neg c_8]
    exact kx_thr (k := 1) (r1 := r) (W1 := XW cI cZ cO A Q fl un ut u0 u1 sv x r) (text := "an argument is out of range") hx hb hst hown hlk (hml.trans hl.1.symm) htab (by decide) (hts (.classLink RX4 61 "java/lang/IllegalArgumentException") (by decide +kernel)) (hts (.initialized "java/lang/IllegalArgumentException") (by decide +kernel)) (fun w h => hts w ((fun w h => List.mem_cons_of_mem _ (List.mem_append_right _ h)) w h)) hX (by decide) hS hP rfl dX4_ifRun_30 dX4_ifRun_33 dX4_ifRun_34 dX4_ifRun_36 dX4_ifRun_39 (Nat.le_of_ble_eq_true rfl) (Nat.le_of_ble_eq_true rfl) (Nat.le_of_ble_eq_true rfl) (Nat.le_of_ble_eq_true rfl) (Nat.le_of_ble_eq_true rfl) (Nat.le_of_ble_eq_true rfl) r1
  · refine lv_iload_n hx hb dX4_ifRun_11 rfl (lv_at hl 2 rfl) ?_
    refine lv_iconst (v := (0 : Int32)) hx hb dX4_ifRun_12 (by decide) ?_
    refine lv_bipush (v := (99 : Int32)) hx hb dX4_ifRun_13 (by decide) ?_
    refine kc_p (y := yX4_isWithin) (As := [.int p1, .int (0 : Int32), .int (99 : Int32)]) (rest := []) rfl S (v := .int (bI (f_XisWithin p1 (0 : Int32) (99 : Int32)))) (c_X4_isWithin l p1 (0 : Int32) (99 : Int32)) gX4_ifRun_X4_isWithin mi_X4_isWithin ⟨rfl, rfl⟩ ⟨Nat.le_of_ble_eq_true rfl, Nat.le_of_ble_eq_true rfl⟩ ⟨Nat.zero_le _, Nat.zero_le _⟩ dX4_ifRun_15 rfl hl.1 rfl (Nat.le_of_ble_eq_true rfl) ?_
    refine kb_eq (tgt := 30) hx hb dX4_ifRun_18 (by decide) (fun c_18 => ?_) (fun c_18 => ?_)
    · have r2 : f_XifRun fl un ut u0 u1 sv x r p0 p1 p2 = .error (1, r) := by
        rw [f_XifRun, if_pos c_8, if_neg c_18]
      exact kx_thr (k := 1) (r1 := r) (W1 := XW cI cZ cO A Q fl un ut u0 u1 sv x r) (text := "an argument is out of range") hx hb hst hown hlk (hml.trans hl.1.symm) htab (by decide) (hts (.classLink RX4 61 "java/lang/IllegalArgumentException") (by decide +kernel)) (hts (.initialized "java/lang/IllegalArgumentException") (by decide +kernel)) (fun w h => hts w ((fun w h => List.mem_cons_of_mem _ (List.mem_append_right _ h)) w h)) hX (by decide) hS hP rfl dX4_ifRun_30 dX4_ifRun_33 dX4_ifRun_34 dX4_ifRun_36 dX4_ifRun_39 (Nat.le_of_ble_eq_true rfl) (Nat.le_of_ble_eq_true rfl) (Nat.le_of_ble_eq_true rfl) (Nat.le_of_ble_eq_true rfl) (Nat.le_of_ble_eq_true rfl) (Nat.le_of_ble_eq_true rfl) r2
    · refine lv_iload_n hx hb dX4_ifRun_21 rfl (lv_at hl 3 rfl) ?_
      refine lv_iconst (v := (0 : Int32)) hx hb dX4_ifRun_22 (by decide) ?_
      refine lv_iconst (v := (4 : Int32)) hx hb dX4_ifRun_23 (by decide) ?_
      refine kc_p (y := yX4_isWithin) (As := [.int p2, .int (0 : Int32), .int (4 : Int32)]) (rest := []) rfl S (v := .int (bI (f_XisWithin p2 (0 : Int32) (4 : Int32)))) (c_X4_isWithin l p2 (0 : Int32) (4 : Int32)) gX4_ifRun_X4_isWithin mi_X4_isWithin ⟨rfl, rfl⟩ ⟨Nat.le_of_ble_eq_true rfl, Nat.le_of_ble_eq_true rfl⟩ ⟨Nat.zero_le _, Nat.zero_le _⟩ dX4_ifRun_24 rfl hl.1 rfl (Nat.le_of_ble_eq_true rfl) ?_
      refine kb_ne (tgt := 40) hx hb dX4_ifRun_27 (by decide) (fun c_27 => ?_) (fun c_27 => ?_)
      · refine lv_aload_n hx hb dX4_ifRun_40 rfl (lv_at hl 0 rfl) ?_
        refine lv_iload_n hx hb dX4_ifRun_41 rfl (lv_at hl 1 rfl) ?_
        refine lv_iload_n hx hb dX4_ifRun_42 rfl (lv_at hl 2 rfl) ?_
        refine kc_w (As := [.int p0, .int p1]) (rest := []) S (v := none) (c_X4_tryOut l dC dI cI cZ cO A Q fl un ut u0 u1 sv x r p0 p1 s.heap.size) gX4_ifRun_X4_tryOut mi_X4_tryOut ⟨rfl, rfl⟩ ⟨Nat.le_of_ble_eq_true rfl, Nat.le_of_ble_eq_true rfl⟩ hK hP hD hS hA [0, 1, 2, 3, 4, 5, 6, 7, 8, 9, 10, 11, 12, 13, 14, 15, 16, 17, 18, 19, 20, 21, 22, 23, 24, 25, 26, 27, 28, 29, 30, 31, 32, 33, 34, 35, 36, 37, 38, 39, 40, 41, 42, 43, 44, 45, 46, 47, 48, 49, 50, 51, 52, 53, 54, 55, 56, 57, 58, 59, 60, 61, 62, 63, 64, 65, 66] XW_all XW_fst rfl 0 rfl rfl ⟨Nat.zero_le _, Nat.zero_le _⟩ dX4_ifRun_43 rfl hl.1 rfl (Nat.le_of_ble_eq_true rfl) (fun H locs hP hD hS => ?_)
        have hP : va_P (dC, dI) vwCl (XW cI cZ cO A Q fl un (f_XtryOut fl un ut u0 u1 sv x r p0 p1) u0 u1 sv x r) H := Eq.mp (congrArg (fun w => va_P (dC, dI) vwCl w H) XW_ks) hP
        have hD : va_D A0 (XW cI cZ cO A Q fl un (f_XtryOut fl un ut u0 u1 sv x r p0 p1) u0 u1 sv x r) := Eq.mp (congrArg (fun w => va_D A0 w) XW_ks) hD
        refine lv_aload_n hx hb dX4_ifRun_46 rfl (lv_at hl 0 rfl) ?_
        refine lv_iload_n hx hb dX4_ifRun_47 rfl (lv_at hl 3 rfl) ?_
        refine kc_v (As := [.int p2]) (rest := []) S (v := .int (f_Xoutcome fl un (f_XtryOut fl un ut u0 u1 sv x r p0 p1) u0 u1 sv x r p2)) (c_X4_outcome l dC dI cI cZ cO A Q fl un (f_XtryOut fl un ut u0 u1 sv x r p0 p1) u0 u1 sv x r p2) gX4_ifRun_X4_outcome mi_X4_outcome ⟨rfl, rfl⟩ ⟨Nat.le_of_ble_eq_true rfl, Nat.le_of_ble_eq_true rfl⟩ hK hP 0 rfl rfl ⟨Nat.zero_le _, Nat.zero_le _⟩ dX4_ifRun_48 rfl hl.1 rfl (Nat.le_of_ble_eq_true rfl) ?_
        have r3 : f_XifRun fl un ut u0 u1 sv x r p0 p1 p2 = .ok (f_Xoutcome fl un (f_XtryOut fl un ut u0 u1 sv x r p0 p1) u0 u1 sv x r p2, (f_XtryOut fl un ut u0 u1 sv x r p0 p1)) := by
          rw [f_XifRun, if_pos c_8, if_pos c_18, if_pos c_27]
        exact kx_ret r3 (kw_i hx hb hr hlk hP hS dX4_ifRun_51 rfl rfl) (Nat.zero_le _) (Nat.zero_le _)
      · have r4 : f_XifRun fl un ut u0 u1 sv x r p0 p1 p2 = .error (1, r) := by
          rw [f_XifRun, if_pos c_8, if_pos c_18, if_neg c_27]
        exact kx_thr (k := 1) (r1 := r) (W1 := XW cI cZ cO A Q fl un ut u0 u1 sv x r) (text := "an argument is out of range") hx hb hst hown hlk (hml.trans hl.1.symm) htab (by decide) (hts (.classLink RX4 61 "java/lang/IllegalArgumentException") (by decide +kernel)) (hts (.initialized "java/lang/IllegalArgumentException") (by decide +kernel)) (fun w h => hts w ((fun w h => List.mem_cons_of_mem _ (List.mem_append_right _ h)) w h)) hX (by decide) hS hP rfl dX4_ifRun_30 dX4_ifRun_33 dX4_ifRun_34 dX4_ifRun_36 dX4_ifRun_39 (Nat.le_of_ble_eq_true rfl) (Nat.le_of_ble_eq_true rfl) (Nat.le_of_ble_eq_true rfl) (Nat.le_of_ble_eq_true rfl) (Nat.le_of_ble_eq_true rfl) (Nat.le_of_ble_eq_true rfl) r4

def rm_X4_bestStrength : Room := { frames := 6, cells := 1, slots := 6, locals := 136 }
def f_XbestStrength (fl : (Nat → Int32)) (un : BS) (ut : BS) (u0 : BS) (u1 : BS) (sv : SS) (x : BS) (r : BS) (p0 : Int32) : Except (Nat × BS) (Int32 × BS) := if (f_XisWithin p0 (1 : Int32) (300 : Int32)) = true then (.ok ((f_XstrengthOfGreatestOrder fl un ut u0 u1 sv x r p0).1, (f_XstrengthOfGreatestOrder fl un ut u0 u1 sv x r p0).2)) else .error (1, r)
def rm_X4_stopsIn : Room := { frames := 6, cells := 1, slots := 6, locals := 110 }
def f_XstopsIn (fl : (Nat → Int32)) (un : BS) (ut : BS) (u0 : BS) (u1 : BS) (sv : SS) (x : BS) (r : BS) (p0 : Int32) : Except (Nat × BS) (Int32 × BS) := if (f_has un p0) = true then (.ok ((f_XstepsUntilStopped fl un ut u0 u1 sv x r p0).1, (f_XstepsUntilStopped fl un ut u0 u1 sv x r p0).2)) else .error (3, r)
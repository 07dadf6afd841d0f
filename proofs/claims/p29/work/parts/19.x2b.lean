theorem SX_fst {cI cZ cO : ClassId} {A : Nat → Nat} {Q : Nat → Nat → Nat} {g : Nat → Option Nat} {n : Int32} {us : Nat → BS} {g1 : Nat → Option Nat} {n1 : Int32} {us1 : Nat → BS} : (SX cI cZ cO A Q g1 n1 us1).map Prod.fst = (SX cI cZ cO A Q g n us).map Prod.fst := rfl
theorem SX_all0 {cI cZ cO : ClassId} {A : Nat → Nat} {Q : Nat → Nat → Nat} {g : Nat → Option Nat} {n : Int32} {us : Nat → BS} {h : Nat} {q : Nat → Nat} {v : BS} : ([0, 1, 2, 3, 4, 5, 6, 7, 8, 9, 10, 11, 12, 13, 14, 15, 16, 17, 18, 19, 20, 21, 22, 23, 24, 25, 26, 27, 28, 29, 30, 31, 32, 33, 34, 35, 36, 37] : List Nat).map (fun i => (SX cI cZ cO A Q g n us ++ BW cI cZ h q v)[i]?) = (SX cI cZ cO A Q g n us).map some := kget_mid (SX cI cZ cO A Q g n us) [] (BW cI cZ h q v)
theorem SX_ks0 {cI cZ cO : ClassId} {A : Nat → Nat} {Q : Nat → Nat → Nat} {g : Nat → Option Nat} {n : Int32} {us : Nat → BS} {g1 : Nat → Option Nat} {n1 : Int32} {h : Nat} {q : Nat → Nat} {v : BS} : ksets (SX cI cZ cO A Q g n us ++ BW cI cZ h q v) [0, 1, 2, 3, 4, 5, 6, 7, 8, 9, 10, 11, 12, 13, 14, 15, 16, 17, 18, 19, 20, 21, 22, 23, 24, 25, 26, 27, 28, 29, 30, 31, 32, 33, 34, 35, 36, 37] (SX cI cZ cO A Q g1 n1 us) = SX cI cZ cO A Q g1 n1 us ++ BW cI cZ h q v := kset_mid (SX cI cZ cO A Q g n us) (SX cI cZ cO A Q g1 n1 us) [] (BW cI cZ h q v) rfl

def rm_X2_push : Room := { frames := 1, cells := 0, slots := 0, locals := 22 }
theorem mi_X2_push : kM yX2_push wsX2_push cX2_push 2 none 1 := ⟨⟨_, rfl⟩, by decide, by decide, by decide +kernel⟩
def f_Spush (r k : Nat) (us : Nat → BS) (v : BS) : SS := if (nI k) < (6 : Int32) then (if (6 : Int32) ≤ (nI k) then (r, k, us) else if (k + r) % 6 = 0 then (r, k + 1, upB us 0 (f_copyFrom (us 0) v)) else if (k + r) % 6 = 1 then (r, k + 1, upB us 1 (f_copyFrom (us 1) v)) else if (k + r) % 6 = 2 then (r, k + 1, upB us 2 (f_copyFrom (us 2) v)) else if (k + r) % 6 = 3 then (r, k + 1, upB us 3 (f_copyFrom (us 3) v)) else if (k + r) % 6 = 4 then (r, k + 1, upB us 4 (f_copyFrom (us 4) v)) else (r, k + 1, upB us 5 (f_copyFrom (us 5) v))) else if (5 + (r + 1) % 6) % 6 = 0 then ((r + 1) % 6, 6, upB us 0 (f_copyFrom (us 0) v)) else if (5 + (r + 1) % 6) % 6 = 1 then ((r + 1) % 6, 6, upB us 1 (f_copyFrom (us 1) v)) else if (5 + (r + 1) % 6) % 6 = 2 then ((r + 1) % 6, 6, upB us 2 (f_copyFrom (us 2) v)) else if (5 + (r + 1) % 6) % 6 = 3 then ((r + 1) % 6, 6, upB us 3 (f_copyFrom (us 3) v)) else if (5 + (r + 1) % 6) % 6 = 4 then ((r + 1) % 6, 6, upB us 4 (f_copyFrom (us 4) v)) else ((r + 1) % 6, 6, upB us 5 (f_copyFrom (us 5) v))
set_option maxHeartbeats 1000000 in
set_option maxRecDepth 100000 in
theorem c_X2_push (l : Launch) (dC : Nat → ClassId) (dI : Nat → Nat → Nat) (cI cZ cO : ClassId) (A : Nat → Nat) (Q : Nat → Nat → Nat) (h1 : Nat) (q1 : Nat → Nat) (r k : Nat) (us : Nat → BS) (v : BS) (sz : Nat) (hrr : r < 6) (hkk : k ≤ 6) : Met l yX2_push wsX2_push rm_X2_push (va_Pc [.ref (A 6), .ref h1] (fun U => U.heap.size = sz ∧ va_P (dC, dI) vwCl (SX cI cZ cO A Q (SRow A r) (nI k) us ++ BW cI cZ h1 q1 v) U.heap ∧ va_K (dC, dI) vwCl (TY cI cZ cO) U ∧ va_D (fun _ => True) (SX cI cZ cO A Q (SRow A r) (nI k) us ++ BW cI cZ h1 q1 v))) (kQw none (dC, dI) vwCl (SW cI cZ cO A Q (f_Spush r k us v) ++ BW cI cZ h1 q1 v) (va_A (SX cI cZ cO A Q (SRow A r) (nI k) us ++ BW cI cZ h1 q1 v) sz)) 0 0 (va_A (SX cI cZ cO A Q (SRow A r) (nI k) us ++ BW cI cZ h1 q1 v) sz) := by
  refine kofW (cc := cX2_push) (maxL := 2) (ret := none) (by decide) rfl (Nat.le_of_ble_eq_true rfl) ?_
  intro p e s m args below meth c ls S hr hlk hnm hsz hP hK hD hS hA hl
  generalize hA0 : va_A (SX cI cZ cO A Q (SRow A r) (nI k) us ++ BW cI cZ h1 q1 v) sz = A0 at hD hS hA ⊢
  subst hsz
  obtain ⟨hx, hb, hml, hown, hts⟩ := id S
  have inX0 : ∀ w ∈ wsX00, w ∈ wsX2_push := fun w h => List.mem_cons_of_mem _ (List.mem_append_right _ h)
  have inX2 : ∀ w ∈ wsX20, w ∈ wsX2_push := fun w h => List.mem_cons_of_mem _ (List.mem_append_left _ (List.mem_append_right _ h))
  have hl : lv_has ls 2 [(0, .ref (A 6)), (1, .ref h1)] := hl
  refine lv_aload_n hx hb dX2_push_0 rfl (lv_at hl 0 rfl) ?_
  refine va_get (D := (dC, dI)) (ci := 2) (v := .int (nI k)) (C := RX2) (T := TX2) (N := 2) hx hb hts inX2 hown hK hP 0 rfl rfl 1 (by decide) (hts (.fieldLink RX2 18 "BoardMetronomes$SavedStates" "size" "I") (by decide +kernel)) (fun _ h9 => h9) rfl dX2_push_1 ?_
  refine lv_bipush (v := (6 : Int32)) hx hb dX2_push_4 (by decide) ?_
  refine lv_icmp_lt (tgt := 13) hx hb dX2_push_6 (by decide) (fun c_6 => ?_) (fun c_6 => ?_)
  · have c_6n : k < 6 := (nI_ltI (a := k) (b := 6) (by omega) (by omega)).mp c_6
    refine lv_aload_n hx hb dX2_push_13 rfl (lv_at hl 0 rfl) ?_
    refine va_get (D := (dC, dI)) (ci := 2) (v := .int (nI k)) (C := RX2) (T := TX2) (N := 2) hx hb hts inX2 hown hK hP 0 rfl rfl 1 (by decide) (hts (.fieldLink RX2 18 "BoardMetronomes$SavedStates" "size" "I") (by decide +kernel)) (fun _ h9 => h9) rfl dX2_push_14 ?_
    refine lv_if_lt (tgt := 41) hx hb dX2_push_17 (by decide) (fun c_17 => ?_) (fun c_17 => ?_)
    · exact absurd c_17 (nI_pos (by omega))
    · refine lv_aload_n hx hb dX2_push_20 rfl (lv_at hl 0 rfl) ?_
      refine va_get (D := (dC, dI)) (ci := 2) (v := .int (nI k)) (C := RX2) (T := TX2) (N := 2) hx hb hts inX2 hown hK hP 0 rfl rfl 1 (by decide) (hts (.fieldLink RX2 18 "BoardMetronomes$SavedStates" "size" "I") (by decide +kernel)) (fun _ h9 => h9) rfl dX2_push_21 ?_
      refine lv_bipush (v := (6 : Int32)) hx hb dX2_push_24 (by decide) ?_
      refine lv_icmp_ge (tgt := 41) hx hb dX2_push_26 (by decide) (fun c_26 => ?_) (fun c_26 => ?_)
      · have c_26n : 6 ≤ k := (nI_leI (a := 6) (b := k) (by omega) (by omega)).mp c_26
        have r1 : f_Spush r k us v = (r, k, us) := by
          rw [f_Spush, if_pos c_6, if_pos c_26]
        exact kw_v hx hb hr hlk hP hS dX2_push_41 (by rw [r1]; first | done | rfl)
      · have c_26n : ¬ 6 ≤ k := fun z => c_26 ((nI_leI (a := 6) (b := k) (by omega) (by omega)).mpr z)
        refine lv_aload_n hx hb dX2_push_29 rfl (lv_at hl 0 rfl) ?_
        refine va_get (D := (dC, dI)) (ci := 2) (v := .ref (A 7)) (C := RX2) (T := TX2) (N := 2) hx hb hts inX2 hown hK hP 0 rfl rfl 0 (by decide) (hts (.fieldLink RX2 11 "BoardMetronomes$SavedStates" "states" "[LBoardMetronomes$Bench;") (by decide +kernel)) (fun _ h9 => h9) rfl dX2_push_30 ?_
        refine lv_aload_n hx hb dX2_push_33 rfl (lv_at hl 0 rfl) ?_
        refine va_get (D := (dC, dI)) (ci := 2) (v := .int (nI k)) (C := RX2) (T := TX2) (N := 2) hx hb hts inX2 hown hK hP 0 rfl rfl 1 (by decide) (hts (.fieldLink RX2 18 "BoardMetronomes$SavedStates" "size" "I") (by decide +kernel)) (fun _ h9 => h9) rfl dX2_push_34 ?_
        refine va_aldq (D := (dC, dI)) hx hb hK hP 1 2 rfl rfl (vp_in_nI (n := k) (by omega) (by decide)) dX2_push_37 ?_
        refine W.eq (g2 := F0 m 38 ls [.ref (A (10 + (k + r) % 6))]) (by rw [nI_clamp (by omega)]; rfl) ?_
        refine lv_ifnonnull (tgt := 42) hx hb dX2_push_38 (by decide) ?_
        refine lv_aload_n hx hb dX2_push_42 rfl (lv_at hl 0 rfl) ?_
        refine va_get (D := (dC, dI)) (ci := 2) (v := .ref (A 7)) (C := RX2) (T := TX2) (N := 2) hx hb hts inX2 hown hK hP 0 rfl rfl 0 (by decide) (hts (.fieldLink RX2 11 "BoardMetronomes$SavedStates" "states" "[LBoardMetronomes$Bench;") (by decide +kernel)) (fun _ h9 => h9) rfl dX2_push_43 ?_
        refine lv_aload_n hx hb dX2_push_46 rfl (lv_at hl 0 rfl) ?_
        refine va_get (D := (dC, dI)) (ci := 2) (v := .int (nI k)) (C := RX2) (T := TX2) (N := 2) hx hb hts inX2 hown hK hP 0 rfl rfl 1 (by decide) (hts (.fieldLink RX2 18 "BoardMetronomes$SavedStates" "size" "I") (by decide +kernel)) (fun _ h9 => h9) rfl dX2_push_47 ?_
        refine va_aldq (D := (dC, dI)) hx hb hK hP 1 2 rfl rfl (vp_in_nI (n := k) (by omega) (by decide)) dX2_push_50 ?_
        refine W.eq (g2 := F0 m 51 ls [.ref (A (10 + (k + r) % 6))]) (by rw [nI_clamp (by omega)]; rfl) ?_
        refine lv_aload_n hx hb dX2_push_51 rfl (lv_at hl 1 rfl) ?_
        by_cases hp52_0 : (k + r) % 6 = 0
        · refine W.eq (g2 := F0 m 52 ls [.ref h1, .ref (A 10)]) (by simp only [hp52_0]) ?_
          refine kc_w (As := [.ref h1]) (rest := []) S (v := none) (c_X0_copyFrom l dC dI cI cZ cO (A 10) h1 (Q 10) q1 (us 0) v s.heap.size) gX2_push_X0_copyFrom mi_X0_copyFrom ⟨rfl, rfl⟩ ⟨Nat.le_of_ble_eq_true rfl, Nat.le_of_ble_eq_true rfl⟩ hK hP hD hS hA [2, 3, 4, 5, 6, 7, 38, 39, 40, 41, 42, 43] SX_all0_b BW2_fst rfl 0 rfl rfl ⟨Nat.le_refl _, Nat.le_refl _⟩ dX2_push_52 rfl hl.1 rfl (Nat.le_of_ble_eq_true rfl) (fun H locs hP hD hS => ?_)
          have hP : va_P (dC, dI) vwCl (SX cI cZ cO A Q (SRow A r) (nI k) (upB us 0 (f_copyFrom (us 0) v)) ++ BW cI cZ h1 q1 v) H := Eq.mp (congrArg (fun w => va_P (dC, dI) vwCl w H) SX_ks0_b) hP
          have hD : va_D A0 (SX cI cZ cO A Q (SRow A r) (nI k) (upB us 0 (f_copyFrom (us 0) v)) ++ BW cI cZ h1 q1 v) := Eq.mp (congrArg (fun w => va_D A0 w) SX_ks0_b) hD
          refine lv_aload_n hx hb dX2_push_55 rfl (lv_at hl 0 rfl) ?_
          refine lv_dup hx hb dX2_push_56 rfl ?_
          refine va_get (D := (dC, dI)) (ci := 2) (v := .int (nI k)) (C := RX2) (T := TX2) (N := 2) hx hb hts inX2 hown hK hP 0 rfl rfl 1 (by decide) (hts (.fieldLink RX2 18 "BoardMetronomes$SavedStates" "size" "I") (by decide +kernel)) (fun _ h9 => h9) rfl dX2_push_57 ?_
          refine lv_iconst (v := (1 : Int32)) hx hb dX2_push_60 (by decide) ?_
          refine k_iaddn (x := k) (y := 1) hx hb dX2_push_61 ?_
          refine va_put (D := (dC, dI)) (ci := 2) (v := .int (nI (k + 1))) (ty := .int) (C := RX2) (T := TX2) (N := 2) hx hb hts inX2 tyX2 tyX2_ok nmX2 hown hK hP hD hS 0 rfl rfl 1 (by decide) (hts (.fieldLink RX2 18 "BoardMetronomes$SavedStates" "size" "I") (by decide +kernel)) (fun _ h9 => h9) rfl (by decide +kernel) rfl rfl (Nat.le_of_ble_eq_true rfl) dX2_push_62 (fun H locs hP hD hS => ?_)
          have hP : va_P (dC, dI) vwCl (SX cI cZ cO A Q (SRow A r) (nI (k + 1)) (upB us 0 (f_copyFrom (us 0) v)) ++ BW cI cZ h1 q1 v) H := Eq.mp (congrArg (fun w => va_P (dC, dI) vwCl w H) SX_n') hP
          have hD : va_D A0 (SX cI cZ cO A Q (SRow A r) (nI (k + 1)) (upB us 0 (f_copyFrom (us 0) v)) ++ BW cI cZ h1 q1 v) := Eq.mp (congrArg (fun w => va_D A0 w) SX_n') hD
          have r2 : f_Spush r k us v = (r, k + 1, upB us 0 (f_copyFrom (us 0) v)) := by
            rw [f_Spush, if_pos c_6, if_neg c_26, if_pos hp52_0]
          exact kw_v hx hb hr hlk hP hS dX2_push_65 (by rw [r2]; first | done | rfl)
        by_cases hp52_1 : (k + r) % 6 = 1
        · refine W.eq (g2 := F0 m 52 ls [.ref h1, .ref (A 11)]) (by simp only [hp52_1]) ?_
          refine kc_w (As := [.ref h1]) (rest := []) S (v := none) (c_X0_copyFrom l dC dI cI cZ cO (A 11) h1 (Q 11) q1 (us 1) v s.heap.size) gX2_push_X0_copyFrom mi_X0_copyFrom ⟨rfl, rfl⟩ ⟨Nat.le_of_ble_eq_true rfl, Nat.le_of_ble_eq_true rfl⟩ hK hP hD hS hA [8, 9, 10, 11, 12, 13, 38, 39, 40, 41, 42, 43] SX_all1_b BW2_fst rfl 0 rfl rfl ⟨Nat.le_refl _, Nat.le_refl _⟩ dX2_push_52 rfl hl.1 rfl (Nat.le_of_ble_eq_true rfl) (fun H locs hP hD hS => ?_)
          have hP : va_P (dC, dI) vwCl (SX cI cZ cO A Q (SRow A r) (nI k) (upB us 1 (f_copyFrom (us 1) v)) ++ BW cI cZ h1 q1 v) H := Eq.mp (congrArg (fun w => va_P (dC, dI) vwCl w H) SX_ks1_b) hP
          have hD : va_D A0 (SX cI cZ cO A Q (SRow A r) (nI k) (upB us 1 (f_copyFrom (us 1) v)) ++ BW cI cZ h1 q1 v) := Eq.mp (congrArg (fun w => va_D A0 w) SX_ks1_b) hD
          refine lv_aload_n hx hb dX2_push_55 rfl (lv_at hl 0 rfl) ?_
          refine lv_dup hx hb dX2_push_56 rfl ?_
          refine va_get (D := (dC, dI)) (ci := 2) (v := .int (nI k)) (C := RX2) (T := TX2) (N := 2) hx hb hts inX2 hown hK hP 0 rfl rfl 1 (by decide) (hts (.fieldLink RX2 18 "BoardMetronomes$SavedStates" "size" "I") (by decide +kernel)) (fun _ h9 => h9) rfl dX2_push_57 ?_
          refine lv_iconst (v := (1 : Int32)) hx hb dX2_push_60 (by decide) ?_
          refine k_iaddn (x := k) (y := 1) hx hb dX2_push_61 ?_
          refine va_put (D := (dC, dI)) (ci := 2) (v := .int (nI (k + 1))) (ty := .int) (C := RX2) (T := TX2) (N := 2) hx hb hts inX2 tyX2 tyX2_ok nmX2 hown hK hP hD hS 0 rfl rfl 1 (by decide) (hts (.fieldLink RX2 18 "BoardMetronomes$SavedStates" "size" "I") (by decide +kernel)) (fun _ h9 => h9) rfl (by decide +kernel) rfl rfl (Nat.le_of_ble_eq_true rfl) dX2_push_62 (fun H locs hP hD hS => ?_)
          have hP : va_P (dC, dI) vwCl (SX cI cZ cO A Q (SRow A r) (nI (k + 1)) (upB us 1 (f_copyFrom (us 1) v)) ++ BW cI cZ h1 q1 v) H := Eq.mp (congrArg (fun w => va_P (dC, dI) vwCl w H) SX_n') hP
          have hD : va_D A0 (SX cI cZ cO A Q (SRow A r) (nI (k + 1)) (upB us 1 (f_copyFrom (us 1) v)) ++ BW cI cZ h1 q1 v) := Eq.mp (congrArg (fun w => va_D A0 w) SX_n') hD
          have r3 : f_Spush r k us v = (r, k + 1, upB us 1 (f_copyFrom (us 1) v)) := by
            rw [f_Spush, if_pos c_6, if_neg c_26, if_neg hp52_0, if_pos hp52_1]
          exact kw_v hx hb hr hlk hP hS dX2_push_65 (by rw [r3]; first | done | rfl)
        by_cases hp52_2 : (k + r) % 6 = 2
        · refine W.eq (g2 := F0 m 52 ls [.ref h1, .ref (A 12)]) (by simp only [hp52_2]) ?_
          refine kc_w (As := [.ref h1]) (rest := []) S (v := none) (c_X0_copyFrom l dC dI cI cZ cO (A 12) h1 (Q 12) q1 (us 2) v s.heap.size) gX2_push_X0_copyFrom mi_X0_copyFrom ⟨rfl, rfl⟩ ⟨Nat.le_of_ble_eq_true rfl, Nat.le_of_ble_eq_true rfl⟩ hK hP hD hS hA [14, 15, 16, 17, 18, 19, 38, 39, 40, 41, 42, 43] SX_all2_b BW2_fst rfl 0 rfl rfl ⟨Nat.le_refl _, Nat.le_refl _⟩ dX2_push_52 rfl hl.1 rfl (Nat.le_of_ble_eq_true rfl) (fun H locs hP hD hS => ?_)
          have hP : va_P (dC, dI) vwCl (SX cI cZ cO A Q (SRow A r) (nI k) (upB us 2 (f_copyFrom (us 2) v)) ++ BW cI cZ h1 q1 v) H := Eq.mp (congrArg (fun w => va_P (dC, dI) vwCl w H) SX_ks2_b) hP
          have hD : va_D A0 (SX cI cZ cO A Q (SRow A r) (nI k) (upB us 2 (f_copyFrom (us 2) v)) ++ BW cI cZ h1 q1 v) := Eq.mp (congrArg (fun w => va_D A0 w) SX_ks2_b) hD
          refine lv_aload_n hx hb dX2_push_55 rfl (lv_at hl 0 rfl) ?_
          refine lv_dup hx hb dX2_push_56 rfl ?_
          refine va_get (D := (dC, dI)) (ci := 2) (v := .int (nI k)) (C := RX2) (T := TX2) (N := 2) hx hb hts inX2 hown hK hP 0 rfl rfl 1 (by decide) (hts (.fieldLink RX2 18 "BoardMetronomes$SavedStates" "size" "I") (by decide +kernel)) (fun _ h9 => h9) rfl dX2_push_57 ?_
          refine lv_iconst (v := (1 : Int32)) hx hb dX2_push_60 (by decide) ?_
          refine k_iaddn (x := k) (y := 1) hx hb dX2_push_61 ?_
          refine va_put (D := (dC, dI)) (ci := 2) (v := .int (nI (k + 1))) (ty := .int) (C := RX2) (T := TX2) (N := 2) hx hb hts inX2 tyX2 tyX2_ok nmX2 hown hK hP hD hS 0 rfl rfl 1 (by decide) (hts (.fieldLink RX2 18 "BoardMetronomes$SavedStates" "size" "I") (by decide +kernel)) (fun _ h9 => h9) rfl (by decide +kernel) rfl rfl (Nat.le_of_ble_eq_true rfl) dX2_push_62 (fun H locs hP hD hS => ?_)
          have hP : va_P (dC, dI) vwCl (SX cI cZ cO A Q (SRow A r) (nI (k + 1)) (upB us 2 (f_copyFrom (us 2) v)) ++ BW cI cZ h1 q1 v) H := Eq.mp (congrArg (fun w => va_P (dC, dI) vwCl w H) SX_n') hP
          have hD : va_D A0 (SX cI cZ cO A Q (SRow A r) (nI (k + 1)) (upB us 2 (f_copyFrom (us 2) v)) ++ BW cI cZ h1 q1 v) := Eq.mp (congrArg (fun w => va_D A0 w) SX_n') hD
          have r4 : f_Spush r k us v = (r, k + 1, upB us 2 (f_copyFrom (us 2) v)) := by
            rw [f_Spush, if_pos c_6, if_neg c_26, if_neg hp52_0, if_neg hp52_1, if_pos hp52_2]
          exact kw_v hx hb hr hlk hP hS dX2_push_65 (by rw [r4]; first | done | rfl)
        by_cases hp52_3 : (k + r) % 6 = 3
        · refine W.eq (g2 := F0 m 52 ls [.ref h1, .ref (A 13)]) (by simp only [hp52_3]) ?_
          refine kc_w (As := [.ref h1]) (rest := []) S (v := none) (c_X0_copyFrom l dC dI cI cZ cO (A 13) h1 (Q 13) q1 (us 3) v s.heap.size) gX2_push_X0_copyFrom mi_X0_copyFrom ⟨rfl, rfl⟩ ⟨Nat.le_of_ble_eq_true rfl, Nat.le_of_ble_eq_true rfl⟩ hK hP hD hS hA [20, 21, 22, 23, 24, 25, 38, 39, 40, 41, 42, 43] SX_all3_b BW2_fst rfl 0 rfl rfl ⟨Nat.le_refl _, Nat.le_refl _⟩ dX2_push_52 rfl hl.1 rfl (Nat.le_of_ble_eq_true rfl) (fun H locs hP hD hS => ?_)
          have hP : va_P (dC, dI) vwCl (SX cI cZ cO A Q (SRow A r) (nI k) (upB us 3 (f_copyFrom (us 3) v)) ++ BW cI cZ h1 q1 v) H := Eq.mp (congrArg (fun w => va_P (dC, dI) vwCl w H) SX_ks3_b) hP
          have hD : va_D A0 (SX cI cZ cO A Q (SRow A r) (nI k) (upB us 3 (f_copyFrom (us 3) v)) ++ BW cI cZ h1 q1 v) := Eq.mp (congrArg (fun w => va_D A0 w) SX_ks3_b) hD
          refine lv_aload_n hx hb dX2_push_55 rfl (lv_at hl 0 rfl) ?_
          refine lv_dup hx hb dX2_push_56 rfl ?_
          refine va_get (D := (dC, dI)) (ci := 2) (v := .int (nI k)) (C := RX2) (T := TX2) (N := 2) hx hb hts inX2 hown hK hP 0 rfl rfl 1 (by decide) (hts (.fieldLink RX2 18 "BoardMetronomes$SavedStates" "size" "I") (by decide +kernel)) (fun _ h9 => h9) rfl dX2_push_57 ?_
          refine lv_iconst (v := (1 : Int32)) hx hb dX2_push_60 (by decide) ?_
          refine k_iaddn (x := k) (y := 1) hx hb dX2_push_61 ?_
          refine va_put (D := (dC, dI)) (ci := 2) (v := .int (nI (k + 1))) (ty := .int) (C := RX2) (T := TX2) (N := 2) hx hb hts inX2 tyX2 tyX2_ok nmX2 hown hK hP hD hS 0 rfl rfl 1 (by decide) (hts (.fieldLink RX2 18 "BoardMetronomes$SavedStates" "size" "I") (by decide +kernel)) (fun _ h9 => h9) rfl (by decide +kernel) rfl rfl (Nat.le_of_ble_eq_true rfl) dX2_push_62 (fun H locs hP hD hS => ?_)
          have hP : va_P (dC, dI) vwCl (SX cI cZ cO A Q (SRow A r) (nI (k + 1)) (upB us 3 (f_copyFrom (us 3) v)) ++ BW cI cZ h1 q1 v) H := Eq.mp (congrArg (fun w => va_P (dC, dI) vwCl w H) SX_n') hP
          have hD : va_D A0 (SX cI cZ cO A Q (SRow A r) (nI (k + 1)) (upB us 3 (f_copyFrom (us 3) v)) ++ BW cI cZ h1 q1 v) := Eq.mp (congrArg (fun w => va_D A0 w) SX_n') hD
          have r5 : f_Spush r k us v = (r, k + 1, upB us 3 (f_copyFrom (us 3) v)) := by
            rw [f_Spush, if_pos c_6, if_neg c_26, if_neg hp52_0, if_neg hp52_1, if_neg hp52_2, if_pos hp52_3]
          exact kw_v hx hb hr hlk hP hS dX2_push_65 (by rw [r5]; first | done | rfl)
        by_cases hp52_4 : (k + r) % 6 = 4
        · refine W.eq (g2 := F0 m 52 ls [.ref h1, .ref (A 14)]) (by simp only [hp52_4]) ?_
          refine kc_w (As := [.ref h1]) (rest := []) S (v := none) (c_X0_copyFrom l dC dI cI cZ cO (A 14) h1 (Q 14) q1 (us 4) v s.heap.size) gX2_push_X0_copyFrom mi_X0_copyFrom ⟨rfl, rfl⟩ ⟨Nat.le_of_ble_eq_true rfl, Nat.le_of_ble_eq_true rfl⟩ hK hP hD hS hA [26, 27, 28, 29, 30, 31, 38, 39, 40, 41, 42, 43] SX_all4_b BW2_fst rfl 0 rfl rfl ⟨Nat.le_refl _, Nat.le_refl _⟩ dX2_push_52 rfl hl.1 rfl (Nat.le_of_ble_eq_true rfl) (fun H locs hP hD hS => ?_)
          have hP : va_P (dC, dI) vwCl (SX cI cZ cO A Q (SRow A r) (nI k) (upB us 4 (f_copyFrom (us 4) v)) ++ BW cI cZ h1 q1 v) H := Eq.mp (congrArg (fun w => va_P (dC, dI) vwCl w H) SX_ks4_b) hP
          have hD : va_D A0 (SX cI cZ cO A Q (SRow A r) (nI k) (upB us 4 (f_copyFrom (us 4) v)) ++ BW cI cZ h1 q1 v) := Eq.mp (congrArg (fun w => va_D A0 w) SX_ks4_b) hD
          refine lv_aload_n hx hb dX2_push_55 rfl (lv_at hl 0 rfl) ?_
          refine lv_dup hx hb dX2_push_56 rfl ?_
          refine va_get (D := (dC, dI)) (ci := 2) (v := .int (nI k)) (C := RX2) (T := TX2) (N := 2) hx hb hts inX2 hown hK hP 0 rfl rfl 1 (by decide) (hts (.fieldLink RX2 18 "BoardMetronomes$SavedStates" "size" "I") (by decide +kernel)) (fun _ h9 => h9) rfl dX2_push_57 ?_
          refine lv_iconst (v := (1 : Int32)) hx hb dX2_push_60 (by decide) ?_
          refine k_iaddn (x := k) (y := 1) hx hb dX2_push_61 ?_
          refine va_put (D := (dC, dI)) (ci := 2) (v := .int (nI (k + 1))) (ty := .int) (C := RX2) (T := TX2) (N := 2) hx hb hts inX2 tyX2 tyX2_ok nmX2 hown hK hP hD hS 0 rfl rfl 1 (by decide) (hts (.fieldLink RX2 18 "BoardMetronomes$SavedStates" "size" "I") (by decide +kernel)) (fun _ h9 => h9) rfl (by decide +kernel) rfl rfl (Nat.le_of_ble_eq_true rfl) dX2_push_62 (fun H locs hP hD hS => ?_)
          have hP : va_P (dC, dI) vwCl (SX cI cZ cO A Q (SRow A r) (nI (k + 1)) (upB us 4 (f_copyFrom (us 4) v)) ++ BW cI cZ h1 q1 v) H := Eq.mp (congrArg (fun w => va_P (dC, dI) vwCl w H) SX_n') hP
          have hD : va_D A0 (SX cI cZ cO A Q (SRow A r) (nI (k + 1)) (upB us 4 (f_copyFrom (us 4) v)) ++ BW cI cZ h1 q1 v) := Eq.mp (congrArg (fun w => va_D A0 w) SX_n') hD
          have r6 : f_Spush r k us v = (r, k + 1, upB us 4 (f_copyFrom (us 4) v)) := by
            rw [f_Spush, if_pos c_6, if_neg c_26, if_neg hp52_0, if_neg hp52_1, if_neg hp52_2, if_neg hp52_3, if_pos hp52_4]
          exact kw_v hx hb hr hlk hP hS dX2_push_65 (by rw [r6]; first | done | rfl)
        have hp52_5 : (k + r) % 6 = 5 := by omega
        refine W.eq (g2 := F0 m 52 ls [.ref h1, .ref (A 15)]) (by simp only [hp52_5]) ?_
        refine kc_w (As := [.ref h1]) (rest := []) S (v := none) (c_X0_copyFrom l dC dI cI cZ cO (A 15) h1 (Q 15) q1 (us 5) v s.heap.size) gX2_push_X0_copyFrom mi_X0_copyFrom ⟨rfl, rfl⟩ ⟨Nat.le_of_ble_eq_true rfl, Nat.le_of_ble_eq_true rfl⟩ hK hP hD hS hA [32, 33, 34, 35, 36, 37, 38, 39, 40, 41, 42, 43] SX_all5_b BW2_fst rfl 0 rfl rfl ⟨Nat.le_refl _, Nat.le_refl _⟩ dX2_push_52 rfl hl.1 rfl (Nat.le_of_ble_eq_true rfl) (fun H locs hP hD hS => ?_)
        have hP : va_P (dC, dI) vwCl (SX cI cZ cO A Q (SRow A r) (nI k) (upB us 5 (f_copyFrom (us 5) v)) ++ BW cI cZ h1 q1 v) H := Eq.mp (congrArg (fun w => va_P (dC, dI) vwCl w H) SX_ks5_b) hP
        have hD : va_D A0 (SX cI cZ cO A Q (SRow A r) (nI k) (upB us 5 (f_copyFrom (us 5) v)) ++ BW cI cZ h1 q1 v) := Eq.mp (congrArg (fun w => va_D A0 w) SX_ks5_b) hD
        refine lv_aload_n hx hb dX2_push_55 rfl (lv_at hl 0 rfl) ?_
        refine lv_dup hx hb dX2_push_56 rfl ?_
        refine va_get (D := (dC, dI)) (ci := 2) (v := .int (nI k)) (C := RX2) (T := TX2) (N := 2) hx hb hts inX2 hown hK hP 0 rfl rfl 1 (by decide) (hts (.fieldLink RX2 18 "BoardMetronomes$SavedStates" "size" "I") (by decide +kernel)) (fun _ h9 => h9) rfl dX2_push_57 ?_
        refine lv_iconst (v := (1 : Int32)) hx hb dX2_push_60 (by decide) ?_
        refine k_iaddn (x := k) (y := 1) hx hb dX2_push_61 ?_
        refine va_put (D := (dC, dI)) (ci := 2) (v := .int (nI (k + 1))) (ty := .int) (C := RX2) (T := TX2) (N := 2) hx hb hts inX2 tyX2 tyX2_ok nmX2 hown hK hP hD hS 0 rfl rfl 1 (by decide) (hts (.fieldLink RX2 18 "BoardMetronomes$SavedStates" "size" "I") (by decide +kernel)) (fun _ h9 => h9) rfl (by decide +kernel) rfl rfl (Nat.le_of_ble_eq_true rfl) dX2_push_62 (fun H locs hP hD hS => ?_)
        have hP : va_P (dC, dI) vwCl (SX cI cZ cO A Q (SRow A r) (nI (k + 1)) (upB us 5 (f_copyFrom (us 5) v)) ++ BW cI cZ h1 q1 v) H := Eq.mp (congrArg (fun w => va_P (dC, dI) vwCl w H) SX_n') hP
        have hD : va_D A0 (SX cI cZ cO A Q (SRow A r) (nI (k + 1)) (upB us 5 (f_copyFrom (us 5) v)) ++ BW cI cZ h1 q1 v) := Eq.mp (congrArg (fun w => va_D A0 w) SX_n') hD
        have r7 : f_Spush r k us v = (r, k + 1, upB us 5 (f_copyFrom (us 5) v)) := by
          rw [f_Spush, if_pos c_6, if_neg c_26, if_neg hp52_0, if_neg hp52_1, if_neg hp52_2, if_neg hp52_3, if_neg hp52_4]
        exact kw_v hx hb hr hlk hP hS dX2_push_65 (by rw [r7]; first | done | rfl)
  · have c_6n : ¬ k < 6 := fun z => c_6 ((nI_ltI (a := k) (b := 6) (by omega) (by omega)).mpr z)
    refine lv_aload_n hx hb dX2_push_9 rfl (lv_at hl 0 rfl) ?_
    refine kc_w (As := []) (rest := []) S (v := none) (c_X2_dropOldest l dC dI cI cZ cO A Q r k us s.heap.size hrr) gX2_push_X2_dropOldest mi_X2_dropOldest ⟨rfl, rfl⟩ ⟨Nat.le_of_ble_eq_true rfl, Nat.le_of_ble_eq_true rfl⟩ hK hP hD hS hA [0, 1, 2, 3, 4, 5, 6, 7, 8, 9, 10, 11, 12, 13, 14, 15, 16, 17, 18, 19, 20, 21, 22, 23, 24, 25, 26, 27, 28, 29, 30, 31, 32, 33, 34, 35, 36, 37] SX_all0 SX_fst rfl 0 rfl rfl ⟨Nat.le_refl _, Nat.le_refl _⟩ dX2_push_10 rfl hl.1 rfl (Nat.le_of_ble_eq_true rfl) (fun H locs hP hD hS => ?_)
    have hP : va_P (dC, dI) vwCl (SX cI cZ cO A Q (SRow A ((r + 1) % 6)) (5 : Int32) us ++ BW cI cZ h1 q1 v) H := Eq.mp (congrArg (fun w => va_P (dC, dI) vwCl w H) SX_ks0) hP
    have hD : va_D A0 (SX cI cZ cO A Q (SRow A ((r + 1) % 6)) (5 : Int32) us ++ BW cI cZ h1 q1 v) := Eq.mp (congrArg (fun w => va_D A0 w) SX_ks0) hD
    refine lv_aload_n hx hb dX2_push_13 rfl (lv_at hl 0 rfl) ?_
    refine va_get (D := (dC, dI)) (ci := 2) (v := .int (5 : Int32)) (C := RX2) (T := TX2) (N := 2) hx hb hts inX2 hown hK hP 0 rfl rfl 1 (by decide) (hts (.fieldLink RX2 18 "BoardMetronomes$SavedStates" "size" "I") (by decide +kernel)) (fun _ h9 => h9) rfl dX2_push_14 ?_
    refine lv_if_lt (tgt := 41) hx hb dX2_push_17 (by decide) (fun c_17 => ?_) (fun c_17 => ?_)
    · exact absurd c_17 (by decide)
    · refine lv_aload_n hx hb dX2_push_20 rfl (lv_at hl 0 rfl) ?_
      refine va_get (D := (dC, dI)) (ci := 2) (v := .int (5 : Int32)) (C := RX2) (T := TX2) (N := 2) hx hb hts inX2 hown hK hP 0 rfl rfl 1 (by decide) (hts (.fieldLink RX2 18 "BoardMetronomes$SavedStates" "size" "I") (by decide +kernel)) (fun _ h9 => h9) rfl dX2_push_21 ?_
      refine lv_bipush (v := (6 : Int32)) hx hb dX2_push_24 (by decide) ?_
      refine lv_icmp_ge (tgt := 41) hx hb dX2_push_26 (by decide) (fun c_26 => ?_) (fun c_26 => ?_)
      · exact absurd c_26 (by decide)
      · refine lv_aload_n hx hb dX2_push_29 rfl (lv_at hl 0 rfl) ?_
        refine va_get (D := (dC, dI)) (ci := 2) (v := .ref (A 7)) (C := RX2) (T := TX2) (N := 2) hx hb hts inX2 hown hK hP 0 rfl rfl 0 (by decide) (hts (.fieldLink RX2 11 "BoardMetronomes$SavedStates" "states" "[LBoardMetronomes$Bench;") (by decide +kernel)) (fun _ h9 => h9) rfl dX2_push_30 ?_
        refine lv_aload_n hx hb dX2_push_33 rfl (lv_at hl 0 rfl) ?_
        refine va_get (D := (dC, dI)) (ci := 2) (v := .int (5 : Int32)) (C := RX2) (T := TX2) (N := 2) hx hb hts inX2 hown hK hP 0 rfl rfl 1 (by decide) (hts (.fieldLink RX2 18 "BoardMetronomes$SavedStates" "size" "I") (by decide +kernel)) (fun _ h9 => h9) rfl dX2_push_34 ?_
        refine va_aldq (D := (dC, dI)) hx hb hK hP 1 2 rfl rfl (vp_in_nI (n := 5) (by omega) (by decide)) dX2_push_37 ?_
        refine W.eq (g2 := F0 m 38 ls [.ref (A (10 + (5 + (r + 1) % 6) % 6))]) rfl ?_
        refine lv_ifnonnull (tgt := 42) hx hb dX2_push_38 (by decide) ?_
        refine lv_aload_n hx hb dX2_push_42 rfl (lv_at hl 0 rfl) ?_
        refine va_get (D := (dC, dI)) (ci := 2) (v := .ref (A 7)) (C := RX2) (T := TX2) (N := 2) hx hb hts inX2 hown hK hP 0 rfl rfl 0 (by decide) (hts (.fieldLink RX2 11 "BoardMetronomes$SavedStates" "states" "[LBoardMetronomes$Bench;") (by decide +kernel)) (fun _ h9 => h9) rfl dX2_push_43 ?_
        refine lv_aload_n hx hb dX2_push_46 rfl (lv_at hl 0 rfl) ?_
        refine va_get (D := (dC, dI)) (ci := 2) (v := .int (5 : Int32)) (C := RX2) (T := TX2) (N := 2) hx hb hts inX2 hown hK hP 0 rfl rfl 1 (by decide) (hts (.fieldLink RX2 18 "BoardMetronomes$SavedStates" "size" "I") (by decide +kernel)) (fun _ h9 => h9) rfl dX2_push_47 ?_
        refine va_aldq (D := (dC, dI)) hx hb hK hP 1 2 rfl rfl (vp_in_nI (n := 5) (by omega) (by decide)) dX2_push_50 ?_
        refine W.eq (g2 := F0 m 51 ls [.ref (A (10 + (5 + (r + 1) % 6) % 6))]) rfl ?_
        refine lv_aload_n hx hb dX2_push_51 rfl (lv_at hl 1 rfl) ?_
        by_cases hp52_0 : (5 + (r + 1) % 6) % 6 = 0
        · refine W.eq (g2 := F0 m 52 ls [.ref h1, .ref (A 10)]) (by simp only [hp52_0]) ?_
          refine kc_w (As := [.ref h1]) (rest := []) S (v := none) (c_X0_copyFrom l dC dI cI cZ cO (A 10) h1 (Q 10) q1 (us 0) v H.size) gX2_push_X0_copyFrom mi_X0_copyFrom ⟨rfl, rfl⟩ ⟨Nat.le_of_ble_eq_true rfl, Nat.le_of_ble_eq_true rfl⟩ hK hP hD hS hA [2, 3, 4, 5, 6, 7, 38, 39, 40, 41, 42, 43] SX_all0_b BW2_fst rfl 0 rfl rfl ⟨Nat.le_refl _, Nat.le_refl _⟩ dX2_push_52 rfl hl.1 rfl (Nat.le_of_ble_eq_true rfl) (fun H locs hP hD hS => ?_)
          have hP : va_P (dC, dI) vwCl (SX cI cZ cO A Q (SRow A ((r + 1) % 6)) (5 : Int32) (upB us 0 (f_copyFrom (us 0) v)) ++ BW cI cZ h1 q1 v) H := Eq.mp (congrArg (fun w => va_P (dC, dI) vwCl w H) SX_ks0_b) hP
          have hD : va_D A0 (SX cI cZ cO A Q (SRow A ((r + 1) % 6)) (5 : Int32) (upB us 0 (f_copyFrom (us 0) v)) ++ BW cI cZ h1 q1 v) := Eq.mp (congrArg (fun w => va_D A0 w) SX_ks0_b) hD
          refine lv_aload_n hx hb dX2_push_55 rfl (lv_at hl 0 rfl) ?_
          refine lv_dup hx hb dX2_push_56 rfl ?_
          refine va_get (D := (dC, dI)) (ci := 2) (v := .int (5 : Int32)) (C := RX2) (T := TX2) (N := 2) hx hb hts inX2 hown hK hP 0 rfl rfl 1 (by decide) (hts (.fieldLink RX2 18 "BoardMetronomes$SavedStates" "size" "I") (by decide +kernel)) (fun _ h9 => h9) rfl dX2_push_57 ?_
          refine lv_iconst (v := (1 : Int32)) hx hb dX2_push_60 (by decide) ?_
          refine lv_iadd hx hb dX2_push_61 ?_
          refine kt_i (y := (6 : Int32)) (by decide) ?_
          refine va_put (D := (dC, dI)) (ci := 2) (v := .int (6 : Int32)) (ty := .int) (C := RX2) (T := TX2) (N := 2) hx hb hts inX2 tyX2 tyX2_ok nmX2 hown hK hP hD hS 0 rfl rfl 1 (by decide) (hts (.fieldLink RX2 18 "BoardMetronomes$SavedStates" "size" "I") (by decide +kernel)) (fun _ h9 => h9) rfl (by decide +kernel) rfl rfl (Nat.le_of_ble_eq_true rfl) dX2_push_62 (fun H locs hP hD hS => ?_)
          have hP : va_P (dC, dI) vwCl (SX cI cZ cO A Q (SRow A ((r + 1) % 6)) (6 : Int32) (upB us 0 (f_copyFrom (us 0) v)) ++ BW cI cZ h1 q1 v) H := Eq.mp (congrArg (fun w => va_P (dC, dI) vwCl w H) SX_n') hP
          have hD : va_D A0 (SX cI cZ cO A Q (SRow A ((r + 1) % 6)) (6 : Int32) (upB us 0 (f_copyFrom (us 0) v)) ++ BW cI cZ h1 q1 v) := Eq.mp (congrArg (fun w => va_D A0 w) SX_n') hD
          have r8 : f_Spush r k us v = ((r + 1) % 6, 6, upB us 0 (f_copyFrom (us 0) v)) := by
            rw [f_Spush, if_neg c_6, if_pos hp52_0]
          exact kw_v hx hb hr hlk hP hS dX2_push_65 (by rw [r8]; first | done | rfl)
        by_cases hp52_1 : (5 + (r + 1) % 6) % 6 = 1
        · refine W.eq (g2 := F0 m 52 ls [.ref h1, .ref (A 11)]) (by simp only [hp52_1]) ?_
          refine kc_w (As := [.ref h1]) (rest := []) S (v := none) (c_X0_copyFrom l dC dI cI cZ cO (A 11) h1 (Q 11) q1 (us 1) v H.size) gX2_push_X0_copyFrom mi_X0_copyFrom ⟨rfl, rfl⟩ ⟨Nat.le_of_ble_eq_true rfl, Nat.le_of_ble_eq_true rfl⟩ hK hP hD hS hA [8, 9, 10, 11, 12, 13, 38, 39, 40, 41, 42, 43] SX_all1_b BW2_fst rfl 0 rfl rfl ⟨Nat.le_refl _, Nat.le_refl _⟩ dX2_push_52 rfl hl.1 rfl (Nat.le_of_ble_eq_true rfl) (fun H locs hP hD hS => ?_)
          have hP : va_P (dC, dI) vwCl (SX cI cZ cO A Q (SRow A ((r + 1) % 6)) (5 : Int32) (upB us 1 (f_copyFrom (us 1) v)) ++ BW cI cZ h1 q1 v) H := Eq.mp (congrArg (fun w => va_P (dC, dI) vwCl w H) SX_ks1_b) hP
          have hD : va_D A0 (SX cI cZ cO A Q (SRow A ((r + 1) % 6)) (5 : Int32) (upB us 1 (f_copyFrom (us 1) v)) ++ BW cI cZ h1 q1 v) := Eq.mp (congrArg (fun w => va_D A0 w) SX_ks1_b) hD
          refine lv_aload_n hx hb dX2_push_55 rfl (lv_at hl 0 rfl) ?_
          refine lv_dup hx hb dX2_push_56 rfl ?_
          refine va_get (D := (dC, dI)) (ci := 2) (v := .int (5 : Int32)) (C := RX2) (T := TX2) (N := 2) hx hb hts inX2 hown hK hP 0 rfl rfl 1 (by decide) (hts (.fieldLink RX2 18 "BoardMetronomes$SavedStates" "size" "I") (by decide +kernel)) (fun _ h9 => h9) rfl dX2_push_57 ?_
          refine lv_iconst (v := (1 : Int32)) hx hb dX2_push_60 (by decide) ?_
          refine lv_iadd hx hb dX2_push_61 ?_
          refine kt_i (y := (6 : Int32)) (by decide) ?_
          refine va_put (D := (dC, dI)) (ci := 2) (v := .int (6 : Int32)) (ty := .int) (C := RX2) (T := TX2) (N := 2) hx hb hts inX2 tyX2 tyX2_ok nmX2 hown hK hP hD hS 0 rfl rfl 1 (by decide) (hts (.fieldLink RX2 18 "BoardMetronomes$SavedStates" "size" "I") (by decide +kernel)) (fun _ h9 => h9) rfl (by decide +kernel) rfl rfl (Nat.le_of_ble_eq_true rfl) dX2_push_62 (fun H locs hP hD hS => ?_)
          have hP : va_P (dC, dI) vwCl (SX cI cZ cO A Q (SRow A ((r + 1) % 6)) (6 : Int32) (upB us 1 (f_copyFrom (us 1) v)) ++ BW cI cZ h1 q1 v) H := Eq.mp (congrArg (fun w => va_P (dC, dI) vwCl w H) SX_n') hP
          have hD : va_D A0 (SX cI cZ cO A Q (SRow A ((r + 1) % 6)) (6 : Int32) (upB us 1 (f_copyFrom (us 1) v)) ++ BW cI cZ h1 q1 v) := Eq.mp (congrArg (fun w => va_D A0 w) SX_n') hD
          have r9 : f_Spush r k us v = ((r + 1) % 6, 6, upB us 1 (f_copyFrom (us 1) v)) := by
            rw [f_Spush, if_neg c_6, if_neg hp52_0, if_pos hp52_1]
          exact kw_v hx hb hr hlk hP hS dX2_push_65 (by rw [r9]; first | done | rfl)
        by_cases hp52_2 : (5 + (r + 1) % 6) % 6 = 2
        · refine W.eq (g2 := F0 m 52 ls [.ref h1, .ref (A 12)]) (by simp only [hp52_2]) ?_
          refine kc_w (As := [.ref h1]) (rest := []) S (v := none) (c_X0_copyFrom l dC dI cI cZ cO (A 12) h1 (Q 12) q1 (us 2) v H.size) gX2_push_X0_copyFrom mi_X0_copyFrom ⟨rfl, rfl⟩ ⟨Nat.le_of_ble_eq_true rfl, Nat.le_of_ble_eq_true rfl⟩ hK hP hD hS hA [14, 15, 16, 17, 18, 19, 38, 39, 40, 41, 42, 43] SX_all2_b BW2_fst rfl 0 rfl rfl ⟨Nat.le_refl _, Nat.le_refl _⟩ dX2_push_52 rfl hl.1 rfl (Nat.le_of_ble_eq_true rfl) (fun H locs hP hD hS => ?_)
          have hP : va_P (dC, dI) vwCl (SX cI cZ cO A Q (SRow A ((r + 1) % 6)) (5 : Int32) (upB us 2 (f_copyFrom (us 2) v)) ++ BW cI cZ h1 q1 v) H := Eq.mp (congrArg (fun w => va_P (dC, dI) vwCl w H) SX_ks2_b) hP
          have hD : va_D A0 (SX cI cZ cO A Q (SRow A ((r + 1) % 6)) (5 : Int32) (upB us 2 (f_copyFrom (us 2) v)) ++ BW cI cZ h1 q1 v) := Eq.mp (congrArg (fun w => va_D A0 w) SX_ks2_b) hD
          refine lv_aload_n hx hb dX2_push_55 rfl (lv_at hl 0 rfl) ?_
          refine lv_dup hx hb dX2_push_56 rfl ?_
          refine va_get (D := (dC, dI)) (ci := 2) (v := .int (5 : Int32)) (C := RX2) (T := TX2) (N := 2) hx hb hts inX2 hown hK hP 0 rfl rfl 1 (by decide) (hts (.fieldLink RX2 18 "BoardMetronomes$SavedStates" "size" "I") (by decide +kernel)) (fun _ h9 => h9) rfl dX2_push_57 ?_
          refine lv_iconst (v := (1 : Int32)) hx hb dX2_push_60 (by decide) ?_
          refine lv_iadd hx hb dX2_push_61 ?_
          refine kt_i (y := (6 : Int32)) (by decide) ?_
          refine va_put (D := (dC, dI)) (ci := 2) (v := .int (6 : Int32)) (ty := .int) (C := RX2) (T := TX2) (N := 2) hx hb hts inX2 tyX2 tyX2_ok nmX2 hown hK hP hD hS 0 rfl rfl 1 (by decide) (hts (.fieldLink RX2 18 "BoardMetronomes$SavedStates" "size" "I") (by decide +kernel)) (fun _ h9 => h9) rfl (by decide +kernel) rfl rfl (Nat.le_of_ble_eq_true rfl) dX2_push_62 (fun H locs hP hD hS => ?_)
          have hP : va_P (dC, dI) vwCl (SX cI cZ cO A Q (SRow A ((r + 1) % 6)) (6 : Int32) (upB us 2 (f_copyFrom (us 2) v)) ++ BW cI cZ h1 q1 v) H := Eq.mp (congrArg (fun w => va_P (dC, dI) vwCl w H) SX_n') hP
          have hD : va_D A0 (SX cI cZ cO A Q (SRow A ((r + 1) % 6)) (6 : Int32) (upB us 2 (f_copyFrom (us 2) v)) ++ BW cI cZ h1 q1 v) := Eq.mp (congrArg (fun w => va_D A0 w) SX_n') hD
          have r10 : f_Spush r k us v = ((r + 1) % 6, 6, upB us 2 (f_copyFrom (us 2) v)) := by
            rw [f_Spush, if_neg c_6, if_neg hp52_0, if_neg hp52_1, if_pos hp52_2]
          exact kw_v hx hb hr hlk hP hS dX2_push_65 (by rw [r10]; first | done | rfl)
        by_cases hp52_3 : (5 + (r + 1) % 6) % 6 = 3
        · refine W.eq (g2 := F0 m 52 ls [.ref h1, .ref (A 13)]) (by simp only [hp52_3]) ?_
          refine kc_w (As := [.ref h1]) (rest := []) S (v := none) (c_X0_copyFrom l dC dI cI cZ cO (A 13) h1 (Q 13) q1 (us 3) v H.size) gX2_push_X0_copyFrom mi_X0_copyFrom ⟨rfl, rfl⟩ ⟨Nat.le_of_ble_eq_true rfl, Nat.le_of_ble_eq_true rfl⟩ hK hP hD hS hA [20, 21, 22, 23, 24, 25, 38, 39, 40, 41, 42, 43] SX_all3_b BW2_fst rfl 0 rfl rfl ⟨Nat.le_refl _, Nat.le_refl _⟩ dX2_push_52 rfl hl.1 rfl (Nat.le_of_ble_eq_true rfl) (fun H locs hP hD hS => ?_)
          have hP : va_P (dC, dI) vwCl (SX cI cZ cO A Q (SRow A ((r + 1) % 6)) (5 : Int32) (upB us 3 (f_copyFrom (us 3) v)) ++ BW cI cZ h1 q1 v) H := Eq.mp (congrArg (fun w => va_P (dC, dI) vwCl w H) SX_ks3_b) hP
          have hD : va_D A0 (SX cI cZ cO A Q (SRow A ((r + 1) % 6)) (5 : Int32) (upB us 3 (f_copyFrom (us 3) v)) ++ BW cI cZ h1 q1 v) := Eq.mp (congrArg (fun w => va_D A0 w) SX_ks3_b) hD
          refine lv_aload_n hx hb dX2_push_55 rfl (lv_at hl 0 rfl) ?_
          refine lv_dup hx hb dX2_push_56 rfl ?_
          refine va_get (D := (dC, dI)) (ci := 2) (v := .int (5 : Int32)) (C := RX2) (T := TX2) (N := 2) hx hb hts inX2 hown hK hP 0 rfl rfl 1 (by decide) (hts (.fieldLink RX2 18 "BoardMetronomes$SavedStates" "size" "I") (by decide +kernel)) (fun _ h9 => h9) rfl dX2_push_57 ?_
          refine lv_iconst (v := (1 : Int32)) hx hb dX2_push_60 (by decide) ?_
          refine lv_iadd hx hb dX2_push_61 ?_
          refine kt_i (y := (6 : Int32)) (by decide) ?_
          refine va_put (D := (dC, dI)) (ci := 2) (v := .int (6 : Int32)) (ty := .int) (C := RX2) (T := TX2) (N := 2) hx hb hts inX2 tyX2 tyX2_ok nmX2 hown hK hP hD hS 0 rfl rfl 1 (by decide) (hts (.fieldLink RX2 18 "BoardMetronomes$SavedStates" "size" "I") (by decide +kernel)) (fun _ h9 => h9) rfl (by decide +kernel) rfl rfl (Nat.le_of_ble_eq_true rfl) dX2_push_62 (fun H locs hP hD hS => ?_)
          have hP : va_P (dC, dI) vwCl (SX cI cZ cO A Q (SRow A ((r + 1) % 6)) (6 : Int32) (upB us 3 (f_copyFrom (us 3) v)) ++ BW cI cZ h1 q1 v) H := Eq.mp (congrArg (fun w => va_P (dC, dI) vwCl w H) SX_n') hP
          have hD : va_D A0 (SX cI cZ cO A Q (SRow A ((r + 1) % 6)) (6 : Int32) (upB us 3 (f_copyFrom (us 3) v)) ++ BW cI cZ h1 q1 v) := Eq.mp (congrArg (fun w => va_D A0 w) SX_n') hD
          have r11 : f_Spush r k us v = ((r + 1) % 6, 6, upB us 3 (f_copyFrom (us 3) v)) := by
            rw [f_Spush, if_neg c_6, if_neg hp52_0, if_neg hp52_1, if_neg hp52_2, if_pos hp52_3]
          exact kw_v hx hb hr hlk hP hS dX2_push_65 (by rw [r11]; first | done | rfl)
        by_cases hp52_4 : (5 + (r + 1) % 6) % 6 = 4
        · refine W.eq (g2 := F0 m 52 ls [.ref h1, .ref (A 14)]) (by simp only [hp52_4]) ?_
          refine kc_w (As := [.ref h1]) (rest := []) S (v := none) (c_X0_copyFrom l dC dI cI cZ cO (A 14) h1 (Q 14) q1 (us 4) v H.size) gX2_push_X0_copyFrom mi_X0_copyFrom ⟨rfl, rfl⟩ ⟨Nat.le_of_ble_eq_true rfl, Nat.le_of_ble_eq_true rfl⟩ hK hP hD hS hA [26, 27, 28, 29, 30, 31, 38, 39, 40, 41, 42, 43] SX_all4_b BW2_fst rfl 0 rfl rfl ⟨Nat.le_refl _, Nat.le_refl _⟩ dX2_push_52 rfl hl.1 rfl (Nat.le_of_ble_eq_true rfl) (fun H locs hP hD hS => ?_)
          have hP : va_P (dC, dI) vwCl (SX cI cZ cO A Q (SRow A ((r + 1) % 6)) (5 : Int32) (upB us 4 (f_copyFrom (us 4) v)) ++ BW cI cZ h1 q1 v) H := Eq.mp (congrArg (fun w => va_P (dC, dI) vwCl w H) SX_ks4_b) hP
          have hD : va_D A0 (SX cI cZ cO A Q (SRow A ((r + 1) % 6)) (5 : Int32) (upB us 4 (f_copyFrom (us 4) v)) ++ BW cI cZ h1 q1 v) := Eq.mp (congrArg (fun w => va_D A0 w) SX_ks4_b) hD
          refine lv_aload_n hx hb dX2_push_55 rfl (lv_at hl 0 rfl) ?_
          refine lv_dup hx hb dX2_push_56 rfl ?_
          refine va_get (D := (dC, dI)) (ci := 2) (v := .int (5 : Int32)) (C := RX2) (T := TX2) (N := 2) hx hb hts inX2 hown hK hP 0 rfl rfl 1 (by decide) (hts (.fieldLink RX2 18 "BoardMetronomes$SavedStates" "size" "I") (by decide +kernel)) (fun _ h9 => h9) rfl dX2_push_57 ?_
          refine lv_iconst (v := (1 : Int32)) hx hb dX2_push_60 (by decide) ?_
          refine lv_iadd hx hb dX2_push_61 ?_
          refine kt_i (y := (6 : Int32)) (by decide) ?_
          refine va_put (D := (dC, dI)) (ci := 2) (v := .int (6 : Int32)) (ty := .int) (C := RX2) (T := TX2) (N := 2) hx hb hts inX2 tyX2 tyX2_ok nmX2 hown hK hP hD hS 0 rfl rfl 1 (by decide) (hts (.fieldLink RX2 18 "BoardMetronomes$SavedStates" "size" "I") (by decide +kernel)) (fun _ h9 => h9) rfl (by decide +kernel) rfl rfl (Nat.le_of_ble_eq_true rfl) dX2_push_62 (fun H locs hP hD hS => ?_)
          have hP : va_P (dC, dI) vwCl (SX cI cZ cO A Q (SRow A ((r + 1) % 6)) (6 : Int32) (upB us 4 (f_copyFrom (us 4) v)) ++ BW cI cZ h1 q1 v) H := Eq.mp (congrArg (fun w => va_P (dC, dI) vwCl w H) SX_n') hP
          have hD : va_D A0 (SX cI cZ cO A Q (SRow A ((r + 1) % 6)) (6 : Int32) (upB us 4 (f_copyFrom (us 4) v)) ++ BW cI cZ h1 q1 v) := Eq.mp (congrArg (fun w => va_D A0 w) SX_n') hD
          have r12 : f_Spush r k us v = ((r + 1) % 6, 6, upB us 4 (f_copyFrom (us 4) v)) := by
            rw [f_Spush, if_neg c_6, if_neg hp52_0, if_neg hp52_1, if_neg hp52_2, if_neg hp52_3, if_pos hp52_4]
          exact kw_v hx hb hr hlk hP hS dX2_push_65 (by rw [r12]; first | done | rfl)
        have hp52_5 : (5 + (r + 1) % 6) % 6 = 5 := by omega
        refine W.eq (g2 := F0 m 52 ls [.ref h1, .ref (A 15)]) (by simp only [hp52_5]) ?_
        refine kc_w (As := [.ref h1]) (rest := []) S (v := none) (c_X0_copyFrom l dC dI cI cZ cO (A 15) h1 (Q 15) q1 (us 5) v H.size) gX2_push_X0_copyFrom mi_X0_copyFrom ⟨rfl, rfl⟩ ⟨Nat.le_of_ble_eq_true rfl, Nat.le_of_ble_eq_true rfl⟩ hK hP hD hS hA [32, 33, 34, 35, 36, 37, 38, 39, 40, 41, 42, 43] SX_all5_b BW2_fst rfl 0 rfl rfl ⟨Nat.le_refl _, Nat.le_refl _⟩ dX2_push_52 rfl hl.1 rfl (Nat.le_of_ble_eq_true rfl) (fun H locs hP hD hS => ?_)
        have hP : va_P (dC, dI) vwCl (SX cI cZ cO A Q (SRow A ((r + 1) % 6)) (5 : Int32) (upB us 5 (f_copyFrom (us 5) v)) ++ BW cI cZ h1 q1 v) H := Eq.mp (congrArg (fun w => va_P (dC, dI) vwCl w H) SX_ks5_b) hP
        have hD : va_D A0 (SX cI cZ cO A Q (SRow A ((r + 1) % 6)) (5 : Int32) (upB us 5 (f_copyFrom (us 5) v)) ++ BW cI cZ h1 q1 v) := Eq.mp (congrArg (fun w => va_D A0 w) SX_ks5_b) hD
        refine lv_aload_n hx hb dX2_push_55 rfl (lv_at hl 0 rfl) ?_
        refine lv_dup hx hb dX2_push_56 rfl ?_
        refine va_get (D := (dC, dI)) (ci := 2) (v := .int (5 : Int32)) (C := RX2) (T := TX2) (N := 2) hx hb hts inX2 hown hK hP 0 rfl rfl 1 (by decide) (hts (.fieldLink RX2 18 "BoardMetronomes$SavedStates" "size" "I") (by decide +kernel)) (fun _ h9 => h9) rfl dX2_push_57 ?_
        refine lv_iconst (v := (1 : Int32)) hx hb dX2_push_60 (by decide) ?_
        refine lv_iadd hx hb dX2_push_61 ?_
        refine kt_i (y := (6 : Int32)) (by decide) ?_
        refine va_put (D := (dC, dI)) (ci := 2) (v := .int (6 : Int32)) (ty := .int) (C := RX2) (T := TX2) (N := 2) hx hb hts inX2 tyX2 tyX2_ok nmX2 hown hK hP hD hS 0 rfl rfl 1 (by decide) (hts (.fieldLink RX2 18 "BoardMetronomes$SavedStates" "size" "I") (by decide +kernel)) (fun _ h9 => h9) rfl (by decide +kernel) rfl rfl (Nat.le_of_ble_eq_true rfl) dX2_push_62 (fun H locs hP hD hS => ?_)
        have hP : va_P (dC, dI) vwCl (SX cI cZ cO A Q (SRow A ((r + 1) % 6)) (6 : Int32) (upB us 5 (f_copyFrom (us 5) v)) ++ BW cI cZ h1 q1 v) H := Eq.mp (congrArg (fun w => va_P (dC, dI) vwCl w H) SX_n') hP
        have hD : va_D A0 (SX cI cZ cO A Q (SRow A ((r + 1) % 6)) (6 : Int32) (upB us 5 (f_copyFrom (us 5) v)) ++ BW cI cZ h1 q1 v) := Eq.mp (congrArg (fun w => va_D A0 w) SX_n') hD
        have r13 : f_Spush r k us v = ((r + 1) % 6, 6, upB us 5 (f_copyFrom (us 5) v)) := by
          rw [f_Spush, if_neg c_6, if_neg hp52_0, if_neg hp52_1, if_neg hp52_2, if_neg hp52_3, if_neg hp52_4]
        exact kw_v hx hb hr hlk hP hS dX2_push_65 (by rw [r13]; first | done | rfl)

def rm_X2_popInto : Room := { frames := 1, cells := 0, slots := 0, locals := 22 }
theorem mi_X2_popInto : kM yX2_popInto wsX2_popInto cX2_popInto 2 (some .int) 1 := ⟨⟨_, rfl⟩, by decide, by decide, by decide +kernel⟩
def f_SpopInto (r k : Nat) (us : Nat → BS) (v : BS) : Int32 × SS × BS := if (nI k) ≤ 0 then (nI k, (r, k, us), v) else if (6 : Int32) < (nI k) then (nI k, (r, k, us), v) else if (k - 1 + r) % 6 = 0 then (nI (k - 1), (r, k - 1, us), (f_copyFrom v (us 0))) else if (k - 1 + r) % 6 = 1 then (nI (k - 1), (r, k - 1, us), (f_copyFrom v (us 1))) else if (k - 1 + r) % 6 = 2 then (nI (k - 1), (r, k - 1, us), (f_copyFrom v (us 2))) else if (k - 1 + r) % 6 = 3 then (nI (k - 1), (r, k - 1, us), (f_copyFrom v (us 3))) else if (k - 1 + r) % 6 = 4 then (nI (k - 1), (r, k - 1, us), (f_copyFrom v (us 4))) else (nI (k - 1), (r, k - 1, us), (f_copyFrom v (us 5)))
set_option maxHeartbeats 1000000 in
set_option maxRecDepth 100000 in
theorem c_X2_popInto (l : Launch) (dC : Nat → ClassId) (dI : Nat → Nat → Nat) (cI cZ cO : ClassId) (A : Nat → Nat) (Q : Nat → Nat → Nat) (h1 : Nat) (q1 : Nat → Nat) (r k : Nat) (us : Nat → BS) (v : BS) (sz : Nat) (hrr : r < 6) (hkk : k ≤ 6) : Met l yX2_popInto wsX2_popInto rm_X2_popInto (va_Pc [.ref (A 6), .ref h1] (fun U => U.heap.size = sz ∧ va_P (dC, dI) vwCl (SX cI cZ cO A Q (SRow A r) (nI k) us ++ BW cI cZ h1 q1 v) U.heap ∧ va_K (dC, dI) vwCl (TY cI cZ cO) U ∧ va_D (fun _ => True) (SX cI cZ cO A Q (SRow A r) (nI k) us ++ BW cI cZ h1 q1 v))) (kQw (some (.int (f_SpopInto r k us v).1)) (dC, dI) vwCl (SW cI cZ cO A Q ((f_SpopInto r k us v).2.1) ++ BW cI cZ h1 q1 ((f_SpopInto r k us v).2.2)) (va_A (SX cI cZ cO A Q (SRow A r) (nI k) us ++ BW cI cZ h1 q1 v) sz)) 0 0 (va_A (SX cI cZ cO A Q (SRow A r) (nI k) us ++ BW cI cZ h1 q1 v) sz) := by
  refine kofW (cc := cX2_popInto) (maxL := 2) (ret := some .int) (by decide) rfl (Nat.le_of_ble_eq_true rfl) ?_
  intro p e s m args below meth c ls S hr hlk hnm hsz hP hK hD hS hA hl
  generalize hA0 : va_A (SX cI cZ cO A Q (SRow A r) (nI k) us ++ BW cI cZ h1 q1 v) sz = A0 at hD hS hA ⊢
  subst hsz
  obtain ⟨hx, hb, hml, hown, hts⟩ := id S
  have inX0 : ∀ w ∈ wsX00, w ∈ wsX2_popInto := fun w h => List.mem_cons_of_mem _ (List.mem_append_right _ h)
  have inX2 : ∀ w ∈ wsX20, w ∈ wsX2_popInto := fun w h => List.mem_cons_of_mem _ (List.mem_append_left _ (List.mem_append_right _ h))
  have hl : lv_has ls 2 [(0, .ref (A 6)), (1, .ref h1)] := hl
  refine lv_aload_n hx hb dX2_popInto_0 rfl (lv_at hl 1 rfl) ?_
  refine lv_ifnull hx hb dX2_popInto_1 ?_
  refine lv_aload_n hx hb dX2_popInto_4 rfl (lv_at hl 0 rfl) ?_
  refine va_get (D := (dC, dI)) (ci := 2) (v := .int (nI k)) (C := RX2) (T := TX2) (N := 2) hx hb hts inX2 hown hK hP 0 rfl rfl 1 (by decide) (hts (.fieldLink RX2 18 "BoardMetronomes$SavedStates" "size" "I") (by decide +kernel)) (fun _ h9 => h9) rfl dX2_popInto_5 ?_
  refine lv_if_le (tgt := 43) hx hb dX2_popInto_8 (by decide) (fun c_8 => ?_) (fun c_8 => ?_)
  · have c_8n : k ≤ 0 := (nI_leI (a := k) (b := 0) (by omega) (by omega)).mp c_8
    refine lv_aload_n hx hb dX2_popInto_43 rfl (lv_at hl 0 rfl) ?_
    refine va_get (D := (dC, dI)) (ci := 2) (v := .int (nI k)) (C := RX2) (T := TX2) (N := 2) hx hb hts inX2 hown hK hP 0 rfl rfl 1 (by decide) (hts (.fieldLink RX2 18 "BoardMetronomes$SavedStates" "size" "I") (by decide +kernel)) (fun _ h9 => h9) rfl dX2_popInto_44 ?_
    have r1 : f_SpopInto r k us v = (nI k, (r, k, us), v) := by
      rw [f_SpopInto, if_pos c_8]
    exact kw_i hx hb hr hlk hP hS dX2_popInto_47 (by rw [r1]) (by rw [r1]; first | done | rfl)
  · have c_8n : ¬ k ≤ 0 := fun z => c_8 ((nI_leI (a := k) (b := 0) (by omega) (by omega)).mpr z)
    refine lv_aload_n hx hb dX2_popInto_11 rfl (lv_at hl 0 rfl) ?_
    refine va_get (D := (dC, dI)) (ci := 2) (v := .int (nI k)) (C := RX2) (T := TX2) (N := 2) hx hb hts inX2 hown hK hP 0 rfl rfl 1 (by decide) (hts (.fieldLink RX2 18 "BoardMetronomes$SavedStates" "size" "I") (by decide +kernel)) (fun _ h9 => h9) rfl dX2_popInto_12 ?_
    refine lv_bipush (v := (6 : Int32)) hx hb dX2_popInto_15 (by decide) ?_
    refine lv_icmp_gt (tgt := 43) hx hb dX2_popInto_17 (by decide) (fun c_17 => ?_) (fun c_17 => ?_)
    · have c_17n : 6 < k := (nI_ltI (a := 6) (b := k) (by omega) (by omega)).mp c_17
      refine lv_aload_n hx hb dX2_popInto_43 rfl (lv_at hl 0 rfl) ?_
      refine va_get (D := (dC, dI)) (ci := 2) (v := .int (nI k)) (C := RX2) (T := TX2) (N := 2) hx hb hts inX2 hown hK hP 0 rfl rfl 1 (by decide) (hts (.fieldLink RX2 18 "BoardMetronomes$SavedStates" "size" "I") (by decide +kernel)) (fun _ h9 => h9) rfl dX2_popInto_44 ?_
      have r2 : f_SpopInto r k us v = (nI k, (r, k, us), v) := by
        rw [f_SpopInto, if_neg c_8, if_pos c_17]
      exact kw_i hx hb hr hlk hP hS dX2_popInto_47 (by rw [r2]) (by rw [r2]; first | done | rfl)
    · have c_17n : ¬ 6 < k := fun z => c_17 ((nI_ltI (a := 6) (b := k) (by omega) (by omega)).mpr z)
      refine lv_aload_n hx hb dX2_popInto_20 rfl (lv_at hl 0 rfl) ?_
      refine lv_dup hx hb dX2_popInto_21 rfl ?_
      refine va_get (D := (dC, dI)) (ci := 2) (v := .int (nI k)) (C := RX2) (T := TX2) (N := 2) hx hb hts inX2 hown hK hP 0 rfl rfl 1 (by decide) (hts (.fieldLink RX2 18 "BoardMetronomes$SavedStates" "size" "I") (by decide +kernel)) (fun _ h9 => h9) rfl dX2_popInto_22 ?_
      refine lv_iconst (v := (1 : Int32)) hx hb dX2_popInto_25 (by decide) ?_
      refine k_isubn (x := k) (y := 1) hx hb dX2_popInto_26 (by omega) ?_
      refine va_put (D := (dC, dI)) (ci := 2) (v := .int (nI (k - 1))) (ty := .int) (C := RX2) (T := TX2) (N := 2) hx hb hts inX2 tyX2 tyX2_ok nmX2 hown hK hP hD hS 0 rfl rfl 1 (by decide) (hts (.fieldLink RX2 18 "BoardMetronomes$SavedStates" "size" "I") (by decide +kernel)) (fun _ h9 => h9) rfl (by decide +kernel) rfl rfl (Nat.le_of_ble_eq_true rfl) dX2_popInto_27 (fun H locs hP hD hS => ?_)
      have hP : va_P (dC, dI) vwCl (SX cI cZ cO A Q (SRow A r) (nI (k - 1)) us ++ BW cI cZ h1 q1 v) H := Eq.mp (congrArg (fun w => va_P (dC, dI) vwCl w H) SX_n') hP
      have hD : va_D A0 (SX cI cZ cO A Q (SRow A r) (nI (k - 1)) us ++ BW cI cZ h1 q1 v) := Eq.mp (congrArg (fun w => va_D A0 w) SX_n') hD
      refine lv_aload_n hx hb dX2_popInto_30 rfl (lv_at hl 1 rfl) ?_
      refine lv_aload_n hx hb dX2_popInto_31 rfl (lv_at hl 0 rfl) ?_
      refine va_get (D := (dC, dI)) (ci := 2) (v := .ref (A 7)) (C := RX2) (T := TX2) (N := 2) hx hb hts inX2 hown hK hP 0 rfl rfl 0 (by decide) (hts (.fieldLink RX2 11 "BoardMetronomes$SavedStates" "states" "[LBoardMetronomes$Bench;") (by decide +kernel)) (fun _ h9 => h9) rfl dX2_popInto_32 ?_
      refine lv_aload_n hx hb dX2_popInto_35 rfl (lv_at hl 0 rfl) ?_
      refine va_get (D := (dC, dI)) (ci := 2) (v := .int (nI (k - 1))) (C := RX2) (T := TX2) (N := 2) hx hb hts inX2 hown hK hP 0 rfl rfl 1 (by decide) (hts (.fieldLink RX2 18 "BoardMetronomes$SavedStates" "size" "I") (by decide +kernel)) (fun _ h9 => h9) rfl dX2_popInto_36 ?_
      refine va_aldq (D := (dC, dI)) hx hb hK hP 1 2 rfl rfl (vp_in_nI (n := (k - 1)) (by omega) (by decide)) dX2_popInto_39 ?_
      refine W.eq (g2 := F0 m 40 ls [.ref (A (10 + (k - 1 + r) % 6)), .ref h1]) (by rw [nI_clamp (by omega)]; rfl) ?_
      by_cases hp40_0 : (k - 1 + r) % 6 = 0
      · refine W.eq (g2 := F0 m 40 ls [.ref (A 10), .ref h1]) (by simp only [hp40_0]) ?_
        refine kc_w (As := [.ref (A 10)]) (rest := []) S (v := none) (c_X0_copyFrom l dC dI cI cZ cO h1 (A 10) q1 (Q 10) v (us 0) H.size) gX2_popInto_X0_copyFrom mi_X0_copyFrom ⟨rfl, rfl⟩ ⟨Nat.le_of_ble_eq_true rfl, Nat.le_of_ble_eq_true rfl⟩ hK hP hD hS hA [38, 39, 40, 41, 42, 43, 2, 3, 4, 5, 6, 7] SX_allb_0 BW2_fst rfl 0 rfl rfl ⟨Nat.le_refl _, Nat.le_refl _⟩ dX2_popInto_40 rfl hl.1 rfl (Nat.le_of_ble_eq_true rfl) (fun H locs hP hD hS => ?_)
        have hP : va_P (dC, dI) vwCl (SX cI cZ cO A Q (SRow A r) (nI (k - 1)) us ++ BW cI cZ h1 q1 (f_copyFrom v (us 0))) H := Eq.mp (congrArg (fun w => va_P (dC, dI) vwCl w H) SX_ksb_0) hP
        have hD : va_D A0 (SX cI cZ cO A Q (SRow A r) (nI (k - 1)) us ++ BW cI cZ h1 q1 (f_copyFrom v (us 0))) := Eq.mp (congrArg (fun w => va_D A0 w) SX_ksb_0) hD
        refine lv_aload_n hx hb dX2_popInto_43 rfl (lv_at hl 0 rfl) ?_
        refine va_get (D := (dC, dI)) (ci := 2) (v := .int (nI (k - 1))) (C := RX2) (T := TX2) (N := 2) hx hb hts inX2 hown hK hP 0 rfl rfl 1 (by decide) (hts (.fieldLink RX2 18 "BoardMetronomes$SavedStates" "size" "I") (by decide +kernel)) (fun _ h9 => h9) rfl dX2_popInto_44 ?_
        have r3 : f_SpopInto r k us v = (nI (k - 1), (r, k - 1, us), (f_copyFrom v (us 0))) := by
          rw [f_SpopInto, if_neg c_8, if_neg c_17, if_pos hp40_0]
        exact kw_i hx hb hr hlk hP hS dX2_popInto_47 (by rw [r3]) (by rw [r3]; first | done | rfl)
      by_cases hp40_1 : (k - 1 + r) % 6 = 1
      · refine W.eq (g2 := F0 m 40 ls [.ref (A 11), .ref h1]) (by simp only [hp40_1]) ?_
        refine kc_w (As := [.ref (A 11)]) (rest := []) S (v := none) (c_X0_copyFrom l dC dI cI cZ cO h1 (A 11) q1 (Q 11) v (us 1) H.size) gX2_popInto_X0_copyFrom mi_X0_copyFrom ⟨rfl, rfl⟩ ⟨Nat.le_of_ble_eq_true rfl, Nat.le_of_ble_eq_true rfl⟩ hK hP hD hS hA [38, 39, 40, 41, 42, 43, 8, 9, 10, 11, 12, 13] SX_allb_1 BW2_fst rfl 0 rfl rfl ⟨Nat.le_refl _, Nat.le_refl _⟩ dX2_popInto_40 rfl hl.1 rfl (Nat.le_of_ble_eq_true rfl) (fun H locs hP hD hS => ?_)
        have hP : va_P (dC, dI) vwCl (SX cI cZ cO A Q (SRow A r) (nI (k - 1)) us ++ BW cI cZ h1 q1 (f_copyFrom v (us 1))) H := Eq.mp (congrArg (fun w => va_P (dC, dI) vwCl w H) SX_ksb_1) hP
        have hD : va_D A0 (SX cI cZ cO A Q (SRow A r) (nI (k - 1)) us ++ BW cI cZ h1 q1 (f_copyFrom v (us 1))) := Eq.mp (congrArg (fun w => va_D A0 w) SX_ksb_1) hD
        refine lv_aload_n hx hb dX2_popInto_43 rfl (lv_at hl 0 rfl) ?_
        refine va_get (D := (dC, dI)) (ci := 2) (v := .int (nI (k - 1))) (C := RX2) (T := TX2) (N := 2) hx hb hts inX2 hown hK hP 0 rfl rfl 1 (by decide) (hts (.fieldLink RX2 18 "BoardMetronomes$SavedStates" "size" "I") (by decide +kernel)) (fun _ h9 => h9) rfl dX2_popInto_44 ?_
        have r4 : f_SpopInto r k us v = (nI (k - 1), (r, k - 1, us), (f_copyFrom v (us 1))) := by
          rw [f_SpopInto, if_neg c_8, if_neg c_17, if_neg hp40_0, if_pos hp40_1]
        exact kw_i hx hb hr hlk hP hS dX2_popInto_47 (by rw [r4]) (by rw [r4]; first | done | rfl)
      by_cases hp40_2 : (k - 1 + r) % 6 = 2
      · refine W.eq (g2 := F0 m 40 ls [.ref (A 12), .ref h1]) (by simp only [hp40_2]) ?_
        refine kc_w (As := [.ref (A 12)]) (rest := []) S (v := none) (c_X0_copyFrom l dC dI cI cZ cO h1 (A 12) q1 (Q 12) v (us 2) H.size) gX2_popInto_X0_copyFrom mi_X0_copyFrom ⟨rfl, rfl⟩ ⟨Nat.le_of_ble_eq_true rfl, Nat.le_of_ble_eq_true rfl⟩ hK hP hD hS hA [38, 39, 40, 41, 42, 43, 14, 15, 16, 17, 18, 19] SX_allb_2 BW2_fst rfl 0 rfl rfl ⟨Nat.le_refl _, Nat.le_refl _⟩ dX2_popInto_40 rfl hl.1 rfl (Nat.le_of_ble_eq_true rfl) (fun H locs hP hD hS => ?_)
        have hP : va_P (dC, dI) vwCl (SX cI cZ cO A Q (SRow A r) (nI (k - 1)) us ++ BW cI cZ h1 q1 (f_copyFrom v (us 2))) H := Eq.mp (congrArg (fun w => va_P (dC, dI) vwCl w H) SX_ksb_2) hP
        have hD : va_D A0 (SX cI cZ cO A Q (SRow A r) (nI (k - 1)) us ++ BW cI cZ h1 q1 (f_copyFrom v (us 2))) := Eq.mp (congrArg (fun w => va_D A0 w) SX_ksb_2) hD
        refine lv_aload_n hx hb dX2_popInto_43 rfl (lv_at hl 0 rfl) ?_
        refine va_get (D := (dC, dI)) (ci := 2) (v := .int (nI (k - 1))) (C := RX2) (T := TX2) (N := 2) hx hb hts inX2 hown hK hP 0 rfl rfl 1 (by decide) (hts (.fieldLink RX2 18 "BoardMetronomes$SavedStates" "size" "I") (by decide +kernel)) (fun _ h9 => h9) rfl dX2_popInto_44 ?_
        have r5 : f_SpopInto r k us v = (nI (k - 1), (r, k - 1, us), (f_copyFrom v (us 2))) := by
          rw [f_SpopInto, if_neg c_8, if_neg c_17, if_neg hp40_0, if_neg hp40_1, if_pos hp40_2]
        exact kw_i hx hb hr hlk hP hS dX2_popInto_47 (by rw [r5]) (by rw [r5]; first | done | rfl)
      by_cases hp40_3 : (k - 1 + r) % 6 = 3
      · refine W.eq (g2 := F0 m 40 ls [.ref (A 13), .ref h1]) (by simp only [hp40_3]) ?_
        refine kc_w (As := [.ref (A 13)]) (rest := []) S (v := none) (c_X0_copyFrom l dC dI cI cZ cO h1 (A 13) q1 (Q 13) v (us 3) H.size) gX2_popInto_X0_copyFrom mi_X0_copyFrom ⟨rfl, rfl⟩ ⟨Nat.le_of_ble_eq_true rfl, Nat.le_of_ble_eq_true rfl⟩ hK hP hD hS hA [38, 39, 40, 41, 42, 43, 20, 21, 22, 23, 24, 25] SX_allb_3 BW2_fst rfl 0 rfl rfl ⟨Nat.le_refl _, Nat.le_refl _⟩ dX2_popInto_40 rfl hl.1 rfl (Nat.le_of_ble_eq_true rfl) (fun H locs hP hD hS => ?_)
        have hP : va_P (dC, dI) vwCl (SX cI cZ cO A Q (SRow A r) (nI (k - 1)) us ++ BW cI cZ h1 q1 (f_copyFrom v (us 3))) H := Eq.mp (congrArg (fun w => va_P (dC, dI) vwCl w H) SX_ksb_3) hP
        have hD : va_D A0 (SX cI cZ cO A Q (SRow A r) (nI (k - 1)) us ++ BW cI cZ h1 q1 (f_copyFrom v (us 3))) := Eq.mp (congrArg (fun w => va_D A0 w) SX_ksb_3) hD
        refine lv_aload_n hx hb dX2_popInto_43 rfl (lv_at hl 0 rfl) ?_
        refine va_get (D := (dC, dI)) (ci := 2) (v := .int (nI (k - 1))) (C := RX2) (T := TX2) (N := 2) hx hb hts inX2 hown hK hP 0 rfl rfl 1 (by decide) (hts (.fieldLink RX2 18 "BoardMetronomes$SavedStates" "size" "I") (by decide +kernel)) (fun _ h9 => h9) rfl dX2_popInto_44 ?_
        have r6 : f_SpopInto r k us v = (nI (k - 1), (r, k - 1, us), (f_copyFrom v (us 3))) := by
          rw [f_SpopInto, if_neg c_8, if_neg c_17, if_neg hp40_0, if_neg hp40_1, if_neg hp40_2, if_pos hp40_3]
        exact kw_i hx hb hr hlk hP hS dX2_popInto_47 (by rw [r6]) (by rw [r6]; first | done | rfl)
      by_cases hp40_4 : (k - 1 + r) % 6 = 4
      · refine W.eq (g2 := F0 m 40 ls [.ref (A 14), .ref h1]) (by simp only [hp40_4]) ?_
        refine kc_w (As := [.ref (A 14)]) (rest := []) S (v := none) (c_X0_copyFrom l dC dI cI cZ cO h1 (A 14) q1 (Q 14) v (us 4) H.size) gX2_popInto_X0_copyFrom mi_X0_copyFrom ⟨rfl, rfl⟩ ⟨Nat.le_of_ble_eq_true rfl, Nat.le_of_ble_eq_true rfl⟩ hK hP hD hS hA [38, 39, 40, 41, 42, 43, 26, 27, 28, 29, 30, 31] SX_allb_4 BW2_fst rfl 0 rfl rfl ⟨Nat.le_refl _, Nat.le_refl _⟩ dX2_popInto_40 rfl hl.1 rfl (Nat.le_of_ble_eq_true rfl) (fun H locs hP hD hS => ?_)
        have hP : va_P (dC, dI) vwCl (SX cI cZ cO A Q (SRow A r) (nI (k - 1)) us ++ BW cI cZ h1 q1 (f_copyFrom v (us 4))) H := Eq.mp (congrArg (fun w => va_P (dC, dI) vwCl w H) SX_ksb_4) hP
        have hD : va_D A0 (SX cI cZ cO A Q (SRow A r) (nI (k - 1)) us ++ BW cI cZ h1 q1 (f_copyFrom v (us 4))) := Eq.mp (congrArg (fun w => va_D A0 w) SX_ksb_4) hD
        refine lv_aload_n hx hb dX2_popInto_43 rfl (lv_at hl 0 rfl) ?_
        refine va_get (D := (dC, dI)) (ci := 2) (v := .int (nI (k - 1))) (C := RX2) (T := TX2) (N := 2) hx hb hts inX2 hown hK hP 0 rfl rfl 1 (by decide) (hts (.fieldLink RX2 18 "BoardMetronomes$SavedStates" "size" "I") (by decide +kernel)) (fun _ h9 => h9) rfl dX2_popInto_44 ?_
        have r7 : f_SpopInto r k us v = (nI (k - 1), (r, k - 1, us), (f_copyFrom v (us 4))) := by
          rw [f_SpopInto, if_neg c_8, if_neg c_17, if_neg hp40_0, if_neg hp40_1, if_neg hp40_2, if_neg hp40_3, if_pos hp40_4]
        exact kw_i hx hb hr hlk hP hS dX2_popInto_47 (by rw [r7]) (by rw [r7]; first | done | rfl)
      have hp40_5 : (k - 1 + r) % 6 = 5 := by omega
      refine W.eq (g2 := F0 m 40 ls [.ref (A 15), .ref h1]) (by simp only [hp40_5]) ?_
      refine kc_w (As := [.ref (A 15)]) (rest := []) S (v := none) (c_X0_copyFrom l dC dI cI cZ cO h1 (A 15) q1 (Q 15) v (us 5) H.size) gX2_popInto_X0_copyFrom mi_X0_copyFrom ⟨rfl, rfl⟩ ⟨Nat.le_of_ble_eq_true rfl, Nat.le_of_ble_eq_true rfl⟩ hK hP hD hS hA [38, 39, 40, 41, 42, 43, 32, 33, 34, 35, 36, 37] SX_allb_5 BW2_fst rfl 0 rfl rfl ⟨Nat.le_refl _, Nat.le_refl _⟩ dX2_popInto_40 rfl hl.1 rfl (Nat.le_of_ble_eq_true rfl) (fun H locs hP hD hS => ?_)
      have hP : va_P (dC, dI) vwCl (SX cI cZ cO A Q (SRow A r) (nI (k - 1)) us ++ BW cI cZ h1 q1 (f_copyFrom v (us 5))) H := Eq.mp (congrArg (fun w => va_P (dC, dI) vwCl w H) SX_ksb_5) hP
      have hD : va_D A0 (SX cI cZ cO A Q (SRow A r) (nI (k - 1)) us ++ BW cI cZ h1 q1 (f_copyFrom v (us 5))) := Eq.mp (congrArg (fun w => va_D A0 w) SX_ksb_5) hD
      refine lv_aload_n hx hb dX2_popInto_43 rfl (lv_at hl 0 rfl) ?_
      refine va_get (D := (dC, dI)) (ci := 2) (v := .int (nI (k - 1))) (C := RX2) (T := TX2) (N := 2) hx hb hts inX2 hown hK hP 0 rfl rfl 1 (by decide) (hts (.fieldLink RX2 18 "BoardMetronomes$SavedStates" "size" "I") (by decide +kernel)) (fun _ h9 => h9) rfl dX2_popInto_44 ?_
      have r8 : f_SpopInto r k us v = (nI (k - 1), (r, k - 1, us), (f_copyFrom v (us 5))) := by
        rw [f_SpopInto, if_neg c_8, if_neg c_17, if_neg hp40_0, if_neg hp40_1, if_neg hp40_2, if_neg hp40_3, if_neg hp40_4]
      exact kw_i hx hb hr hlk hP hS dX2_popInto_47 (by rw [r8]) (by rw [r8]; first | done | rfl)

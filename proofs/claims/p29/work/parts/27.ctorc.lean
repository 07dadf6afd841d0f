def qA (h0 : Nat) (q : Nat → Nat) : Nat → Nat := fun n => if n = 6 then h0 else if n = 7 then q 0 else q (1 + 6 * (n - 10))
def qQ (q : Nat → Nat) : Nat → Nat → Nat := fun n k => q (2 + 6 * (n - 10) + k)
theorem SX_Dg {A0 : Nat → Prop} {cI cZ cO : ClassId} {A : Nat → Nat} {Q : Nat → Nat → Nat} {g g1 : Nat → Option Nat} {n : Int32} {us : Nat → BS} (hD : va_D A0 (SX cI cZ cO A Q g n us)) : va_D A0 (SX cI cZ cO A Q g1 n us) := by
  have h := hD.set (p := 1) (e := .inl (cO, 6, .inr (.inr (.inr (.inr g1))))) (show (SX cI cZ cO A Q g n us)[1]? = some (A 7, .inl (cO, 6, .inr (.inr (.inr (.inr g))))) from rfl)
  rw [SX_g] at h
  exact h
theorem fs0_X0 : ∀ j, j < 14 → defaultValue (tyX0 j) = vp_V [.null, .null, .null, .null, .null, .int 0, .int 0, .int 0, .int 0, .int 0, .int 0, .int 0, .int 0, .int 0] j := fun j hj => match j, hj with | 0, _ => rfl | 1, _ => rfl | 2, _ => rfl | 3, _ => rfl | 4, _ => rfl | 5, _ => rfl | 6, _ => rfl | 7, _ => rfl | 8, _ => rfl | 9, _ => rfl | 10, _ => rfl | 11, _ => rfl | 12, _ => rfl | 13, _ => rfl | j + 14, h => by omega
def rm_X2_init : Room := { frames := 2, cells := 37, slots := 270, locals := 60 }
theorem mi_X2_init : kM yX2_init wsX2_init cX2_init 2 none 0 := ⟨⟨_, rfl⟩, by decide, by decide, by decide +kernel⟩
set_option maxHeartbeats 400000 in
set_option maxRecDepth 100000 in
theorem c_X2_init (l : Launch) (dC : Nat → ClassId) (dI : Nat → Nat → Nat) (cI cZ cO : ClassId) (h0 : Nat) (sz : Nat) : Met l yX2_init wsX2_init rm_X2_init (va_Pc [.ref h0] (fun U => U.heap.size = sz ∧ va_P (dC, dI) vwCl [(h0, .inr (2, [.null, .int 0]))] U.heap ∧ va_K (dC, dI) vwCl (TY cI cZ cO) U ∧ va_D (fun _ => True) [(h0, .inr (2, [.null, .int 0]))] ∧ va_AO RX0 U)) (kQn (dC, dI) vwCl (fun q => SX cI cZ cO (qA h0 q) (qQ q) (SRow (qA h0 q) 0) (0 : Int32) (fun _ => uB0)) (va_A [(h0, .inr (2, [.null, .int 0]))] sz)) 37 270 (va_A [(h0, .inr (2, [.null, .int 0]))] sz) := by
  refine kofWE (cc := cX2_init) (maxL := 2) (ret := none) (by decide) rfl (Nat.le_of_ble_eq_true rfl) ?_
  intro p e s m args below meth c ls S hr hlk hin hsz hP hK hD hS hA hE hl
  generalize hA0 : va_A [(h0, .inr (2, [.null, .int 0]))] sz = A0 at hD hS hA ⊢
  subst hsz
  obtain ⟨hx, hb, hml, hown, hts⟩ := id S
  have inX2 : ∀ w ∈ wsX20, w ∈ wsX2_init := fun w h => List.mem_cons_of_mem _ (List.mem_append_left _ (List.mem_append_right _ h))
  have inX0 : ∀ w ∈ wsX00, w ∈ wsX2_init := fun w h => List.mem_cons_of_mem _ (List.mem_append_right _ h)
  have hl : lv_has ls 2 [(0, .ref h0)] := hl
  refine lv_aload_n hx hb dX2_init_0 rfl (lv_at hl 0 rfl) ?_
  refine W.objInit hx hb hown (hts (.methodLink RX2 3 objectInit) (by decide +kernel)) (hts (.instanceMethod objectInit) (by decide +kernel)) (hts _ (List.mem_of_getElem? (i := 3) rfl)) rfl (by rw [hml]; exact hl.1) rfl dX2_init_1 (Nat.le_of_ble_eq_true rfl) (Nat.le_of_ble_eq_true rfl) ?_
  refine W.eq (g2 := F0 m 4 ls []) rfl ?_
  refine lv_aload_n hx hb dX2_init_4 rfl (lv_at hl 0 rfl) ?_
  refine lv_bipush (v := (6 : Int32)) hx hb dX2_init_5 (by decide) ?_
  refine va_newq (C := RX0) (index := 9) (N' := 6) hx hb hown (hts (.classLink RX2 9 RX0) (by decide +kernel)) hE hK hP hD hS hA (by decide) (by decide +kernel) (by decide +kernel) (Nat.le_of_ble_eq_true rfl) (Nat.le_of_ble_eq_true rfl) dX2_init_7 (fun qr cA H hK1 hP hD hS => ?_)
  rw [kn_cO hK1] at hP hD
  have hP : va_P (dC, dI) vwCl ([(h0, .inr (2, [.null, .int 0])), (qr, .inl (cO, 6, .inr (.inr (.inr (.inr (fun _ => none))))))]) H := hP
  have hD : va_D A0 ([(h0, .inr (2, [.null, .int 0])), (qr, .inl (cO, 6, .inr (.inr (.inr (.inr (fun _ => none))))))]) := hD
  refine va_putF (D := (dC, dI)) (ci := 2) (v := .ref qr) (ty := .array (.object "BoardMetronomes$Bench")) (C := RX2) (T := TX2) (N := 2) hx hb hts inX2 tyX2 tyX2_ok nmX2 hown hK hP hD hS 0 rfl rfl 0 (by decide) (hts (.fieldLink RX2 11 "BoardMetronomes$SavedStates" "states" "[LBoardMetronomes$Bench;") (by decide +kernel)) (fun _ h9 => h9) rfl hin rfl (by decide +kernel) rfl rfl (Nat.le_of_ble_eq_true rfl) dX2_init_10 (fun H locs hP hD hS => ?_)
  have hP : va_P (dC, dI) vwCl ([(h0, .inr (2, [.ref qr, .int 0])), (qr, .inl (cO, 6, .inr (.inr (.inr (.inr (fun _ => none))))))]) H := hP
  have hD : va_D A0 ([(h0, .inr (2, [.ref qr, .int 0])), (qr, .inl (cO, 6, .inr (.inr (.inr (.inr (fun _ => none))))))]) := hD
  refine lv_iconst (v := (0 : Int32)) hx hb dX2_init_13 (by decide) ?_
  refine lv_istore_n (lv' := [(1, .int (0 : Int32)), (0, .ref h0)]) hx hb dX2_init_14 rfl hl (by decide) rfl (fun ls hl => ?_)
  refine lv_iload_n hx hb dX2_init_15 rfl (lv_at hl 0 rfl) ?_
  refine lv_bipush (v := (6 : Int32)) hx hb dX2_init_16 (by decide) ?_
  refine lv_icmp_ge (tgt := 40) hx hb dX2_init_18 (by decide) (fun c_0 => ?_) (fun c_0 => ?_)
  · exact absurd c_0 (by decide)
  refine lv_aload_n hx hb dX2_init_21 rfl (lv_at hl 1 rfl) ?_
  refine va_get (D := (dC, dI)) (ci := 2) (v := .ref qr) (C := RX2) (T := TX2) (N := 2) hx hb hts inX2 hown hK hP 0 rfl rfl 0 (by decide) (hts (.fieldLink RX2 11 "BoardMetronomes$SavedStates" "states" "[LBoardMetronomes$Bench;") (by decide +kernel)) (fun _ h9 => h9) rfl dX2_init_22 ?_
  refine lv_iload_n hx hb dX2_init_25 rfl (lv_at hl 0 rfl) ?_
  refine va_new (ci := 0) (fs := [.null, .null, .null, .null, .null, .int 0, .int 0, .int 0, .int 0, .int 0, .int 0, .int 0, .int 0, .int 0]) (C := RX0) (T := TX0) (N := 14) hx hb hts inX0 tyX0 tyX0_ok hown (hts (.classLink RX2 9 RX0) (by decide +kernel)) (hts (.instantiable RX0 14) (by decide +kernel)) (hts (.initialized RX0) (by decide +kernel)) hK hP hD hS hA rfl fs0_X0 (Nat.le_of_ble_eq_true rfl) (Nat.le_of_ble_eq_true rfl) dX2_init_26 (fun a0 H hP hD hS => ?_)
  refine lv_dup hx hb dX2_init_29 rfl ?_
  refine kc_n S (c_X0_init l dC dI cI cZ cO a0 H.size) (cwI 0 hts gX2_init_X0_init rfl rfl rfl (hts (.initialized RX0) (by decide +kernel)) (hts (.methodLink RX2 17 yX0_init) (by decide +kernel)) (hts (.instanceMethod yX0_init) (by decide +kernel)) rfl (by decide +kernel) ⟨Nat.le_of_ble_eq_true rfl, Nat.le_of_ble_eq_true rfl⟩) hK hP hD hS hA [2] [0, 1] rfl rfl (by decide) (by decide) (by decide) hl.1 (Nat.le_of_ble_eq_true rfl) dX2_init_30 ⟨Nat.le_of_ble_eq_true rfl, Nat.le_of_ble_eq_true rfl⟩ (fun s0 H locs hP hD hS => ?_)
  refine va_astq (D := (dC, dI)) hx hb hK hP hD hS 1 2 2 0 (r := (RX0, TX0, 14)) rfl rfl rfl rfl (vp_in_nI (n := 0) (by omega) (by decide)) dX2_init_33 (fun H locs hP hD hS => ?_)
  have hP : va_P (dC, dI) vwCl (([(h0, .inr (2, [.ref qr, .int 0])), (qr, .inl (cO, 6, .inr (.inr (.inr (.inr (va_up (fun _ => none) 0 (some a0)))))))] ++ BW cI cZ a0 s0 uB0)) H := hP
  have hD : va_D A0 (([(h0, .inr (2, [.ref qr, .int 0])), (qr, .inl (cO, 6, .inr (.inr (.inr (.inr (va_up (fun _ => none) 0 (some a0)))))))] ++ BW cI cZ a0 s0 uB0)) := hD
  refine lv_iinc (v := (1 : Int32)) (lv' := [(1, .int (1 : Int32)), (0, .ref h0)]) hx hb dX2_init_34 hl (k := 0) rfl (by decide) (by decide) rfl (fun ls hl => ?_)
  refine lv_goto (tgt := 15) hx hb dX2_init_37 (by decide) ?_
  refine lv_iload_n hx hb dX2_init_15 rfl (lv_at hl 0 rfl) ?_
  refine lv_bipush (v := (6 : Int32)) hx hb dX2_init_16 (by decide) ?_
  refine lv_icmp_ge (tgt := 40) hx hb dX2_init_18 (by decide) (fun c_1 => ?_) (fun c_1 => ?_)
  · exact absurd c_1 (by decide)
  refine lv_aload_n hx hb dX2_init_21 rfl (lv_at hl 1 rfl) ?_
  refine va_get (D := (dC, dI)) (ci := 2) (v := .ref qr) (C := RX2) (T := TX2) (N := 2) hx hb hts inX2 hown hK hP 0 rfl rfl 0 (by decide) (hts (.fieldLink RX2 11 "BoardMetronomes$SavedStates" "states" "[LBoardMetronomes$Bench;") (by decide +kernel)) (fun _ h9 => h9) rfl dX2_init_22 ?_
  refine lv_iload_n hx hb dX2_init_25 rfl (lv_at hl 0 rfl) ?_
  refine va_new (ci := 0) (fs := [.null, .null, .null, .null, .null, .int 0, .int 0, .int 0, .int 0, .int 0, .int 0, .int 0, .int 0, .int 0]) (C := RX0) (T := TX0) (N := 14) hx hb hts inX0 tyX0 tyX0_ok hown (hts (.classLink RX2 9 RX0) (by decide +kernel)) (hts (.instantiable RX0 14) (by decide +kernel)) (hts (.initialized RX0) (by decide +kernel)) hK hP hD hS hA rfl fs0_X0 (Nat.le_of_ble_eq_true rfl) (Nat.le_of_ble_eq_true rfl) dX2_init_26 (fun a1 H hP hD hS => ?_)
  refine lv_dup hx hb dX2_init_29 rfl ?_
  refine kc_n S (c_X0_init l dC dI cI cZ cO a1 H.size) (cwI 0 hts gX2_init_X0_init rfl rfl rfl (hts (.initialized RX0) (by decide +kernel)) (hts (.methodLink RX2 17 yX0_init) (by decide +kernel)) (hts (.instanceMethod yX0_init) (by decide +kernel)) rfl (by decide +kernel) ⟨Nat.le_of_ble_eq_true rfl, Nat.le_of_ble_eq_true rfl⟩) hK hP hD hS hA [8] [0, 1, 2, 3, 4, 5, 6, 7] rfl rfl (by decide) (by decide) (by decide) hl.1 (Nat.le_of_ble_eq_true rfl) dX2_init_30 ⟨Nat.le_of_ble_eq_true rfl, Nat.le_of_ble_eq_true rfl⟩ (fun s1 H locs hP hD hS => ?_)
  refine va_astq (D := (dC, dI)) hx hb hK hP hD hS 1 2 8 0 (r := (RX0, TX0, 14)) rfl rfl rfl rfl (vp_in_nI (n := 1) (by omega) (by decide)) dX2_init_33 (fun H locs hP hD hS => ?_)
  have hP : va_P (dC, dI) vwCl ((([(h0, .inr (2, [.ref qr, .int 0])), (qr, .inl (cO, 6, .inr (.inr (.inr (.inr (va_up (va_up (fun _ => none) 0 (some a0)) 1 (some a1)))))))] ++ BW cI cZ a0 s0 uB0) ++ BW cI cZ a1 s1 uB0)) H := hP
  have hD : va_D A0 ((([(h0, .inr (2, [.ref qr, .int 0])), (qr, .inl (cO, 6, .inr (.inr (.inr (.inr (va_up (va_up (fun _ => none) 0 (some a0)) 1 (some a1)))))))] ++ BW cI cZ a0 s0 uB0) ++ BW cI cZ a1 s1 uB0)) := hD
  refine lv_iinc (v := (2 : Int32)) (lv' := [(1, .int (2 : Int32)), (0, .ref h0)]) hx hb dX2_init_34 hl (k := 0) rfl (by decide) (by decide) rfl (fun ls hl => ?_)
  refine lv_goto (tgt := 15) hx hb dX2_init_37 (by decide) ?_
  refine lv_iload_n hx hb dX2_init_15 rfl (lv_at hl 0 rfl) ?_
  refine lv_bipush (v := (6 : Int32)) hx hb dX2_init_16 (by decide) ?_
  refine lv_icmp_ge (tgt := 40) hx hb dX2_init_18 (by decide) (fun c_2 => ?_) (fun c_2 => ?_)
  · exact absurd c_2 (by decide)
  refine lv_aload_n hx hb dX2_init_21 rfl (lv_at hl 1 rfl) ?_
  refine va_get (D := (dC, dI)) (ci := 2) (v := .ref qr) (C := RX2) (T := TX2) (N := 2) hx hb hts inX2 hown hK hP 0 rfl rfl 0 (by decide) (hts (.fieldLink RX2 11 "BoardMetronomes$SavedStates" "states" "[LBoardMetronomes$Bench;") (by decide +kernel)) (fun _ h9 => h9) rfl dX2_init_22 ?_
  refine lv_iload_n hx hb dX2_init_25 rfl (lv_at hl 0 rfl) ?_
  refine va_new (ci := 0) (fs := [.null, .null, .null, .null, .null, .int 0, .int 0, .int 0, .int 0, .int 0, .int 0, .int 0, .int 0, .int 0]) (C := RX0) (T := TX0) (N := 14) hx hb hts inX0 tyX0 tyX0_ok hown (hts (.classLink RX2 9 RX0) (by decide +kernel)) (hts (.instantiable RX0 14) (by decide +kernel)) (hts (.initialized RX0) (by decide +kernel)) hK hP hD hS hA rfl fs0_X0 (Nat.le_of_ble_eq_true rfl) (Nat.le_of_ble_eq_true rfl) dX2_init_26 (fun a2 H hP hD hS => ?_)
  refine lv_dup hx hb dX2_init_29 rfl ?_
  refine kc_n S (c_X0_init l dC dI cI cZ cO a2 H.size) (cwI 0 hts gX2_init_X0_init rfl rfl rfl (hts (.initialized RX0) (by decide +kernel)) (hts (.methodLink RX2 17 yX0_init) (by decide +kernel)) (hts (.instanceMethod yX0_init) (by decide +kernel)) rfl (by decide +kernel) ⟨Nat.le_of_ble_eq_true rfl, Nat.le_of_ble_eq_true rfl⟩) hK hP hD hS hA [14] [0, 1, 2, 3, 4, 5, 6, 7, 8, 9, 10, 11, 12, 13] rfl rfl (by decide) (by decide) (by decide) hl.1 (Nat.le_of_ble_eq_true rfl) dX2_init_30 ⟨Nat.le_of_ble_eq_true rfl, Nat.le_of_ble_eq_true rfl⟩ (fun s2 H locs hP hD hS => ?_)
  refine va_astq (D := (dC, dI)) hx hb hK hP hD hS 1 2 14 0 (r := (RX0, TX0, 14)) rfl rfl rfl rfl (vp_in_nI (n := 2) (by omega) (by decide)) dX2_init_33 (fun H locs hP hD hS => ?_)
  have hP : va_P (dC, dI) vwCl (((([(h0, .inr (2, [.ref qr, .int 0])), (qr, .inl (cO, 6, .inr (.inr (.inr (.inr (va_up (va_up (va_up (fun _ => none) 0 (some a0)) 1 (some a1)) 2 (some a2)))))))] ++ BW cI cZ a0 s0 uB0) ++ BW cI cZ a1 s1 uB0) ++ BW cI cZ a2 s2 uB0)) H := hP
  have hD : va_D A0 (((([(h0, .inr (2, [.ref qr, .int 0])), (qr, .inl (cO, 6, .inr (.inr (.inr (.inr (va_up (va_up (va_up (fun _ => none) 0 (some a0)) 1 (some a1)) 2 (some a2)))))))] ++ BW cI cZ a0 s0 uB0) ++ BW cI cZ a1 s1 uB0) ++ BW cI cZ a2 s2 uB0)) := hD
  refine lv_iinc (v := (3 : Int32)) (lv' := [(1, .int (3 : Int32)), (0, .ref h0)]) hx hb dX2_init_34 hl (k := 0) rfl (by decide) (by decide) rfl (fun ls hl => ?_)
  refine lv_goto (tgt := 15) hx hb dX2_init_37 (by decide) ?_
  refine lv_iload_n hx hb dX2_init_15 rfl (lv_at hl 0 rfl) ?_
  refine lv_bipush (v := (6 : Int32)) hx hb dX2_init_16 (by decide) ?_
  refine lv_icmp_ge (tgt := 40) hx hb dX2_init_18 (by decide) (fun c_3 => ?_) (fun c_3 => ?_)
  · exact absurd c_3 (by decide)
  refine lv_aload_n hx hb dX2_init_21 rfl (lv_at hl 1 rfl) ?_
  refine va_get (D := (dC, dI)) (ci := 2) (v := .ref qr) (C := RX2) (T := TX2) (N := 2) hx hb hts inX2 hown hK hP 0 rfl rfl 0 (by decide) (hts (.fieldLink RX2 11 "BoardMetronomes$SavedStates" "states" "[LBoardMetronomes$Bench;") (by decide +kernel)) (fun _ h9 => h9) rfl dX2_init_22 ?_
  refine lv_iload_n hx hb dX2_init_25 rfl (lv_at hl 0 rfl) ?_
  refine va_new (ci := 0) (fs := [.null, .null, .null, .null, .null, .int 0, .int 0, .int 0, .int 0, .int 0, .int 0, .int 0, .int 0, .int 0]) (C := RX0) (T := TX0) (N := 14) hx hb hts inX0 tyX0 tyX0_ok hown (hts (.classLink RX2 9 RX0) (by decide +kernel)) (hts (.instantiable RX0 14) (by decide +kernel)) (hts (.initialized RX0) (by decide +kernel)) hK hP hD hS hA rfl fs0_X0 (Nat.le_of_ble_eq_true rfl) (Nat.le_of_ble_eq_true rfl) dX2_init_26 (fun a3 H hP hD hS => ?_)
  refine lv_dup hx hb dX2_init_29 rfl ?_
  refine kc_n S (c_X0_init l dC dI cI cZ cO a3 H.size) (cwI 0 hts gX2_init_X0_init rfl rfl rfl (hts (.initialized RX0) (by decide +kernel)) (hts (.methodLink RX2 17 yX0_init) (by decide +kernel)) (hts (.instanceMethod yX0_init) (by decide +kernel)) rfl (by decide +kernel) ⟨Nat.le_of_ble_eq_true rfl, Nat.le_of_ble_eq_true rfl⟩) hK hP hD hS hA [20] [0, 1, 2, 3, 4, 5, 6, 7, 8, 9, 10, 11, 12, 13, 14, 15, 16, 17, 18, 19] rfl rfl (by decide) (by decide) (by decide) hl.1 (Nat.le_of_ble_eq_true rfl) dX2_init_30 ⟨Nat.le_of_ble_eq_true rfl, Nat.le_of_ble_eq_true rfl⟩ (fun s3 H locs hP hD hS => ?_)
  refine va_astq (D := (dC, dI)) hx hb hK hP hD hS 1 2 20 0 (r := (RX0, TX0, 14)) rfl rfl rfl rfl (vp_in_nI (n := 3) (by omega) (by decide)) dX2_init_33 (fun H locs hP hD hS => ?_)
  have hP : va_P (dC, dI) vwCl ((((([(h0, .inr (2, [.ref qr, .int 0])), (qr, .inl (cO, 6, .inr (.inr (.inr (.inr (va_up (va_up (va_up (va_up (fun _ => none) 0 (some a0)) 1 (some a1)) 2 (some a2)) 3 (some a3)))))))] ++ BW cI cZ a0 s0 uB0) ++ BW cI cZ a1 s1 uB0) ++ BW cI cZ a2 s2 uB0) ++ BW cI cZ a3 s3 uB0)) H := hP
  have hD : va_D A0 ((((([(h0, .inr (2, [.ref qr, .int 0])), (qr, .inl (cO, 6, .inr (.inr (.inr (.inr (va_up (va_up (va_up (va_up (fun _ => none) 0 (some a0)) 1 (some a1)) 2 (some a2)) 3 (some a3)))))))] ++ BW cI cZ a0 s0 uB0) ++ BW cI cZ a1 s1 uB0) ++ BW cI cZ a2 s2 uB0) ++ BW cI cZ a3 s3 uB0)) := hD
  refine lv_iinc (v := (4 : Int32)) (lv' := [(1, .int (4 : Int32)), (0, .ref h0)]) hx hb dX2_init_34 hl (k := 0) rfl (by decide) (by decide) rfl (fun ls hl => ?_)
  refine lv_goto (tgt := 15) hx hb dX2_init_37 (by decide) ?_
  refine lv_iload_n hx hb dX2_init_15 rfl (lv_at hl 0 rfl) ?_
  refine lv_bipush (v := (6 : Int32)) hx hb dX2_init_16 (by decide) ?_
  refine lv_icmp_ge (tgt := 40) hx hb dX2_init_18 (by decide) (fun c_4 => ?_) (fun c_4 => ?_)
  · exact absurd c_4 (by decide)
  refine lv_aload_n hx hb dX2_init_21 rfl (lv_at hl 1 rfl) ?_
  refine va_get (D := (dC, dI)) (ci := 2) (v := .ref qr) (C := RX2) (T := TX2) (N := 2) hx hb hts inX2 hown hK hP 0 rfl rfl 0 (by decide) (hts (.fieldLink RX2 11 "BoardMetronomes$SavedStates" "states" "[LBoardMetronomes$Bench;") (by decide +kernel)) (fun _ h9 => h9) rfl dX2_init_22 ?_
  refine lv_iload_n hx hb dX2_init_25 rfl (lv_at hl 0 rfl) ?_
  refine va_new (ci := 0) (fs := [.null, .null, .null, .null, .null, .int 0, .int 0, .int 0, .int 0, .int 0, .int 0, .int 0, .int 0, .int 0]) (C := RX0) (T := TX0) (N := 14) hx hb hts inX0 tyX0 tyX0_ok hown (hts (.classLink RX2 9 RX0) (by decide +kernel)) (hts (.instantiable RX0 14) (by decide +kernel)) (hts (.initialized RX0) (by decide +kernel)) hK hP hD hS hA rfl fs0_X0 (Nat.le_of_ble_eq_true rfl) (Nat.le_of_ble_eq_true rfl) dX2_init_26 (fun a4 H hP hD hS => ?_)
  refine lv_dup hx hb dX2_init_29 rfl ?_
  refine kc_n S (c_X0_init l dC dI cI cZ cO a4 H.size) (cwI 0 hts gX2_init_X0_init rfl rfl rfl (hts (.initialized RX0) (by decide +kernel)) (hts (.methodLink RX2 17 yX0_init) (by decide +kernel)) (hts (.instanceMethod yX0_init) (by decide +kernel)) rfl (by decide +kernel) ⟨Nat.le_of_ble_eq_true rfl, Nat.le_of_ble_eq_true rfl⟩) hK hP hD hS hA [26] [0, 1, 2, 3, 4, 5, 6, 7, 8, 9, 10, 11, 12, 13, 14, 15, 16, 17, 18, 19, 20, 21, 22, 23, 24, 25] rfl rfl (by decide) (by decide) (by decide) hl.1 (Nat.le_of_ble_eq_true rfl) dX2_init_30 ⟨Nat.le_of_ble_eq_true rfl, Nat.le_of_ble_eq_true rfl⟩ (fun s4 H locs hP hD hS => ?_)
  refine va_astq (D := (dC, dI)) hx hb hK hP hD hS 1 2 26 0 (r := (RX0, TX0, 14)) rfl rfl rfl rfl (vp_in_nI (n := 4) (by omega) (by decide)) dX2_init_33 (fun H locs hP hD hS => ?_)
  have hP : va_P (dC, dI) vwCl (((((([(h0, .inr (2, [.ref qr, .int 0])), (qr, .inl (cO, 6, .inr (.inr (.inr (.inr (va_up (va_up (va_up (va_up (va_up (fun _ => none) 0 (some a0)) 1 (some a1)) 2 (some a2)) 3 (some a3)) 4 (some a4)))))))] ++ BW cI cZ a0 s0 uB0) ++ BW cI cZ a1 s1 uB0) ++ BW cI cZ a2 s2 uB0) ++ BW cI cZ a3 s3 uB0) ++ BW cI cZ a4 s4 uB0)) H := hP
  have hD : va_D A0 (((((([(h0, .inr (2, [.ref qr, .int 0])), (qr, .inl (cO, 6, .inr (.inr (.inr (.inr (va_up (va_up (va_up (va_up (va_up (fun _ => none) 0 (some a0)) 1 (some a1)) 2 (some a2)) 3 (some a3)) 4 (some a4)))))))] ++ BW cI cZ a0 s0 uB0) ++ BW cI cZ a1 s1 uB0) ++ BW cI cZ a2 s2 uB0) ++ BW cI cZ a3 s3 uB0) ++ BW cI cZ a4 s4 uB0)) := hD
  refine lv_iinc (v := (5 : Int32)) (lv' := [(1, .int (5 : Int32)), (0, .ref h0)]) hx hb dX2_init_34 hl (k := 0) rfl (by decide) (by decide) rfl (fun ls hl => ?_)
  refine lv_goto (tgt := 15) hx hb dX2_init_37 (by decide) ?_
  refine lv_iload_n hx hb dX2_init_15 rfl (lv_at hl 0 rfl) ?_
  refine lv_bipush (v := (6 : Int32)) hx hb dX2_init_16 (by decide) ?_
  refine lv_icmp_ge (tgt := 40) hx hb dX2_init_18 (by decide) (fun c_5 => ?_) (fun c_5 => ?_)
  · exact absurd c_5 (by decide)
  refine lv_aload_n hx hb dX2_init_21 rfl (lv_at hl 1 rfl) ?_
  refine va_get (D := (dC, dI)) (ci := 2) (v := .ref qr) (C := RX2) (T := TX2) (N := 2) hx hb hts inX2 hown hK hP 0 rfl rfl 0 (by decide) (hts (.fieldLink RX2 11 "BoardMetronomes$SavedStates" "states" "[LBoardMetronomes$Bench;") (by decide +kernel)) (fun _ h9 => h9) rfl dX2_init_22 ?_
  refine lv_iload_n hx hb dX2_init_25 rfl (lv_at hl 0 rfl) ?_
  refine va_new (ci := 0) (fs := [.null, .null, .null, .null, .null, .int 0, .int 0, .int 0, .int 0, .int 0, .int 0, .int 0, .int 0, .int 0]) (C := RX0) (T := TX0) (N := 14) hx hb hts inX0 tyX0 tyX0_ok hown (hts (.classLink RX2 9 RX0) (by decide +kernel)) (hts (.instantiable RX0 14) (by decide +kernel)) (hts (.initialized RX0) (by decide +kernel)) hK hP hD hS hA rfl fs0_X0 (Nat.le_of_ble_eq_true rfl) (Nat.le_of_ble_eq_true rfl) dX2_init_26 (fun a5 H hP hD hS => ?_)
  refine lv_dup hx hb dX2_init_29 rfl ?_
  refine kc_n S (c_X0_init l dC dI cI cZ cO a5 H.size) (cwI 0 hts gX2_init_X0_init rfl rfl rfl (hts (.initialized RX0) (by decide +kernel)) (hts (.methodLink RX2 17 yX0_init) (by decide +kernel)) (hts (.instanceMethod yX0_init) (by decide +kernel)) rfl (by decide +kernel) ⟨Nat.le_of_ble_eq_true rfl, Nat.le_of_ble_eq_true rfl⟩) hK hP hD hS hA [32] [0, 1, 2, 3, 4, 5, 6, 7, 8, 9, 10, 11, 12, 13, 14, 15, 16, 17, 18, 19, 20, 21, 22, 23, 24, 25, 26, 27, 28, 29, 30, 31] rfl rfl (by decide) (by decide) (by decide) hl.1 (Nat.le_of_ble_eq_true rfl) dX2_init_30 ⟨Nat.le_of_ble_eq_true rfl, Nat.le_of_ble_eq_true rfl⟩ (fun s5 H locs hP hD hS => ?_)
  refine va_astq (D := (dC, dI)) hx hb hK hP hD hS 1 2 32 0 (r := (RX0, TX0, 14)) rfl rfl rfl rfl (vp_in_nI (n := 5) (by omega) (by decide)) dX2_init_33 (fun H locs hP hD hS => ?_)
  have hP : va_P (dC, dI) vwCl ((((((([(h0, .inr (2, [.ref qr, .int 0])), (qr, .inl (cO, 6, .inr (.inr (.inr (.inr (va_up (va_up (va_up (va_up (va_up (va_up (fun _ => none) 0 (some a0)) 1 (some a1)) 2 (some a2)) 3 (some a3)) 4 (some a4)) 5 (some a5)))))))] ++ BW cI cZ a0 s0 uB0) ++ BW cI cZ a1 s1 uB0) ++ BW cI cZ a2 s2 uB0) ++ BW cI cZ a3 s3 uB0) ++ BW cI cZ a4 s4 uB0) ++ BW cI cZ a5 s5 uB0)) H := hP
  have hD : va_D A0 ((((((([(h0, .inr (2, [.ref qr, .int 0])), (qr, .inl (cO, 6, .inr (.inr (.inr (.inr (va_up (va_up (va_up (va_up (va_up (va_up (fun _ => none) 0 (some a0)) 1 (some a1)) 2 (some a2)) 3 (some a3)) 4 (some a4)) 5 (some a5)))))))] ++ BW cI cZ a0 s0 uB0) ++ BW cI cZ a1 s1 uB0) ++ BW cI cZ a2 s2 uB0) ++ BW cI cZ a3 s3 uB0) ++ BW cI cZ a4 s4 uB0) ++ BW cI cZ a5 s5 uB0)) := hD
  refine lv_iinc (v := (6 : Int32)) (lv' := [(1, .int (6 : Int32)), (0, .ref h0)]) hx hb dX2_init_34 hl (k := 0) rfl (by decide) (by decide) rfl (fun ls hl => ?_)
  refine lv_goto (tgt := 15) hx hb dX2_init_37 (by decide) ?_
  refine lv_iload_n hx hb dX2_init_15 rfl (lv_at hl 0 rfl) ?_
  refine lv_bipush (v := (6 : Int32)) hx hb dX2_init_16 (by decide) ?_
  refine lv_icmp_ge (tgt := 40) hx hb dX2_init_18 (by decide) (fun c_6 => ?_) (fun c_6 => ?_)
  rotate_left
  · exact absurd (by decide) c_6
  refine W.vret hx hb hr (fun t ht hW => ⟨rfl, (fun k => [qr, a0, s0 0, s0 1, s0 2, s0 3, s0 4, a1, s1 0, s1 1, s1 2, s1 3, s1 4, a2, s2 0, s2 1, s2 2, s2 3, s2 4, a3, s3 0, s3 1, s3 2, s3 3, s3 4, a4, s4 0, s4 1, s4 2, s4 3, s4 4, a5, s5 0, s5 1, s5 2, s5 3, s5 4].getD k 0), ?_, ?_, hS.F ht⟩) hS.2.2 dX2_init_40
  · rw [ht]; exact SX_cong (fun i hi => by match i, hi with | 0, _ => rfl | 1, _ => rfl | 2, _ => rfl | 3, _ => rfl | 4, _ => rfl | 5, _ => rfl | i + 6, hi => omega) hP
  · exact SX_Dg hD

theorem vp_wk {x : Int32} {n m : Nat} (h : vp_in x n) (hm : n ≤ m) : vp_in x m := by
  have h1 := vp_in_iff.mp h
  exact vp_in_iff.mpr ⟨h1.1, by omega⟩

def rm_X5_thrown : Room := { frames := 0, cells := 0, slots := 0, locals := 0 }
theorem mi_X5_thrown : kM yX5_thrown wsX5_thrown cX5_thrown 1 (some .int) 0 := ⟨⟨_, rfl⟩, by decide, by decide, by decide +kernel⟩
def f_Mthrown (u : BS) : Int32 := u 8 0
set_option maxHeartbeats 1000000 in
set_option maxRecDepth 100000 in
theorem c_X5_thrown (l : Launch) (dC : Nat → ClassId) (dI : Nat → Nat → Nat) (cI cZ cO : ClassId) (h0 : Nat) (q : Nat → Nat) (u : BS) : Met l yX5_thrown wsX5_thrown rm_X5_thrown (va_Pc [.ref h0] (fun U => va_P (dC, dI) vwCl (MW cI cZ h0 q u) U.heap ∧ va_K (dC, dI) vwCl (TY cI cZ cO) U)) (kQ (some (.int (f_Mthrown u)))) 0 0 (fun _ => False) := by
  refine kofR (cc := cX5_thrown) (maxL := 1) (ret := some .int) (by decide) rfl (Nat.le_of_ble_eq_true rfl) ?_
  intro p e s m args below meth c ls S hr hlk hP hK hl
  obtain ⟨hx, hb, hml, hown, hts⟩ := id S
  have inX5 : ∀ w ∈ wsX50, w ∈ wsX5_thrown := fun w h => List.mem_cons_of_mem _ (List.mem_append_right _ h)
  have hl : lv_has ls 1 [(0, .ref h0)] := hl
  refine lv_aload_n hx hb dX5_thrown_0 rfl (lv_at hl 0 rfl) ?_
  refine va_get (D := (dC, dI)) (ci := 5) (v := .int (u 8 0)) (C := RX5) (T := TX5) (N := 14) hx hb hts inX5 hown hK hP 0 rfl rfl 8 (by decide) (hts (.fieldLink RX5 32 "BoardMetronomesModel" "thrown" "I") (by decide +kernel)) (fun _ h9 => h9) rfl dX5_thrown_1 ?_
  have r1 : f_Mthrown u = u 8 0 := by
    rw [f_Mthrown]
  exact kr_i hx hb hr hlk dX5_thrown_4 r1.symm

def rm_X5_fails : Room := { frames := 0, cells := 0, slots := 0, locals := 0 }
theorem mi_X5_fails : kM yX5_fails wsX5_fails cX5_fails 2 (some .int) 1 := ⟨⟨_, rfl⟩, by decide, by decide, by decide +kernel⟩
def f_Mfails (u : BS) (p0 : Int32) : Int32 × BS := ((0 : Int32), upA u 8 0 p0)
set_option maxHeartbeats 1000000 in
set_option maxRecDepth 100000 in
theorem c_X5_fails (l : Launch) (dC : Nat → ClassId) (dI : Nat → Nat → Nat) (cI cZ cO : ClassId) (h0 : Nat) (q : Nat → Nat) (u : BS) (p0 : Int32) (sz : Nat) : Met l yX5_fails wsX5_fails rm_X5_fails (va_Pc [.ref h0, .int p0] (fun U => U.heap.size = sz ∧ va_P (dC, dI) vwCl (MW cI cZ h0 q u) U.heap ∧ va_K (dC, dI) vwCl (TY cI cZ cO) U ∧ va_D (fun _ => True) (MW cI cZ h0 q u))) (kQw (some (.int (f_Mfails u p0).1)) (dC, dI) vwCl (MW cI cZ h0 q ((f_Mfails u p0).2)) (va_A (MW cI cZ h0 q u) sz)) 0 0 (va_A (MW cI cZ h0 q u) sz) := by
  refine kofW (cc := cX5_fails) (maxL := 2) (ret := some .int) (by decide) rfl (Nat.le_of_ble_eq_true rfl) ?_
  intro p e s m args below meth c ls S hr hlk hnm hsz hP hK hD hS hA hl
  generalize hA0 : va_A (MW cI cZ h0 q u) sz = A0 at hD hS hA ⊢
  subst hsz
  obtain ⟨hx, hb, hml, hown, hts⟩ := id S
  have inX5 : ∀ w ∈ wsX50, w ∈ wsX5_fails := fun w h => List.mem_cons_of_mem _ (List.mem_append_right _ h)
  have hl : lv_has ls 2 [(0, .ref h0), (1, .int p0)] := hl
  refine lv_aload_n hx hb dX5_fails_0 rfl (lv_at hl 0 rfl) ?_
  refine lv_iload_n hx hb dX5_fails_1 rfl (lv_at hl 1 rfl) ?_
  refine va_put (D := (dC, dI)) (ci := 5) (v := .int p0) (ty := .int) (C := RX5) (T := TX5) (N := 14) hx hb hts inX5 tyX5 tyX5_ok nmX5 hown hK hP hD hS 0 rfl rfl 8 (by decide) (hts (.fieldLink RX5 32 "BoardMetronomesModel" "thrown" "I") (by decide +kernel)) (fun _ h9 => h9) rfl (by decide +kernel) rfl rfl (Nat.le_of_ble_eq_true rfl) dX5_fails_2 (fun H locs hP hD hS => ?_)
  have hP : va_P (dC, dI) vwCl (MW cI cZ h0 q (upA u 8 0 p0)) H := Eq.mp (congrArg (fun w => va_P (dC, dI) vwCl w H) MW_s8) hP
  have hD : va_D A0 (MW cI cZ h0 q (upA u 8 0 p0)) := Eq.mp (congrArg (fun w => va_D A0 w) MW_s8) hD
  refine lv_iconst (v := (0 : Int32)) hx hb dX5_fails_5 (by decide) ?_
  have r1 : f_Mfails u p0 = ((0 : Int32), upA u 8 0 p0) := by
    rw [f_Mfails]
  exact kw_i hx hb hr hlk hP hS dX5_fails_6 (by rw [r1]) (by rw [r1])

def rm_X5_isArm : Room := { frames := 1, cells := 0, slots := 0, locals := 22 }
theorem mi_X5_isArm : kM yX5_isArm wsX5_isArm cX5_isArm 2 (some .boolean) 1 := ⟨⟨_, rfl⟩, by decide, by decide, by decide +kernel⟩
def f_MisArm (u : BS) (p0 : Int32) : Bool := (f_Min p0 (0 : Int32) ((u 0 3) - (1 : Int32)))
set_option maxHeartbeats 1000000 in
set_option maxRecDepth 100000 in
theorem c_X5_isArm (l : Launch) (dC : Nat → ClassId) (dI : Nat → Nat → Nat) (cI cZ cO : ClassId) (h0 : Nat) (q : Nat → Nat) (u : BS) (p0 : Int32) : Met l yX5_isArm wsX5_isArm rm_X5_isArm (va_Pc [.ref h0, .int p0] (fun U => va_P (dC, dI) vwCl (MW cI cZ h0 q u) U.heap ∧ va_K (dC, dI) vwCl (TY cI cZ cO) U)) (kQ (some (.int (bI (f_MisArm u p0))))) 0 0 (fun _ => False) := by
  refine kofR (cc := cX5_isArm) (maxL := 2) (ret := some .boolean) (by decide) rfl (Nat.le_of_ble_eq_true rfl) ?_
  intro p e s m args below meth c ls S hr hlk hP hK hl
  obtain ⟨hx, hb, hml, hown, hts⟩ := id S
  have inX5 : ∀ w ∈ wsX50, w ∈ wsX5_isArm := fun w h => List.mem_cons_of_mem _ (List.mem_append_right _ h)
  have hl : lv_has ls 2 [(0, .ref h0), (1, .int p0)] := hl
  refine lv_iload_n hx hb dX5_isArm_0 rfl (lv_at hl 1 rfl) ?_
  refine lv_iconst (v := (0 : Int32)) hx hb dX5_isArm_1 (by decide) ?_
  refine lv_aload_n hx hb dX5_isArm_2 rfl (lv_at hl 0 rfl) ?_
  refine va_get (D := (dC, dI)) (ci := 5) (v := .ref (q 0)) (C := RX5) (T := TX5) (N := 14) hx hb hts inX5 hown hK hP 0 rfl rfl 0 (by decide) (hts (.fieldLink RX5 7 "BoardMetronomesModel" "now" "[I") (by decide +kernel)) (fun _ h9 => h9) rfl dX5_isArm_3 ?_
  refine lv_iconst (v := (3 : Int32)) hx hb dX5_isArm_6 (by decide) ?_
  refine k_iald (D := (dC, dI)) hx hb hK hP 1 0 rfl rfl (j := 3) (by omega) (by decide) dX5_isArm_7 ?_
  refine lv_iconst (v := (1 : Int32)) hx hb dX5_isArm_8 (by decide) ?_
  refine lv_isub hx hb dX5_isArm_9 ?_
  refine kc_p (y := yX5_in) (As := [.int p0, .int (0 : Int32), .int ((u 0 3) - (1 : Int32))]) (rest := []) rfl S (v := .int (bI (f_Min p0 (0 : Int32) ((u 0 3) - (1 : Int32))))) (c_X5_in l p0 (0 : Int32) ((u 0 3) - (1 : Int32))) gX5_isArm_X5_in mi_X5_in ⟨rfl, rfl⟩ ⟨Nat.le_of_ble_eq_true rfl, Nat.le_of_ble_eq_true rfl⟩ ⟨Nat.le_refl _, Nat.le_refl _⟩ dX5_isArm_10 rfl hl.1 rfl (Nat.le_of_ble_eq_true rfl) ?_
  have r1 : f_MisArm u p0 = (f_Min p0 (0 : Int32) ((u 0 3) - (1 : Int32))) := by
    rw [f_MisArm]
  exact kr_z (x := (f_Min p0 (0 : Int32) ((u 0 3) - (1 : Int32)))) hx hb hr hlk dX5_isArm_13 rfl r1

def rm_X5_mayRun : Room := { frames := 0, cells := 0, slots := 0, locals := 0 }
theorem mi_X5_mayRun : kM yX5_mayRun wsX5_mayRun cX5_mayRun 2 (some .boolean) 1 := ⟨⟨_, rfl⟩, by decide, by decide, by decide +kernel⟩
def f_MmayRun (u : BS) (p0 : Int32) : Bool := if (99999 : Int32) < ((u 0 4) + p0) then false else true
set_option maxHeartbeats 1000000 in
set_option maxRecDepth 100000 in
theorem c_X5_mayRun (l : Launch) (dC : Nat → ClassId) (dI : Nat → Nat → Nat) (cI cZ cO : ClassId) (h0 : Nat) (q : Nat → Nat) (u : BS) (p0 : Int32) : Met l yX5_mayRun wsX5_mayRun rm_X5_mayRun (va_Pc [.ref h0, .int p0] (fun U => va_P (dC, dI) vwCl (MW cI cZ h0 q u) U.heap ∧ va_K (dC, dI) vwCl (TY cI cZ cO) U)) (kQ (some (.int (bI (f_MmayRun u p0))))) 0 0 (fun _ => False) := by
  refine kofR (cc := cX5_mayRun) (maxL := 2) (ret := some .boolean) (by decide) rfl (Nat.le_of_ble_eq_true rfl) ?_
  intro p e s m args below meth c ls S hr hlk hP hK hl
  obtain ⟨hx, hb, hml, hown, hts⟩ := id S
  have inX5 : ∀ w ∈ wsX50, w ∈ wsX5_mayRun := fun w h => List.mem_cons_of_mem _ (List.mem_append_right _ h)
  have hl : lv_has ls 2 [(0, .ref h0), (1, .int p0)] := hl
  refine lv_aload_n hx hb dX5_mayRun_0 rfl (lv_at hl 0 rfl) ?_
  refine va_get (D := (dC, dI)) (ci := 5) (v := .ref (q 0)) (C := RX5) (T := TX5) (N := 14) hx hb hts inX5 hown hK hP 0 rfl rfl 0 (by decide) (hts (.fieldLink RX5 7 "BoardMetronomesModel" "now" "[I") (by decide +kernel)) (fun _ h9 => h9) rfl dX5_mayRun_1 ?_
  refine lv_iconst (v := (4 : Int32)) hx hb dX5_mayRun_4 (by decide) ?_
  refine k_iald (D := (dC, dI)) hx hb hK hP 1 0 rfl rfl (j := 4) (by omega) (by decide) dX5_mayRun_5 ?_
  refine lv_iload_n hx hb dX5_mayRun_6 rfl (lv_at hl 1 rfl) ?_
  refine lv_iadd hx hb dX5_mayRun_7 ?_
  refine lv_ldc (v := (99999 : Int32)) hx hb hown (hts (.constant RX5 112 (99999)) (by decide +kernel)) dX5_mayRun_8 ?_
  refine lv_icmp_gt (tgt := 17) hx hb dX5_mayRun_10 (by decide) (fun c_10 => ?_) (fun c_10 => ?_)
  · refine lv_iconst (v := (0 : Int32)) hx hb dX5_mayRun_17 (by decide) ?_
    have r1 : f_MmayRun u p0 = false := by
      rw [f_MmayRun, if_pos c_10]
    exact kr_z (x := false) hx hb hr hlk dX5_mayRun_18 rfl r1
  · refine lv_iconst (v := (1 : Int32)) hx hb dX5_mayRun_13 (by decide) ?_
    refine lv_goto (tgt := 18) hx hb dX5_mayRun_14 (by decide) ?_
    have r2 : f_MmayRun u p0 = true := by
      rw [f_MmayRun, if_neg c_10]
    exact kr_z (x := true) hx hb hr hlk dX5_mayRun_18 rfl r2

def rm_X5_changes : Room := { frames := 0, cells := 0, slots := 0, locals := 0 }
theorem mi_X5_changes : kM yX5_changes wsX5_changes cX5_changes 4 (some .int) 2 := ⟨⟨_, rfl⟩, by decide, by decide, by decide +kernel⟩
def f_Mchanges (u : BS) (k0 : Nat) (p1 : Int32) : Int32 × BS := (u 0 k0, upA u 0 k0 p1)
set_option maxHeartbeats 1000000 in
set_option maxRecDepth 100000 in
theorem c_X5_changes (l : Launch) (dC : Nat → ClassId) (dI : Nat → Nat → Nat) (cI cZ cO : ClassId) (h0 : Nat) (q : Nat → Nat) (u : BS) (k0 : Nat) (p1 : Int32) (sz : Nat) (hk0 : k0 < 39) : Met l yX5_changes wsX5_changes rm_X5_changes (va_Pc [.ref h0, .int (nI k0), .int p1] (fun U => U.heap.size = sz ∧ va_P (dC, dI) vwCl (MW cI cZ h0 q u) U.heap ∧ va_K (dC, dI) vwCl (TY cI cZ cO) U ∧ va_D (fun _ => True) (MW cI cZ h0 q u))) (kQw (some (.int (f_Mchanges u k0 p1).1)) (dC, dI) vwCl (MW cI cZ h0 q ((f_Mchanges u k0 p1).2)) (va_A (MW cI cZ h0 q u) sz)) 0 0 (va_A (MW cI cZ h0 q u) sz) := by
  refine kofW (cc := cX5_changes) (maxL := 4) (ret := some .int) (by decide) rfl (Nat.le_of_ble_eq_true rfl) ?_
  intro p e s m args below meth c ls S hr hlk hnm hsz hP hK hD hS hA hl
  generalize hA0 : va_A (MW cI cZ h0 q u) sz = A0 at hD hS hA ⊢
  subst hsz
  obtain ⟨hx, hb, hml, hown, hts⟩ := id S
  have inX5 : ∀ w ∈ wsX50, w ∈ wsX5_changes := fun w h => List.mem_cons_of_mem _ (List.mem_append_right _ h)
  have hl : lv_has ls 4 [(0, .ref h0), (1, .int (nI k0)), (2, .int p1)] := hl
  refine lv_aload_n hx hb dX5_changes_0 rfl (lv_at hl 0 rfl) ?_
  refine va_get (D := (dC, dI)) (ci := 5) (v := .ref (q 0)) (C := RX5) (T := TX5) (N := 14) hx hb hts inX5 hown hK hP 0 rfl rfl 0 (by decide) (hts (.fieldLink RX5 7 "BoardMetronomesModel" "now" "[I") (by decide +kernel)) (fun _ h9 => h9) rfl dX5_changes_1 ?_
  refine lv_iload_n hx hb dX5_changes_4 rfl (lv_at hl 1 rfl) ?_
  refine k_iald (D := (dC, dI)) hx hb hK hP 1 0 rfl rfl (j := k0) (by omega) (by decide) dX5_changes_5 ?_
  refine lv_istore_n (lv' := [(3, .int (u 0 k0)), (0, .ref h0), (1, .int (nI k0)), (2, .int p1)]) hx hb dX5_changes_6 rfl hl (by decide) rfl (fun ls hl => ?_)
  refine lv_aload_n hx hb dX5_changes_7 rfl (lv_at hl 1 rfl) ?_
  refine va_get (D := (dC, dI)) (ci := 5) (v := .ref (q 0)) (C := RX5) (T := TX5) (N := 14) hx hb hts inX5 hown hK hP 0 rfl rfl 0 (by decide) (hts (.fieldLink RX5 7 "BoardMetronomesModel" "now" "[I") (by decide +kernel)) (fun _ h9 => h9) rfl dX5_changes_8 ?_
  refine lv_iload_n hx hb dX5_changes_11 rfl (lv_at hl 2 rfl) ?_
  refine lv_iload_n hx hb dX5_changes_12 rfl (lv_at hl 3 rfl) ?_
  refine k_iast (D := (dC, dI)) hx hb hK hP hD hS 1 0 rfl rfl (j := k0) (by omega) (by decide) dX5_changes_13 (fun H locs hP hD hS => ?_)
  have hP : va_P (dC, dI) vwCl (MW cI cZ h0 q (upA u 0 k0 p1)) H := Eq.mp (congrArg (fun w => va_P (dC, dI) vwCl w H) MW_a0) hP
  have hD : va_D A0 (MW cI cZ h0 q (upA u 0 k0 p1)) := Eq.mp (congrArg (fun w => va_D A0 w) MW_a0) hD
  refine lv_iload_n hx hb dX5_changes_14 rfl (lv_at hl 0 rfl) ?_
  have r1 : f_Mchanges u k0 p1 = (u 0 k0, upA u 0 k0 p1) := by
    rw [f_Mchanges]
  exact kw_i hx hb hr hlk hP hS dX5_changes_15 (by rw [r1]) (by rw [r1])

def rm_X5_saves : Room := { frames := 1, cells := 0, slots := 0, locals := 24 }
theorem mi_X5_saves : kM yX5_saves wsX5_saves cX5_saves 2 none 0 := ⟨⟨_, rfl⟩, by decide, by decide, by decide +kernel⟩
def f_Msaves_L11 (u : BS) (j0 : Nat) (x0 : BS) : BS := upA x0 2 j0 (x0 2 (j0 + 39))
def f_Msaves (u : BS) : BS := if (nI ((u 3 0).toNatClampNeg)) = (6 : Int32) then (upA (upR (upA (it 195 (f_Msaves_L11 u) u) 3 0 (nI (((u 3 0).toNatClampNeg) - 1))) 2 (f_Mcopies (u 0) ((it 195 (f_Msaves_L11 u) u) 2) 0 (39 * (((u 3 0).toNatClampNeg) - 1)))) 3 0 (nI ((((u 3 0).toNatClampNeg) - 1) + 1))) else upA (upR u 2 (f_Mcopies (u 0) (u 2) 0 (39 * ((u 3 0).toNatClampNeg)))) 3 0 (nI (((u 3 0).toNatClampNeg) + 1))
theorem f_Msaves_L11_o {u : BS} {k : Nat} (h : k ≠ 2) : ∀ {j : Nat}, it j (f_Msaves_L11 u) u k = u k
  | 0 => rfl
  | j + 1 => by rw [it_s, f_Msaves_L11, upA_o h]; exact f_Msaves_L11_o h
theorem f_Msaves_o {u : BS} {k : Nat} (h2 : k ≠ 2) (h3 : k ≠ 3) : f_Msaves u k = u k := by
  unfold f_Msaves
  split
  · rw [upA_o h3, upR_o h2, upA_o h3]; exact f_Msaves_L11_o h2
  · rw [upA_o h3, upR_o h2]
set_option maxHeartbeats 1000000 in
set_option maxRecDepth 100000 in
theorem c_X5_saves (l : Launch) (dC : Nat → ClassId) (dI : Nat → Nat → Nat) (cI cZ cO : ClassId) (h0 : Nat) (q : Nat → Nat) (u : BS) (sz : Nat) (hk : vp_in (u 3 0) 7) : Met l yX5_saves wsX5_saves rm_X5_saves (va_Pc [.ref h0] (fun U => U.heap.size = sz ∧ va_P (dC, dI) vwCl (MW cI cZ h0 q u) U.heap ∧ va_K (dC, dI) vwCl (TY cI cZ cO) U ∧ va_D (fun _ => True) (MW cI cZ h0 q u))) (kQw none (dC, dI) vwCl (MW cI cZ h0 q (f_Msaves u)) (va_A (MW cI cZ h0 q u) sz)) 0 0 (va_A (MW cI cZ h0 q u) sz) := by
  refine kofW (cc := cX5_saves) (maxL := 2) (ret := none) (by decide) rfl (Nat.le_of_ble_eq_true rfl) ?_
  intro p e s m args below meth c ls S hr hlk hnm hsz hP hK hD hS hA hl
  generalize hA0 : va_A (MW cI cZ h0 q u) sz = A0 at hD hS hA ⊢
  subst hsz
  obtain ⟨hx, hb, hml, hown, hts⟩ := id S
  have hk_n : (u 3 0).toNatClampNeg < 7 := vp_lt hk
  have inX5 : ∀ w ∈ wsX50, w ∈ wsX5_saves := fun w h => List.mem_cons_of_mem _ (List.mem_append_right _ h)
  have hl : lv_has ls 2 [(0, .ref h0)] := hl
  refine lv_aload_n hx hb dX5_saves_0 rfl (lv_at hl 0 rfl) ?_
  refine va_get (D := (dC, dI)) (ci := 5) (v := .int (u 3 0)) (C := RX5) (T := TX5) (N := 14) hx hb hts inX5 hown hK hP 0 rfl rfl 3 (by decide) (hts (.fieldLink RX5 44 "BoardMetronomesModel" "kept" "I") (by decide +kernel)) (fun _ h9 => h9) rfl dX5_saves_1 ?_
  refine kt_i (kcl hk).symm ?_
  refine lv_bipush (v := (6 : Int32)) hx hb dX5_saves_4 (by decide) ?_
  refine lv_icmp_ne (tgt := 49) hx hb dX5_saves_6 (by decide) (fun c_6 => ?_) (fun c_6 => ?_)
  · have c_6n : ¬ ((u 3 0).toNatClampNeg) = 6 := fun z => c_6 ((nI_eq (a := ((u 3 0).toNatClampNeg)) (b := 6) (by omega) (by omega)).mpr z)
    refine lv_aload_n hx hb dX5_saves_49 rfl (lv_at hl 0 rfl) ?_
    refine va_get (D := (dC, dI)) (ci := 5) (v := .ref (q 0)) (C := RX5) (T := TX5) (N := 14) hx hb hts inX5 hown hK hP 0 rfl rfl 0 (by decide) (hts (.fieldLink RX5 7 "BoardMetronomesModel" "now" "[I") (by decide +kernel)) (fun _ h9 => h9) rfl dX5_saves_50 ?_
    refine lv_iconst (v := (0 : Int32)) hx hb dX5_saves_53 (by decide) ?_
    refine lv_aload_n hx hb dX5_saves_54 rfl (lv_at hl 0 rfl) ?_
    refine va_get (D := (dC, dI)) (ci := 5) (v := .ref (q 2)) (C := RX5) (T := TX5) (N := 14) hx hb hts inX5 hown hK hP 0 rfl rfl 2 (by decide) (hts (.fieldLink RX5 16 "BoardMetronomesModel" "past" "[I") (by decide +kernel)) (fun _ h9 => h9) rfl dX5_saves_55 ?_
    refine lv_bipush (v := (39 : Int32)) hx hb dX5_saves_58 (by decide) ?_
    refine lv_aload_n hx hb dX5_saves_60 rfl (lv_at hl 0 rfl) ?_
    refine va_get (D := (dC, dI)) (ci := 5) (v := .int (u 3 0)) (C := RX5) (T := TX5) (N := 14) hx hb hts inX5 hown hK hP 0 rfl rfl 3 (by decide) (hts (.fieldLink RX5 44 "BoardMetronomesModel" "kept" "I") (by decide +kernel)) (fun _ h9 => h9) rfl dX5_saves_61 ?_
    refine kt_i (kcl hk).symm ?_
    refine k_imuln (x := 39) (y := (u 3 0).toNatClampNeg) hx hb dX5_saves_64 ?_
    refine kc_sw (y := yX5_copies) (As := [.ref (q 0), .int (nI 0), .ref (q 2), .int (nI (39 * ((u 3 0).toNatClampNeg)))]) (rest := []) rfl S (v := none) (c_X5_copies l dC dI cI cZ cO 39 234 (q 0) (q 2) (u 0) (u 2) 0 (39 * ((u 3 0).toNatClampNeg)) s.heap.size (by omega) (by omega) (by decide) (by decide)) gX5_saves_X5_copies mi_X5_copies ⟨rfl, rfl⟩ ⟨Nat.le_of_ble_eq_true rfl, Nat.le_of_ble_eq_true rfl⟩ hK hP hD hS hA [1, 3] (MW_allc0_2 rfl rfl) AW2_fst rfl ⟨Nat.le_refl _, Nat.le_refl _⟩ dX5_saves_65 rfl hl.1 rfl (Nat.le_of_ble_eq_true rfl) (fun H locs hP hD hS => ?_)
    have hP : va_P (dC, dI) vwCl (MW cI cZ h0 q (upR u 2 (f_Mcopies (u 0) (u 2) 0 (39 * ((u 3 0).toNatClampNeg))))) H := Eq.mp (congrArg (fun w => va_P (dC, dI) vwCl w H) (MW_c0_2 rfl)) hP
    have hD : va_D A0 (MW cI cZ h0 q (upR u 2 (f_Mcopies (u 0) (u 2) 0 (39 * ((u 3 0).toNatClampNeg))))) := Eq.mp (congrArg (fun w => va_D A0 w) (MW_c0_2 rfl)) hD
    refine lv_aload_n hx hb dX5_saves_68 rfl (lv_at hl 0 rfl) ?_
    refine lv_dup hx hb dX5_saves_69 rfl ?_
    refine va_get (D := (dC, dI)) (ci := 5) (v := .int (u 3 0)) (C := RX5) (T := TX5) (N := 14) hx hb hts inX5 hown hK hP 0 rfl rfl 3 (by decide) (hts (.fieldLink RX5 44 "BoardMetronomesModel" "kept" "I") (by decide +kernel)) (fun _ h9 => h9) (congrArg (fun z => some (Value.int z)) (show (upR u 2 (f_Mcopies (u 0) (u 2) 0 (39 * ((u 3 0).toNatClampNeg)))) 3 0 = u 3 0 by rw [upR_o (show (3 : Nat) ≠ 2 by decide)])) dX5_saves_70 ?_
    refine kt_i (kcl hk).symm ?_
    refine lv_iconst (v := (1 : Int32)) hx hb dX5_saves_73 (by decide) ?_
    refine k_iaddn (x := (u 3 0).toNatClampNeg) (y := 1) hx hb dX5_saves_74 ?_
    refine va_put (D := (dC, dI)) (ci := 5) (v := .int (nI (((u 3 0).toNatClampNeg) + 1))) (ty := .int) (C := RX5) (T := TX5) (N := 14) hx hb hts inX5 tyX5 tyX5_ok nmX5 hown hK hP hD hS 0 rfl rfl 3 (by decide) (hts (.fieldLink RX5 44 "BoardMetronomesModel" "kept" "I") (by decide +kernel)) (fun _ h9 => h9) rfl (by decide +kernel) rfl rfl (Nat.le_of_ble_eq_true rfl) dX5_saves_75 (fun H locs hP hD hS => ?_)
    have hP : va_P (dC, dI) vwCl (MW cI cZ h0 q (upA (upR u 2 (f_Mcopies (u 0) (u 2) 0 (39 * ((u 3 0).toNatClampNeg)))) 3 0 (nI (((u 3 0).toNatClampNeg) + 1)))) H := Eq.mp (congrArg (fun w => va_P (dC, dI) vwCl w H) MW_s3) hP
    have hD : va_D A0 (MW cI cZ h0 q (upA (upR u 2 (f_Mcopies (u 0) (u 2) 0 (39 * ((u 3 0).toNatClampNeg)))) 3 0 (nI (((u 3 0).toNatClampNeg) + 1)))) := Eq.mp (congrArg (fun w => va_D A0 w) MW_s3) hD
    have r1 : f_Msaves u = upA (upR u 2 (f_Mcopies (u 0) (u 2) 0 (39 * ((u 3 0).toNatClampNeg)))) 3 0 (nI (((u 3 0).toNatClampNeg) + 1)) := by
      rw [f_Msaves, if_neg c_6]
    exact kw_v hx hb hr hlk hP hS dX5_saves_78 (by rw [r1])
  · have c_6n : ((u 3 0).toNatClampNeg) = 6 := (nI_eq (a := ((u 3 0).toNatClampNeg)) (b := 6) (by omega) (by omega)).mp c_6
    refine lv_iconst (v := (0 : Int32)) hx hb dX5_saves_9 (by decide) ?_
    refine lv_istore_n (lv' := [(1, .int (0 : Int32)), (0, .ref h0)]) hx hb dX5_saves_10 rfl hl (by decide) rfl (fun ls hl => ?_)
    have L2 : ∀ (n j0 : Nat), j0 + n = 195 → ∀ (H : Heap) (locs : List Loc) (ls : Array Slot), va_P (dC, dI) vwCl (MW cI cZ h0 q (it j0 (f_Msaves_L11 u) u)) H → va_D A0 (MW cI cZ h0 q (it j0 (f_Msaves_L11 u) u)) → va_S A0 s.heap H locs → lv_has ls 2 [(0, .ref h0), (1, .int (nI j0))] → W p l e rm_X5_saves s m args below meth c H locs 0 0 (MQ below (kQw none (dC, dI) vwCl (MW cI cZ h0 q (f_Msaves u)) A0) args s 0 0 A0) (F0 m 11 ls []) := by
      intro n
      induction n with
      | zero =>
        intro j0 hj2 H locs ls hP hD hS hl
        obtain rfl : j0 = 195 := by omega
        refine lv_iload_n hx hb dX5_saves_11 rfl (lv_at hl 1 rfl) ?_
        refine lv_sipush (v := (195 : Int32)) hx hb dX5_saves_12 (by decide) ?_
        refine lv_icmp_ge (tgt := 39) hx hb dX5_saves_15 (by decide) (fun c_15 => ?_) (fun c_15 => ?_)
        · refine lv_aload_n hx hb dX5_saves_39 rfl (lv_at hl 0 rfl) ?_
          refine lv_dup hx hb dX5_saves_40 rfl ?_
          refine va_get (D := (dC, dI)) (ci := 5) (v := .int (u 3 0)) (C := RX5) (T := TX5) (N := 14) hx hb hts inX5 hown hK hP 0 rfl rfl 3 (by decide) (hts (.fieldLink RX5 44 "BoardMetronomesModel" "kept" "I") (by decide +kernel)) (fun _ h9 => h9) (congrArg (fun z => some (Value.int z)) (show (it 195 (f_Msaves_L11 u) u) 3 0 = u 3 0 by rw [f_Msaves_L11_o (show (3 : Nat) ≠ 2 by decide)])) dX5_saves_41 ?_
          refine kt_i (kcl hk).symm ?_
          refine lv_iconst (v := (1 : Int32)) hx hb dX5_saves_44 (by decide) ?_
          refine k_isubn (x := (u 3 0).toNatClampNeg) (y := 1) hx hb dX5_saves_45 (by omega) ?_
          refine va_put (D := (dC, dI)) (ci := 5) (v := .int (nI (((u 3 0).toNatClampNeg) - 1))) (ty := .int) (C := RX5) (T := TX5) (N := 14) hx hb hts inX5 tyX5 tyX5_ok nmX5 hown hK hP hD hS 0 rfl rfl 3 (by decide) (hts (.fieldLink RX5 44 "BoardMetronomesModel" "kept" "I") (by decide +kernel)) (fun _ h9 => h9) rfl (by decide +kernel) rfl rfl (Nat.le_of_ble_eq_true rfl) dX5_saves_46 (fun H locs hP hD hS => ?_)
          have hP : va_P (dC, dI) vwCl (MW cI cZ h0 q (upA (it 195 (f_Msaves_L11 u) u) 3 0 (nI (((u 3 0).toNatClampNeg) - 1)))) H := Eq.mp (congrArg (fun w => va_P (dC, dI) vwCl w H) MW_s3) hP
          have hD : va_D A0 (MW cI cZ h0 q (upA (it 195 (f_Msaves_L11 u) u) 3 0 (nI (((u 3 0).toNatClampNeg) - 1)))) := Eq.mp (congrArg (fun w => va_D A0 w) MW_s3) hD
          refine lv_aload_n hx hb dX5_saves_49 rfl (lv_at hl 0 rfl) ?_
          refine va_get (D := (dC, dI)) (ci := 5) (v := .ref (q 0)) (C := RX5) (T := TX5) (N := 14) hx hb hts inX5 hown hK hP 0 rfl rfl 0 (by decide) (hts (.fieldLink RX5 7 "BoardMetronomesModel" "now" "[I") (by decide +kernel)) (fun _ h9 => h9) rfl dX5_saves_50 ?_
          refine lv_iconst (v := (0 : Int32)) hx hb dX5_saves_53 (by decide) ?_
          refine lv_aload_n hx hb dX5_saves_54 rfl (lv_at hl 0 rfl) ?_
          refine va_get (D := (dC, dI)) (ci := 5) (v := .ref (q 2)) (C := RX5) (T := TX5) (N := 14) hx hb hts inX5 hown hK hP 0 rfl rfl 2 (by decide) (hts (.fieldLink RX5 16 "BoardMetronomesModel" "past" "[I") (by decide +kernel)) (fun _ h9 => h9) rfl dX5_saves_55 ?_
          refine lv_bipush (v := (39 : Int32)) hx hb dX5_saves_58 (by decide) ?_
          refine lv_aload_n hx hb dX5_saves_60 rfl (lv_at hl 0 rfl) ?_
          refine va_get (D := (dC, dI)) (ci := 5) (v := .int (nI (((u 3 0).toNatClampNeg) - 1))) (C := RX5) (T := TX5) (N := 14) hx hb hts inX5 hown hK hP 0 rfl rfl 3 (by decide) (hts (.fieldLink RX5 44 "BoardMetronomesModel" "kept" "I") (by decide +kernel)) (fun _ h9 => h9) (congrArg (fun z => some (Value.int z)) (show (upA (it 195 (f_Msaves_L11 u) u) 3 0 (nI (((u 3 0).toNatClampNeg) - 1))) 3 0 = nI (((u 3 0).toNatClampNeg) - 1) by rw [upA_s])) dX5_saves_61 ?_
          refine k_imuln (x := 39) (y := ((u 3 0).toNatClampNeg) - 1) hx hb dX5_saves_64 ?_
          refine kc_sw (y := yX5_copies) (As := [.ref (q 0), .int (nI 0), .ref (q 2), .int (nI (39 * (((u 3 0).toNatClampNeg) - 1)))]) (rest := []) rfl S (v := none) (c_X5_copies l dC dI cI cZ cO 39 234 (q 0) (q 2) (u 0) ((it 195 (f_Msaves_L11 u) u) 2) 0 (39 * (((u 3 0).toNatClampNeg) - 1)) H.size (by omega) (by omega) (by decide) (by decide)) gX5_saves_X5_copies mi_X5_copies ⟨rfl, rfl⟩ ⟨Nat.le_of_ble_eq_true rfl, Nat.le_of_ble_eq_true rfl⟩ hK hP hD hS hA [1, 3] (MW_allc0_2 (show (upA (it 195 (f_Msaves_L11 u) u) 3 0 (nI (((u 3 0).toNatClampNeg) - 1))) 0 = u 0 by rw [upA_o (show (0 : Nat) ≠ 3 by decide), f_Msaves_L11_o (show (0 : Nat) ≠ 2 by decide)]) (show (upA (it 195 (f_Msaves_L11 u) u) 3 0 (nI (((u 3 0).toNatClampNeg) - 1))) 2 = (it 195 (f_Msaves_L11 u) u) 2 by rw [upA_o (show (2 : Nat) ≠ 3 by decide)])) AW2_fst rfl ⟨Nat.le_refl _, Nat.le_refl _⟩ dX5_saves_65 rfl hl.1 rfl (Nat.le_of_ble_eq_true rfl) (fun H locs hP hD hS => ?_)
          have hP : va_P (dC, dI) vwCl (MW cI cZ h0 q (upR (upA (it 195 (f_Msaves_L11 u) u) 3 0 (nI (((u 3 0).toNatClampNeg) - 1))) 2 (f_Mcopies (u 0) ((it 195 (f_Msaves_L11 u) u) 2) 0 (39 * (((u 3 0).toNatClampNeg) - 1))))) H := Eq.mp (congrArg (fun w => va_P (dC, dI) vwCl w H) (MW_c0_2 (show (upA (it 195 (f_Msaves_L11 u) u) 3 0 (nI (((u 3 0).toNatClampNeg) - 1))) 0 = u 0 by rw [upA_o (show (0 : Nat) ≠ 3 by decide), f_Msaves_L11_o (show (0 : Nat) ≠ 2 by decide)]))) hP
          have hD : va_D A0 (MW cI cZ h0 q (upR (upA (it 195 (f_Msaves_L11 u) u) 3 0 (nI (((u 3 0).toNatClampNeg) - 1))) 2 (f_Mcopies (u 0) ((it 195 (f_Msaves_L11 u) u) 2) 0 (39 * (((u 3 0).toNatClampNeg) - 1))))) := Eq.mp (congrArg (fun w => va_D A0 w) (MW_c0_2 (show (upA (it 195 (f_Msaves_L11 u) u) 3 0 (nI (((u 3 0).toNatClampNeg) - 1))) 0 = u 0 by rw [upA_o (show (0 : Nat) ≠ 3 by decide), f_Msaves_L11_o (show (0 : Nat) ≠ 2 by decide)]))) hD
          refine lv_aload_n hx hb dX5_saves_68 rfl (lv_at hl 0 rfl) ?_
          refine lv_dup hx hb dX5_saves_69 rfl ?_
          refine va_get (D := (dC, dI)) (ci := 5) (v := .int (nI (((u 3 0).toNatClampNeg) - 1))) (C := RX5) (T := TX5) (N := 14) hx hb hts inX5 hown hK hP 0 rfl rfl 3 (by decide) (hts (.fieldLink RX5 44 "BoardMetronomesModel" "kept" "I") (by decide +kernel)) (fun _ h9 => h9) (congrArg (fun z => some (Value.int z)) (show (upR (upA (it 195 (f_Msaves_L11 u) u) 3 0 (nI (((u 3 0).toNatClampNeg) - 1))) 2 (f_Mcopies (u 0) ((it 195 (f_Msaves_L11 u) u) 2) 0 (39 * (((u 3 0).toNatClampNeg) - 1)))) 3 0 = nI (((u 3 0).toNatClampNeg) - 1) by rw [upR_o (show (3 : Nat) ≠ 2 by decide), upA_s])) dX5_saves_70 ?_
          refine lv_iconst (v := (1 : Int32)) hx hb dX5_saves_73 (by decide) ?_
          refine k_iaddn (x := ((u 3 0).toNatClampNeg) - 1) (y := 1) hx hb dX5_saves_74 ?_
          refine va_put (D := (dC, dI)) (ci := 5) (v := .int (nI ((((u 3 0).toNatClampNeg) - 1) + 1))) (ty := .int) (C := RX5) (T := TX5) (N := 14) hx hb hts inX5 tyX5 tyX5_ok nmX5 hown hK hP hD hS 0 rfl rfl 3 (by decide) (hts (.fieldLink RX5 44 "BoardMetronomesModel" "kept" "I") (by decide +kernel)) (fun _ h9 => h9) rfl (by decide +kernel) rfl rfl (Nat.le_of_ble_eq_true rfl) dX5_saves_75 (fun H locs hP hD hS => ?_)
          have hP : va_P (dC, dI) vwCl (MW cI cZ h0 q (upA (upR (upA (it 195 (f_Msaves_L11 u) u) 3 0 (nI (((u 3 0).toNatClampNeg) - 1))) 2 (f_Mcopies (u 0) ((it 195 (f_Msaves_L11 u) u) 2) 0 (39 * (((u 3 0).toNatClampNeg) - 1)))) 3 0 (nI ((((u 3 0).toNatClampNeg) - 1) + 1)))) H := Eq.mp (congrArg (fun w => va_P (dC, dI) vwCl w H) MW_s3) hP
          have hD : va_D A0 (MW cI cZ h0 q (upA (upR (upA (it 195 (f_Msaves_L11 u) u) 3 0 (nI (((u 3 0).toNatClampNeg) - 1))) 2 (f_Mcopies (u 0) ((it 195 (f_Msaves_L11 u) u) 2) 0 (39 * (((u 3 0).toNatClampNeg) - 1)))) 3 0 (nI ((((u 3 0).toNatClampNeg) - 1) + 1)))) := Eq.mp (congrArg (fun w => va_D A0 w) MW_s3) hD
          have r3 : f_Msaves u = upA (upR (upA (it 195 (f_Msaves_L11 u) u) 3 0 (nI (((u 3 0).toNatClampNeg) - 1))) 2 (f_Mcopies (u 0) ((it 195 (f_Msaves_L11 u) u) 2) 0 (39 * (((u 3 0).toNatClampNeg) - 1)))) 3 0 (nI ((((u 3 0).toNatClampNeg) - 1) + 1)) := by
            rw [f_Msaves, if_pos c_6]
          exact kw_v hx hb hr hlk hP hS dX5_saves_78 (by rw [r3])
        · exact absurd (nI_le (a := 195) (by omega) (by omega)) c_15
      | succ n ih2 =>
        intro j0 hj2 H locs ls hP hD hS hl
        refine lv_iload_n hx hb dX5_saves_11 rfl (lv_at hl 1 rfl) ?_
        refine lv_sipush (v := (195 : Int32)) hx hb dX5_saves_12 (by decide) ?_
        refine lv_icmp_ge (tgt := 39) hx hb dX5_saves_15 (by decide) (fun c_15 => ?_) (fun c_15 => ?_)
        · exact absurd c_15 (nI_ge (b := 195) (by omega) (by decide))
        · refine lv_aload_n hx hb dX5_saves_18 rfl (lv_at hl 0 rfl) ?_
          refine va_get (D := (dC, dI)) (ci := 5) (v := .ref (q 2)) (C := RX5) (T := TX5) (N := 14) hx hb hts inX5 hown hK hP 0 rfl rfl 2 (by decide) (hts (.fieldLink RX5 16 "BoardMetronomesModel" "past" "[I") (by decide +kernel)) (fun _ h9 => h9) rfl dX5_saves_19 ?_
          refine lv_iload_n hx hb dX5_saves_22 rfl (lv_at hl 1 rfl) ?_
          refine lv_aload_n hx hb dX5_saves_23 rfl (lv_at hl 0 rfl) ?_
          refine va_get (D := (dC, dI)) (ci := 5) (v := .ref (q 2)) (C := RX5) (T := TX5) (N := 14) hx hb hts inX5 hown hK hP 0 rfl rfl 2 (by decide) (hts (.fieldLink RX5 16 "BoardMetronomesModel" "past" "[I") (by decide +kernel)) (fun _ h9 => h9) rfl dX5_saves_24 ?_
          refine lv_iload_n hx hb dX5_saves_27 rfl (lv_at hl 1 rfl) ?_
          refine lv_bipush (v := (39 : Int32)) hx hb dX5_saves_28 (by decide) ?_
          refine k_iaddn (x := j0) (y := 39) hx hb dX5_saves_30 ?_
          refine k_iald (D := (dC, dI)) hx hb hK hP 3 0 rfl rfl (j := (j0 + 39)) (by omega) (by decide) dX5_saves_31 ?_
          refine k_iast (D := (dC, dI)) hx hb hK hP hD hS 3 0 rfl rfl (j := j0) (by omega) (by decide) dX5_saves_32 (fun H locs hP hD hS => ?_)
          have hP : va_P (dC, dI) vwCl (MW cI cZ h0 q (upA (it j0 (f_Msaves_L11 u) u) 2 j0 (((it j0 (f_Msaves_L11 u) u) 2) (j0 + 39)))) H := Eq.mp (congrArg (fun w => va_P (dC, dI) vwCl w H) MW_a2) hP
          have hD : va_D A0 (MW cI cZ h0 q (upA (it j0 (f_Msaves_L11 u) u) 2 j0 (((it j0 (f_Msaves_L11 u) u) 2) (j0 + 39)))) := Eq.mp (congrArg (fun w => va_D A0 w) MW_a2) hD
          refine lv_iinc (v := nI (j0 + 1)) (lv' := [(1, .int (nI (j0 + 1))), (0, .ref h0)]) hx hb dX5_saves_33 hl (k := 1) rfl (nI_add j0 1) (by decide) rfl (fun ls hl => ?_)
          refine lv_goto (tgt := 11) hx hb dX5_saves_36 (by decide) ?_
          have b4 : f_Msaves_L11 u j0 (it j0 (f_Msaves_L11 u) u) = upA (it j0 (f_Msaves_L11 u) u) 2 j0 (((it j0 (f_Msaves_L11 u) u) 2) (j0 + 39)) := by
            rw [f_Msaves_L11]
          have e4 : it (j0 + 1) (f_Msaves_L11 u) u = upA (it j0 (f_Msaves_L11 u) u) 2 j0 (((it j0 (f_Msaves_L11 u) u) 2) (j0 + 39)) := (it_s _ _ _).trans b4
          exact ih2 (j0 + 1) (by omega) H locs ls (by rw [e4]; exact hP) (by rw [e4]; exact hD) hS (lv_sub hl [1, 0] rfl)
    exact L2 195 0 (by omega) s.heap [] ls hP hD hS (lv_sub hl [1, 0] rfl)

theorem f_Min_vp {x : Int32} {n : Nat} (hn : n + 1 < 2 ^ 31) (h : f_Min x (0 : Int32) (nI n) = true) : vp_in x (n + 1) := by
  by_cases h1 : x < 0
  · rw [f_Min, if_pos h1] at h; cases h
  · by_cases h2 : nI n < x
    · rw [f_Min, if_neg h1, if_pos h2] at h; cases h
    · obtain ⟨j, hj, rfl⟩ := nI_of h1
      refine vp_in_nI ?_ hn
      rcases Nat.lt_or_ge n j with q | q
      · exact absurd (nI_lt q hj) h2
      · omega
theorem f_MisArm_vp {u : BS} {x : Int32} (hs : vp_in (u 0 3) 7) (h : f_MisArm u x = true) : vp_in x 6 := by
  rw [f_MisArm, ← kcl hs] at h
  have h7 := vp_lt hs
  generalize (u 0 3).toNatClampNeg = n at h h7
  rcases Nat.eq_zero_or_pos n with rfl | hp
  · exfalso
    rw [show nI 0 - (1 : Int32) = -1 from by decide, f_Min] at h
    by_cases h1 : x < 0
    · rw [if_pos h1] at h; cases h
    · have h2 : (-1 : Int32) < x := by
        have h3 : ¬ x.toInt < 0 := fun z => h1 (Int32.lt_iff_toInt_lt.mpr z)
        refine Int32.lt_iff_toInt_lt.mpr ?_
        have h4 : (-1 : Int32).toInt = -1 := by decide
        omega
      rw [if_neg h1, if_pos h2] at h; cases h
  · rw [show (1 : Int32) = nI 1 from rfl, pk_sub hp] at h
    exact vp_wk (f_Min_vp (by omega) h) (by omega)
theorem vp_ne5 {x : Int32} (h : vp_in x 9) (h4 : ¬ x = (4 : Int32)) (h5 : ¬ x = (5 : Int32)) (h6 : ¬ x = (6 : Int32)) (h7 : ¬ x = (7 : Int32)) (h8 : ¬ x = (8 : Int32)) : vp_in x 5 := by
  obtain ⟨j, hj, rfl⟩ := vp_in_of h (by decide)
  refine vp_in_nI ?_ (by decide)
  have e : ∀ m : Nat, ¬ nI j = nI m → j ≠ m := fun m q z => q (by rw [z])
  have a4 := e 4 h4
  have a5 := e 5 h5
  have a6 := e 6 h6
  have a7 := e 7 h7
  have a8 := e 8 h8
  omega

def rm_X5_undo : Room := { frames := 1, cells := 0, slots := 0, locals := 24 }
theorem mi_X5_undo : kM yX5_undo wsX5_undo cX5_undo 1 (some .int) 0 := ⟨⟨_, rfl⟩, by decide, by decide, by decide +kernel⟩
def f_Mundo (u : BS) : Int32 × BS := if (nI ((u 3 0).toNatClampNeg)) = 0 then ((f_Mfails (upA u 8 0 (0 : Int32)) (1 : Int32)).1, (f_Mfails (upA u 8 0 (0 : Int32)) (1 : Int32)).2) else (nI (((u 3 0).toNatClampNeg) - 1), upR (upA (upA u 8 0 (0 : Int32)) 3 0 (nI (((u 3 0).toNatClampNeg) - 1))) 0 (f_Mcopies (u 2) (u 0) (39 * (((u 3 0).toNatClampNeg) - 1)) 0))
set_option maxHeartbeats 1000000 in
set_option maxRecDepth 100000 in
theorem c_X5_undo (l : Launch) (dC : Nat → ClassId) (dI : Nat → Nat → Nat) (cI cZ cO : ClassId) (h0 : Nat) (q : Nat → Nat) (u : BS) (sz : Nat) (hk : vp_in (u 3 0) 7) : Met l yX5_undo wsX5_undo rm_X5_undo (va_Pc [.ref h0] (fun U => U.heap.size = sz ∧ va_P (dC, dI) vwCl (MW cI cZ h0 q u) U.heap ∧ va_K (dC, dI) vwCl (TY cI cZ cO) U ∧ va_D (fun _ => True) (MW cI cZ h0 q u))) (kQw (some (.int (f_Mundo u).1)) (dC, dI) vwCl (MW cI cZ h0 q ((f_Mundo u).2)) (va_A (MW cI cZ h0 q u) sz)) 0 0 (va_A (MW cI cZ h0 q u) sz) := by
  refine kofW (cc := cX5_undo) (maxL := 1) (ret := some .int) (by decide) rfl (Nat.le_of_ble_eq_true rfl) ?_
  intro p e s m args below meth c ls S hr hlk hnm hsz hP hK hD hS hA hl
  generalize hA0 : va_A (MW cI cZ h0 q u) sz = A0 at hD hS hA ⊢
  subst hsz
  obtain ⟨hx, hb, hml, hown, hts⟩ := id S
  have hk_n : (u 3 0).toNatClampNeg < 7 := vp_lt hk
  have inX5 : ∀ w ∈ wsX50, w ∈ wsX5_undo := fun w h => List.mem_cons_of_mem _ (List.mem_append_right _ h)
  have hl : lv_has ls 1 [(0, .ref h0)] := hl
  refine lv_aload_n hx hb dX5_undo_0 rfl (lv_at hl 0 rfl) ?_
  refine lv_iconst (v := (0 : Int32)) hx hb dX5_undo_1 (by decide) ?_
  refine va_put (D := (dC, dI)) (ci := 5) (v := .int (0 : Int32)) (ty := .int) (C := RX5) (T := TX5) (N := 14) hx hb hts inX5 tyX5 tyX5_ok nmX5 hown hK hP hD hS 0 rfl rfl 8 (by decide) (hts (.fieldLink RX5 32 "BoardMetronomesModel" "thrown" "I") (by decide +kernel)) (fun _ h9 => h9) rfl (by decide +kernel) rfl rfl (Nat.le_of_ble_eq_true rfl) dX5_undo_2 (fun H locs hP hD hS => ?_)
  have hP : va_P (dC, dI) vwCl (MW cI cZ h0 q (upA u 8 0 (0 : Int32))) H := Eq.mp (congrArg (fun w => va_P (dC, dI) vwCl w H) MW_s8) hP
  have hD : va_D A0 (MW cI cZ h0 q (upA u 8 0 (0 : Int32))) := Eq.mp (congrArg (fun w => va_D A0 w) MW_s8) hD
  refine lv_aload_n hx hb dX5_undo_5 rfl (lv_at hl 0 rfl) ?_
  refine va_get (D := (dC, dI)) (ci := 5) (v := .int (u 3 0)) (C := RX5) (T := TX5) (N := 14) hx hb hts inX5 hown hK hP 0 rfl rfl 3 (by decide) (hts (.fieldLink RX5 44 "BoardMetronomesModel" "kept" "I") (by decide +kernel)) (fun _ h9 => h9) (congrArg (fun z => some (Value.int z)) (show (upA u 8 0 (0 : Int32)) 3 0 = u 3 0 by rw [upA_o (show (3 : Nat) ≠ 8 by decide)])) dX5_undo_6 ?_
  refine kt_i (kcl hk).symm ?_
  refine lv_if_ne (tgt := 18) hx hb dX5_undo_9 (by decide) (fun c_9 => ?_) (fun c_9 => ?_)
  · have c_9n : ¬ ((u 3 0).toNatClampNeg) = 0 := fun z => c_9 ((nI_eq (a := ((u 3 0).toNatClampNeg)) (b := 0) (by omega) (by omega)).mpr z)
    refine lv_aload_n hx hb dX5_undo_18 rfl (lv_at hl 0 rfl) ?_
    refine lv_dup hx hb dX5_undo_19 rfl ?_
    refine va_get (D := (dC, dI)) (ci := 5) (v := .int (u 3 0)) (C := RX5) (T := TX5) (N := 14) hx hb hts inX5 hown hK hP 0 rfl rfl 3 (by decide) (hts (.fieldLink RX5 44 "BoardMetronomesModel" "kept" "I") (by decide +kernel)) (fun _ h9 => h9) (congrArg (fun z => some (Value.int z)) (show (upA u 8 0 (0 : Int32)) 3 0 = u 3 0 by rw [upA_o (show (3 : Nat) ≠ 8 by decide)])) dX5_undo_20 ?_
    refine kt_i (kcl hk).symm ?_
    refine lv_iconst (v := (1 : Int32)) hx hb dX5_undo_23 (by decide) ?_
    refine k_isubn (x := (u 3 0).toNatClampNeg) (y := 1) hx hb dX5_undo_24 (by omega) ?_
    refine va_put (D := (dC, dI)) (ci := 5) (v := .int (nI (((u 3 0).toNatClampNeg) - 1))) (ty := .int) (C := RX5) (T := TX5) (N := 14) hx hb hts inX5 tyX5 tyX5_ok nmX5 hown hK hP hD hS 0 rfl rfl 3 (by decide) (hts (.fieldLink RX5 44 "BoardMetronomesModel" "kept" "I") (by decide +kernel)) (fun _ h9 => h9) rfl (by decide +kernel) rfl rfl (Nat.le_of_ble_eq_true rfl) dX5_undo_25 (fun H locs hP hD hS => ?_)
    have hP : va_P (dC, dI) vwCl (MW cI cZ h0 q (upA (upA u 8 0 (0 : Int32)) 3 0 (nI (((u 3 0).toNatClampNeg) - 1)))) H := Eq.mp (congrArg (fun w => va_P (dC, dI) vwCl w H) MW_s3) hP
    have hD : va_D A0 (MW cI cZ h0 q (upA (upA u 8 0 (0 : Int32)) 3 0 (nI (((u 3 0).toNatClampNeg) - 1)))) := Eq.mp (congrArg (fun w => va_D A0 w) MW_s3) hD
    refine lv_aload_n hx hb dX5_undo_28 rfl (lv_at hl 0 rfl) ?_
    refine va_get (D := (dC, dI)) (ci := 5) (v := .ref (q 2)) (C := RX5) (T := TX5) (N := 14) hx hb hts inX5 hown hK hP 0 rfl rfl 2 (by decide) (hts (.fieldLink RX5 16 "BoardMetronomesModel" "past" "[I") (by decide +kernel)) (fun _ h9 => h9) rfl dX5_undo_29 ?_
    refine lv_bipush (v := (39 : Int32)) hx hb dX5_undo_32 (by decide) ?_
    refine lv_aload_n hx hb dX5_undo_34 rfl (lv_at hl 0 rfl) ?_
    refine va_get (D := (dC, dI)) (ci := 5) (v := .int (nI (((u 3 0).toNatClampNeg) - 1))) (C := RX5) (T := TX5) (N := 14) hx hb hts inX5 hown hK hP 0 rfl rfl 3 (by decide) (hts (.fieldLink RX5 44 "BoardMetronomesModel" "kept" "I") (by decide +kernel)) (fun _ h9 => h9) (congrArg (fun z => some (Value.int z)) (show (upA (upA u 8 0 (0 : Int32)) 3 0 (nI (((u 3 0).toNatClampNeg) - 1))) 3 0 = nI (((u 3 0).toNatClampNeg) - 1) by rw [upA_s])) dX5_undo_35 ?_
    refine k_imuln (x := 39) (y := ((u 3 0).toNatClampNeg) - 1) hx hb dX5_undo_38 ?_
    refine lv_aload_n hx hb dX5_undo_39 rfl (lv_at hl 0 rfl) ?_
    refine va_get (D := (dC, dI)) (ci := 5) (v := .ref (q 0)) (C := RX5) (T := TX5) (N := 14) hx hb hts inX5 hown hK hP 0 rfl rfl 0 (by decide) (hts (.fieldLink RX5 7 "BoardMetronomesModel" "now" "[I") (by decide +kernel)) (fun _ h9 => h9) rfl dX5_undo_40 ?_
    refine lv_iconst (v := (0 : Int32)) hx hb dX5_undo_43 (by decide) ?_
    refine kc_sw (y := yX5_copies) (As := [.ref (q 2), .int (nI (39 * (((u 3 0).toNatClampNeg) - 1))), .ref (q 0), .int (nI 0)]) (rest := []) rfl S (v := none) (c_X5_copies l dC dI cI cZ cO 234 39 (q 2) (q 0) (u 2) (u 0) (39 * (((u 3 0).toNatClampNeg) - 1)) 0 H.size (by omega) (by omega) (by decide) (by decide)) gX5_undo_X5_copies mi_X5_copies ⟨rfl, rfl⟩ ⟨Nat.le_of_ble_eq_true rfl, Nat.le_of_ble_eq_true rfl⟩ hK hP hD hS hA [3, 1] (MW_allc2_0 (show (upA (upA u 8 0 (0 : Int32)) 3 0 (nI (((u 3 0).toNatClampNeg) - 1))) 2 = u 2 by rw [upA_o (show (2 : Nat) ≠ 3 by decide), upA_o (show (2 : Nat) ≠ 8 by decide)]) (show (upA (upA u 8 0 (0 : Int32)) 3 0 (nI (((u 3 0).toNatClampNeg) - 1))) 0 = u 0 by rw [upA_o (show (0 : Nat) ≠ 3 by decide), upA_o (show (0 : Nat) ≠ 8 by decide)])) AW2_fst rfl ⟨Nat.le_refl _, Nat.le_refl _⟩ dX5_undo_44 rfl hl.1 rfl (Nat.le_of_ble_eq_true rfl) (fun H locs hP hD hS => ?_)
    have hP : va_P (dC, dI) vwCl (MW cI cZ h0 q (upR (upA (upA u 8 0 (0 : Int32)) 3 0 (nI (((u 3 0).toNatClampNeg) - 1))) 0 (f_Mcopies (u 2) (u 0) (39 * (((u 3 0).toNatClampNeg) - 1)) 0))) H := Eq.mp (congrArg (fun w => va_P (dC, dI) vwCl w H) (MW_c2_0 (show (upA (upA u 8 0 (0 : Int32)) 3 0 (nI (((u 3 0).toNatClampNeg) - 1))) 2 = u 2 by rw [upA_o (show (2 : Nat) ≠ 3 by decide), upA_o (show (2 : Nat) ≠ 8 by decide)]))) hP
    have hD : va_D A0 (MW cI cZ h0 q (upR (upA (upA u 8 0 (0 : Int32)) 3 0 (nI (((u 3 0).toNatClampNeg) - 1))) 0 (f_Mcopies (u 2) (u 0) (39 * (((u 3 0).toNatClampNeg) - 1)) 0))) := Eq.mp (congrArg (fun w => va_D A0 w) (MW_c2_0 (show (upA (upA u 8 0 (0 : Int32)) 3 0 (nI (((u 3 0).toNatClampNeg) - 1))) 2 = u 2 by rw [upA_o (show (2 : Nat) ≠ 3 by decide), upA_o (show (2 : Nat) ≠ 8 by decide)]))) hD
    refine lv_aload_n hx hb dX5_undo_47 rfl (lv_at hl 0 rfl) ?_
    refine va_get (D := (dC, dI)) (ci := 5) (v := .int (nI (((u 3 0).toNatClampNeg) - 1))) (C := RX5) (T := TX5) (N := 14) hx hb hts inX5 hown hK hP 0 rfl rfl 3 (by decide) (hts (.fieldLink RX5 44 "BoardMetronomesModel" "kept" "I") (by decide +kernel)) (fun _ h9 => h9) (congrArg (fun z => some (Value.int z)) (show (upR (upA (upA u 8 0 (0 : Int32)) 3 0 (nI (((u 3 0).toNatClampNeg) - 1))) 0 (f_Mcopies (u 2) (u 0) (39 * (((u 3 0).toNatClampNeg) - 1)) 0)) 3 0 = nI (((u 3 0).toNatClampNeg) - 1) by rw [upR_o (show (3 : Nat) ≠ 0 by decide), upA_s])) dX5_undo_48 ?_
    have r1 : f_Mundo u = (nI (((u 3 0).toNatClampNeg) - 1), upR (upA (upA u 8 0 (0 : Int32)) 3 0 (nI (((u 3 0).toNatClampNeg) - 1))) 0 (f_Mcopies (u 2) (u 0) (39 * (((u 3 0).toNatClampNeg) - 1)) 0)) := by
      rw [f_Mundo, if_neg c_9]
    exact kw_i hx hb hr hlk hP hS dX5_undo_51 (by rw [r1]) (by rw [r1])
  · have c_9n : ((u 3 0).toNatClampNeg) = 0 := (nI_eq (a := ((u 3 0).toNatClampNeg)) (b := 0) (by omega) (by omega)).mp c_9
    refine lv_aload_n hx hb dX5_undo_12 rfl (lv_at hl 0 rfl) ?_
    refine lv_iconst (v := (1 : Int32)) hx hb dX5_undo_13 (by decide) ?_
    refine kc_w (As := [.int (1 : Int32)]) (rest := []) S (v := (some (.int ((f_Mfails (upA u 8 0 (0 : Int32)) (1 : Int32)).1)))) (c_X5_fails l dC dI cI cZ cO h0 q (upA u 8 0 (0 : Int32)) (1 : Int32) H.size) gX5_undo_X5_fails mi_X5_fails ⟨rfl, rfl⟩ ⟨Nat.le_of_ble_eq_true rfl, Nat.le_of_ble_eq_true rfl⟩ hK hP hD hS hA [0, 1, 2, 3, 4, 5, 6, 7] MW_all MW_fst rfl 0 rfl rfl ⟨Nat.le_refl _, Nat.le_refl _⟩ dX5_undo_14 rfl hl.1 rfl (Nat.le_of_ble_eq_true rfl) (fun H locs hP hD hS => ?_)
    have hP : va_P (dC, dI) vwCl (MW cI cZ h0 q ((f_Mfails (upA u 8 0 (0 : Int32)) (1 : Int32)).2)) H := Eq.mp (congrArg (fun w => va_P (dC, dI) vwCl w H) MW_ks) hP
    have hD : va_D A0 (MW cI cZ h0 q ((f_Mfails (upA u 8 0 (0 : Int32)) (1 : Int32)).2)) := Eq.mp (congrArg (fun w => va_D A0 w) MW_ks) hD
    have r2 : f_Mundo u = ((f_Mfails (upA u 8 0 (0 : Int32)) (1 : Int32)).1, (f_Mfails (upA u 8 0 (0 : Int32)) (1 : Int32)).2) := by
      rw [f_Mundo, if_pos c_9]
    exact kw_i hx hb hr hlk hP hS dX5_undo_17 (by rw [r2]) (by rw [r2])

def rm_X5_keep : Room := { frames := 1, cells := 0, slots := 0, locals := 24 }
theorem mi_X5_keep : kM yX5_keep wsX5_keep cX5_keep 2 (some .int) 1 := ⟨⟨_, rfl⟩, by decide, by decide, by decide +kernel⟩
def f_Mkeep (u : BS) (p0 : Int32) : Int32 × BS := if (f_Min p0 (0 : Int32) (1 : Int32)) = true then (u 0 4, upA (upR (upA u 8 0 (0 : Int32)) 4 (f_Mcopies (u 0) (u 4) 0 (39 * p0.toNatClampNeg))) 5 p0.toNatClampNeg (1 : Int32)) else ((f_Mfails (upA u 8 0 (0 : Int32)) (1 : Int32)).1, (f_Mfails (upA u 8 0 (0 : Int32)) (1 : Int32)).2)
set_option maxHeartbeats 1000000 in
set_option maxRecDepth 100000 in
theorem c_X5_keep (l : Launch) (dC : Nat → ClassId) (dI : Nat → Nat → Nat) (cI cZ cO : ClassId) (h0 : Nat) (q : Nat → Nat) (u : BS) (p0 : Int32) (sz : Nat) : Met l yX5_keep wsX5_keep rm_X5_keep (va_Pc [.ref h0, .int p0] (fun U => U.heap.size = sz ∧ va_P (dC, dI) vwCl (MW cI cZ h0 q u) U.heap ∧ va_K (dC, dI) vwCl (TY cI cZ cO) U ∧ va_D (fun _ => True) (MW cI cZ h0 q u))) (kQw (some (.int (f_Mkeep u p0).1)) (dC, dI) vwCl (MW cI cZ h0 q ((f_Mkeep u p0).2)) (va_A (MW cI cZ h0 q u) sz)) 0 0 (va_A (MW cI cZ h0 q u) sz) := by
  refine kofW (cc := cX5_keep) (maxL := 2) (ret := some .int) (by decide) rfl (Nat.le_of_ble_eq_true rfl) ?_
  intro p e s m args below meth c ls S hr hlk hnm hsz hP hK hD hS hA hl
  generalize hA0 : va_A (MW cI cZ h0 q u) sz = A0 at hD hS hA ⊢
  subst hsz
  obtain ⟨hx, hb, hml, hown, hts⟩ := id S
  have inX5 : ∀ w ∈ wsX50, w ∈ wsX5_keep := fun w h => List.mem_cons_of_mem _ (List.mem_append_right _ h)
  have hl : lv_has ls 2 [(0, .ref h0), (1, .int p0)] := hl
  refine lv_aload_n hx hb dX5_keep_0 rfl (lv_at hl 0 rfl) ?_
  refine lv_iconst (v := (0 : Int32)) hx hb dX5_keep_1 (by decide) ?_
  refine va_put (D := (dC, dI)) (ci := 5) (v := .int (0 : Int32)) (ty := .int) (C := RX5) (T := TX5) (N := 14) hx hb hts inX5 tyX5 tyX5_ok nmX5 hown hK hP hD hS 0 rfl rfl 8 (by decide) (hts (.fieldLink RX5 32 "BoardMetronomesModel" "thrown" "I") (by decide +kernel)) (fun _ h9 => h9) rfl (by decide +kernel) rfl rfl (Nat.le_of_ble_eq_true rfl) dX5_keep_2 (fun H locs hP hD hS => ?_)
  have hP : va_P (dC, dI) vwCl (MW cI cZ h0 q (upA u 8 0 (0 : Int32))) H := Eq.mp (congrArg (fun w => va_P (dC, dI) vwCl w H) MW_s8) hP
  have hD : va_D A0 (MW cI cZ h0 q (upA u 8 0 (0 : Int32))) := Eq.mp (congrArg (fun w => va_D A0 w) MW_s8) hD
  refine lv_iload_n hx hb dX5_keep_5 rfl (lv_at hl 1 rfl) ?_
  refine lv_iconst (v := (0 : Int32)) hx hb dX5_keep_6 (by decide) ?_
  refine lv_iconst (v := (1 : Int32)) hx hb dX5_keep_7 (by decide) ?_
  refine kc_p (y := yX5_in) (As := [.int p0, .int (0 : Int32), .int (1 : Int32)]) (rest := []) rfl S (v := .int (bI (f_Min p0 (0 : Int32) (1 : Int32)))) (c_X5_in l p0 (0 : Int32) (1 : Int32)) gX5_keep_X5_in mi_X5_in ⟨rfl, rfl⟩ ⟨Nat.le_of_ble_eq_true rfl, Nat.le_of_ble_eq_true rfl⟩ ⟨Nat.le_refl _, Nat.le_refl _⟩ dX5_keep_8 rfl hl.1 rfl (Nat.le_of_ble_eq_true rfl) ?_
  refine kb_ne (tgt := 20) hx hb dX5_keep_11 (by decide) (fun c_11 => ?_) (fun c_11 => ?_)
  · refine lv_aload_n hx hb dX5_keep_20 rfl (lv_at hl 0 rfl) ?_
    refine va_get (D := (dC, dI)) (ci := 5) (v := .ref (q 0)) (C := RX5) (T := TX5) (N := 14) hx hb hts inX5 hown hK hP 0 rfl rfl 0 (by decide) (hts (.fieldLink RX5 7 "BoardMetronomesModel" "now" "[I") (by decide +kernel)) (fun _ h9 => h9) rfl dX5_keep_21 ?_
    refine lv_iconst (v := (0 : Int32)) hx hb dX5_keep_24 (by decide) ?_
    refine lv_aload_n hx hb dX5_keep_25 rfl (lv_at hl 0 rfl) ?_
    refine va_get (D := (dC, dI)) (ci := 5) (v := .ref (q 4)) (C := RX5) (T := TX5) (N := 14) hx hb hts inX5 hown hK hP 0 rfl rfl 4 (by decide) (hts (.fieldLink RX5 19 "BoardMetronomesModel" "slots" "[I") (by decide +kernel)) (fun _ h9 => h9) rfl dX5_keep_26 ?_
    refine lv_bipush (v := (39 : Int32)) hx hb dX5_keep_29 (by decide) ?_
    refine lv_iload_n hx hb dX5_keep_31 rfl (lv_at hl 1 rfl) ?_
    have z1 := (f_Min_vp (n := 1) (by decide) c_11)
    have z1_n := vp_lt z1
    refine kt_i (kcl z1).symm ?_
    refine k_imuln (x := 39) (y := p0.toNatClampNeg) hx hb dX5_keep_32 ?_
    refine kc_sw (y := yX5_copies) (As := [.ref (q 0), .int (nI 0), .ref (q 4), .int (nI (39 * p0.toNatClampNeg))]) (rest := []) rfl S (v := none) (c_X5_copies l dC dI cI cZ cO 39 78 (q 0) (q 4) (u 0) (u 4) 0 (39 * p0.toNatClampNeg) H.size (by omega) (by omega) (by decide) (by decide)) gX5_keep_X5_copies mi_X5_copies ⟨rfl, rfl⟩ ⟨Nat.le_of_ble_eq_true rfl, Nat.le_of_ble_eq_true rfl⟩ hK hP hD hS hA [1, 4] (MW_allc0_4 (show (upA u 8 0 (0 : Int32)) 0 = u 0 by rw [upA_o (show (0 : Nat) ≠ 8 by decide)]) (show (upA u 8 0 (0 : Int32)) 4 = u 4 by rw [upA_o (show (4 : Nat) ≠ 8 by decide)])) AW2_fst rfl ⟨Nat.le_refl _, Nat.le_refl _⟩ dX5_keep_33 rfl hl.1 rfl (Nat.le_of_ble_eq_true rfl) (fun H locs hP hD hS => ?_)
    have hP : va_P (dC, dI) vwCl (MW cI cZ h0 q (upR (upA u 8 0 (0 : Int32)) 4 (f_Mcopies (u 0) (u 4) 0 (39 * p0.toNatClampNeg)))) H := Eq.mp (congrArg (fun w => va_P (dC, dI) vwCl w H) (MW_c0_4 (show (upA u 8 0 (0 : Int32)) 0 = u 0 by rw [upA_o (show (0 : Nat) ≠ 8 by decide)]))) hP
    have hD : va_D A0 (MW cI cZ h0 q (upR (upA u 8 0 (0 : Int32)) 4 (f_Mcopies (u 0) (u 4) 0 (39 * p0.toNatClampNeg)))) := Eq.mp (congrArg (fun w => va_D A0 w) (MW_c0_4 (show (upA u 8 0 (0 : Int32)) 0 = u 0 by rw [upA_o (show (0 : Nat) ≠ 8 by decide)]))) hD
    refine lv_aload_n hx hb dX5_keep_36 rfl (lv_at hl 0 rfl) ?_
    refine va_get (D := (dC, dI)) (ci := 5) (v := .ref (q 5)) (C := RX5) (T := TX5) (N := 14) hx hb hts inX5 hown hK hP 0 rfl rfl 5 (by decide) (hts (.fieldLink RX5 22 "BoardMetronomesModel" "filled" "[Z") (by decide +kernel)) (fun _ h9 => h9) rfl dX5_keep_37 ?_
    refine lv_iload_n hx hb dX5_keep_40 rfl (lv_at hl 1 rfl) ?_
    have z2 := (f_Min_vp (n := 1) (by decide) c_11)
    have z2_n := vp_lt z2
    refine kt_i (kcl z2).symm ?_
    refine lv_iconst (v := (1 : Int32)) hx hb dX5_keep_41 (by decide) ?_
    refine k_zast (D := (dC, dI)) hx hb hK hP hD hS 5 1 rfl rfl (j := p0.toNatClampNeg) (by omega) (by decide) (y := (1 : Int32)) (by decide) dX5_keep_42 (fun H locs hP hD hS => ?_)
    have hP : va_P (dC, dI) vwCl (MW cI cZ h0 q (upA (upR (upA u 8 0 (0 : Int32)) 4 (f_Mcopies (u 0) (u 4) 0 (39 * p0.toNatClampNeg))) 5 p0.toNatClampNeg (1 : Int32))) H := Eq.mp (congrArg (fun w => va_P (dC, dI) vwCl w H) MW_a5) hP
    have hD : va_D A0 (MW cI cZ h0 q (upA (upR (upA u 8 0 (0 : Int32)) 4 (f_Mcopies (u 0) (u 4) 0 (39 * p0.toNatClampNeg))) 5 p0.toNatClampNeg (1 : Int32))) := Eq.mp (congrArg (fun w => va_D A0 w) MW_a5) hD
    refine lv_aload_n hx hb dX5_keep_43 rfl (lv_at hl 0 rfl) ?_
    refine va_get (D := (dC, dI)) (ci := 5) (v := .ref (q 0)) (C := RX5) (T := TX5) (N := 14) hx hb hts inX5 hown hK hP 0 rfl rfl 0 (by decide) (hts (.fieldLink RX5 7 "BoardMetronomesModel" "now" "[I") (by decide +kernel)) (fun _ h9 => h9) rfl dX5_keep_44 ?_
    refine lv_iconst (v := (4 : Int32)) hx hb dX5_keep_47 (by decide) ?_
    refine k_iald (D := (dC, dI)) hx hb hK hP 1 0 rfl rfl (j := 4) (by omega) (by decide) dX5_keep_48 ?_
    rw [upA_o (show (0 : Nat) ≠ 5 by decide), upR_o (show (0 : Nat) ≠ 4 by decide), upA_o (show (0 : Nat) ≠ 8 by decide)]
    have r3 : f_Mkeep u p0 = (u 0 4, upA (upR (upA u 8 0 (0 : Int32)) 4 (f_Mcopies (u 0) (u 4) 0 (39 * p0.toNatClampNeg))) 5 p0.toNatClampNeg (1 : Int32)) := by
      rw [f_Mkeep, if_pos c_11]
    exact kw_i hx hb hr hlk hP hS dX5_keep_49 (by rw [r3]) (by rw [r3])
  · refine lv_aload_n hx hb dX5_keep_14 rfl (lv_at hl 0 rfl) ?_
    refine lv_iconst (v := (1 : Int32)) hx hb dX5_keep_15 (by decide) ?_
    refine kc_w (As := [.int (1 : Int32)]) (rest := []) S (v := (some (.int ((f_Mfails (upA u 8 0 (0 : Int32)) (1 : Int32)).1)))) (c_X5_fails l dC dI cI cZ cO h0 q (upA u 8 0 (0 : Int32)) (1 : Int32) H.size) gX5_keep_X5_fails mi_X5_fails ⟨rfl, rfl⟩ ⟨Nat.le_of_ble_eq_true rfl, Nat.le_of_ble_eq_true rfl⟩ hK hP hD hS hA [0, 1, 2, 3, 4, 5, 6, 7] MW_all MW_fst rfl 0 rfl rfl ⟨Nat.le_refl _, Nat.le_refl _⟩ dX5_keep_16 rfl hl.1 rfl (Nat.le_of_ble_eq_true rfl) (fun H locs hP hD hS => ?_)
    have hP : va_P (dC, dI) vwCl (MW cI cZ h0 q ((f_Mfails (upA u 8 0 (0 : Int32)) (1 : Int32)).2)) H := Eq.mp (congrArg (fun w => va_P (dC, dI) vwCl w H) MW_ks) hP
    have hD : va_D A0 (MW cI cZ h0 q ((f_Mfails (upA u 8 0 (0 : Int32)) (1 : Int32)).2)) := Eq.mp (congrArg (fun w => va_D A0 w) MW_ks) hD
    have r4 : f_Mkeep u p0 = ((f_Mfails (upA u 8 0 (0 : Int32)) (1 : Int32)).1, (f_Mfails (upA u 8 0 (0 : Int32)) (1 : Int32)).2) := by
      rw [f_Mkeep, if_neg c_11]
    exact kw_i hx hb hr hlk hP hS dX5_keep_19 (by rw [r4]) (by rw [r4])

def rm_X5_goBack : Room := { frames := 2, cells := 0, slots := 0, locals := 45 }
theorem mi_X5_goBack : kM yX5_goBack wsX5_goBack cX5_goBack 2 (some .int) 1 := ⟨⟨_, rfl⟩, by decide, by decide, by decide +kernel⟩
def f_MgoBack (u : BS) (p0 : Int32) : Int32 × BS := if (f_Min p0 (0 : Int32) (1 : Int32)) = true then (if (u 5 p0.toNatClampNeg) = 0 then ((f_Mfails (upA u 8 0 (0 : Int32)) (2 : Int32)).1, (f_Mfails (upA u 8 0 (0 : Int32)) (2 : Int32)).2) else ((f_Mcopies (u 4) (u 0) (39 * p0.toNatClampNeg) 0) 4, upR (f_Msaves (upA u 8 0 (0 : Int32))) 0 (f_Mcopies (u 4) (u 0) (39 * p0.toNatClampNeg) 0))) else ((f_Mfails (upA u 8 0 (0 : Int32)) (1 : Int32)).1, (f_Mfails (upA u 8 0 (0 : Int32)) (1 : Int32)).2)
set_option maxHeartbeats 1000000 in
set_option maxRecDepth 100000 in
theorem c_X5_goBack (l : Launch) (dC : Nat → ClassId) (dI : Nat → Nat → Nat) (cI cZ cO : ClassId) (h0 : Nat) (q : Nat → Nat) (u : BS) (p0 : Int32) (sz : Nat) (hk : vp_in (u 3 0) 7) : Met l yX5_goBack wsX5_goBack rm_X5_goBack (va_Pc [.ref h0, .int p0] (fun U => U.heap.size = sz ∧ va_P (dC, dI) vwCl (MW cI cZ h0 q u) U.heap ∧ va_K (dC, dI) vwCl (TY cI cZ cO) U ∧ va_D (fun _ => True) (MW cI cZ h0 q u))) (kQw (some (.int (f_MgoBack u p0).1)) (dC, dI) vwCl (MW cI cZ h0 q ((f_MgoBack u p0).2)) (va_A (MW cI cZ h0 q u) sz)) 0 0 (va_A (MW cI cZ h0 q u) sz) := by
  refine kofW (cc := cX5_goBack) (maxL := 2) (ret := some .int) (by decide) rfl (Nat.le_of_ble_eq_true rfl) ?_
  intro p e s m args below meth c ls S hr hlk hnm hsz hP hK hD hS hA hl
  generalize hA0 : va_A (MW cI cZ h0 q u) sz = A0 at hD hS hA ⊢
  subst hsz
  obtain ⟨hx, hb, hml, hown, hts⟩ := id S
  have hk_n : (u 3 0).toNatClampNeg < 7 := vp_lt hk
  have inX5 : ∀ w ∈ wsX50, w ∈ wsX5_goBack := fun w h => List.mem_cons_of_mem _ (List.mem_append_right _ h)
  have hl : lv_has ls 2 [(0, .ref h0), (1, .int p0)] := hl
  refine lv_aload_n hx hb dX5_goBack_0 rfl (lv_at hl 0 rfl) ?_
  refine lv_iconst (v := (0 : Int32)) hx hb dX5_goBack_1 (by decide) ?_
  refine va_put (D := (dC, dI)) (ci := 5) (v := .int (0 : Int32)) (ty := .int) (C := RX5) (T := TX5) (N := 14) hx hb hts inX5 tyX5 tyX5_ok nmX5 hown hK hP hD hS 0 rfl rfl 8 (by decide) (hts (.fieldLink RX5 32 "BoardMetronomesModel" "thrown" "I") (by decide +kernel)) (fun _ h9 => h9) rfl (by decide +kernel) rfl rfl (Nat.le_of_ble_eq_true rfl) dX5_goBack_2 (fun H locs hP hD hS => ?_)
  have hP : va_P (dC, dI) vwCl (MW cI cZ h0 q (upA u 8 0 (0 : Int32))) H := Eq.mp (congrArg (fun w => va_P (dC, dI) vwCl w H) MW_s8) hP
  have hD : va_D A0 (MW cI cZ h0 q (upA u 8 0 (0 : Int32))) := Eq.mp (congrArg (fun w => va_D A0 w) MW_s8) hD
  refine lv_iload_n hx hb dX5_goBack_5 rfl (lv_at hl 1 rfl) ?_
  refine lv_iconst (v := (0 : Int32)) hx hb dX5_goBack_6 (by decide) ?_
  refine lv_iconst (v := (1 : Int32)) hx hb dX5_goBack_7 (by decide) ?_
  refine kc_p (y := yX5_in) (As := [.int p0, .int (0 : Int32), .int (1 : Int32)]) (rest := []) rfl S (v := .int (bI (f_Min p0 (0 : Int32) (1 : Int32)))) (c_X5_in l p0 (0 : Int32) (1 : Int32)) gX5_goBack_X5_in mi_X5_in ⟨rfl, rfl⟩ ⟨Nat.le_of_ble_eq_true rfl, Nat.le_of_ble_eq_true rfl⟩ ⟨Nat.le_refl _, Nat.le_refl _⟩ dX5_goBack_8 rfl hl.1 rfl (Nat.le_of_ble_eq_true rfl) ?_
  refine kb_ne (tgt := 20) hx hb dX5_goBack_11 (by decide) (fun c_11 => ?_) (fun c_11 => ?_)
  · refine lv_aload_n hx hb dX5_goBack_20 rfl (lv_at hl 0 rfl) ?_
    refine va_get (D := (dC, dI)) (ci := 5) (v := .ref (q 5)) (C := RX5) (T := TX5) (N := 14) hx hb hts inX5 hown hK hP 0 rfl rfl 5 (by decide) (hts (.fieldLink RX5 22 "BoardMetronomesModel" "filled" "[Z") (by decide +kernel)) (fun _ h9 => h9) rfl dX5_goBack_21 ?_
    refine lv_iload_n hx hb dX5_goBack_24 rfl (lv_at hl 1 rfl) ?_
    have z1 := (f_Min_vp (n := 1) (by decide) c_11)
    have z1_n := vp_lt z1
    refine kt_i (kcl z1).symm ?_
    refine k_zald (D := (dC, dI)) hx hb hK hP 5 1 rfl rfl (j := p0.toNatClampNeg) (by omega) (by decide) dX5_goBack_25 ?_
    rw [upA_o (show (5 : Nat) ≠ 8 by decide)]
    refine lv_if_ne (tgt := 35) hx hb dX5_goBack_26 (by decide) (fun c_26 => ?_) (fun c_26 => ?_)
    · refine lv_aload_n hx hb dX5_goBack_35 rfl (lv_at hl 0 rfl) ?_
      refine kc_w (As := []) (rest := []) S (v := none) (c_X5_saves l dC dI cI cZ cO h0 q (upA u 8 0 (0 : Int32)) H.size (by rw [upA_o (show (3 : Nat) ≠ 8 by decide)]; exact hk)) gX5_goBack_X5_saves mi_X5_saves ⟨rfl, rfl⟩ ⟨Nat.le_of_ble_eq_true rfl, Nat.le_of_ble_eq_true rfl⟩ hK hP hD hS hA [0, 1, 2, 3, 4, 5, 6, 7] MW_all MW_fst rfl 0 rfl rfl ⟨Nat.le_refl _, Nat.le_refl _⟩ dX5_goBack_36 rfl hl.1 rfl (Nat.le_of_ble_eq_true rfl) (fun H locs hP hD hS => ?_)
      have hP : va_P (dC, dI) vwCl (MW cI cZ h0 q (f_Msaves (upA u 8 0 (0 : Int32)))) H := Eq.mp (congrArg (fun w => va_P (dC, dI) vwCl w H) MW_ks) hP
      have hD : va_D A0 (MW cI cZ h0 q (f_Msaves (upA u 8 0 (0 : Int32)))) := Eq.mp (congrArg (fun w => va_D A0 w) MW_ks) hD
      refine lv_aload_n hx hb dX5_goBack_39 rfl (lv_at hl 0 rfl) ?_
      refine va_get (D := (dC, dI)) (ci := 5) (v := .ref (q 4)) (C := RX5) (T := TX5) (N := 14) hx hb hts inX5 hown hK hP 0 rfl rfl 4 (by decide) (hts (.fieldLink RX5 19 "BoardMetronomesModel" "slots" "[I") (by decide +kernel)) (fun _ h9 => h9) rfl dX5_goBack_40 ?_
      refine lv_bipush (v := (39 : Int32)) hx hb dX5_goBack_43 (by decide) ?_
      refine lv_iload_n hx hb dX5_goBack_45 rfl (lv_at hl 1 rfl) ?_
      have z2 := (f_Min_vp (n := 1) (by decide) c_11)
      have z2_n := vp_lt z2
      refine kt_i (kcl z2).symm ?_
      refine k_imuln (x := 39) (y := p0.toNatClampNeg) hx hb dX5_goBack_46 ?_
      refine lv_aload_n hx hb dX5_goBack_47 rfl (lv_at hl 0 rfl) ?_
      refine va_get (D := (dC, dI)) (ci := 5) (v := .ref (q 0)) (C := RX5) (T := TX5) (N := 14) hx hb hts inX5 hown hK hP 0 rfl rfl 0 (by decide) (hts (.fieldLink RX5 7 "BoardMetronomesModel" "now" "[I") (by decide +kernel)) (fun _ h9 => h9) rfl dX5_goBack_48 ?_
      refine lv_iconst (v := (0 : Int32)) hx hb dX5_goBack_51 (by decide) ?_
      refine kc_sw (y := yX5_copies) (As := [.ref (q 4), .int (nI (39 * p0.toNatClampNeg)), .ref (q 0), .int (nI 0)]) (rest := []) rfl S (v := none) (c_X5_copies l dC dI cI cZ cO 78 39 (q 4) (q 0) (u 4) (u 0) (39 * p0.toNatClampNeg) 0 H.size (by omega) (by omega) (by decide) (by decide)) gX5_goBack_X5_copies mi_X5_copies ⟨rfl, rfl⟩ ⟨Nat.le_of_ble_eq_true rfl, Nat.le_of_ble_eq_true rfl⟩ hK hP hD hS hA [4, 1] (MW_allc4_0 (show (f_Msaves (upA u 8 0 (0 : Int32))) 4 = u 4 by rw [f_Msaves_o (show (4 : Nat) ≠ 2 by decide) (show (4 : Nat) ≠ 3 by decide), upA_o (show (4 : Nat) ≠ 8 by decide)]) (show (f_Msaves (upA u 8 0 (0 : Int32))) 0 = u 0 by rw [f_Msaves_o (show (0 : Nat) ≠ 2 by decide) (show (0 : Nat) ≠ 3 by decide), upA_o (show (0 : Nat) ≠ 8 by decide)])) AW2_fst rfl ⟨Nat.le_refl _, Nat.le_refl _⟩ dX5_goBack_52 rfl hl.1 rfl (Nat.le_of_ble_eq_true rfl) (fun H locs hP hD hS => ?_)
      have hP : va_P (dC, dI) vwCl (MW cI cZ h0 q (upR (f_Msaves (upA u 8 0 (0 : Int32))) 0 (f_Mcopies (u 4) (u 0) (39 * p0.toNatClampNeg) 0))) H := Eq.mp (congrArg (fun w => va_P (dC, dI) vwCl w H) (MW_c4_0 (show (f_Msaves (upA u 8 0 (0 : Int32))) 4 = u 4 by rw [f_Msaves_o (show (4 : Nat) ≠ 2 by decide) (show (4 : Nat) ≠ 3 by decide), upA_o (show (4 : Nat) ≠ 8 by decide)]))) hP
      have hD : va_D A0 (MW cI cZ h0 q (upR (f_Msaves (upA u 8 0 (0 : Int32))) 0 (f_Mcopies (u 4) (u 0) (39 * p0.toNatClampNeg) 0))) := Eq.mp (congrArg (fun w => va_D A0 w) (MW_c4_0 (show (f_Msaves (upA u 8 0 (0 : Int32))) 4 = u 4 by rw [f_Msaves_o (show (4 : Nat) ≠ 2 by decide) (show (4 : Nat) ≠ 3 by decide), upA_o (show (4 : Nat) ≠ 8 by decide)]))) hD
      refine lv_aload_n hx hb dX5_goBack_55 rfl (lv_at hl 0 rfl) ?_
      refine va_get (D := (dC, dI)) (ci := 5) (v := .ref (q 0)) (C := RX5) (T := TX5) (N := 14) hx hb hts inX5 hown hK hP 0 rfl rfl 0 (by decide) (hts (.fieldLink RX5 7 "BoardMetronomesModel" "now" "[I") (by decide +kernel)) (fun _ h9 => h9) rfl dX5_goBack_56 ?_
      refine lv_iconst (v := (4 : Int32)) hx hb dX5_goBack_59 (by decide) ?_
      refine k_iald (D := (dC, dI)) hx hb hK hP 1 0 rfl rfl (j := 4) (by omega) (by decide) dX5_goBack_60 ?_
      rw [upR_s]
      have r3 : f_MgoBack u p0 = ((f_Mcopies (u 4) (u 0) (39 * p0.toNatClampNeg) 0) 4, upR (f_Msaves (upA u 8 0 (0 : Int32))) 0 (f_Mcopies (u 4) (u 0) (39 * p0.toNatClampNeg) 0)) := by
        rw [f_MgoBack, if_pos c_11, if_neg c_26]
      exact kw_i hx hb hr hlk hP hS dX5_goBack_61 (by rw [r3]) (by rw [r3])
    · refine lv_aload_n hx hb dX5_goBack_29 rfl (lv_at hl 0 rfl) ?_
      refine lv_iconst (v := (2 : Int32)) hx hb dX5_goBack_30 (by decide) ?_
      refine kc_w (As := [.int (2 : Int32)]) (rest := []) S (v := (some (.int ((f_Mfails (upA u 8 0 (0 : Int32)) (2 : Int32)).1)))) (c_X5_fails l dC dI cI cZ cO h0 q (upA u 8 0 (0 : Int32)) (2 : Int32) H.size) gX5_goBack_X5_fails mi_X5_fails ⟨rfl, rfl⟩ ⟨Nat.le_of_ble_eq_true rfl, Nat.le_of_ble_eq_true rfl⟩ hK hP hD hS hA [0, 1, 2, 3, 4, 5, 6, 7] MW_all MW_fst rfl 0 rfl rfl ⟨Nat.le_refl _, Nat.le_refl _⟩ dX5_goBack_31 rfl hl.1 rfl (Nat.le_of_ble_eq_true rfl) (fun H locs hP hD hS => ?_)
      have hP : va_P (dC, dI) vwCl (MW cI cZ h0 q ((f_Mfails (upA u 8 0 (0 : Int32)) (2 : Int32)).2)) H := Eq.mp (congrArg (fun w => va_P (dC, dI) vwCl w H) MW_ks) hP
      have hD : va_D A0 (MW cI cZ h0 q ((f_Mfails (upA u 8 0 (0 : Int32)) (2 : Int32)).2)) := Eq.mp (congrArg (fun w => va_D A0 w) MW_ks) hD
      have r4 : f_MgoBack u p0 = ((f_Mfails (upA u 8 0 (0 : Int32)) (2 : Int32)).1, (f_Mfails (upA u 8 0 (0 : Int32)) (2 : Int32)).2) := by
        rw [f_MgoBack, if_pos c_11, if_pos c_26]
      exact kw_i hx hb hr hlk hP hS dX5_goBack_34 (by rw [r4]) (by rw [r4])
  · refine lv_aload_n hx hb dX5_goBack_14 rfl (lv_at hl 0 rfl) ?_
    refine lv_iconst (v := (1 : Int32)) hx hb dX5_goBack_15 (by decide) ?_
    refine kc_w (As := [.int (1 : Int32)]) (rest := []) S (v := (some (.int ((f_Mfails (upA u 8 0 (0 : Int32)) (1 : Int32)).1)))) (c_X5_fails l dC dI cI cZ cO h0 q (upA u 8 0 (0 : Int32)) (1 : Int32) H.size) gX5_goBack_X5_fails mi_X5_fails ⟨rfl, rfl⟩ ⟨Nat.le_of_ble_eq_true rfl, Nat.le_of_ble_eq_true rfl⟩ hK hP hD hS hA [0, 1, 2, 3, 4, 5, 6, 7] MW_all MW_fst rfl 0 rfl rfl ⟨Nat.le_refl _, Nat.le_refl _⟩ dX5_goBack_16 rfl hl.1 rfl (Nat.le_of_ble_eq_true rfl) (fun H locs hP hD hS => ?_)
    have hP : va_P (dC, dI) vwCl (MW cI cZ h0 q ((f_Mfails (upA u 8 0 (0 : Int32)) (1 : Int32)).2)) H := Eq.mp (congrArg (fun w => va_P (dC, dI) vwCl w H) MW_ks) hP
    have hD : va_D A0 (MW cI cZ h0 q ((f_Mfails (upA u 8 0 (0 : Int32)) (1 : Int32)).2)) := Eq.mp (congrArg (fun w => va_D A0 w) MW_ks) hD
    have r5 : f_MgoBack u p0 = ((f_Mfails (upA u 8 0 (0 : Int32)) (1 : Int32)).1, (f_Mfails (upA u 8 0 (0 : Int32)) (1 : Int32)).2) := by
      rw [f_MgoBack, if_neg c_11]
    exact kw_i hx hb hr hlk hP hS dX5_goBack_19 (by rw [r5]) (by rw [r5])

def rm_X5_comes : Room := { frames := 0, cells := 0, slots := 0, locals := 0 }
theorem mi_X5_comes : kM yX5_comes wsX5_comes cX5_comes 5 (some .int) 3 := ⟨⟨_, rfl⟩, by decide, by decide, by decide +kernel⟩
def f_Mcomes (u : BS) (p0 : Int32) (p1 : Int32) (p2 : Int32) : Int32 × BS := (((((upA (upA (upA (upA (upA u 0 (9 + (5 * ((u 0 3).toNatClampNeg))) p0) 0 ((9 + (5 * ((u 0 3).toNatClampNeg))) + 1) p1) 0 ((9 + (5 * ((u 0 3).toNatClampNeg))) + 2) p2) 0 ((9 + (5 * ((u 0 3).toNatClampNeg))) + 3) (0 : Int32)) 0 ((9 + (5 * ((u 0 3).toNatClampNeg))) + 4) (0 : Int32)) 0) 3) + (1 : Int32)) - (1 : Int32), upA (upA (upA (upA (upA (upA u 0 (9 + (5 * ((u 0 3).toNatClampNeg))) p0) 0 ((9 + (5 * ((u 0 3).toNatClampNeg))) + 1) p1) 0 ((9 + (5 * ((u 0 3).toNatClampNeg))) + 2) p2) 0 ((9 + (5 * ((u 0 3).toNatClampNeg))) + 3) (0 : Int32)) 0 ((9 + (5 * ((u 0 3).toNatClampNeg))) + 4) (0 : Int32)) 0 3 ((((upA (upA (upA (upA (upA u 0 (9 + (5 * ((u 0 3).toNatClampNeg))) p0) 0 ((9 + (5 * ((u 0 3).toNatClampNeg))) + 1) p1) 0 ((9 + (5 * ((u 0 3).toNatClampNeg))) + 2) p2) 0 ((9 + (5 * ((u 0 3).toNatClampNeg))) + 3) (0 : Int32)) 0 ((9 + (5 * ((u 0 3).toNatClampNeg))) + 4) (0 : Int32)) 0) 3) + (1 : Int32)))
set_option maxHeartbeats 1000000 in
set_option maxRecDepth 100000 in
theorem c_X5_comes (l : Launch) (dC : Nat → ClassId) (dI : Nat → Nat → Nat) (cI cZ cO : ClassId) (h0 : Nat) (q : Nat → Nat) (u : BS) (p0 : Int32) (p1 : Int32) (p2 : Int32) (sz : Nat) (hs5 : vp_in (u 0 3) 6) : Met l yX5_comes wsX5_comes rm_X5_comes (va_Pc [.ref h0, .int p0, .int p1, .int p2] (fun U => U.heap.size = sz ∧ va_P (dC, dI) vwCl (MW cI cZ h0 q u) U.heap ∧ va_K (dC, dI) vwCl (TY cI cZ cO) U ∧ va_D (fun _ => True) (MW cI cZ h0 q u))) (kQw (some (.int (f_Mcomes u p0 p1 p2).1)) (dC, dI) vwCl (MW cI cZ h0 q ((f_Mcomes u p0 p1 p2).2)) (va_A (MW cI cZ h0 q u) sz)) 0 0 (va_A (MW cI cZ h0 q u) sz) := by
  refine kofW (cc := cX5_comes) (maxL := 5) (ret := some .int) (by decide) rfl (Nat.le_of_ble_eq_true rfl) ?_
  intro p e s m args below meth c ls S hr hlk hnm hsz hP hK hD hS hA hl
  generalize hA0 : va_A (MW cI cZ h0 q u) sz = A0 at hD hS hA ⊢
  subst hsz
  obtain ⟨hx, hb, hml, hown, hts⟩ := id S
  have hs5_n : (u 0 3).toNatClampNeg < 6 := vp_lt hs5
  have inX5 : ∀ w ∈ wsX50, w ∈ wsX5_comes := fun w h => List.mem_cons_of_mem _ (List.mem_append_right _ h)
  have hl : lv_has ls 5 [(0, .ref h0), (1, .int p0), (2, .int p1), (3, .int p2)] := hl
  refine lv_bipush (v := (9 : Int32)) hx hb dX5_comes_0 (by decide) ?_
  refine lv_iconst (v := (5 : Int32)) hx hb dX5_comes_2 (by decide) ?_
  refine lv_aload_n hx hb dX5_comes_3 rfl (lv_at hl 0 rfl) ?_
  refine va_get (D := (dC, dI)) (ci := 5) (v := .ref (q 0)) (C := RX5) (T := TX5) (N := 14) hx hb hts inX5 hown hK hP 0 rfl rfl 0 (by decide) (hts (.fieldLink RX5 7 "BoardMetronomesModel" "now" "[I") (by decide +kernel)) (fun _ h9 => h9) rfl dX5_comes_4 ?_
  refine lv_iconst (v := (3 : Int32)) hx hb dX5_comes_7 (by decide) ?_
  refine k_iald (D := (dC, dI)) hx hb hK hP 1 0 rfl rfl (j := 3) (by omega) (by decide) dX5_comes_8 ?_
  refine kt_i (kcl hs5).symm ?_
  refine k_imuln (x := 5) (y := (u 0 3).toNatClampNeg) hx hb dX5_comes_9 ?_
  refine k_iaddn (x := 9) (y := 5 * ((u 0 3).toNatClampNeg)) hx hb dX5_comes_10 ?_
  refine lv_istore (lv' := [(4, .int (nI (9 + (5 * ((u 0 3).toNatClampNeg))))), (0, .ref h0), (1, .int p0), (2, .int p1), (3, .int p2)]) hx hb dX5_comes_11 hl (by decide) rfl (fun ls hl => ?_)
  refine lv_aload_n hx hb dX5_comes_13 rfl (lv_at hl 1 rfl) ?_
  refine va_get (D := (dC, dI)) (ci := 5) (v := .ref (q 0)) (C := RX5) (T := TX5) (N := 14) hx hb hts inX5 hown hK hP 0 rfl rfl 0 (by decide) (hts (.fieldLink RX5 7 "BoardMetronomesModel" "now" "[I") (by decide +kernel)) (fun _ h9 => h9) rfl dX5_comes_14 ?_
  refine lv_iload hx hb dX5_comes_17 (lv_at hl 0 rfl) ?_
  refine lv_iload_n hx hb dX5_comes_19 rfl (lv_at hl 2 rfl) ?_
  refine k_iast (D := (dC, dI)) hx hb hK hP hD hS 1 0 rfl rfl (j := (9 + (5 * ((u 0 3).toNatClampNeg)))) (by omega) (by decide) dX5_comes_20 (fun H locs hP hD hS => ?_)
  have hP : va_P (dC, dI) vwCl (MW cI cZ h0 q (upA u 0 (9 + (5 * ((u 0 3).toNatClampNeg))) p0)) H := Eq.mp (congrArg (fun w => va_P (dC, dI) vwCl w H) MW_a0) hP
  have hD : va_D A0 (MW cI cZ h0 q (upA u 0 (9 + (5 * ((u 0 3).toNatClampNeg))) p0)) := Eq.mp (congrArg (fun w => va_D A0 w) MW_a0) hD
  refine lv_aload_n hx hb dX5_comes_21 rfl (lv_at hl 1 rfl) ?_
  refine va_get (D := (dC, dI)) (ci := 5) (v := .ref (q 0)) (C := RX5) (T := TX5) (N := 14) hx hb hts inX5 hown hK hP 0 rfl rfl 0 (by decide) (hts (.fieldLink RX5 7 "BoardMetronomesModel" "now" "[I") (by decide +kernel)) (fun _ h9 => h9) rfl dX5_comes_22 ?_
  refine lv_iload hx hb dX5_comes_25 (lv_at hl 0 rfl) ?_
  refine lv_iconst (v := (1 : Int32)) hx hb dX5_comes_27 (by decide) ?_
  refine k_iaddn (x := 9 + (5 * ((u 0 3).toNatClampNeg))) (y := 1) hx hb dX5_comes_28 ?_
  refine lv_iload_n hx hb dX5_comes_29 rfl (lv_at hl 3 rfl) ?_
  refine k_iast (D := (dC, dI)) hx hb hK hP hD hS 1 0 rfl rfl (j := ((9 + (5 * ((u 0 3).toNatClampNeg))) + 1)) (by omega) (by decide) dX5_comes_30 (fun H locs hP hD hS => ?_)
  have hP : va_P (dC, dI) vwCl (MW cI cZ h0 q (upA (upA u 0 (9 + (5 * ((u 0 3).toNatClampNeg))) p0) 0 ((9 + (5 * ((u 0 3).toNatClampNeg))) + 1) p1)) H := Eq.mp (congrArg (fun w => va_P (dC, dI) vwCl w H) MW_a0) hP
  have hD : va_D A0 (MW cI cZ h0 q (upA (upA u 0 (9 + (5 * ((u 0 3).toNatClampNeg))) p0) 0 ((9 + (5 * ((u 0 3).toNatClampNeg))) + 1) p1)) := Eq.mp (congrArg (fun w => va_D A0 w) MW_a0) hD
  refine lv_aload_n hx hb dX5_comes_31 rfl (lv_at hl 1 rfl) ?_
  refine va_get (D := (dC, dI)) (ci := 5) (v := .ref (q 0)) (C := RX5) (T := TX5) (N := 14) hx hb hts inX5 hown hK hP 0 rfl rfl 0 (by decide) (hts (.fieldLink RX5 7 "BoardMetronomesModel" "now" "[I") (by decide +kernel)) (fun _ h9 => h9) rfl dX5_comes_32 ?_
  refine lv_iload hx hb dX5_comes_35 (lv_at hl 0 rfl) ?_
  refine lv_iconst (v := (2 : Int32)) hx hb dX5_comes_37 (by decide) ?_
  refine k_iaddn (x := 9 + (5 * ((u 0 3).toNatClampNeg))) (y := 2) hx hb dX5_comes_38 ?_
  refine lv_iload_n hx hb dX5_comes_39 rfl (lv_at hl 4 rfl) ?_
  refine k_iast (D := (dC, dI)) hx hb hK hP hD hS 1 0 rfl rfl (j := ((9 + (5 * ((u 0 3).toNatClampNeg))) + 2)) (by omega) (by decide) dX5_comes_40 (fun H locs hP hD hS => ?_)
  have hP : va_P (dC, dI) vwCl (MW cI cZ h0 q (upA (upA (upA u 0 (9 + (5 * ((u 0 3).toNatClampNeg))) p0) 0 ((9 + (5 * ((u 0 3).toNatClampNeg))) + 1) p1) 0 ((9 + (5 * ((u 0 3).toNatClampNeg))) + 2) p2)) H := Eq.mp (congrArg (fun w => va_P (dC, dI) vwCl w H) MW_a0) hP
  have hD : va_D A0 (MW cI cZ h0 q (upA (upA (upA u 0 (9 + (5 * ((u 0 3).toNatClampNeg))) p0) 0 ((9 + (5 * ((u 0 3).toNatClampNeg))) + 1) p1) 0 ((9 + (5 * ((u 0 3).toNatClampNeg))) + 2) p2)) := Eq.mp (congrArg (fun w => va_D A0 w) MW_a0) hD
  refine lv_aload_n hx hb dX5_comes_41 rfl (lv_at hl 1 rfl) ?_
  refine va_get (D := (dC, dI)) (ci := 5) (v := .ref (q 0)) (C := RX5) (T := TX5) (N := 14) hx hb hts inX5 hown hK hP 0 rfl rfl 0 (by decide) (hts (.fieldLink RX5 7 "BoardMetronomesModel" "now" "[I") (by decide +kernel)) (fun _ h9 => h9) rfl dX5_comes_42 ?_
  refine lv_iload hx hb dX5_comes_45 (lv_at hl 0 rfl) ?_
  refine lv_iconst (v := (3 : Int32)) hx hb dX5_comes_47 (by decide) ?_
  refine k_iaddn (x := 9 + (5 * ((u 0 3).toNatClampNeg))) (y := 3) hx hb dX5_comes_48 ?_
  refine lv_iconst (v := (0 : Int32)) hx hb dX5_comes_49 (by decide) ?_
  refine k_iast (D := (dC, dI)) hx hb hK hP hD hS 1 0 rfl rfl (j := ((9 + (5 * ((u 0 3).toNatClampNeg))) + 3)) (by omega) (by decide) dX5_comes_50 (fun H locs hP hD hS => ?_)
  have hP : va_P (dC, dI) vwCl (MW cI cZ h0 q (upA (upA (upA (upA u 0 (9 + (5 * ((u 0 3).toNatClampNeg))) p0) 0 ((9 + (5 * ((u 0 3).toNatClampNeg))) + 1) p1) 0 ((9 + (5 * ((u 0 3).toNatClampNeg))) + 2) p2) 0 ((9 + (5 * ((u 0 3).toNatClampNeg))) + 3) (0 : Int32))) H := Eq.mp (congrArg (fun w => va_P (dC, dI) vwCl w H) MW_a0) hP
  have hD : va_D A0 (MW cI cZ h0 q (upA (upA (upA (upA u 0 (9 + (5 * ((u 0 3).toNatClampNeg))) p0) 0 ((9 + (5 * ((u 0 3).toNatClampNeg))) + 1) p1) 0 ((9 + (5 * ((u 0 3).toNatClampNeg))) + 2) p2) 0 ((9 + (5 * ((u 0 3).toNatClampNeg))) + 3) (0 : Int32))) := Eq.mp (congrArg (fun w => va_D A0 w) MW_a0) hD
  refine lv_aload_n hx hb dX5_comes_51 rfl (lv_at hl 1 rfl) ?_
  refine va_get (D := (dC, dI)) (ci := 5) (v := .ref (q 0)) (C := RX5) (T := TX5) (N := 14) hx hb hts inX5 hown hK hP 0 rfl rfl 0 (by decide) (hts (.fieldLink RX5 7 "BoardMetronomesModel" "now" "[I") (by decide +kernel)) (fun _ h9 => h9) rfl dX5_comes_52 ?_
  refine lv_iload hx hb dX5_comes_55 (lv_at hl 0 rfl) ?_
  refine lv_iconst (v := (4 : Int32)) hx hb dX5_comes_57 (by decide) ?_
  refine k_iaddn (x := 9 + (5 * ((u 0 3).toNatClampNeg))) (y := 4) hx hb dX5_comes_58 ?_
  refine lv_iconst (v := (0 : Int32)) hx hb dX5_comes_59 (by decide) ?_
  refine k_iast (D := (dC, dI)) hx hb hK hP hD hS 1 0 rfl rfl (j := ((9 + (5 * ((u 0 3).toNatClampNeg))) + 4)) (by omega) (by decide) dX5_comes_60 (fun H locs hP hD hS => ?_)
  have hP : va_P (dC, dI) vwCl (MW cI cZ h0 q (upA (upA (upA (upA (upA u 0 (9 + (5 * ((u 0 3).toNatClampNeg))) p0) 0 ((9 + (5 * ((u 0 3).toNatClampNeg))) + 1) p1) 0 ((9 + (5 * ((u 0 3).toNatClampNeg))) + 2) p2) 0 ((9 + (5 * ((u 0 3).toNatClampNeg))) + 3) (0 : Int32)) 0 ((9 + (5 * ((u 0 3).toNatClampNeg))) + 4) (0 : Int32))) H := Eq.mp (congrArg (fun w => va_P (dC, dI) vwCl w H) MW_a0) hP
  have hD : va_D A0 (MW cI cZ h0 q (upA (upA (upA (upA (upA u 0 (9 + (5 * ((u 0 3).toNatClampNeg))) p0) 0 ((9 + (5 * ((u 0 3).toNatClampNeg))) + 1) p1) 0 ((9 + (5 * ((u 0 3).toNatClampNeg))) + 2) p2) 0 ((9 + (5 * ((u 0 3).toNatClampNeg))) + 3) (0 : Int32)) 0 ((9 + (5 * ((u 0 3).toNatClampNeg))) + 4) (0 : Int32))) := Eq.mp (congrArg (fun w => va_D A0 w) MW_a0) hD
  refine lv_aload_n hx hb dX5_comes_61 rfl (lv_at hl 1 rfl) ?_
  refine va_get (D := (dC, dI)) (ci := 5) (v := .ref (q 0)) (C := RX5) (T := TX5) (N := 14) hx hb hts inX5 hown hK hP 0 rfl rfl 0 (by decide) (hts (.fieldLink RX5 7 "BoardMetronomesModel" "now" "[I") (by decide +kernel)) (fun _ h9 => h9) rfl dX5_comes_62 ?_
  refine lv_iconst (v := (3 : Int32)) hx hb dX5_comes_65 (by decide) ?_
  refine lv_dup2_11 hx hb dX5_comes_66 rfl rfl ?_
  refine k_iald (D := (dC, dI)) hx hb hK hP 1 0 rfl rfl (j := 3) (by omega) (by decide) dX5_comes_67 ?_
  refine lv_iconst (v := (1 : Int32)) hx hb dX5_comes_68 (by decide) ?_
  refine lv_iadd hx hb dX5_comes_69 ?_
  refine k_iast (D := (dC, dI)) hx hb hK hP hD hS 1 0 rfl rfl (j := 3) (by omega) (by decide) dX5_comes_70 (fun H locs hP hD hS => ?_)
  have hP : va_P (dC, dI) vwCl (MW cI cZ h0 q (upA (upA (upA (upA (upA (upA u 0 (9 + (5 * ((u 0 3).toNatClampNeg))) p0) 0 ((9 + (5 * ((u 0 3).toNatClampNeg))) + 1) p1) 0 ((9 + (5 * ((u 0 3).toNatClampNeg))) + 2) p2) 0 ((9 + (5 * ((u 0 3).toNatClampNeg))) + 3) (0 : Int32)) 0 ((9 + (5 * ((u 0 3).toNatClampNeg))) + 4) (0 : Int32)) 0 3 ((((upA (upA (upA (upA (upA u 0 (9 + (5 * ((u 0 3).toNatClampNeg))) p0) 0 ((9 + (5 * ((u 0 3).toNatClampNeg))) + 1) p1) 0 ((9 + (5 * ((u 0 3).toNatClampNeg))) + 2) p2) 0 ((9 + (5 * ((u 0 3).toNatClampNeg))) + 3) (0 : Int32)) 0 ((9 + (5 * ((u 0 3).toNatClampNeg))) + 4) (0 : Int32)) 0) 3) + (1 : Int32)))) H := Eq.mp (congrArg (fun w => va_P (dC, dI) vwCl w H) MW_a0) hP
  have hD : va_D A0 (MW cI cZ h0 q (upA (upA (upA (upA (upA (upA u 0 (9 + (5 * ((u 0 3).toNatClampNeg))) p0) 0 ((9 + (5 * ((u 0 3).toNatClampNeg))) + 1) p1) 0 ((9 + (5 * ((u 0 3).toNatClampNeg))) + 2) p2) 0 ((9 + (5 * ((u 0 3).toNatClampNeg))) + 3) (0 : Int32)) 0 ((9 + (5 * ((u 0 3).toNatClampNeg))) + 4) (0 : Int32)) 0 3 ((((upA (upA (upA (upA (upA u 0 (9 + (5 * ((u 0 3).toNatClampNeg))) p0) 0 ((9 + (5 * ((u 0 3).toNatClampNeg))) + 1) p1) 0 ((9 + (5 * ((u 0 3).toNatClampNeg))) + 2) p2) 0 ((9 + (5 * ((u 0 3).toNatClampNeg))) + 3) (0 : Int32)) 0 ((9 + (5 * ((u 0 3).toNatClampNeg))) + 4) (0 : Int32)) 0) 3) + (1 : Int32)))) := Eq.mp (congrArg (fun w => va_D A0 w) MW_a0) hD
  refine lv_aload_n hx hb dX5_comes_71 rfl (lv_at hl 1 rfl) ?_
  refine va_get (D := (dC, dI)) (ci := 5) (v := .ref (q 0)) (C := RX5) (T := TX5) (N := 14) hx hb hts inX5 hown hK hP 0 rfl rfl 0 (by decide) (hts (.fieldLink RX5 7 "BoardMetronomesModel" "now" "[I") (by decide +kernel)) (fun _ h9 => h9) rfl dX5_comes_72 ?_
  refine lv_iconst (v := (3 : Int32)) hx hb dX5_comes_75 (by decide) ?_
  refine k_iald (D := (dC, dI)) hx hb hK hP 1 0 rfl rfl (j := 3) (by omega) (by decide) dX5_comes_76 ?_
  rw [upA_s]
  refine lv_iconst (v := (1 : Int32)) hx hb dX5_comes_77 (by decide) ?_
  refine lv_isub hx hb dX5_comes_78 ?_
  have r1 : f_Mcomes u p0 p1 p2 = (((((upA (upA (upA (upA (upA u 0 (9 + (5 * ((u 0 3).toNatClampNeg))) p0) 0 ((9 + (5 * ((u 0 3).toNatClampNeg))) + 1) p1) 0 ((9 + (5 * ((u 0 3).toNatClampNeg))) + 2) p2) 0 ((9 + (5 * ((u 0 3).toNatClampNeg))) + 3) (0 : Int32)) 0 ((9 + (5 * ((u 0 3).toNatClampNeg))) + 4) (0 : Int32)) 0) 3) + (1 : Int32)) - (1 : Int32), upA (upA (upA (upA (upA (upA u 0 (9 + (5 * ((u 0 3).toNatClampNeg))) p0) 0 ((9 + (5 * ((u 0 3).toNatClampNeg))) + 1) p1) 0 ((9 + (5 * ((u 0 3).toNatClampNeg))) + 2) p2) 0 ((9 + (5 * ((u 0 3).toNatClampNeg))) + 3) (0 : Int32)) 0 ((9 + (5 * ((u 0 3).toNatClampNeg))) + 4) (0 : Int32)) 0 3 ((((upA (upA (upA (upA (upA u 0 (9 + (5 * ((u 0 3).toNatClampNeg))) p0) 0 ((9 + (5 * ((u 0 3).toNatClampNeg))) + 1) p1) 0 ((9 + (5 * ((u 0 3).toNatClampNeg))) + 2) p2) 0 ((9 + (5 * ((u 0 3).toNatClampNeg))) + 3) (0 : Int32)) 0 ((9 + (5 * ((u 0 3).toNatClampNeg))) + 4) (0 : Int32)) 0) 3) + (1 : Int32))) := by
    rw [f_Mcomes]
  exact kw_i hx hb hr hlk hP hS dX5_comes_79 (by rw [r1]) (by rw [r1])

theorem vp_lt5 {x : Int32} {n : Nat} (h : vp_in x (n + 1)) (hn : ¬ x.toNatClampNeg = n) : vp_in x n := by
  have h1 := vp_in_iff.mp h
  have h4 : x.toInt.toNat = x.toNatClampNeg := rfl
  exact vp_in_iff.mpr ⟨h1.1, by omega⟩

def rm_X5_metronome : Room := { frames := 2, cells := 0, slots := 0, locals := 45 }
theorem mi_X5_metronome : kM yX5_metronome wsX5_metronome cX5_metronome 4 (some .int) 3 := ⟨⟨_, rfl⟩, by decide, by decide, by decide +kernel⟩
def f_Mmetronome (u : BS) (p0 : Int32) (p1 : Int32) (p2 : Int32) : Int32 × BS := if (f_MisOne p0 p1 p2) = true then (if (nI ((u 0 3).toNatClampNeg)) = (6 : Int32) then ((f_Mfails (upA u 8 0 (0 : Int32)) (2 : Int32)).1, (f_Mfails (upA u 8 0 (0 : Int32)) (2 : Int32)).2) else ((f_Mcomes (f_Msaves (upA u 8 0 (0 : Int32))) p0 p1 p2).1, (f_Mcomes (f_Msaves (upA u 8 0 (0 : Int32))) p0 p1 p2).2)) else ((f_Mfails (upA u 8 0 (0 : Int32)) (1 : Int32)).1, (f_Mfails (upA u 8 0 (0 : Int32)) (1 : Int32)).2)
set_option maxHeartbeats 1000000 in
set_option maxRecDepth 100000 in
theorem c_X5_metronome (l : Launch) (dC : Nat → ClassId) (dI : Nat → Nat → Nat) (cI cZ cO : ClassId) (h0 : Nat) (q : Nat → Nat) (u : BS) (p0 : Int32) (p1 : Int32) (p2 : Int32) (sz : Nat) (hk : vp_in (u 3 0) 7) (hs : vp_in (u 0 3) 7) : Met l yX5_metronome wsX5_metronome rm_X5_metronome (va_Pc [.ref h0, .int p0, .int p1, .int p2] (fun U => U.heap.size = sz ∧ va_P (dC, dI) vwCl (MW cI cZ h0 q u) U.heap ∧ va_K (dC, dI) vwCl (TY cI cZ cO) U ∧ va_D (fun _ => True) (MW cI cZ h0 q u))) (kQw (some (.int (f_Mmetronome u p0 p1 p2).1)) (dC, dI) vwCl (MW cI cZ h0 q ((f_Mmetronome u p0 p1 p2).2)) (va_A (MW cI cZ h0 q u) sz)) 0 0 (va_A (MW cI cZ h0 q u) sz) := by
  refine kofW (cc := cX5_metronome) (maxL := 4) (ret := some .int) (by decide) rfl (Nat.le_of_ble_eq_true rfl) ?_
  intro p e s m args below meth c ls S hr hlk hnm hsz hP hK hD hS hA hl
  generalize hA0 : va_A (MW cI cZ h0 q u) sz = A0 at hD hS hA ⊢
  subst hsz
  obtain ⟨hx, hb, hml, hown, hts⟩ := id S
  have hk_n : (u 3 0).toNatClampNeg < 7 := vp_lt hk
  have hs_n : (u 0 3).toNatClampNeg < 7 := vp_lt hs
  have inX5 : ∀ w ∈ wsX50, w ∈ wsX5_metronome := fun w h => List.mem_cons_of_mem _ (List.mem_append_right _ h)
  have hl : lv_has ls 4 [(0, .ref h0), (1, .int p0), (2, .int p1), (3, .int p2)] := hl
  refine lv_aload_n hx hb dX5_metronome_0 rfl (lv_at hl 0 rfl) ?_
  refine lv_iconst (v := (0 : Int32)) hx hb dX5_metronome_1 (by decide) ?_
  refine va_put (D := (dC, dI)) (ci := 5) (v := .int (0 : Int32)) (ty := .int) (C := RX5) (T := TX5) (N := 14) hx hb hts inX5 tyX5 tyX5_ok nmX5 hown hK hP hD hS 0 rfl rfl 8 (by decide) (hts (.fieldLink RX5 32 "BoardMetronomesModel" "thrown" "I") (by decide +kernel)) (fun _ h9 => h9) rfl (by decide +kernel) rfl rfl (Nat.le_of_ble_eq_true rfl) dX5_metronome_2 (fun H locs hP hD hS => ?_)
  have hP : va_P (dC, dI) vwCl (MW cI cZ h0 q (upA u 8 0 (0 : Int32))) H := Eq.mp (congrArg (fun w => va_P (dC, dI) vwCl w H) MW_s8) hP
  have hD : va_D A0 (MW cI cZ h0 q (upA u 8 0 (0 : Int32))) := Eq.mp (congrArg (fun w => va_D A0 w) MW_s8) hD
  refine lv_iload_n hx hb dX5_metronome_5 rfl (lv_at hl 1 rfl) ?_
  refine lv_iload_n hx hb dX5_metronome_6 rfl (lv_at hl 2 rfl) ?_
  refine lv_iload_n hx hb dX5_metronome_7 rfl (lv_at hl 3 rfl) ?_
  refine kc_p (y := yX5_isOne) (As := [.int p0, .int p1, .int p2]) (rest := []) rfl S (v := .int (bI (f_MisOne p0 p1 p2))) (c_X5_isOne l p0 p1 p2) gX5_metronome_X5_isOne mi_X5_isOne ⟨rfl, rfl⟩ ⟨Nat.le_of_ble_eq_true rfl, Nat.le_of_ble_eq_true rfl⟩ ⟨Nat.le_refl _, Nat.le_refl _⟩ dX5_metronome_8 rfl hl.1 rfl (Nat.le_of_ble_eq_true rfl) ?_
  refine kb_ne (tgt := 20) hx hb dX5_metronome_11 (by decide) (fun c_11 => ?_) (fun c_11 => ?_)
  · refine lv_aload_n hx hb dX5_metronome_20 rfl (lv_at hl 0 rfl) ?_
    refine va_get (D := (dC, dI)) (ci := 5) (v := .ref (q 0)) (C := RX5) (T := TX5) (N := 14) hx hb hts inX5 hown hK hP 0 rfl rfl 0 (by decide) (hts (.fieldLink RX5 7 "BoardMetronomesModel" "now" "[I") (by decide +kernel)) (fun _ h9 => h9) rfl dX5_metronome_21 ?_
    refine lv_iconst (v := (3 : Int32)) hx hb dX5_metronome_24 (by decide) ?_
    refine k_iald (D := (dC, dI)) hx hb hK hP 1 0 rfl rfl (j := 3) (by omega) (by decide) dX5_metronome_25 ?_
    rw [upA_o (show (0 : Nat) ≠ 8 by decide)]
    refine kt_i (kcl hs).symm ?_
    refine lv_bipush (v := (6 : Int32)) hx hb dX5_metronome_26 (by decide) ?_
    refine lv_icmp_ne (tgt := 37) hx hb dX5_metronome_28 (by decide) (fun c_28 => ?_) (fun c_28 => ?_)
    · have c_28n : ¬ ((u 0 3).toNatClampNeg) = 6 := fun z => c_28 ((nI_eq (a := ((u 0 3).toNatClampNeg)) (b := 6) (by omega) (by omega)).mpr z)
      refine lv_aload_n hx hb dX5_metronome_37 rfl (lv_at hl 0 rfl) ?_
      refine kc_w (As := []) (rest := []) S (v := none) (c_X5_saves l dC dI cI cZ cO h0 q (upA u 8 0 (0 : Int32)) H.size (by rw [upA_o (show (3 : Nat) ≠ 8 by decide)]; exact hk)) gX5_metronome_X5_saves mi_X5_saves ⟨rfl, rfl⟩ ⟨Nat.le_of_ble_eq_true rfl, Nat.le_of_ble_eq_true rfl⟩ hK hP hD hS hA [0, 1, 2, 3, 4, 5, 6, 7] MW_all MW_fst rfl 0 rfl rfl ⟨Nat.le_refl _, Nat.le_refl _⟩ dX5_metronome_38 rfl hl.1 rfl (Nat.le_of_ble_eq_true rfl) (fun H locs hP hD hS => ?_)
      have hP : va_P (dC, dI) vwCl (MW cI cZ h0 q (f_Msaves (upA u 8 0 (0 : Int32)))) H := Eq.mp (congrArg (fun w => va_P (dC, dI) vwCl w H) MW_ks) hP
      have hD : va_D A0 (MW cI cZ h0 q (f_Msaves (upA u 8 0 (0 : Int32)))) := Eq.mp (congrArg (fun w => va_D A0 w) MW_ks) hD
      refine lv_aload_n hx hb dX5_metronome_41 rfl (lv_at hl 0 rfl) ?_
      refine lv_iload_n hx hb dX5_metronome_42 rfl (lv_at hl 1 rfl) ?_
      refine lv_iload_n hx hb dX5_metronome_43 rfl (lv_at hl 2 rfl) ?_
      refine lv_iload_n hx hb dX5_metronome_44 rfl (lv_at hl 3 rfl) ?_
      refine kc_w (As := [.int p0, .int p1, .int p2]) (rest := []) S (v := (some (.int ((f_Mcomes (f_Msaves (upA u 8 0 (0 : Int32))) p0 p1 p2).1)))) (c_X5_comes l dC dI cI cZ cO h0 q (f_Msaves (upA u 8 0 (0 : Int32))) p0 p1 p2 H.size (by rw [f_Msaves_o (show (0 : Nat) ≠ 2 by decide) (show (0 : Nat) ≠ 3 by decide), upA_o (show (0 : Nat) ≠ 8 by decide)]; exact (vp_lt5 hs c_28n))) gX5_metronome_X5_comes mi_X5_comes ⟨rfl, rfl⟩ ⟨Nat.le_of_ble_eq_true rfl, Nat.le_of_ble_eq_true rfl⟩ hK hP hD hS hA [0, 1, 2, 3, 4, 5, 6, 7] MW_all MW_fst rfl 0 rfl rfl ⟨Nat.le_refl _, Nat.le_refl _⟩ dX5_metronome_45 rfl hl.1 rfl (Nat.le_of_ble_eq_true rfl) (fun H locs hP hD hS => ?_)
      have hP : va_P (dC, dI) vwCl (MW cI cZ h0 q ((f_Mcomes (f_Msaves (upA u 8 0 (0 : Int32))) p0 p1 p2).2)) H := Eq.mp (congrArg (fun w => va_P (dC, dI) vwCl w H) MW_ks) hP
      have hD : va_D A0 (MW cI cZ h0 q ((f_Mcomes (f_Msaves (upA u 8 0 (0 : Int32))) p0 p1 p2).2)) := Eq.mp (congrArg (fun w => va_D A0 w) MW_ks) hD
      have r1 : f_Mmetronome u p0 p1 p2 = ((f_Mcomes (f_Msaves (upA u 8 0 (0 : Int32))) p0 p1 p2).1, (f_Mcomes (f_Msaves (upA u 8 0 (0 : Int32))) p0 p1 p2).2) := by
        rw [f_Mmetronome, if_pos c_11, if_neg c_28]
      exact kw_i hx hb hr hlk hP hS dX5_metronome_48 (by rw [r1]) (by rw [r1])
    · have c_28n : ((u 0 3).toNatClampNeg) = 6 := (nI_eq (a := ((u 0 3).toNatClampNeg)) (b := 6) (by omega) (by omega)).mp c_28
      refine lv_aload_n hx hb dX5_metronome_31 rfl (lv_at hl 0 rfl) ?_
      refine lv_iconst (v := (2 : Int32)) hx hb dX5_metronome_32 (by decide) ?_
      refine kc_w (As := [.int (2 : Int32)]) (rest := []) S (v := (some (.int ((f_Mfails (upA u 8 0 (0 : Int32)) (2 : Int32)).1)))) (c_X5_fails l dC dI cI cZ cO h0 q (upA u 8 0 (0 : Int32)) (2 : Int32) H.size) gX5_metronome_X5_fails mi_X5_fails ⟨rfl, rfl⟩ ⟨Nat.le_of_ble_eq_true rfl, Nat.le_of_ble_eq_true rfl⟩ hK hP hD hS hA [0, 1, 2, 3, 4, 5, 6, 7] MW_all MW_fst rfl 0 rfl rfl ⟨Nat.le_refl _, Nat.le_refl _⟩ dX5_metronome_33 rfl hl.1 rfl (Nat.le_of_ble_eq_true rfl) (fun H locs hP hD hS => ?_)
      have hP : va_P (dC, dI) vwCl (MW cI cZ h0 q ((f_Mfails (upA u 8 0 (0 : Int32)) (2 : Int32)).2)) H := Eq.mp (congrArg (fun w => va_P (dC, dI) vwCl w H) MW_ks) hP
      have hD : va_D A0 (MW cI cZ h0 q ((f_Mfails (upA u 8 0 (0 : Int32)) (2 : Int32)).2)) := Eq.mp (congrArg (fun w => va_D A0 w) MW_ks) hD
      have r2 : f_Mmetronome u p0 p1 p2 = ((f_Mfails (upA u 8 0 (0 : Int32)) (2 : Int32)).1, (f_Mfails (upA u 8 0 (0 : Int32)) (2 : Int32)).2) := by
        rw [f_Mmetronome, if_pos c_11, if_pos c_28]
      exact kw_i hx hb hr hlk hP hS dX5_metronome_36 (by rw [r2]) (by rw [r2])
  · refine lv_aload_n hx hb dX5_metronome_14 rfl (lv_at hl 0 rfl) ?_
    refine lv_iconst (v := (1 : Int32)) hx hb dX5_metronome_15 (by decide) ?_
    refine kc_w (As := [.int (1 : Int32)]) (rest := []) S (v := (some (.int ((f_Mfails (upA u 8 0 (0 : Int32)) (1 : Int32)).1)))) (c_X5_fails l dC dI cI cZ cO h0 q (upA u 8 0 (0 : Int32)) (1 : Int32) H.size) gX5_metronome_X5_fails mi_X5_fails ⟨rfl, rfl⟩ ⟨Nat.le_of_ble_eq_true rfl, Nat.le_of_ble_eq_true rfl⟩ hK hP hD hS hA [0, 1, 2, 3, 4, 5, 6, 7] MW_all MW_fst rfl 0 rfl rfl ⟨Nat.le_refl _, Nat.le_refl _⟩ dX5_metronome_16 rfl hl.1 rfl (Nat.le_of_ble_eq_true rfl) (fun H locs hP hD hS => ?_)
    have hP : va_P (dC, dI) vwCl (MW cI cZ h0 q ((f_Mfails (upA u 8 0 (0 : Int32)) (1 : Int32)).2)) H := Eq.mp (congrArg (fun w => va_P (dC, dI) vwCl w H) MW_ks) hP
    have hD : va_D A0 (MW cI cZ h0 q ((f_Mfails (upA u 8 0 (0 : Int32)) (1 : Int32)).2)) := Eq.mp (congrArg (fun w => va_D A0 w) MW_ks) hD
    have r3 : f_Mmetronome u p0 p1 p2 = ((f_Mfails (upA u 8 0 (0 : Int32)) (1 : Int32)).1, (f_Mfails (upA u 8 0 (0 : Int32)) (1 : Int32)).2) := by
      rw [f_Mmetronome, if_neg c_11]
    exact kw_i hx hb hr hlk hP hS dX5_metronome_19 (by rw [r3]) (by rw [r3])

def rm_X5_weigh : Room := { frames := 2, cells := 0, slots := 0, locals := 45 }
theorem mi_X5_weigh : kM yX5_weigh wsX5_weigh cX5_weigh 3 (some .int) 2 := ⟨⟨_, rfl⟩, by decide, by decide, by decide +kernel⟩
def f_Mweigh (u : BS) (p0 : Int32) (p1 : Int32) : Int32 × BS := if (f_MisArm (upA u 8 0 (0 : Int32)) p0) = true then (if (f_Min p1 (40 : Int32) (208 : Int32)) = true then ((f_Mchanges (f_Msaves (upA u 8 0 (0 : Int32))) (9 + (5 * p0.toNatClampNeg)) p1).1, (f_Mchanges (f_Msaves (upA u 8 0 (0 : Int32))) (9 + (5 * p0.toNatClampNeg)) p1).2) else ((f_Mfails (upA u 8 0 (0 : Int32)) (2 : Int32)).1, (f_Mfails (upA u 8 0 (0 : Int32)) (2 : Int32)).2)) else ((f_Mfails (upA u 8 0 (0 : Int32)) (1 : Int32)).1, (f_Mfails (upA u 8 0 (0 : Int32)) (1 : Int32)).2)
set_option maxHeartbeats 1000000 in
set_option maxRecDepth 100000 in
theorem c_X5_weigh (l : Launch) (dC : Nat → ClassId) (dI : Nat → Nat → Nat) (cI cZ cO : ClassId) (h0 : Nat) (q : Nat → Nat) (u : BS) (p0 : Int32) (p1 : Int32) (sz : Nat) (hk : vp_in (u 3 0) 7) (hs : vp_in (u 0 3) 7) : Met l yX5_weigh wsX5_weigh rm_X5_weigh (va_Pc [.ref h0, .int p0, .int p1] (fun U => U.heap.size = sz ∧ va_P (dC, dI) vwCl (MW cI cZ h0 q u) U.heap ∧ va_K (dC, dI) vwCl (TY cI cZ cO) U ∧ va_D (fun _ => True) (MW cI cZ h0 q u))) (kQw (some (.int (f_Mweigh u p0 p1).1)) (dC, dI) vwCl (MW cI cZ h0 q ((f_Mweigh u p0 p1).2)) (va_A (MW cI cZ h0 q u) sz)) 0 0 (va_A (MW cI cZ h0 q u) sz) := by
  refine kofW (cc := cX5_weigh) (maxL := 3) (ret := some .int) (by decide) rfl (Nat.le_of_ble_eq_true rfl) ?_
  intro p e s m args below meth c ls S hr hlk hnm hsz hP hK hD hS hA hl
  generalize hA0 : va_A (MW cI cZ h0 q u) sz = A0 at hD hS hA ⊢
  subst hsz
  obtain ⟨hx, hb, hml, hown, hts⟩ := id S
  have hk_n : (u 3 0).toNatClampNeg < 7 := vp_lt hk
  have hs_n : (u 0 3).toNatClampNeg < 7 := vp_lt hs
  have inX5 : ∀ w ∈ wsX50, w ∈ wsX5_weigh := fun w h => List.mem_cons_of_mem _ (List.mem_append_right _ h)
  have hl : lv_has ls 3 [(0, .ref h0), (1, .int p0), (2, .int p1)] := hl
  refine lv_aload_n hx hb dX5_weigh_0 rfl (lv_at hl 0 rfl) ?_
  refine lv_iconst (v := (0 : Int32)) hx hb dX5_weigh_1 (by decide) ?_
  refine va_put (D := (dC, dI)) (ci := 5) (v := .int (0 : Int32)) (ty := .int) (C := RX5) (T := TX5) (N := 14) hx hb hts inX5 tyX5 tyX5_ok nmX5 hown hK hP hD hS 0 rfl rfl 8 (by decide) (hts (.fieldLink RX5 32 "BoardMetronomesModel" "thrown" "I") (by decide +kernel)) (fun _ h9 => h9) rfl (by decide +kernel) rfl rfl (Nat.le_of_ble_eq_true rfl) dX5_weigh_2 (fun H locs hP hD hS => ?_)
  have hP : va_P (dC, dI) vwCl (MW cI cZ h0 q (upA u 8 0 (0 : Int32))) H := Eq.mp (congrArg (fun w => va_P (dC, dI) vwCl w H) MW_s8) hP
  have hD : va_D A0 (MW cI cZ h0 q (upA u 8 0 (0 : Int32))) := Eq.mp (congrArg (fun w => va_D A0 w) MW_s8) hD
  refine lv_aload_n hx hb dX5_weigh_5 rfl (lv_at hl 0 rfl) ?_
  refine lv_iload_n hx hb dX5_weigh_6 rfl (lv_at hl 1 rfl) ?_
  refine kc_v (As := [.int p0]) (rest := []) S (v := .int (bI (f_MisArm (upA u 8 0 (0 : Int32)) p0))) (c_X5_isArm l dC dI cI cZ cO h0 q (upA u 8 0 (0 : Int32)) p0) gX5_weigh_X5_isArm mi_X5_isArm ⟨rfl, rfl⟩ ⟨Nat.le_of_ble_eq_true rfl, Nat.le_of_ble_eq_true rfl⟩ hK hP 0 rfl rfl ⟨Nat.le_refl _, Nat.le_refl _⟩ dX5_weigh_7 rfl hl.1 rfl (Nat.le_of_ble_eq_true rfl) ?_
  refine kb_ne (tgt := 19) hx hb dX5_weigh_10 (by decide) (fun c_10 => ?_) (fun c_10 => ?_)
  · refine lv_iload_n hx hb dX5_weigh_19 rfl (lv_at hl 2 rfl) ?_
    refine lv_bipush (v := (40 : Int32)) hx hb dX5_weigh_20 (by decide) ?_
    refine lv_sipush (v := (208 : Int32)) hx hb dX5_weigh_22 (by decide) ?_
    refine kc_p (y := yX5_in) (As := [.int p1, .int (40 : Int32), .int (208 : Int32)]) (rest := []) rfl S (v := .int (bI (f_Min p1 (40 : Int32) (208 : Int32)))) (c_X5_in l p1 (40 : Int32) (208 : Int32)) gX5_weigh_X5_in mi_X5_in ⟨rfl, rfl⟩ ⟨Nat.le_of_ble_eq_true rfl, Nat.le_of_ble_eq_true rfl⟩ ⟨Nat.le_refl _, Nat.le_refl _⟩ dX5_weigh_25 rfl hl.1 rfl (Nat.le_of_ble_eq_true rfl) ?_
    refine kb_ne (tgt := 37) hx hb dX5_weigh_28 (by decide) (fun c_28 => ?_) (fun c_28 => ?_)
    · refine lv_aload_n hx hb dX5_weigh_37 rfl (lv_at hl 0 rfl) ?_
      refine kc_w (As := []) (rest := []) S (v := none) (c_X5_saves l dC dI cI cZ cO h0 q (upA u 8 0 (0 : Int32)) H.size (by rw [upA_o (show (3 : Nat) ≠ 8 by decide)]; exact hk)) gX5_weigh_X5_saves mi_X5_saves ⟨rfl, rfl⟩ ⟨Nat.le_of_ble_eq_true rfl, Nat.le_of_ble_eq_true rfl⟩ hK hP hD hS hA [0, 1, 2, 3, 4, 5, 6, 7] MW_all MW_fst rfl 0 rfl rfl ⟨Nat.le_refl _, Nat.le_refl _⟩ dX5_weigh_38 rfl hl.1 rfl (Nat.le_of_ble_eq_true rfl) (fun H locs hP hD hS => ?_)
      have hP : va_P (dC, dI) vwCl (MW cI cZ h0 q (f_Msaves (upA u 8 0 (0 : Int32)))) H := Eq.mp (congrArg (fun w => va_P (dC, dI) vwCl w H) MW_ks) hP
      have hD : va_D A0 (MW cI cZ h0 q (f_Msaves (upA u 8 0 (0 : Int32)))) := Eq.mp (congrArg (fun w => va_D A0 w) MW_ks) hD
      refine lv_aload_n hx hb dX5_weigh_41 rfl (lv_at hl 0 rfl) ?_
      refine lv_bipush (v := (9 : Int32)) hx hb dX5_weigh_42 (by decide) ?_
      refine lv_iconst (v := (5 : Int32)) hx hb dX5_weigh_44 (by decide) ?_
      refine lv_iload_n hx hb dX5_weigh_45 rfl (lv_at hl 1 rfl) ?_
      have z1 := (f_MisArm_vp (by rw [upA_o (show (0 : Nat) ≠ 8 by decide)]; exact hs) c_10)
      have z1_n := vp_lt z1
      refine kt_i (kcl z1).symm ?_
      refine k_imuln (x := 5) (y := p0.toNatClampNeg) hx hb dX5_weigh_46 ?_
      refine k_iaddn (x := 9) (y := 5 * p0.toNatClampNeg) hx hb dX5_weigh_47 ?_
      refine lv_iload_n hx hb dX5_weigh_48 rfl (lv_at hl 2 rfl) ?_
      refine kc_w (As := [.int (nI (9 + (5 * p0.toNatClampNeg))), .int p1]) (rest := []) S (v := (some (.int ((f_Mchanges (f_Msaves (upA u 8 0 (0 : Int32))) (9 + (5 * p0.toNatClampNeg)) p1).1)))) (c_X5_changes l dC dI cI cZ cO h0 q (f_Msaves (upA u 8 0 (0 : Int32))) (9 + (5 * p0.toNatClampNeg)) p1 H.size (by omega)) gX5_weigh_X5_changes mi_X5_changes ⟨rfl, rfl⟩ ⟨Nat.le_of_ble_eq_true rfl, Nat.le_of_ble_eq_true rfl⟩ hK hP hD hS hA [0, 1, 2, 3, 4, 5, 6, 7] MW_all MW_fst rfl 0 rfl rfl ⟨Nat.le_refl _, Nat.le_refl _⟩ dX5_weigh_49 rfl hl.1 rfl (Nat.le_of_ble_eq_true rfl) (fun H locs hP hD hS => ?_)
      have hP : va_P (dC, dI) vwCl (MW cI cZ h0 q ((f_Mchanges (f_Msaves (upA u 8 0 (0 : Int32))) (9 + (5 * p0.toNatClampNeg)) p1).2)) H := Eq.mp (congrArg (fun w => va_P (dC, dI) vwCl w H) MW_ks) hP
      have hD : va_D A0 (MW cI cZ h0 q ((f_Mchanges (f_Msaves (upA u 8 0 (0 : Int32))) (9 + (5 * p0.toNatClampNeg)) p1).2)) := Eq.mp (congrArg (fun w => va_D A0 w) MW_ks) hD
      have r2 : f_Mweigh u p0 p1 = ((f_Mchanges (f_Msaves (upA u 8 0 (0 : Int32))) (9 + (5 * p0.toNatClampNeg)) p1).1, (f_Mchanges (f_Msaves (upA u 8 0 (0 : Int32))) (9 + (5 * p0.toNatClampNeg)) p1).2) := by
        rw [f_Mweigh, if_pos c_10, if_pos c_28]
      exact kw_i hx hb hr hlk hP hS dX5_weigh_52 (by rw [r2]) (by rw [r2])
    · refine lv_aload_n hx hb dX5_weigh_31 rfl (lv_at hl 0 rfl) ?_
      refine lv_iconst (v := (2 : Int32)) hx hb dX5_weigh_32 (by decide) ?_
      refine kc_w (As := [.int (2 : Int32)]) (rest := []) S (v := (some (.int ((f_Mfails (upA u 8 0 (0 : Int32)) (2 : Int32)).1)))) (c_X5_fails l dC dI cI cZ cO h0 q (upA u 8 0 (0 : Int32)) (2 : Int32) H.size) gX5_weigh_X5_fails mi_X5_fails ⟨rfl, rfl⟩ ⟨Nat.le_of_ble_eq_true rfl, Nat.le_of_ble_eq_true rfl⟩ hK hP hD hS hA [0, 1, 2, 3, 4, 5, 6, 7] MW_all MW_fst rfl 0 rfl rfl ⟨Nat.le_refl _, Nat.le_refl _⟩ dX5_weigh_33 rfl hl.1 rfl (Nat.le_of_ble_eq_true rfl) (fun H locs hP hD hS => ?_)
      have hP : va_P (dC, dI) vwCl (MW cI cZ h0 q ((f_Mfails (upA u 8 0 (0 : Int32)) (2 : Int32)).2)) H := Eq.mp (congrArg (fun w => va_P (dC, dI) vwCl w H) MW_ks) hP
      have hD : va_D A0 (MW cI cZ h0 q ((f_Mfails (upA u 8 0 (0 : Int32)) (2 : Int32)).2)) := Eq.mp (congrArg (fun w => va_D A0 w) MW_ks) hD
      have r3 : f_Mweigh u p0 p1 = ((f_Mfails (upA u 8 0 (0 : Int32)) (2 : Int32)).1, (f_Mfails (upA u 8 0 (0 : Int32)) (2 : Int32)).2) := by
        rw [f_Mweigh, if_pos c_10, if_neg c_28]
      exact kw_i hx hb hr hlk hP hS dX5_weigh_36 (by rw [r3]) (by rw [r3])
  · refine lv_aload_n hx hb dX5_weigh_13 rfl (lv_at hl 0 rfl) ?_
    refine lv_iconst (v := (1 : Int32)) hx hb dX5_weigh_14 (by decide) ?_
    refine kc_w (As := [.int (1 : Int32)]) (rest := []) S (v := (some (.int ((f_Mfails (upA u 8 0 (0 : Int32)) (1 : Int32)).1)))) (c_X5_fails l dC dI cI cZ cO h0 q (upA u 8 0 (0 : Int32)) (1 : Int32) H.size) gX5_weigh_X5_fails mi_X5_fails ⟨rfl, rfl⟩ ⟨Nat.le_of_ble_eq_true rfl, Nat.le_of_ble_eq_true rfl⟩ hK hP hD hS hA [0, 1, 2, 3, 4, 5, 6, 7] MW_all MW_fst rfl 0 rfl rfl ⟨Nat.le_refl _, Nat.le_refl _⟩ dX5_weigh_15 rfl hl.1 rfl (Nat.le_of_ble_eq_true rfl) (fun H locs hP hD hS => ?_)
    have hP : va_P (dC, dI) vwCl (MW cI cZ h0 q ((f_Mfails (upA u 8 0 (0 : Int32)) (1 : Int32)).2)) H := Eq.mp (congrArg (fun w => va_P (dC, dI) vwCl w H) MW_ks) hP
    have hD : va_D A0 (MW cI cZ h0 q ((f_Mfails (upA u 8 0 (0 : Int32)) (1 : Int32)).2)) := Eq.mp (congrArg (fun w => va_D A0 w) MW_ks) hD
    have r4 : f_Mweigh u p0 p1 = ((f_Mfails (upA u 8 0 (0 : Int32)) (1 : Int32)).1, (f_Mfails (upA u 8 0 (0 : Int32)) (1 : Int32)).2) := by
      rw [f_Mweigh, if_neg c_10]
    exact kw_i hx hb hr hlk hP hS dX5_weigh_18 (by rw [r4]) (by rw [r4])

def rm_X5_wind : Room := { frames := 2, cells := 0, slots := 0, locals := 45 }
theorem mi_X5_wind : kM yX5_wind wsX5_wind cX5_wind 3 (some .int) 2 := ⟨⟨_, rfl⟩, by decide, by decide, by decide +kernel⟩
def f_Mwind (u : BS) (p0 : Int32) (p1 : Int32) : Int32 × BS := if (f_MisArm (upA u 8 0 (0 : Int32)) p0) = true then (if (f_Min p1 (0 : Int32) (999 : Int32)) = true then ((f_Mchanges (f_Msaves (upA u 8 0 (0 : Int32))) ((9 + (5 * p0.toNatClampNeg)) + 2) p1).1, (f_Mchanges (f_Msaves (upA u 8 0 (0 : Int32))) ((9 + (5 * p0.toNatClampNeg)) + 2) p1).2) else ((f_Mfails (upA u 8 0 (0 : Int32)) (2 : Int32)).1, (f_Mfails (upA u 8 0 (0 : Int32)) (2 : Int32)).2)) else ((f_Mfails (upA u 8 0 (0 : Int32)) (1 : Int32)).1, (f_Mfails (upA u 8 0 (0 : Int32)) (1 : Int32)).2)
set_option maxHeartbeats 1000000 in
set_option maxRecDepth 100000 in
theorem c_X5_wind (l : Launch) (dC : Nat → ClassId) (dI : Nat → Nat → Nat) (cI cZ cO : ClassId) (h0 : Nat) (q : Nat → Nat) (u : BS) (p0 : Int32) (p1 : Int32) (sz : Nat) (hk : vp_in (u 3 0) 7) (hs : vp_in (u 0 3) 7) : Met l yX5_wind wsX5_wind rm_X5_wind (va_Pc [.ref h0, .int p0, .int p1] (fun U => U.heap.size = sz ∧ va_P (dC, dI) vwCl (MW cI cZ h0 q u) U.heap ∧ va_K (dC, dI) vwCl (TY cI cZ cO) U ∧ va_D (fun _ => True) (MW cI cZ h0 q u))) (kQw (some (.int (f_Mwind u p0 p1).1)) (dC, dI) vwCl (MW cI cZ h0 q ((f_Mwind u p0 p1).2)) (va_A (MW cI cZ h0 q u) sz)) 0 0 (va_A (MW cI cZ h0 q u) sz) := by
  refine kofW (cc := cX5_wind) (maxL := 3) (ret := some .int) (by decide) rfl (Nat.le_of_ble_eq_true rfl) ?_
  intro p e s m args below meth c ls S hr hlk hnm hsz hP hK hD hS hA hl
  generalize hA0 : va_A (MW cI cZ h0 q u) sz = A0 at hD hS hA ⊢
  subst hsz
  obtain ⟨hx, hb, hml, hown, hts⟩ := id S
  have hk_n : (u 3 0).toNatClampNeg < 7 := vp_lt hk
  have hs_n : (u 0 3).toNatClampNeg < 7 := vp_lt hs
  have inX5 : ∀ w ∈ wsX50, w ∈ wsX5_wind := fun w h => List.mem_cons_of_mem _ (List.mem_append_right _ h)
  have hl : lv_has ls 3 [(0, .ref h0), (1, .int p0), (2, .int p1)] := hl
  refine lv_aload_n hx hb dX5_wind_0 rfl (lv_at hl 0 rfl) ?_
  refine lv_iconst (v := (0 : Int32)) hx hb dX5_wind_1 (by decide) ?_
  refine va_put (D := (dC, dI)) (ci := 5) (v := .int (0 : Int32)) (ty := .int) (C := RX5) (T := TX5) (N := 14) hx hb hts inX5 tyX5 tyX5_ok nmX5 hown hK hP hD hS 0 rfl rfl 8 (by decide) (hts (.fieldLink RX5 32 "BoardMetronomesModel" "thrown" "I") (by decide +kernel)) (fun _ h9 => h9) rfl (by decide +kernel) rfl rfl (Nat.le_of_ble_eq_true rfl) dX5_wind_2 (fun H locs hP hD hS => ?_)
  have hP : va_P (dC, dI) vwCl (MW cI cZ h0 q (upA u 8 0 (0 : Int32))) H := Eq.mp (congrArg (fun w => va_P (dC, dI) vwCl w H) MW_s8) hP
  have hD : va_D A0 (MW cI cZ h0 q (upA u 8 0 (0 : Int32))) := Eq.mp (congrArg (fun w => va_D A0 w) MW_s8) hD
  refine lv_aload_n hx hb dX5_wind_5 rfl (lv_at hl 0 rfl) ?_
  refine lv_iload_n hx hb dX5_wind_6 rfl (lv_at hl 1 rfl) ?_
  refine kc_v (As := [.int p0]) (rest := []) S (v := .int (bI (f_MisArm (upA u 8 0 (0 : Int32)) p0))) (c_X5_isArm l dC dI cI cZ cO h0 q (upA u 8 0 (0 : Int32)) p0) gX5_wind_X5_isArm mi_X5_isArm ⟨rfl, rfl⟩ ⟨Nat.le_of_ble_eq_true rfl, Nat.le_of_ble_eq_true rfl⟩ hK hP 0 rfl rfl ⟨Nat.le_refl _, Nat.le_refl _⟩ dX5_wind_7 rfl hl.1 rfl (Nat.le_of_ble_eq_true rfl) ?_
  refine kb_ne (tgt := 19) hx hb dX5_wind_10 (by decide) (fun c_10 => ?_) (fun c_10 => ?_)
  · refine lv_iload_n hx hb dX5_wind_19 rfl (lv_at hl 2 rfl) ?_
    refine lv_iconst (v := (0 : Int32)) hx hb dX5_wind_20 (by decide) ?_
    refine lv_sipush (v := (999 : Int32)) hx hb dX5_wind_21 (by decide) ?_
    refine kc_p (y := yX5_in) (As := [.int p1, .int (0 : Int32), .int (999 : Int32)]) (rest := []) rfl S (v := .int (bI (f_Min p1 (0 : Int32) (999 : Int32)))) (c_X5_in l p1 (0 : Int32) (999 : Int32)) gX5_wind_X5_in mi_X5_in ⟨rfl, rfl⟩ ⟨Nat.le_of_ble_eq_true rfl, Nat.le_of_ble_eq_true rfl⟩ ⟨Nat.le_refl _, Nat.le_refl _⟩ dX5_wind_24 rfl hl.1 rfl (Nat.le_of_ble_eq_true rfl) ?_
    refine kb_ne (tgt := 36) hx hb dX5_wind_27 (by decide) (fun c_27 => ?_) (fun c_27 => ?_)
    · refine lv_aload_n hx hb dX5_wind_36 rfl (lv_at hl 0 rfl) ?_
      refine kc_w (As := []) (rest := []) S (v := none) (c_X5_saves l dC dI cI cZ cO h0 q (upA u 8 0 (0 : Int32)) H.size (by rw [upA_o (show (3 : Nat) ≠ 8 by decide)]; exact hk)) gX5_wind_X5_saves mi_X5_saves ⟨rfl, rfl⟩ ⟨Nat.le_of_ble_eq_true rfl, Nat.le_of_ble_eq_true rfl⟩ hK hP hD hS hA [0, 1, 2, 3, 4, 5, 6, 7] MW_all MW_fst rfl 0 rfl rfl ⟨Nat.le_refl _, Nat.le_refl _⟩ dX5_wind_37 rfl hl.1 rfl (Nat.le_of_ble_eq_true rfl) (fun H locs hP hD hS => ?_)
      have hP : va_P (dC, dI) vwCl (MW cI cZ h0 q (f_Msaves (upA u 8 0 (0 : Int32)))) H := Eq.mp (congrArg (fun w => va_P (dC, dI) vwCl w H) MW_ks) hP
      have hD : va_D A0 (MW cI cZ h0 q (f_Msaves (upA u 8 0 (0 : Int32)))) := Eq.mp (congrArg (fun w => va_D A0 w) MW_ks) hD
      refine lv_aload_n hx hb dX5_wind_40 rfl (lv_at hl 0 rfl) ?_
      refine lv_bipush (v := (9 : Int32)) hx hb dX5_wind_41 (by decide) ?_
      refine lv_iconst (v := (5 : Int32)) hx hb dX5_wind_43 (by decide) ?_
      refine lv_iload_n hx hb dX5_wind_44 rfl (lv_at hl 1 rfl) ?_
      have z1 := (f_MisArm_vp (by rw [upA_o (show (0 : Nat) ≠ 8 by decide)]; exact hs) c_10)
      have z1_n := vp_lt z1
      refine kt_i (kcl z1).symm ?_
      refine k_imuln (x := 5) (y := p0.toNatClampNeg) hx hb dX5_wind_45 ?_
      refine k_iaddn (x := 9) (y := 5 * p0.toNatClampNeg) hx hb dX5_wind_46 ?_
      refine lv_iconst (v := (2 : Int32)) hx hb dX5_wind_47 (by decide) ?_
      refine k_iaddn (x := 9 + (5 * p0.toNatClampNeg)) (y := 2) hx hb dX5_wind_48 ?_
      refine lv_iload_n hx hb dX5_wind_49 rfl (lv_at hl 2 rfl) ?_
      refine kc_w (As := [.int (nI ((9 + (5 * p0.toNatClampNeg)) + 2)), .int p1]) (rest := []) S (v := (some (.int ((f_Mchanges (f_Msaves (upA u 8 0 (0 : Int32))) ((9 + (5 * p0.toNatClampNeg)) + 2) p1).1)))) (c_X5_changes l dC dI cI cZ cO h0 q (f_Msaves (upA u 8 0 (0 : Int32))) ((9 + (5 * p0.toNatClampNeg)) + 2) p1 H.size (by omega)) gX5_wind_X5_changes mi_X5_changes ⟨rfl, rfl⟩ ⟨Nat.le_of_ble_eq_true rfl, Nat.le_of_ble_eq_true rfl⟩ hK hP hD hS hA [0, 1, 2, 3, 4, 5, 6, 7] MW_all MW_fst rfl 0 rfl rfl ⟨Nat.le_refl _, Nat.le_refl _⟩ dX5_wind_50 rfl hl.1 rfl (Nat.le_of_ble_eq_true rfl) (fun H locs hP hD hS => ?_)
      have hP : va_P (dC, dI) vwCl (MW cI cZ h0 q ((f_Mchanges (f_Msaves (upA u 8 0 (0 : Int32))) ((9 + (5 * p0.toNatClampNeg)) + 2) p1).2)) H := Eq.mp (congrArg (fun w => va_P (dC, dI) vwCl w H) MW_ks) hP
      have hD : va_D A0 (MW cI cZ h0 q ((f_Mchanges (f_Msaves (upA u 8 0 (0 : Int32))) ((9 + (5 * p0.toNatClampNeg)) + 2) p1).2)) := Eq.mp (congrArg (fun w => va_D A0 w) MW_ks) hD
      have r2 : f_Mwind u p0 p1 = ((f_Mchanges (f_Msaves (upA u 8 0 (0 : Int32))) ((9 + (5 * p0.toNatClampNeg)) + 2) p1).1, (f_Mchanges (f_Msaves (upA u 8 0 (0 : Int32))) ((9 + (5 * p0.toNatClampNeg)) + 2) p1).2) := by
        rw [f_Mwind, if_pos c_10, if_pos c_27]
      exact kw_i hx hb hr hlk hP hS dX5_wind_53 (by rw [r2]) (by rw [r2])
    · refine lv_aload_n hx hb dX5_wind_30 rfl (lv_at hl 0 rfl) ?_
      refine lv_iconst (v := (2 : Int32)) hx hb dX5_wind_31 (by decide) ?_
      refine kc_w (As := [.int (2 : Int32)]) (rest := []) S (v := (some (.int ((f_Mfails (upA u 8 0 (0 : Int32)) (2 : Int32)).1)))) (c_X5_fails l dC dI cI cZ cO h0 q (upA u 8 0 (0 : Int32)) (2 : Int32) H.size) gX5_wind_X5_fails mi_X5_fails ⟨rfl, rfl⟩ ⟨Nat.le_of_ble_eq_true rfl, Nat.le_of_ble_eq_true rfl⟩ hK hP hD hS hA [0, 1, 2, 3, 4, 5, 6, 7] MW_all MW_fst rfl 0 rfl rfl ⟨Nat.le_refl _, Nat.le_refl _⟩ dX5_wind_32 rfl hl.1 rfl (Nat.le_of_ble_eq_true rfl) (fun H locs hP hD hS => ?_)
      have hP : va_P (dC, dI) vwCl (MW cI cZ h0 q ((f_Mfails (upA u 8 0 (0 : Int32)) (2 : Int32)).2)) H := Eq.mp (congrArg (fun w => va_P (dC, dI) vwCl w H) MW_ks) hP
      have hD : va_D A0 (MW cI cZ h0 q ((f_Mfails (upA u 8 0 (0 : Int32)) (2 : Int32)).2)) := Eq.mp (congrArg (fun w => va_D A0 w) MW_ks) hD
      have r3 : f_Mwind u p0 p1 = ((f_Mfails (upA u 8 0 (0 : Int32)) (2 : Int32)).1, (f_Mfails (upA u 8 0 (0 : Int32)) (2 : Int32)).2) := by
        rw [f_Mwind, if_pos c_10, if_neg c_27]
      exact kw_i hx hb hr hlk hP hS dX5_wind_35 (by rw [r3]) (by rw [r3])
  · refine lv_aload_n hx hb dX5_wind_13 rfl (lv_at hl 0 rfl) ?_
    refine lv_iconst (v := (1 : Int32)) hx hb dX5_wind_14 (by decide) ?_
    refine kc_w (As := [.int (1 : Int32)]) (rest := []) S (v := (some (.int ((f_Mfails (upA u 8 0 (0 : Int32)) (1 : Int32)).1)))) (c_X5_fails l dC dI cI cZ cO h0 q (upA u 8 0 (0 : Int32)) (1 : Int32) H.size) gX5_wind_X5_fails mi_X5_fails ⟨rfl, rfl⟩ ⟨Nat.le_of_ble_eq_true rfl, Nat.le_of_ble_eq_true rfl⟩ hK hP hD hS hA [0, 1, 2, 3, 4, 5, 6, 7] MW_all MW_fst rfl 0 rfl rfl ⟨Nat.le_refl _, Nat.le_refl _⟩ dX5_wind_15 rfl hl.1 rfl (Nat.le_of_ble_eq_true rfl) (fun H locs hP hD hS => ?_)
    have hP : va_P (dC, dI) vwCl (MW cI cZ h0 q ((f_Mfails (upA u 8 0 (0 : Int32)) (1 : Int32)).2)) H := Eq.mp (congrArg (fun w => va_P (dC, dI) vwCl w H) MW_ks) hP
    have hD : va_D A0 (MW cI cZ h0 q ((f_Mfails (upA u 8 0 (0 : Int32)) (1 : Int32)).2)) := Eq.mp (congrArg (fun w => va_D A0 w) MW_ks) hD
    have r4 : f_Mwind u p0 p1 = ((f_Mfails (upA u 8 0 (0 : Int32)) (1 : Int32)).1, (f_Mfails (upA u 8 0 (0 : Int32)) (1 : Int32)).2) := by
      rw [f_Mwind, if_neg c_10]
    exact kw_i hx hb hr hlk hP hS dX5_wind_18 (by rw [r4]) (by rw [r4])

def rm_X5_holds : Room := { frames := 0, cells := 0, slots := 0, locals := 0 }
theorem mi_X5_holds : kM yX5_holds wsX5_holds cX5_holds 3 (some .int) 1 := ⟨⟨_, rfl⟩, by decide, by decide, by decide +kernel⟩
def f_Mholds (u : BS) (k0 : Nat) : Int32 × BS := ((1 : Int32) - (u 0 ((9 + (5 * k0)) + 3)), upA u 0 ((9 + (5 * k0)) + 3) ((1 : Int32) - (u 0 ((9 + (5 * k0)) + 3))))
set_option maxHeartbeats 1000000 in
set_option maxRecDepth 100000 in
theorem c_X5_holds (l : Launch) (dC : Nat → ClassId) (dI : Nat → Nat → Nat) (cI cZ cO : ClassId) (h0 : Nat) (q : Nat → Nat) (u : BS) (k0 : Nat) (sz : Nat) (hk0 : k0 < 6) : Met l yX5_holds wsX5_holds rm_X5_holds (va_Pc [.ref h0, .int (nI k0)] (fun U => U.heap.size = sz ∧ va_P (dC, dI) vwCl (MW cI cZ h0 q u) U.heap ∧ va_K (dC, dI) vwCl (TY cI cZ cO) U ∧ va_D (fun _ => True) (MW cI cZ h0 q u))) (kQw (some (.int (f_Mholds u k0).1)) (dC, dI) vwCl (MW cI cZ h0 q ((f_Mholds u k0).2)) (va_A (MW cI cZ h0 q u) sz)) 0 0 (va_A (MW cI cZ h0 q u) sz) := by
  refine kofW (cc := cX5_holds) (maxL := 3) (ret := some .int) (by decide) rfl (Nat.le_of_ble_eq_true rfl) ?_
  intro p e s m args below meth c ls S hr hlk hnm hsz hP hK hD hS hA hl
  generalize hA0 : va_A (MW cI cZ h0 q u) sz = A0 at hD hS hA ⊢
  subst hsz
  obtain ⟨hx, hb, hml, hown, hts⟩ := id S
  have inX5 : ∀ w ∈ wsX50, w ∈ wsX5_holds := fun w h => List.mem_cons_of_mem _ (List.mem_append_right _ h)
  have hl : lv_has ls 3 [(0, .ref h0), (1, .int (nI k0))] := hl
  refine lv_bipush (v := (9 : Int32)) hx hb dX5_holds_0 (by decide) ?_
  refine lv_iconst (v := (5 : Int32)) hx hb dX5_holds_2 (by decide) ?_
  refine lv_iload_n hx hb dX5_holds_3 rfl (lv_at hl 1 rfl) ?_
  refine k_imuln (x := 5) (y := k0) hx hb dX5_holds_4 ?_
  refine k_iaddn (x := 9) (y := 5 * k0) hx hb dX5_holds_5 ?_
  refine lv_iconst (v := (3 : Int32)) hx hb dX5_holds_6 (by decide) ?_
  refine k_iaddn (x := 9 + (5 * k0)) (y := 3) hx hb dX5_holds_7 ?_
  refine lv_istore_n (lv' := [(2, .int (nI ((9 + (5 * k0)) + 3))), (0, .ref h0), (1, .int (nI k0))]) hx hb dX5_holds_8 rfl hl (by decide) rfl (fun ls hl => ?_)
  refine lv_aload_n hx hb dX5_holds_9 rfl (lv_at hl 1 rfl) ?_
  refine va_get (D := (dC, dI)) (ci := 5) (v := .ref (q 0)) (C := RX5) (T := TX5) (N := 14) hx hb hts inX5 hown hK hP 0 rfl rfl 0 (by decide) (hts (.fieldLink RX5 7 "BoardMetronomesModel" "now" "[I") (by decide +kernel)) (fun _ h9 => h9) rfl dX5_holds_10 ?_
  refine lv_iload_n hx hb dX5_holds_13 rfl (lv_at hl 0 rfl) ?_
  refine lv_iconst (v := (1 : Int32)) hx hb dX5_holds_14 (by decide) ?_
  refine lv_aload_n hx hb dX5_holds_15 rfl (lv_at hl 1 rfl) ?_
  refine va_get (D := (dC, dI)) (ci := 5) (v := .ref (q 0)) (C := RX5) (T := TX5) (N := 14) hx hb hts inX5 hown hK hP 0 rfl rfl 0 (by decide) (hts (.fieldLink RX5 7 "BoardMetronomesModel" "now" "[I") (by decide +kernel)) (fun _ h9 => h9) rfl dX5_holds_16 ?_
  refine lv_iload_n hx hb dX5_holds_19 rfl (lv_at hl 0 rfl) ?_
  refine k_iald (D := (dC, dI)) hx hb hK hP 1 0 rfl rfl (j := ((9 + (5 * k0)) + 3)) (by omega) (by decide) dX5_holds_20 ?_
  refine lv_isub hx hb dX5_holds_21 ?_
  refine k_iast (D := (dC, dI)) hx hb hK hP hD hS 1 0 rfl rfl (j := ((9 + (5 * k0)) + 3)) (by omega) (by decide) dX5_holds_22 (fun H locs hP hD hS => ?_)
  have hP : va_P (dC, dI) vwCl (MW cI cZ h0 q (upA u 0 ((9 + (5 * k0)) + 3) ((1 : Int32) - (u 0 ((9 + (5 * k0)) + 3))))) H := Eq.mp (congrArg (fun w => va_P (dC, dI) vwCl w H) MW_a0) hP
  have hD : va_D A0 (MW cI cZ h0 q (upA u 0 ((9 + (5 * k0)) + 3) ((1 : Int32) - (u 0 ((9 + (5 * k0)) + 3))))) := Eq.mp (congrArg (fun w => va_D A0 w) MW_a0) hD
  refine lv_aload_n hx hb dX5_holds_23 rfl (lv_at hl 1 rfl) ?_
  refine va_get (D := (dC, dI)) (ci := 5) (v := .ref (q 0)) (C := RX5) (T := TX5) (N := 14) hx hb hts inX5 hown hK hP 0 rfl rfl 0 (by decide) (hts (.fieldLink RX5 7 "BoardMetronomesModel" "now" "[I") (by decide +kernel)) (fun _ h9 => h9) rfl dX5_holds_24 ?_
  refine lv_iload_n hx hb dX5_holds_27 rfl (lv_at hl 0 rfl) ?_
  refine k_iald (D := (dC, dI)) hx hb hK hP 1 0 rfl rfl (j := ((9 + (5 * k0)) + 3)) (by omega) (by decide) dX5_holds_28 ?_
  rw [upA_s]
  have r1 : f_Mholds u k0 = ((1 : Int32) - (u 0 ((9 + (5 * k0)) + 3)), upA u 0 ((9 + (5 * k0)) + 3) ((1 : Int32) - (u 0 ((9 + (5 * k0)) + 3)))) := by
    rw [f_Mholds]
  exact kw_i hx hb hr hlk hP hS dX5_holds_29 (by rw [r1]) (by rw [r1])

def rm_X5_hold : Room := { frames := 2, cells := 0, slots := 0, locals := 45 }
theorem mi_X5_hold : kM yX5_hold wsX5_hold cX5_hold 2 (some .int) 1 := ⟨⟨_, rfl⟩, by decide, by decide, by decide +kernel⟩
def f_Mhold (u : BS) (p0 : Int32) : Int32 × BS := if (f_MisArm (upA u 8 0 (0 : Int32)) p0) = true then ((f_Mholds (f_Msaves (upA u 8 0 (0 : Int32))) p0.toNatClampNeg).1, (f_Mholds (f_Msaves (upA u 8 0 (0 : Int32))) p0.toNatClampNeg).2) else ((f_Mfails (upA u 8 0 (0 : Int32)) (1 : Int32)).1, (f_Mfails (upA u 8 0 (0 : Int32)) (1 : Int32)).2)
set_option maxHeartbeats 1000000 in
set_option maxRecDepth 100000 in
theorem c_X5_hold (l : Launch) (dC : Nat → ClassId) (dI : Nat → Nat → Nat) (cI cZ cO : ClassId) (h0 : Nat) (q : Nat → Nat) (u : BS) (p0 : Int32) (sz : Nat) (hk : vp_in (u 3 0) 7) (hs : vp_in (u 0 3) 7) : Met l yX5_hold wsX5_hold rm_X5_hold (va_Pc [.ref h0, .int p0] (fun U => U.heap.size = sz ∧ va_P (dC, dI) vwCl (MW cI cZ h0 q u) U.heap ∧ va_K (dC, dI) vwCl (TY cI cZ cO) U ∧ va_D (fun _ => True) (MW cI cZ h0 q u))) (kQw (some (.int (f_Mhold u p0).1)) (dC, dI) vwCl (MW cI cZ h0 q ((f_Mhold u p0).2)) (va_A (MW cI cZ h0 q u) sz)) 0 0 (va_A (MW cI cZ h0 q u) sz) := by
  refine kofW (cc := cX5_hold) (maxL := 2) (ret := some .int) (by decide) rfl (Nat.le_of_ble_eq_true rfl) ?_
  intro p e s m args below meth c ls S hr hlk hnm hsz hP hK hD hS hA hl
  generalize hA0 : va_A (MW cI cZ h0 q u) sz = A0 at hD hS hA ⊢
  subst hsz
  obtain ⟨hx, hb, hml, hown, hts⟩ := id S
  have hk_n : (u 3 0).toNatClampNeg < 7 := vp_lt hk
  have hs_n : (u 0 3).toNatClampNeg < 7 := vp_lt hs
  have inX5 : ∀ w ∈ wsX50, w ∈ wsX5_hold := fun w h => List.mem_cons_of_mem _ (List.mem_append_right _ h)
  have hl : lv_has ls 2 [(0, .ref h0), (1, .int p0)] := hl
  refine lv_aload_n hx hb dX5_hold_0 rfl (lv_at hl 0 rfl) ?_
  refine lv_iconst (v := (0 : Int32)) hx hb dX5_hold_1 (by decide) ?_
  refine va_put (D := (dC, dI)) (ci := 5) (v := .int (0 : Int32)) (ty := .int) (C := RX5) (T := TX5) (N := 14) hx hb hts inX5 tyX5 tyX5_ok nmX5 hown hK hP hD hS 0 rfl rfl 8 (by decide) (hts (.fieldLink RX5 32 "BoardMetronomesModel" "thrown" "I") (by decide +kernel)) (fun _ h9 => h9) rfl (by decide +kernel) rfl rfl (Nat.le_of_ble_eq_true rfl) dX5_hold_2 (fun H locs hP hD hS => ?_)
  have hP : va_P (dC, dI) vwCl (MW cI cZ h0 q (upA u 8 0 (0 : Int32))) H := Eq.mp (congrArg (fun w => va_P (dC, dI) vwCl w H) MW_s8) hP
  have hD : va_D A0 (MW cI cZ h0 q (upA u 8 0 (0 : Int32))) := Eq.mp (congrArg (fun w => va_D A0 w) MW_s8) hD
  refine lv_aload_n hx hb dX5_hold_5 rfl (lv_at hl 0 rfl) ?_
  refine lv_iload_n hx hb dX5_hold_6 rfl (lv_at hl 1 rfl) ?_
  refine kc_v (As := [.int p0]) (rest := []) S (v := .int (bI (f_MisArm (upA u 8 0 (0 : Int32)) p0))) (c_X5_isArm l dC dI cI cZ cO h0 q (upA u 8 0 (0 : Int32)) p0) gX5_hold_X5_isArm mi_X5_isArm ⟨rfl, rfl⟩ ⟨Nat.le_of_ble_eq_true rfl, Nat.le_of_ble_eq_true rfl⟩ hK hP 0 rfl rfl ⟨Nat.le_refl _, Nat.le_refl _⟩ dX5_hold_7 rfl hl.1 rfl (Nat.le_of_ble_eq_true rfl) ?_
  refine kb_ne (tgt := 19) hx hb dX5_hold_10 (by decide) (fun c_10 => ?_) (fun c_10 => ?_)
  · refine lv_aload_n hx hb dX5_hold_19 rfl (lv_at hl 0 rfl) ?_
    refine kc_w (As := []) (rest := []) S (v := none) (c_X5_saves l dC dI cI cZ cO h0 q (upA u 8 0 (0 : Int32)) H.size (by rw [upA_o (show (3 : Nat) ≠ 8 by decide)]; exact hk)) gX5_hold_X5_saves mi_X5_saves ⟨rfl, rfl⟩ ⟨Nat.le_of_ble_eq_true rfl, Nat.le_of_ble_eq_true rfl⟩ hK hP hD hS hA [0, 1, 2, 3, 4, 5, 6, 7] MW_all MW_fst rfl 0 rfl rfl ⟨Nat.le_refl _, Nat.le_refl _⟩ dX5_hold_20 rfl hl.1 rfl (Nat.le_of_ble_eq_true rfl) (fun H locs hP hD hS => ?_)
    have hP : va_P (dC, dI) vwCl (MW cI cZ h0 q (f_Msaves (upA u 8 0 (0 : Int32)))) H := Eq.mp (congrArg (fun w => va_P (dC, dI) vwCl w H) MW_ks) hP
    have hD : va_D A0 (MW cI cZ h0 q (f_Msaves (upA u 8 0 (0 : Int32)))) := Eq.mp (congrArg (fun w => va_D A0 w) MW_ks) hD
    refine lv_aload_n hx hb dX5_hold_23 rfl (lv_at hl 0 rfl) ?_
    refine lv_iload_n hx hb dX5_hold_24 rfl (lv_at hl 1 rfl) ?_
    refine kc_w (As := [.int (nI p0.toNatClampNeg)]) (rest := []) S (v := (some (.int ((f_Mholds (f_Msaves (upA u 8 0 (0 : Int32))) p0.toNatClampNeg).1)))) (c_X5_holds l dC dI cI cZ cO h0 q (f_Msaves (upA u 8 0 (0 : Int32))) p0.toNatClampNeg H.size (vp_lt (f_MisArm_vp (by rw [upA_o (show (0 : Nat) ≠ 8 by decide)]; exact hs) c_10))) gX5_hold_X5_holds mi_X5_holds ⟨rfl, rfl⟩ ⟨Nat.le_of_ble_eq_true rfl, Nat.le_of_ble_eq_true rfl⟩ hK hP hD hS hA [0, 1, 2, 3, 4, 5, 6, 7] MW_all MW_fst rfl 0 rfl rfl ⟨Nat.le_refl _, Nat.le_refl _⟩ dX5_hold_25 rfl hl.1 (by rw [kcl (f_MisArm_vp (by rw [upA_o (show (0 : Nat) ≠ 8 by decide)]; exact hs) c_10)]; rfl) (Nat.le_of_ble_eq_true rfl) (fun H locs hP hD hS => ?_)
    have hP : va_P (dC, dI) vwCl (MW cI cZ h0 q ((f_Mholds (f_Msaves (upA u 8 0 (0 : Int32))) p0.toNatClampNeg).2)) H := Eq.mp (congrArg (fun w => va_P (dC, dI) vwCl w H) MW_ks) hP
    have hD : va_D A0 (MW cI cZ h0 q ((f_Mholds (f_Msaves (upA u 8 0 (0 : Int32))) p0.toNatClampNeg).2)) := Eq.mp (congrArg (fun w => va_D A0 w) MW_ks) hD
    have r1 : f_Mhold u p0 = ((f_Mholds (f_Msaves (upA u 8 0 (0 : Int32))) p0.toNatClampNeg).1, (f_Mholds (f_Msaves (upA u 8 0 (0 : Int32))) p0.toNatClampNeg).2) := by
      rw [f_Mhold, if_pos c_10]
    exact kw_i hx hb hr hlk hP hS dX5_hold_28 (by rw [r1]) (by rw [r1])
  · refine lv_aload_n hx hb dX5_hold_13 rfl (lv_at hl 0 rfl) ?_
    refine lv_iconst (v := (1 : Int32)) hx hb dX5_hold_14 (by decide) ?_
    refine kc_w (As := [.int (1 : Int32)]) (rest := []) S (v := (some (.int ((f_Mfails (upA u 8 0 (0 : Int32)) (1 : Int32)).1)))) (c_X5_fails l dC dI cI cZ cO h0 q (upA u 8 0 (0 : Int32)) (1 : Int32) H.size) gX5_hold_X5_fails mi_X5_fails ⟨rfl, rfl⟩ ⟨Nat.le_of_ble_eq_true rfl, Nat.le_of_ble_eq_true rfl⟩ hK hP hD hS hA [0, 1, 2, 3, 4, 5, 6, 7] MW_all MW_fst rfl 0 rfl rfl ⟨Nat.le_refl _, Nat.le_refl _⟩ dX5_hold_15 rfl hl.1 rfl (Nat.le_of_ble_eq_true rfl) (fun H locs hP hD hS => ?_)
    have hP : va_P (dC, dI) vwCl (MW cI cZ h0 q ((f_Mfails (upA u 8 0 (0 : Int32)) (1 : Int32)).2)) H := Eq.mp (congrArg (fun w => va_P (dC, dI) vwCl w H) MW_ks) hP
    have hD : va_D A0 (MW cI cZ h0 q ((f_Mfails (upA u 8 0 (0 : Int32)) (1 : Int32)).2)) := Eq.mp (congrArg (fun w => va_D A0 w) MW_ks) hD
    have r2 : f_Mhold u p0 = ((f_Mfails (upA u 8 0 (0 : Int32)) (1 : Int32)).1, (f_Mfails (upA u 8 0 (0 : Int32)) (1 : Int32)).2) := by
      rw [f_Mhold, if_neg c_10]
    exact kw_i hx hb hr hlk hP hS dX5_hold_18 (by rw [r2]) (by rw [r2])

def rm_X5_take : Room := { frames := 2, cells := 0, slots := 0, locals := 45 }
theorem mi_X5_take : kM yX5_take wsX5_take cX5_take 1 (some .int) 0 := ⟨⟨_, rfl⟩, by decide, by decide, by decide +kernel⟩
def f_Mtake (u : BS) : Int32 × BS := if (nI ((u 0 3).toNatClampNeg)) = 0 then ((f_Mfails (upA u 8 0 (0 : Int32)) (1 : Int32)).1, (f_Mfails (upA u 8 0 (0 : Int32)) (1 : Int32)).2) else (nI (((u 0 3).toNatClampNeg) - 1), upA (f_Msaves (upA u 8 0 (0 : Int32))) 0 3 (nI (((u 0 3).toNatClampNeg) - 1)))
set_option maxHeartbeats 1000000 in
set_option maxRecDepth 100000 in
theorem c_X5_take (l : Launch) (dC : Nat → ClassId) (dI : Nat → Nat → Nat) (cI cZ cO : ClassId) (h0 : Nat) (q : Nat → Nat) (u : BS) (sz : Nat) (hk : vp_in (u 3 0) 7) (hs : vp_in (u 0 3) 7) : Met l yX5_take wsX5_take rm_X5_take (va_Pc [.ref h0] (fun U => U.heap.size = sz ∧ va_P (dC, dI) vwCl (MW cI cZ h0 q u) U.heap ∧ va_K (dC, dI) vwCl (TY cI cZ cO) U ∧ va_D (fun _ => True) (MW cI cZ h0 q u))) (kQw (some (.int (f_Mtake u).1)) (dC, dI) vwCl (MW cI cZ h0 q ((f_Mtake u).2)) (va_A (MW cI cZ h0 q u) sz)) 0 0 (va_A (MW cI cZ h0 q u) sz) := by
  refine kofW (cc := cX5_take) (maxL := 1) (ret := some .int) (by decide) rfl (Nat.le_of_ble_eq_true rfl) ?_
  intro p e s m args below meth c ls S hr hlk hnm hsz hP hK hD hS hA hl
  generalize hA0 : va_A (MW cI cZ h0 q u) sz = A0 at hD hS hA ⊢
  subst hsz
  obtain ⟨hx, hb, hml, hown, hts⟩ := id S
  have hk_n : (u 3 0).toNatClampNeg < 7 := vp_lt hk
  have hs_n : (u 0 3).toNatClampNeg < 7 := vp_lt hs
  have inX5 : ∀ w ∈ wsX50, w ∈ wsX5_take := fun w h => List.mem_cons_of_mem _ (List.mem_append_right _ h)
  have hl : lv_has ls 1 [(0, .ref h0)] := hl
  refine lv_aload_n hx hb dX5_take_0 rfl (lv_at hl 0 rfl) ?_
  refine lv_iconst (v := (0 : Int32)) hx hb dX5_take_1 (by decide) ?_
  refine va_put (D := (dC, dI)) (ci := 5) (v := .int (0 : Int32)) (ty := .int) (C := RX5) (T := TX5) (N := 14) hx hb hts inX5 tyX5 tyX5_ok nmX5 hown hK hP hD hS 0 rfl rfl 8 (by decide) (hts (.fieldLink RX5 32 "BoardMetronomesModel" "thrown" "I") (by decide +kernel)) (fun _ h9 => h9) rfl (by decide +kernel) rfl rfl (Nat.le_of_ble_eq_true rfl) dX5_take_2 (fun H locs hP hD hS => ?_)
  have hP : va_P (dC, dI) vwCl (MW cI cZ h0 q (upA u 8 0 (0 : Int32))) H := Eq.mp (congrArg (fun w => va_P (dC, dI) vwCl w H) MW_s8) hP
  have hD : va_D A0 (MW cI cZ h0 q (upA u 8 0 (0 : Int32))) := Eq.mp (congrArg (fun w => va_D A0 w) MW_s8) hD
  refine lv_aload_n hx hb dX5_take_5 rfl (lv_at hl 0 rfl) ?_
  refine va_get (D := (dC, dI)) (ci := 5) (v := .ref (q 0)) (C := RX5) (T := TX5) (N := 14) hx hb hts inX5 hown hK hP 0 rfl rfl 0 (by decide) (hts (.fieldLink RX5 7 "BoardMetronomesModel" "now" "[I") (by decide +kernel)) (fun _ h9 => h9) rfl dX5_take_6 ?_
  refine lv_iconst (v := (3 : Int32)) hx hb dX5_take_9 (by decide) ?_
  refine k_iald (D := (dC, dI)) hx hb hK hP 1 0 rfl rfl (j := 3) (by omega) (by decide) dX5_take_10 ?_
  rw [upA_o (show (0 : Nat) ≠ 8 by decide)]
  refine kt_i (kcl hs).symm ?_
  refine lv_if_ne (tgt := 20) hx hb dX5_take_11 (by decide) (fun c_11 => ?_) (fun c_11 => ?_)
  · have c_11n : ¬ ((u 0 3).toNatClampNeg) = 0 := fun z => c_11 ((nI_eq (a := ((u 0 3).toNatClampNeg)) (b := 0) (by omega) (by omega)).mpr z)
    refine lv_aload_n hx hb dX5_take_20 rfl (lv_at hl 0 rfl) ?_
    refine kc_w (As := []) (rest := []) S (v := none) (c_X5_saves l dC dI cI cZ cO h0 q (upA u 8 0 (0 : Int32)) H.size (by rw [upA_o (show (3 : Nat) ≠ 8 by decide)]; exact hk)) gX5_take_X5_saves mi_X5_saves ⟨rfl, rfl⟩ ⟨Nat.le_of_ble_eq_true rfl, Nat.le_of_ble_eq_true rfl⟩ hK hP hD hS hA [0, 1, 2, 3, 4, 5, 6, 7] MW_all MW_fst rfl 0 rfl rfl ⟨Nat.le_refl _, Nat.le_refl _⟩ dX5_take_21 rfl hl.1 rfl (Nat.le_of_ble_eq_true rfl) (fun H locs hP hD hS => ?_)
    have hP : va_P (dC, dI) vwCl (MW cI cZ h0 q (f_Msaves (upA u 8 0 (0 : Int32)))) H := Eq.mp (congrArg (fun w => va_P (dC, dI) vwCl w H) MW_ks) hP
    have hD : va_D A0 (MW cI cZ h0 q (f_Msaves (upA u 8 0 (0 : Int32)))) := Eq.mp (congrArg (fun w => va_D A0 w) MW_ks) hD
    refine lv_aload_n hx hb dX5_take_24 rfl (lv_at hl 0 rfl) ?_
    refine va_get (D := (dC, dI)) (ci := 5) (v := .ref (q 0)) (C := RX5) (T := TX5) (N := 14) hx hb hts inX5 hown hK hP 0 rfl rfl 0 (by decide) (hts (.fieldLink RX5 7 "BoardMetronomesModel" "now" "[I") (by decide +kernel)) (fun _ h9 => h9) rfl dX5_take_25 ?_
    refine lv_iconst (v := (3 : Int32)) hx hb dX5_take_28 (by decide) ?_
    refine lv_dup2_11 hx hb dX5_take_29 rfl rfl ?_
    refine k_iald (D := (dC, dI)) hx hb hK hP 1 0 rfl rfl (j := 3) (by omega) (by decide) dX5_take_30 ?_
    rw [f_Msaves_o (show (0 : Nat) ≠ 2 by decide) (show (0 : Nat) ≠ 3 by decide), upA_o (show (0 : Nat) ≠ 8 by decide)]
    refine kt_i (kcl hs).symm ?_
    refine lv_iconst (v := (1 : Int32)) hx hb dX5_take_31 (by decide) ?_
    refine k_isubn (x := (u 0 3).toNatClampNeg) (y := 1) hx hb dX5_take_32 (by omega) ?_
    refine k_iast (D := (dC, dI)) hx hb hK hP hD hS 1 0 rfl rfl (j := 3) (by omega) (by decide) dX5_take_33 (fun H locs hP hD hS => ?_)
    have hP : va_P (dC, dI) vwCl (MW cI cZ h0 q (upA (f_Msaves (upA u 8 0 (0 : Int32))) 0 3 (nI (((u 0 3).toNatClampNeg) - 1)))) H := Eq.mp (congrArg (fun w => va_P (dC, dI) vwCl w H) MW_a0) hP
    have hD : va_D A0 (MW cI cZ h0 q (upA (f_Msaves (upA u 8 0 (0 : Int32))) 0 3 (nI (((u 0 3).toNatClampNeg) - 1)))) := Eq.mp (congrArg (fun w => va_D A0 w) MW_a0) hD
    refine lv_aload_n hx hb dX5_take_34 rfl (lv_at hl 0 rfl) ?_
    refine va_get (D := (dC, dI)) (ci := 5) (v := .ref (q 0)) (C := RX5) (T := TX5) (N := 14) hx hb hts inX5 hown hK hP 0 rfl rfl 0 (by decide) (hts (.fieldLink RX5 7 "BoardMetronomesModel" "now" "[I") (by decide +kernel)) (fun _ h9 => h9) rfl dX5_take_35 ?_
    refine lv_iconst (v := (3 : Int32)) hx hb dX5_take_38 (by decide) ?_
    refine k_iald (D := (dC, dI)) hx hb hK hP 1 0 rfl rfl (j := 3) (by omega) (by decide) dX5_take_39 ?_
    rw [upA_s]
    have r1 : f_Mtake u = (nI (((u 0 3).toNatClampNeg) - 1), upA (f_Msaves (upA u 8 0 (0 : Int32))) 0 3 (nI (((u 0 3).toNatClampNeg) - 1))) := by
      rw [f_Mtake, if_neg c_11]
    exact kw_i hx hb hr hlk hP hS dX5_take_40 (by rw [r1]) (by rw [r1])
  · have c_11n : ((u 0 3).toNatClampNeg) = 0 := (nI_eq (a := ((u 0 3).toNatClampNeg)) (b := 0) (by omega) (by omega)).mp c_11
    refine lv_aload_n hx hb dX5_take_14 rfl (lv_at hl 0 rfl) ?_
    refine lv_iconst (v := (1 : Int32)) hx hb dX5_take_15 (by decide) ?_
    refine kc_w (As := [.int (1 : Int32)]) (rest := []) S (v := (some (.int ((f_Mfails (upA u 8 0 (0 : Int32)) (1 : Int32)).1)))) (c_X5_fails l dC dI cI cZ cO h0 q (upA u 8 0 (0 : Int32)) (1 : Int32) H.size) gX5_take_X5_fails mi_X5_fails ⟨rfl, rfl⟩ ⟨Nat.le_of_ble_eq_true rfl, Nat.le_of_ble_eq_true rfl⟩ hK hP hD hS hA [0, 1, 2, 3, 4, 5, 6, 7] MW_all MW_fst rfl 0 rfl rfl ⟨Nat.le_refl _, Nat.le_refl _⟩ dX5_take_16 rfl hl.1 rfl (Nat.le_of_ble_eq_true rfl) (fun H locs hP hD hS => ?_)
    have hP : va_P (dC, dI) vwCl (MW cI cZ h0 q ((f_Mfails (upA u 8 0 (0 : Int32)) (1 : Int32)).2)) H := Eq.mp (congrArg (fun w => va_P (dC, dI) vwCl w H) MW_ks) hP
    have hD : va_D A0 (MW cI cZ h0 q ((f_Mfails (upA u 8 0 (0 : Int32)) (1 : Int32)).2)) := Eq.mp (congrArg (fun w => va_D A0 w) MW_ks) hD
    have r2 : f_Mtake u = ((f_Mfails (upA u 8 0 (0 : Int32)) (1 : Int32)).1, (f_Mfails (upA u 8 0 (0 : Int32)) (1 : Int32)).2) := by
      rw [f_Mtake, if_pos c_11]
    exact kw_i hx hb hr hlk hP hS dX5_take_19 (by rw [r2]) (by rw [r2])

def rm_X5_run : Room := { frames := 5, cells := 0, slots := 0, locals := 116 }
theorem mi_X5_run : kM yX5_run wsX5_run cX5_run 3 (some .int) 1 := ⟨⟨_, rfl⟩, by decide, by decide, by decide +kernel⟩
def f_Mrun (u : BS) (p0 : Int32) : Int32 × BS := if (f_Min p0 (1 : Int32) (500 : Int32)) = true then (if (f_MmayRun (upA u 8 0 (0 : Int32)) p0) = true then (((f_Msteps (u 0) p0) 5) - (u 0 5), upR (f_Msaves (upA u 8 0 (0 : Int32))) 0 (f_Msteps (u 0) p0)) else ((f_Mfails (upA u 8 0 (0 : Int32)) (2 : Int32)).1, (f_Mfails (upA u 8 0 (0 : Int32)) (2 : Int32)).2)) else ((f_Mfails (upA u 8 0 (0 : Int32)) (1 : Int32)).1, (f_Mfails (upA u 8 0 (0 : Int32)) (1 : Int32)).2)
set_option maxHeartbeats 1000000 in
set_option maxRecDepth 100000 in
theorem c_X5_run (l : Launch) (dC : Nat → ClassId) (dI : Nat → Nat → Nat) (cI cZ cO : ClassId) (h0 : Nat) (q : Nat → Nat) (u : BS) (p0 : Int32) (sz : Nat) (hk : vp_in (u 3 0) 7) (hs : vp_in (u 0 3) 7) : Met l yX5_run wsX5_run rm_X5_run (va_Pc [.ref h0, .int p0] (fun U => U.heap.size = sz ∧ va_P (dC, dI) vwCl (MW cI cZ h0 q u) U.heap ∧ va_K (dC, dI) vwCl (TY cI cZ cO) U ∧ va_D (fun _ => True) (MW cI cZ h0 q u))) (kQw (some (.int (f_Mrun u p0).1)) (dC, dI) vwCl (MW cI cZ h0 q ((f_Mrun u p0).2)) (va_A (MW cI cZ h0 q u) sz)) 0 0 (va_A (MW cI cZ h0 q u) sz) := by
  refine kofW (cc := cX5_run) (maxL := 3) (ret := some .int) (by decide) rfl (Nat.le_of_ble_eq_true rfl) ?_
  intro p e s m args below meth c ls S hr hlk hnm hsz hP hK hD hS hA hl
  generalize hA0 : va_A (MW cI cZ h0 q u) sz = A0 at hD hS hA ⊢
  subst hsz
  obtain ⟨hx, hb, hml, hown, hts⟩ := id S
  have hk_n : (u 3 0).toNatClampNeg < 7 := vp_lt hk
  have hs_n : (u 0 3).toNatClampNeg < 7 := vp_lt hs
  have inX5 : ∀ w ∈ wsX50, w ∈ wsX5_run := fun w h => List.mem_cons_of_mem _ (List.mem_append_right _ h)
  have hl : lv_has ls 3 [(0, .ref h0), (1, .int p0)] := hl
  refine lv_aload_n hx hb dX5_run_0 rfl (lv_at hl 0 rfl) ?_
  refine lv_iconst (v := (0 : Int32)) hx hb dX5_run_1 (by decide) ?_
  refine va_put (D := (dC, dI)) (ci := 5) (v := .int (0 : Int32)) (ty := .int) (C := RX5) (T := TX5) (N := 14) hx hb hts inX5 tyX5 tyX5_ok nmX5 hown hK hP hD hS 0 rfl rfl 8 (by decide) (hts (.fieldLink RX5 32 "BoardMetronomesModel" "thrown" "I") (by decide +kernel)) (fun _ h9 => h9) rfl (by decide +kernel) rfl rfl (Nat.le_of_ble_eq_true rfl) dX5_run_2 (fun H locs hP hD hS => ?_)
  have hP : va_P (dC, dI) vwCl (MW cI cZ h0 q (upA u 8 0 (0 : Int32))) H := Eq.mp (congrArg (fun w => va_P (dC, dI) vwCl w H) MW_s8) hP
  have hD : va_D A0 (MW cI cZ h0 q (upA u 8 0 (0 : Int32))) := Eq.mp (congrArg (fun w => va_D A0 w) MW_s8) hD
  refine lv_iload_n hx hb dX5_run_5 rfl (lv_at hl 1 rfl) ?_
  refine lv_iconst (v := (1 : Int32)) hx hb dX5_run_6 (by decide) ?_
  refine lv_sipush (v := (500 : Int32)) hx hb dX5_run_7 (by decide) ?_
  refine kc_p (y := yX5_in) (As := [.int p0, .int (1 : Int32), .int (500 : Int32)]) (rest := []) rfl S (v := .int (bI (f_Min p0 (1 : Int32) (500 : Int32)))) (c_X5_in l p0 (1 : Int32) (500 : Int32)) gX5_run_X5_in mi_X5_in ⟨rfl, rfl⟩ ⟨Nat.le_of_ble_eq_true rfl, Nat.le_of_ble_eq_true rfl⟩ ⟨Nat.le_refl _, Nat.le_refl _⟩ dX5_run_10 rfl hl.1 rfl (Nat.le_of_ble_eq_true rfl) ?_
  refine kb_ne (tgt := 22) hx hb dX5_run_13 (by decide) (fun c_13 => ?_) (fun c_13 => ?_)
  · refine lv_aload_n hx hb dX5_run_22 rfl (lv_at hl 0 rfl) ?_
    refine lv_iload_n hx hb dX5_run_23 rfl (lv_at hl 1 rfl) ?_
    refine kc_v (As := [.int p0]) (rest := []) S (v := .int (bI (f_MmayRun (upA u 8 0 (0 : Int32)) p0))) (c_X5_mayRun l dC dI cI cZ cO h0 q (upA u 8 0 (0 : Int32)) p0) gX5_run_X5_mayRun mi_X5_mayRun ⟨rfl, rfl⟩ ⟨Nat.le_of_ble_eq_true rfl, Nat.le_of_ble_eq_true rfl⟩ hK hP 0 rfl rfl ⟨Nat.le_refl _, Nat.le_refl _⟩ dX5_run_24 rfl hl.1 rfl (Nat.le_of_ble_eq_true rfl) ?_
    refine kb_ne (tgt := 36) hx hb dX5_run_27 (by decide) (fun c_27 => ?_) (fun c_27 => ?_)
    · refine lv_aload_n hx hb dX5_run_36 rfl (lv_at hl 0 rfl) ?_
      refine kc_w (As := []) (rest := []) S (v := none) (c_X5_saves l dC dI cI cZ cO h0 q (upA u 8 0 (0 : Int32)) H.size (by rw [upA_o (show (3 : Nat) ≠ 8 by decide)]; exact hk)) gX5_run_X5_saves mi_X5_saves ⟨rfl, rfl⟩ ⟨Nat.le_of_ble_eq_true rfl, Nat.le_of_ble_eq_true rfl⟩ hK hP hD hS hA [0, 1, 2, 3, 4, 5, 6, 7] MW_all MW_fst rfl 0 rfl rfl ⟨Nat.le_refl _, Nat.le_refl _⟩ dX5_run_37 rfl hl.1 rfl (Nat.le_of_ble_eq_true rfl) (fun H locs hP hD hS => ?_)
      have hP : va_P (dC, dI) vwCl (MW cI cZ h0 q (f_Msaves (upA u 8 0 (0 : Int32)))) H := Eq.mp (congrArg (fun w => va_P (dC, dI) vwCl w H) MW_ks) hP
      have hD : va_D A0 (MW cI cZ h0 q (f_Msaves (upA u 8 0 (0 : Int32)))) := Eq.mp (congrArg (fun w => va_D A0 w) MW_ks) hD
      refine lv_aload_n hx hb dX5_run_40 rfl (lv_at hl 0 rfl) ?_
      refine va_get (D := (dC, dI)) (ci := 5) (v := .ref (q 0)) (C := RX5) (T := TX5) (N := 14) hx hb hts inX5 hown hK hP 0 rfl rfl 0 (by decide) (hts (.fieldLink RX5 7 "BoardMetronomesModel" "now" "[I") (by decide +kernel)) (fun _ h9 => h9) rfl dX5_run_41 ?_
      refine lv_iconst (v := (5 : Int32)) hx hb dX5_run_44 (by decide) ?_
      refine k_iald (D := (dC, dI)) hx hb hK hP 1 0 rfl rfl (j := 5) (by omega) (by decide) dX5_run_45 ?_
      rw [f_Msaves_o (show (0 : Nat) ≠ 2 by decide) (show (0 : Nat) ≠ 3 by decide), upA_o (show (0 : Nat) ≠ 8 by decide)]
      refine lv_istore_n (lv' := [(2, .int (u 0 5)), (0, .ref h0), (1, .int p0)]) hx hb dX5_run_46 rfl hl (by decide) rfl (fun ls hl => ?_)
      refine lv_aload_n hx hb dX5_run_47 rfl (lv_at hl 1 rfl) ?_
      refine va_get (D := (dC, dI)) (ci := 5) (v := .ref (q 0)) (C := RX5) (T := TX5) (N := 14) hx hb hts inX5 hown hK hP 0 rfl rfl 0 (by decide) (hts (.fieldLink RX5 7 "BoardMetronomesModel" "now" "[I") (by decide +kernel)) (fun _ h9 => h9) rfl dX5_run_48 ?_
      refine lv_iload_n hx hb dX5_run_51 rfl (lv_at hl 2 rfl) ?_
      refine kc_sw (y := yX5_steps) (As := [.ref (q 0), .int p0]) (rest := []) rfl S (v := none) (c_X5_steps l dC dI cI cZ cO (q 0) (u 0) p0 H.size hs) gX5_run_X5_steps mi_X5_steps ⟨rfl, rfl⟩ ⟨Nat.le_of_ble_eq_true rfl, Nat.le_of_ble_eq_true rfl⟩ hK hP hD hS hA [1] (MW_all0 (show (f_Msaves (upA u 8 0 (0 : Int32))) 0 = u 0 by rw [f_Msaves_o (show (0 : Nat) ≠ 2 by decide) (show (0 : Nat) ≠ 3 by decide), upA_o (show (0 : Nat) ≠ 8 by decide)])) AW_fst rfl ⟨Nat.le_refl _, Nat.le_refl _⟩ dX5_run_52 rfl hl.1 rfl (Nat.le_of_ble_eq_true rfl) (fun H locs hP hD hS => ?_)
      have hP : va_P (dC, dI) vwCl (MW cI cZ h0 q (upR (f_Msaves (upA u 8 0 (0 : Int32))) 0 (f_Msteps (u 0) p0))) H := Eq.mp (congrArg (fun w => va_P (dC, dI) vwCl w H) MW_r0) hP
      have hD : va_D A0 (MW cI cZ h0 q (upR (f_Msaves (upA u 8 0 (0 : Int32))) 0 (f_Msteps (u 0) p0))) := Eq.mp (congrArg (fun w => va_D A0 w) MW_r0) hD
      refine lv_aload_n hx hb dX5_run_55 rfl (lv_at hl 1 rfl) ?_
      refine va_get (D := (dC, dI)) (ci := 5) (v := .ref (q 0)) (C := RX5) (T := TX5) (N := 14) hx hb hts inX5 hown hK hP 0 rfl rfl 0 (by decide) (hts (.fieldLink RX5 7 "BoardMetronomesModel" "now" "[I") (by decide +kernel)) (fun _ h9 => h9) rfl dX5_run_56 ?_
      refine lv_iconst (v := (5 : Int32)) hx hb dX5_run_59 (by decide) ?_
      refine k_iald (D := (dC, dI)) hx hb hK hP 1 0 rfl rfl (j := 5) (by omega) (by decide) dX5_run_60 ?_
      rw [upR_s]
      refine lv_iload_n hx hb dX5_run_61 rfl (lv_at hl 0 rfl) ?_
      refine lv_isub hx hb dX5_run_62 ?_
      have r1 : f_Mrun u p0 = (((f_Msteps (u 0) p0) 5) - (u 0 5), upR (f_Msaves (upA u 8 0 (0 : Int32))) 0 (f_Msteps (u 0) p0)) := by
        rw [f_Mrun, if_pos c_13, if_pos c_27]
      exact kw_i hx hb hr hlk hP hS dX5_run_63 (by rw [r1]) (by rw [r1])
    · refine lv_aload_n hx hb dX5_run_30 rfl (lv_at hl 0 rfl) ?_
      refine lv_iconst (v := (2 : Int32)) hx hb dX5_run_31 (by decide) ?_
      refine kc_w (As := [.int (2 : Int32)]) (rest := []) S (v := (some (.int ((f_Mfails (upA u 8 0 (0 : Int32)) (2 : Int32)).1)))) (c_X5_fails l dC dI cI cZ cO h0 q (upA u 8 0 (0 : Int32)) (2 : Int32) H.size) gX5_run_X5_fails mi_X5_fails ⟨rfl, rfl⟩ ⟨Nat.le_of_ble_eq_true rfl, Nat.le_of_ble_eq_true rfl⟩ hK hP hD hS hA [0, 1, 2, 3, 4, 5, 6, 7] MW_all MW_fst rfl 0 rfl rfl ⟨Nat.le_refl _, Nat.le_refl _⟩ dX5_run_32 rfl hl.1 rfl (Nat.le_of_ble_eq_true rfl) (fun H locs hP hD hS => ?_)
      have hP : va_P (dC, dI) vwCl (MW cI cZ h0 q ((f_Mfails (upA u 8 0 (0 : Int32)) (2 : Int32)).2)) H := Eq.mp (congrArg (fun w => va_P (dC, dI) vwCl w H) MW_ks) hP
      have hD : va_D A0 (MW cI cZ h0 q ((f_Mfails (upA u 8 0 (0 : Int32)) (2 : Int32)).2)) := Eq.mp (congrArg (fun w => va_D A0 w) MW_ks) hD
      have r2 : f_Mrun u p0 = ((f_Mfails (upA u 8 0 (0 : Int32)) (2 : Int32)).1, (f_Mfails (upA u 8 0 (0 : Int32)) (2 : Int32)).2) := by
        rw [f_Mrun, if_pos c_13, if_neg c_27]
      exact kw_i hx hb hr hlk hP hS dX5_run_35 (by rw [r2]) (by rw [r2])
  · refine lv_aload_n hx hb dX5_run_16 rfl (lv_at hl 0 rfl) ?_
    refine lv_iconst (v := (1 : Int32)) hx hb dX5_run_17 (by decide) ?_
    refine kc_w (As := [.int (1 : Int32)]) (rest := []) S (v := (some (.int ((f_Mfails (upA u 8 0 (0 : Int32)) (1 : Int32)).1)))) (c_X5_fails l dC dI cI cZ cO h0 q (upA u 8 0 (0 : Int32)) (1 : Int32) H.size) gX5_run_X5_fails mi_X5_fails ⟨rfl, rfl⟩ ⟨Nat.le_of_ble_eq_true rfl, Nat.le_of_ble_eq_true rfl⟩ hK hP hD hS hA [0, 1, 2, 3, 4, 5, 6, 7] MW_all MW_fst rfl 0 rfl rfl ⟨Nat.le_refl _, Nat.le_refl _⟩ dX5_run_18 rfl hl.1 rfl (Nat.le_of_ble_eq_true rfl) (fun H locs hP hD hS => ?_)
    have hP : va_P (dC, dI) vwCl (MW cI cZ h0 q ((f_Mfails (upA u 8 0 (0 : Int32)) (1 : Int32)).2)) H := Eq.mp (congrArg (fun w => va_P (dC, dI) vwCl w H) MW_ks) hP
    have hD : va_D A0 (MW cI cZ h0 q ((f_Mfails (upA u 8 0 (0 : Int32)) (1 : Int32)).2)) := Eq.mp (congrArg (fun w => va_D A0 w) MW_ks) hD
    have r3 : f_Mrun u p0 = ((f_Mfails (upA u 8 0 (0 : Int32)) (1 : Int32)).1, (f_Mfails (upA u 8 0 (0 : Int32)) (1 : Int32)).2) := by
      rw [f_Mrun, if_neg c_13]
    exact kw_i hx hb hr hlk hP hS dX5_run_21 (by rw [r3]) (by rw [r3])

def rm_X5_stop : Room := { frames := 2, cells := 0, slots := 0, locals := 45 }
theorem mi_X5_stop : kM yX5_stop wsX5_stop cX5_stop 1 (some .int) 0 := ⟨⟨_, rfl⟩, by decide, by decide, by decide +kernel⟩
def f_Mstop (u : BS) : Int32 × BS := ((f_Msize ((f_Mchanges (f_Msaves (upA u 8 0 (0 : Int32))) 7 (0 : Int32)).1)) + (f_Msize ((f_Mchanges ((f_Mchanges (f_Msaves (upA u 8 0 (0 : Int32))) 7 (0 : Int32)).2) 8 (0 : Int32)).1)), (f_Mchanges ((f_Mchanges (f_Msaves (upA u 8 0 (0 : Int32))) 7 (0 : Int32)).2) 8 (0 : Int32)).2)
set_option maxHeartbeats 1000000 in
set_option maxRecDepth 100000 in
theorem c_X5_stop (l : Launch) (dC : Nat → ClassId) (dI : Nat → Nat → Nat) (cI cZ cO : ClassId) (h0 : Nat) (q : Nat → Nat) (u : BS) (sz : Nat) (hk : vp_in (u 3 0) 7) : Met l yX5_stop wsX5_stop rm_X5_stop (va_Pc [.ref h0] (fun U => U.heap.size = sz ∧ va_P (dC, dI) vwCl (MW cI cZ h0 q u) U.heap ∧ va_K (dC, dI) vwCl (TY cI cZ cO) U ∧ va_D (fun _ => True) (MW cI cZ h0 q u))) (kQw (some (.int (f_Mstop u).1)) (dC, dI) vwCl (MW cI cZ h0 q ((f_Mstop u).2)) (va_A (MW cI cZ h0 q u) sz)) 0 0 (va_A (MW cI cZ h0 q u) sz) := by
  refine kofW (cc := cX5_stop) (maxL := 1) (ret := some .int) (by decide) rfl (Nat.le_of_ble_eq_true rfl) ?_
  intro p e s m args below meth c ls S hr hlk hnm hsz hP hK hD hS hA hl
  generalize hA0 : va_A (MW cI cZ h0 q u) sz = A0 at hD hS hA ⊢
  subst hsz
  obtain ⟨hx, hb, hml, hown, hts⟩ := id S
  have hk_n : (u 3 0).toNatClampNeg < 7 := vp_lt hk
  have inX5 : ∀ w ∈ wsX50, w ∈ wsX5_stop := fun w h => List.mem_cons_of_mem _ (List.mem_append_right _ h)
  have hl : lv_has ls 1 [(0, .ref h0)] := hl
  refine lv_aload_n hx hb dX5_stop_0 rfl (lv_at hl 0 rfl) ?_
  refine lv_iconst (v := (0 : Int32)) hx hb dX5_stop_1 (by decide) ?_
  refine va_put (D := (dC, dI)) (ci := 5) (v := .int (0 : Int32)) (ty := .int) (C := RX5) (T := TX5) (N := 14) hx hb hts inX5 tyX5 tyX5_ok nmX5 hown hK hP hD hS 0 rfl rfl 8 (by decide) (hts (.fieldLink RX5 32 "BoardMetronomesModel" "thrown" "I") (by decide +kernel)) (fun _ h9 => h9) rfl (by decide +kernel) rfl rfl (Nat.le_of_ble_eq_true rfl) dX5_stop_2 (fun H locs hP hD hS => ?_)
  have hP : va_P (dC, dI) vwCl (MW cI cZ h0 q (upA u 8 0 (0 : Int32))) H := Eq.mp (congrArg (fun w => va_P (dC, dI) vwCl w H) MW_s8) hP
  have hD : va_D A0 (MW cI cZ h0 q (upA u 8 0 (0 : Int32))) := Eq.mp (congrArg (fun w => va_D A0 w) MW_s8) hD
  refine lv_aload_n hx hb dX5_stop_5 rfl (lv_at hl 0 rfl) ?_
  refine kc_w (As := []) (rest := []) S (v := none) (c_X5_saves l dC dI cI cZ cO h0 q (upA u 8 0 (0 : Int32)) H.size (by rw [upA_o (show (3 : Nat) ≠ 8 by decide)]; exact hk)) gX5_stop_X5_saves mi_X5_saves ⟨rfl, rfl⟩ ⟨Nat.le_of_ble_eq_true rfl, Nat.le_of_ble_eq_true rfl⟩ hK hP hD hS hA [0, 1, 2, 3, 4, 5, 6, 7] MW_all MW_fst rfl 0 rfl rfl ⟨Nat.le_refl _, Nat.le_refl _⟩ dX5_stop_6 rfl hl.1 rfl (Nat.le_of_ble_eq_true rfl) (fun H locs hP hD hS => ?_)
  have hP : va_P (dC, dI) vwCl (MW cI cZ h0 q (f_Msaves (upA u 8 0 (0 : Int32)))) H := Eq.mp (congrArg (fun w => va_P (dC, dI) vwCl w H) MW_ks) hP
  have hD : va_D A0 (MW cI cZ h0 q (f_Msaves (upA u 8 0 (0 : Int32)))) := Eq.mp (congrArg (fun w => va_D A0 w) MW_ks) hD
  refine lv_aload_n hx hb dX5_stop_9 rfl (lv_at hl 0 rfl) ?_
  refine lv_bipush (v := (7 : Int32)) hx hb dX5_stop_10 (by decide) ?_
  refine lv_iconst (v := (0 : Int32)) hx hb dX5_stop_12 (by decide) ?_
  refine kc_w (As := [.int (nI 7), .int (0 : Int32)]) (rest := []) S (v := (some (.int ((f_Mchanges (f_Msaves (upA u 8 0 (0 : Int32))) 7 (0 : Int32)).1)))) (c_X5_changes l dC dI cI cZ cO h0 q (f_Msaves (upA u 8 0 (0 : Int32))) 7 (0 : Int32) H.size (by omega)) gX5_stop_X5_changes mi_X5_changes ⟨rfl, rfl⟩ ⟨Nat.le_of_ble_eq_true rfl, Nat.le_of_ble_eq_true rfl⟩ hK hP hD hS hA [0, 1, 2, 3, 4, 5, 6, 7] MW_all MW_fst rfl 0 rfl rfl ⟨Nat.le_refl _, Nat.le_refl _⟩ dX5_stop_13 rfl hl.1 rfl (Nat.le_of_ble_eq_true rfl) (fun H locs hP hD hS => ?_)
  have hP : va_P (dC, dI) vwCl (MW cI cZ h0 q ((f_Mchanges (f_Msaves (upA u 8 0 (0 : Int32))) 7 (0 : Int32)).2)) H := Eq.mp (congrArg (fun w => va_P (dC, dI) vwCl w H) MW_ks) hP
  have hD : va_D A0 (MW cI cZ h0 q ((f_Mchanges (f_Msaves (upA u 8 0 (0 : Int32))) 7 (0 : Int32)).2)) := Eq.mp (congrArg (fun w => va_D A0 w) MW_ks) hD
  refine kc_p (y := yX5_size) (As := [.int ((f_Mchanges (f_Msaves (upA u 8 0 (0 : Int32))) 7 (0 : Int32)).1)]) (rest := []) rfl S (v := .int (f_Msize ((f_Mchanges (f_Msaves (upA u 8 0 (0 : Int32))) 7 (0 : Int32)).1))) (c_X5_size l ((f_Mchanges (f_Msaves (upA u 8 0 (0 : Int32))) 7 (0 : Int32)).1)) gX5_stop_X5_size mi_X5_size ⟨rfl, rfl⟩ ⟨Nat.le_of_ble_eq_true rfl, Nat.le_of_ble_eq_true rfl⟩ ⟨Nat.le_refl _, Nat.le_refl _⟩ dX5_stop_16 rfl hl.1 rfl (Nat.le_of_ble_eq_true rfl) ?_
  refine lv_aload_n hx hb dX5_stop_19 rfl (lv_at hl 0 rfl) ?_
  refine lv_bipush (v := (8 : Int32)) hx hb dX5_stop_20 (by decide) ?_
  refine lv_iconst (v := (0 : Int32)) hx hb dX5_stop_22 (by decide) ?_
  refine kc_w (As := [.int (nI 8), .int (0 : Int32)]) (rest := [.int (f_Msize ((f_Mchanges (f_Msaves (upA u 8 0 (0 : Int32))) 7 (0 : Int32)).1))]) S (v := (some (.int ((f_Mchanges ((f_Mchanges (f_Msaves (upA u 8 0 (0 : Int32))) 7 (0 : Int32)).2) 8 (0 : Int32)).1)))) (c_X5_changes l dC dI cI cZ cO h0 q ((f_Mchanges (f_Msaves (upA u 8 0 (0 : Int32))) 7 (0 : Int32)).2) 8 (0 : Int32) H.size (by omega)) gX5_stop_X5_changes mi_X5_changes ⟨rfl, rfl⟩ ⟨Nat.le_of_ble_eq_true rfl, Nat.le_of_ble_eq_true rfl⟩ hK hP hD hS hA [0, 1, 2, 3, 4, 5, 6, 7] MW_all MW_fst rfl 0 rfl rfl ⟨Nat.le_refl _, Nat.le_refl _⟩ dX5_stop_23 rfl hl.1 rfl (Nat.le_of_ble_eq_true rfl) (fun H locs hP hD hS => ?_)
  have hP : va_P (dC, dI) vwCl (MW cI cZ h0 q ((f_Mchanges ((f_Mchanges (f_Msaves (upA u 8 0 (0 : Int32))) 7 (0 : Int32)).2) 8 (0 : Int32)).2)) H := Eq.mp (congrArg (fun w => va_P (dC, dI) vwCl w H) MW_ks) hP
  have hD : va_D A0 (MW cI cZ h0 q ((f_Mchanges ((f_Mchanges (f_Msaves (upA u 8 0 (0 : Int32))) 7 (0 : Int32)).2) 8 (0 : Int32)).2)) := Eq.mp (congrArg (fun w => va_D A0 w) MW_ks) hD
  refine kc_p (y := yX5_size) (As := [.int ((f_Mchanges ((f_Mchanges (f_Msaves (upA u 8 0 (0 : Int32))) 7 (0 : Int32)).2) 8 (0 : Int32)).1)]) (rest := [.int (f_Msize ((f_Mchanges (f_Msaves (upA u 8 0 (0 : Int32))) 7 (0 : Int32)).1))]) rfl S (v := .int (f_Msize ((f_Mchanges ((f_Mchanges (f_Msaves (upA u 8 0 (0 : Int32))) 7 (0 : Int32)).2) 8 (0 : Int32)).1))) (c_X5_size l ((f_Mchanges ((f_Mchanges (f_Msaves (upA u 8 0 (0 : Int32))) 7 (0 : Int32)).2) 8 (0 : Int32)).1)) gX5_stop_X5_size mi_X5_size ⟨rfl, rfl⟩ ⟨Nat.le_of_ble_eq_true rfl, Nat.le_of_ble_eq_true rfl⟩ ⟨Nat.le_refl _, Nat.le_refl _⟩ dX5_stop_26 rfl hl.1 rfl (Nat.le_of_ble_eq_true rfl) ?_
  refine lv_iadd hx hb dX5_stop_29 ?_
  have r1 : f_Mstop u = ((f_Msize ((f_Mchanges (f_Msaves (upA u 8 0 (0 : Int32))) 7 (0 : Int32)).1)) + (f_Msize ((f_Mchanges ((f_Mchanges (f_Msaves (upA u 8 0 (0 : Int32))) 7 (0 : Int32)).2) 8 (0 : Int32)).1)), (f_Mchanges ((f_Mchanges (f_Msaves (upA u 8 0 (0 : Int32))) 7 (0 : Int32)).2) 8 (0 : Int32)).2) := by
    rw [f_Mstop]
  exact kw_i hx hb hr hlk hP hS dX5_stop_30 (by rw [r1]) (by rw [r1])

def rm_X5_set : Room := { frames := 2, cells := 0, slots := 0, locals := 45 }
theorem mi_X5_set : kM yX5_set wsX5_set cX5_set 3 (some .int) 2 := ⟨⟨_, rfl⟩, by decide, by decide, by decide +kernel⟩
def f_Mset (u : BS) (p0 : Int32) (p1 : Int32) : Int32 × BS := if (f_Min p0 (0 : Int32) (2 : Int32)) = true then (if p0 = 0 then (if (f_Min p1 (0 : Int32) (95 : Int32)) = true then ((f_Mchanges (f_Msaves (upA u 8 0 (0 : Int32))) p0.toNatClampNeg p1).1, (f_Mchanges (f_Msaves (upA u 8 0 (0 : Int32))) p0.toNatClampNeg p1).2) else ((f_Mfails (upA u 8 0 (0 : Int32)) (2 : Int32)).1, (f_Mfails (upA u 8 0 (0 : Int32)) (2 : Int32)).2)) else if p0 = (1 : Int32) then (if (f_Min p1 (0 : Int32) (99 : Int32)) = true then ((f_Mchanges (f_Msaves (upA u 8 0 (0 : Int32))) p0.toNatClampNeg p1).1, (f_Mchanges (f_Msaves (upA u 8 0 (0 : Int32))) p0.toNatClampNeg p1).2) else ((f_Mfails (upA u 8 0 (0 : Int32)) (2 : Int32)).1, (f_Mfails (upA u 8 0 (0 : Int32)) (2 : Int32)).2)) else if (f_Min p1 (0 : Int32) (900 : Int32)) = true then ((f_Mchanges (f_Msaves (upA u 8 0 (0 : Int32))) p0.toNatClampNeg p1).1, (f_Mchanges (f_Msaves (upA u 8 0 (0 : Int32))) p0.toNatClampNeg p1).2) else ((f_Mfails (upA u 8 0 (0 : Int32)) (2 : Int32)).1, (f_Mfails (upA u 8 0 (0 : Int32)) (2 : Int32)).2)) else ((f_Mfails (upA u 8 0 (0 : Int32)) (1 : Int32)).1, (f_Mfails (upA u 8 0 (0 : Int32)) (1 : Int32)).2)
set_option maxHeartbeats 1000000 in
set_option maxRecDepth 100000 in
theorem c_X5_set (l : Launch) (dC : Nat → ClassId) (dI : Nat → Nat → Nat) (cI cZ cO : ClassId) (h0 : Nat) (q : Nat → Nat) (u : BS) (p0 : Int32) (p1 : Int32) (sz : Nat) (hk : vp_in (u 3 0) 7) : Met l yX5_set wsX5_set rm_X5_set (va_Pc [.ref h0, .int p0, .int p1] (fun U => U.heap.size = sz ∧ va_P (dC, dI) vwCl (MW cI cZ h0 q u) U.heap ∧ va_K (dC, dI) vwCl (TY cI cZ cO) U ∧ va_D (fun _ => True) (MW cI cZ h0 q u))) (kQw (some (.int (f_Mset u p0 p1).1)) (dC, dI) vwCl (MW cI cZ h0 q ((f_Mset u p0 p1).2)) (va_A (MW cI cZ h0 q u) sz)) 0 0 (va_A (MW cI cZ h0 q u) sz) := by
  refine kofW (cc := cX5_set) (maxL := 3) (ret := some .int) (by decide) rfl (Nat.le_of_ble_eq_true rfl) ?_
  intro p e s m args below meth c ls S hr hlk hnm hsz hP hK hD hS hA hl
  generalize hA0 : va_A (MW cI cZ h0 q u) sz = A0 at hD hS hA ⊢
  subst hsz
  obtain ⟨hx, hb, hml, hown, hts⟩ := id S
  have hk_n : (u 3 0).toNatClampNeg < 7 := vp_lt hk
  have inX5 : ∀ w ∈ wsX50, w ∈ wsX5_set := fun w h => List.mem_cons_of_mem _ (List.mem_append_right _ h)
  have hl : lv_has ls 3 [(0, .ref h0), (1, .int p0), (2, .int p1)] := hl
  refine lv_aload_n hx hb dX5_set_0 rfl (lv_at hl 0 rfl) ?_
  refine lv_iconst (v := (0 : Int32)) hx hb dX5_set_1 (by decide) ?_
  refine va_put (D := (dC, dI)) (ci := 5) (v := .int (0 : Int32)) (ty := .int) (C := RX5) (T := TX5) (N := 14) hx hb hts inX5 tyX5 tyX5_ok nmX5 hown hK hP hD hS 0 rfl rfl 8 (by decide) (hts (.fieldLink RX5 32 "BoardMetronomesModel" "thrown" "I") (by decide +kernel)) (fun _ h9 => h9) rfl (by decide +kernel) rfl rfl (Nat.le_of_ble_eq_true rfl) dX5_set_2 (fun H locs hP hD hS => ?_)
  have hP : va_P (dC, dI) vwCl (MW cI cZ h0 q (upA u 8 0 (0 : Int32))) H := Eq.mp (congrArg (fun w => va_P (dC, dI) vwCl w H) MW_s8) hP
  have hD : va_D A0 (MW cI cZ h0 q (upA u 8 0 (0 : Int32))) := Eq.mp (congrArg (fun w => va_D A0 w) MW_s8) hD
  refine lv_iload_n hx hb dX5_set_5 rfl (lv_at hl 1 rfl) ?_
  refine lv_iconst (v := (0 : Int32)) hx hb dX5_set_6 (by decide) ?_
  refine lv_iconst (v := (2 : Int32)) hx hb dX5_set_7 (by decide) ?_
  refine kc_p (y := yX5_in) (As := [.int p0, .int (0 : Int32), .int (2 : Int32)]) (rest := []) rfl S (v := .int (bI (f_Min p0 (0 : Int32) (2 : Int32)))) (c_X5_in l p0 (0 : Int32) (2 : Int32)) gX5_set_X5_in mi_X5_in ⟨rfl, rfl⟩ ⟨Nat.le_of_ble_eq_true rfl, Nat.le_of_ble_eq_true rfl⟩ ⟨Nat.le_refl _, Nat.le_refl _⟩ dX5_set_8 rfl hl.1 rfl (Nat.le_of_ble_eq_true rfl) ?_
  refine kb_ne (tgt := 20) hx hb dX5_set_11 (by decide) (fun c_11 => ?_) (fun c_11 => ?_)
  · refine lv_iload_n hx hb dX5_set_20 rfl (lv_at hl 2 rfl) ?_
    refine lv_iconst (v := (0 : Int32)) hx hb dX5_set_21 (by decide) ?_
    refine lv_iload_n hx hb dX5_set_22 rfl (lv_at hl 1 rfl) ?_
    refine lv_if_ne (tgt := 31) hx hb dX5_set_23 (by decide) (fun c_23 => ?_) (fun c_23 => ?_)
    · refine lv_iload_n hx hb dX5_set_31 rfl (lv_at hl 1 rfl) ?_
      refine lv_iconst (v := (1 : Int32)) hx hb dX5_set_32 (by decide) ?_
      refine lv_icmp_ne (tgt := 41) hx hb dX5_set_33 (by decide) (fun c_33 => ?_) (fun c_33 => ?_)
      · refine lv_sipush (v := (900 : Int32)) hx hb dX5_set_41 (by decide) ?_
        refine kc_p (y := yX5_in) (As := [.int p1, .int (0 : Int32), .int (900 : Int32)]) (rest := []) rfl S (v := .int (bI (f_Min p1 (0 : Int32) (900 : Int32)))) (c_X5_in l p1 (0 : Int32) (900 : Int32)) gX5_set_X5_in mi_X5_in ⟨rfl, rfl⟩ ⟨Nat.le_of_ble_eq_true rfl, Nat.le_of_ble_eq_true rfl⟩ ⟨Nat.le_refl _, Nat.le_refl _⟩ dX5_set_44 rfl hl.1 rfl (Nat.le_of_ble_eq_true rfl) ?_
        refine kb_ne (tgt := 56) hx hb dX5_set_47 (by decide) (fun c_47 => ?_) (fun c_47 => ?_)
        · refine lv_aload_n hx hb dX5_set_56 rfl (lv_at hl 0 rfl) ?_
          refine kc_w (As := []) (rest := []) S (v := none) (c_X5_saves l dC dI cI cZ cO h0 q (upA u 8 0 (0 : Int32)) H.size (by rw [upA_o (show (3 : Nat) ≠ 8 by decide)]; exact hk)) gX5_set_X5_saves mi_X5_saves ⟨rfl, rfl⟩ ⟨Nat.le_of_ble_eq_true rfl, Nat.le_of_ble_eq_true rfl⟩ hK hP hD hS hA [0, 1, 2, 3, 4, 5, 6, 7] MW_all MW_fst rfl 0 rfl rfl ⟨Nat.le_refl _, Nat.le_refl _⟩ dX5_set_57 rfl hl.1 rfl (Nat.le_of_ble_eq_true rfl) (fun H locs hP hD hS => ?_)
          have hP : va_P (dC, dI) vwCl (MW cI cZ h0 q (f_Msaves (upA u 8 0 (0 : Int32)))) H := Eq.mp (congrArg (fun w => va_P (dC, dI) vwCl w H) MW_ks) hP
          have hD : va_D A0 (MW cI cZ h0 q (f_Msaves (upA u 8 0 (0 : Int32)))) := Eq.mp (congrArg (fun w => va_D A0 w) MW_ks) hD
          refine lv_aload_n hx hb dX5_set_60 rfl (lv_at hl 0 rfl) ?_
          refine lv_iload_n hx hb dX5_set_61 rfl (lv_at hl 1 rfl) ?_
          refine lv_iload_n hx hb dX5_set_62 rfl (lv_at hl 2 rfl) ?_
          refine kc_w (As := [.int (nI p0.toNatClampNeg), .int p1]) (rest := []) S (v := (some (.int ((f_Mchanges (f_Msaves (upA u 8 0 (0 : Int32))) p0.toNatClampNeg p1).1)))) (c_X5_changes l dC dI cI cZ cO h0 q (f_Msaves (upA u 8 0 (0 : Int32))) p0.toNatClampNeg p1 H.size (vp_lt (vp_wk (m := 39) (f_Min_vp (n := 2) (by decide) c_11) (by decide)))) gX5_set_X5_changes mi_X5_changes ⟨rfl, rfl⟩ ⟨Nat.le_of_ble_eq_true rfl, Nat.le_of_ble_eq_true rfl⟩ hK hP hD hS hA [0, 1, 2, 3, 4, 5, 6, 7] MW_all MW_fst rfl 0 rfl rfl ⟨Nat.le_refl _, Nat.le_refl _⟩ dX5_set_63 rfl hl.1 (by rw [kcl (vp_wk (m := 39) (f_Min_vp (n := 2) (by decide) c_11) (by decide))]; rfl) (Nat.le_of_ble_eq_true rfl) (fun H locs hP hD hS => ?_)
          have hP : va_P (dC, dI) vwCl (MW cI cZ h0 q ((f_Mchanges (f_Msaves (upA u 8 0 (0 : Int32))) p0.toNatClampNeg p1).2)) H := Eq.mp (congrArg (fun w => va_P (dC, dI) vwCl w H) MW_ks) hP
          have hD : va_D A0 (MW cI cZ h0 q ((f_Mchanges (f_Msaves (upA u 8 0 (0 : Int32))) p0.toNatClampNeg p1).2)) := Eq.mp (congrArg (fun w => va_D A0 w) MW_ks) hD
          have r1 : f_Mset u p0 p1 = ((f_Mchanges (f_Msaves (upA u 8 0 (0 : Int32))) p0.toNatClampNeg p1).1, (f_Mchanges (f_Msaves (upA u 8 0 (0 : Int32))) p0.toNatClampNeg p1).2) := by
            rw [f_Mset, if_pos c_11, if_neg c_23, if_neg c_33, if_pos c_47]
          exact kw_i hx hb hr hlk hP hS dX5_set_66 (by rw [r1]) (by rw [r1])
        · refine lv_aload_n hx hb dX5_set_50 rfl (lv_at hl 0 rfl) ?_
          refine lv_iconst (v := (2 : Int32)) hx hb dX5_set_51 (by decide) ?_
          refine kc_w (As := [.int (2 : Int32)]) (rest := []) S (v := (some (.int ((f_Mfails (upA u 8 0 (0 : Int32)) (2 : Int32)).1)))) (c_X5_fails l dC dI cI cZ cO h0 q (upA u 8 0 (0 : Int32)) (2 : Int32) H.size) gX5_set_X5_fails mi_X5_fails ⟨rfl, rfl⟩ ⟨Nat.le_of_ble_eq_true rfl, Nat.le_of_ble_eq_true rfl⟩ hK hP hD hS hA [0, 1, 2, 3, 4, 5, 6, 7] MW_all MW_fst rfl 0 rfl rfl ⟨Nat.le_refl _, Nat.le_refl _⟩ dX5_set_52 rfl hl.1 rfl (Nat.le_of_ble_eq_true rfl) (fun H locs hP hD hS => ?_)
          have hP : va_P (dC, dI) vwCl (MW cI cZ h0 q ((f_Mfails (upA u 8 0 (0 : Int32)) (2 : Int32)).2)) H := Eq.mp (congrArg (fun w => va_P (dC, dI) vwCl w H) MW_ks) hP
          have hD : va_D A0 (MW cI cZ h0 q ((f_Mfails (upA u 8 0 (0 : Int32)) (2 : Int32)).2)) := Eq.mp (congrArg (fun w => va_D A0 w) MW_ks) hD
          have r2 : f_Mset u p0 p1 = ((f_Mfails (upA u 8 0 (0 : Int32)) (2 : Int32)).1, (f_Mfails (upA u 8 0 (0 : Int32)) (2 : Int32)).2) := by
            rw [f_Mset, if_pos c_11, if_neg c_23, if_neg c_33, if_neg c_47]
          exact kw_i hx hb hr hlk hP hS dX5_set_55 (by rw [r2]) (by rw [r2])
      · refine lv_bipush (v := (99 : Int32)) hx hb dX5_set_36 (by decide) ?_
        refine lv_goto (tgt := 44) hx hb dX5_set_38 (by decide) ?_
        refine kc_p (y := yX5_in) (As := [.int p1, .int (0 : Int32), .int (99 : Int32)]) (rest := []) rfl S (v := .int (bI (f_Min p1 (0 : Int32) (99 : Int32)))) (c_X5_in l p1 (0 : Int32) (99 : Int32)) gX5_set_X5_in mi_X5_in ⟨rfl, rfl⟩ ⟨Nat.le_of_ble_eq_true rfl, Nat.le_of_ble_eq_true rfl⟩ ⟨Nat.le_refl _, Nat.le_refl _⟩ dX5_set_44 rfl hl.1 rfl (Nat.le_of_ble_eq_true rfl) ?_
        refine kb_ne (tgt := 56) hx hb dX5_set_47 (by decide) (fun c_47 => ?_) (fun c_47 => ?_)
        · refine lv_aload_n hx hb dX5_set_56 rfl (lv_at hl 0 rfl) ?_
          refine kc_w (As := []) (rest := []) S (v := none) (c_X5_saves l dC dI cI cZ cO h0 q (upA u 8 0 (0 : Int32)) H.size (by rw [upA_o (show (3 : Nat) ≠ 8 by decide)]; exact hk)) gX5_set_X5_saves mi_X5_saves ⟨rfl, rfl⟩ ⟨Nat.le_of_ble_eq_true rfl, Nat.le_of_ble_eq_true rfl⟩ hK hP hD hS hA [0, 1, 2, 3, 4, 5, 6, 7] MW_all MW_fst rfl 0 rfl rfl ⟨Nat.le_refl _, Nat.le_refl _⟩ dX5_set_57 rfl hl.1 rfl (Nat.le_of_ble_eq_true rfl) (fun H locs hP hD hS => ?_)
          have hP : va_P (dC, dI) vwCl (MW cI cZ h0 q (f_Msaves (upA u 8 0 (0 : Int32)))) H := Eq.mp (congrArg (fun w => va_P (dC, dI) vwCl w H) MW_ks) hP
          have hD : va_D A0 (MW cI cZ h0 q (f_Msaves (upA u 8 0 (0 : Int32)))) := Eq.mp (congrArg (fun w => va_D A0 w) MW_ks) hD
          refine lv_aload_n hx hb dX5_set_60 rfl (lv_at hl 0 rfl) ?_
          refine lv_iload_n hx hb dX5_set_61 rfl (lv_at hl 1 rfl) ?_
          refine lv_iload_n hx hb dX5_set_62 rfl (lv_at hl 2 rfl) ?_
          refine kc_w (As := [.int (nI p0.toNatClampNeg), .int p1]) (rest := []) S (v := (some (.int ((f_Mchanges (f_Msaves (upA u 8 0 (0 : Int32))) p0.toNatClampNeg p1).1)))) (c_X5_changes l dC dI cI cZ cO h0 q (f_Msaves (upA u 8 0 (0 : Int32))) p0.toNatClampNeg p1 H.size (vp_lt (vp_wk (m := 39) (f_Min_vp (n := 2) (by decide) c_11) (by decide)))) gX5_set_X5_changes mi_X5_changes ⟨rfl, rfl⟩ ⟨Nat.le_of_ble_eq_true rfl, Nat.le_of_ble_eq_true rfl⟩ hK hP hD hS hA [0, 1, 2, 3, 4, 5, 6, 7] MW_all MW_fst rfl 0 rfl rfl ⟨Nat.le_refl _, Nat.le_refl _⟩ dX5_set_63 rfl hl.1 (by rw [kcl (vp_wk (m := 39) (f_Min_vp (n := 2) (by decide) c_11) (by decide))]; rfl) (Nat.le_of_ble_eq_true rfl) (fun H locs hP hD hS => ?_)
          have hP : va_P (dC, dI) vwCl (MW cI cZ h0 q ((f_Mchanges (f_Msaves (upA u 8 0 (0 : Int32))) p0.toNatClampNeg p1).2)) H := Eq.mp (congrArg (fun w => va_P (dC, dI) vwCl w H) MW_ks) hP
          have hD : va_D A0 (MW cI cZ h0 q ((f_Mchanges (f_Msaves (upA u 8 0 (0 : Int32))) p0.toNatClampNeg p1).2)) := Eq.mp (congrArg (fun w => va_D A0 w) MW_ks) hD
          have r3 : f_Mset u p0 p1 = ((f_Mchanges (f_Msaves (upA u 8 0 (0 : Int32))) p0.toNatClampNeg p1).1, (f_Mchanges (f_Msaves (upA u 8 0 (0 : Int32))) p0.toNatClampNeg p1).2) := by
            rw [f_Mset, if_pos c_11, if_neg c_23, if_pos c_33, if_pos c_47]
          exact kw_i hx hb hr hlk hP hS dX5_set_66 (by rw [r3]) (by rw [r3])
        · refine lv_aload_n hx hb dX5_set_50 rfl (lv_at hl 0 rfl) ?_
          refine lv_iconst (v := (2 : Int32)) hx hb dX5_set_51 (by decide) ?_
          refine kc_w (As := [.int (2 : Int32)]) (rest := []) S (v := (some (.int ((f_Mfails (upA u 8 0 (0 : Int32)) (2 : Int32)).1)))) (c_X5_fails l dC dI cI cZ cO h0 q (upA u 8 0 (0 : Int32)) (2 : Int32) H.size) gX5_set_X5_fails mi_X5_fails ⟨rfl, rfl⟩ ⟨Nat.le_of_ble_eq_true rfl, Nat.le_of_ble_eq_true rfl⟩ hK hP hD hS hA [0, 1, 2, 3, 4, 5, 6, 7] MW_all MW_fst rfl 0 rfl rfl ⟨Nat.le_refl _, Nat.le_refl _⟩ dX5_set_52 rfl hl.1 rfl (Nat.le_of_ble_eq_true rfl) (fun H locs hP hD hS => ?_)
          have hP : va_P (dC, dI) vwCl (MW cI cZ h0 q ((f_Mfails (upA u 8 0 (0 : Int32)) (2 : Int32)).2)) H := Eq.mp (congrArg (fun w => va_P (dC, dI) vwCl w H) MW_ks) hP
          have hD : va_D A0 (MW cI cZ h0 q ((f_Mfails (upA u 8 0 (0 : Int32)) (2 : Int32)).2)) := Eq.mp (congrArg (fun w => va_D A0 w) MW_ks) hD
          have r4 : f_Mset u p0 p1 = ((f_Mfails (upA u 8 0 (0 : Int32)) (2 : Int32)).1, (f_Mfails (upA u 8 0 (0 : Int32)) (2 : Int32)).2) := by
            rw [f_Mset, if_pos c_11, if_neg c_23, if_pos c_33, if_neg c_47]
          exact kw_i hx hb hr hlk hP hS dX5_set_55 (by rw [r4]) (by rw [r4])
    · refine lv_bipush (v := (95 : Int32)) hx hb dX5_set_26 (by decide) ?_
      refine lv_goto (tgt := 44) hx hb dX5_set_28 (by decide) ?_
      refine kc_p (y := yX5_in) (As := [.int p1, .int (0 : Int32), .int (95 : Int32)]) (rest := []) rfl S (v := .int (bI (f_Min p1 (0 : Int32) (95 : Int32)))) (c_X5_in l p1 (0 : Int32) (95 : Int32)) gX5_set_X5_in mi_X5_in ⟨rfl, rfl⟩ ⟨Nat.le_of_ble_eq_true rfl, Nat.le_of_ble_eq_true rfl⟩ ⟨Nat.le_refl _, Nat.le_refl _⟩ dX5_set_44 rfl hl.1 rfl (Nat.le_of_ble_eq_true rfl) ?_
      refine kb_ne (tgt := 56) hx hb dX5_set_47 (by decide) (fun c_47 => ?_) (fun c_47 => ?_)
      · refine lv_aload_n hx hb dX5_set_56 rfl (lv_at hl 0 rfl) ?_
        refine kc_w (As := []) (rest := []) S (v := none) (c_X5_saves l dC dI cI cZ cO h0 q (upA u 8 0 (0 : Int32)) H.size (by rw [upA_o (show (3 : Nat) ≠ 8 by decide)]; exact hk)) gX5_set_X5_saves mi_X5_saves ⟨rfl, rfl⟩ ⟨Nat.le_of_ble_eq_true rfl, Nat.le_of_ble_eq_true rfl⟩ hK hP hD hS hA [0, 1, 2, 3, 4, 5, 6, 7] MW_all MW_fst rfl 0 rfl rfl ⟨Nat.le_refl _, Nat.le_refl _⟩ dX5_set_57 rfl hl.1 rfl (Nat.le_of_ble_eq_true rfl) (fun H locs hP hD hS => ?_)
        have hP : va_P (dC, dI) vwCl (MW cI cZ h0 q (f_Msaves (upA u 8 0 (0 : Int32)))) H := Eq.mp (congrArg (fun w => va_P (dC, dI) vwCl w H) MW_ks) hP
        have hD : va_D A0 (MW cI cZ h0 q (f_Msaves (upA u 8 0 (0 : Int32)))) := Eq.mp (congrArg (fun w => va_D A0 w) MW_ks) hD
        refine lv_aload_n hx hb dX5_set_60 rfl (lv_at hl 0 rfl) ?_
        refine lv_iload_n hx hb dX5_set_61 rfl (lv_at hl 1 rfl) ?_
        refine lv_iload_n hx hb dX5_set_62 rfl (lv_at hl 2 rfl) ?_
        refine kc_w (As := [.int (nI p0.toNatClampNeg), .int p1]) (rest := []) S (v := (some (.int ((f_Mchanges (f_Msaves (upA u 8 0 (0 : Int32))) p0.toNatClampNeg p1).1)))) (c_X5_changes l dC dI cI cZ cO h0 q (f_Msaves (upA u 8 0 (0 : Int32))) p0.toNatClampNeg p1 H.size (vp_lt (vp_wk (m := 39) (f_Min_vp (n := 2) (by decide) c_11) (by decide)))) gX5_set_X5_changes mi_X5_changes ⟨rfl, rfl⟩ ⟨Nat.le_of_ble_eq_true rfl, Nat.le_of_ble_eq_true rfl⟩ hK hP hD hS hA [0, 1, 2, 3, 4, 5, 6, 7] MW_all MW_fst rfl 0 rfl rfl ⟨Nat.le_refl _, Nat.le_refl _⟩ dX5_set_63 rfl hl.1 (by rw [kcl (vp_wk (m := 39) (f_Min_vp (n := 2) (by decide) c_11) (by decide))]; rfl) (Nat.le_of_ble_eq_true rfl) (fun H locs hP hD hS => ?_)
        have hP : va_P (dC, dI) vwCl (MW cI cZ h0 q ((f_Mchanges (f_Msaves (upA u 8 0 (0 : Int32))) p0.toNatClampNeg p1).2)) H := Eq.mp (congrArg (fun w => va_P (dC, dI) vwCl w H) MW_ks) hP
        have hD : va_D A0 (MW cI cZ h0 q ((f_Mchanges (f_Msaves (upA u 8 0 (0 : Int32))) p0.toNatClampNeg p1).2)) := Eq.mp (congrArg (fun w => va_D A0 w) MW_ks) hD
        have r5 : f_Mset u p0 p1 = ((f_Mchanges (f_Msaves (upA u 8 0 (0 : Int32))) p0.toNatClampNeg p1).1, (f_Mchanges (f_Msaves (upA u 8 0 (0 : Int32))) p0.toNatClampNeg p1).2) := by
          rw [f_Mset, if_pos c_11, if_pos c_23, if_pos c_47]
        exact kw_i hx hb hr hlk hP hS dX5_set_66 (by rw [r5]) (by rw [r5])
      · refine lv_aload_n hx hb dX5_set_50 rfl (lv_at hl 0 rfl) ?_
        refine lv_iconst (v := (2 : Int32)) hx hb dX5_set_51 (by decide) ?_
        refine kc_w (As := [.int (2 : Int32)]) (rest := []) S (v := (some (.int ((f_Mfails (upA u 8 0 (0 : Int32)) (2 : Int32)).1)))) (c_X5_fails l dC dI cI cZ cO h0 q (upA u 8 0 (0 : Int32)) (2 : Int32) H.size) gX5_set_X5_fails mi_X5_fails ⟨rfl, rfl⟩ ⟨Nat.le_of_ble_eq_true rfl, Nat.le_of_ble_eq_true rfl⟩ hK hP hD hS hA [0, 1, 2, 3, 4, 5, 6, 7] MW_all MW_fst rfl 0 rfl rfl ⟨Nat.le_refl _, Nat.le_refl _⟩ dX5_set_52 rfl hl.1 rfl (Nat.le_of_ble_eq_true rfl) (fun H locs hP hD hS => ?_)
        have hP : va_P (dC, dI) vwCl (MW cI cZ h0 q ((f_Mfails (upA u 8 0 (0 : Int32)) (2 : Int32)).2)) H := Eq.mp (congrArg (fun w => va_P (dC, dI) vwCl w H) MW_ks) hP
        have hD : va_D A0 (MW cI cZ h0 q ((f_Mfails (upA u 8 0 (0 : Int32)) (2 : Int32)).2)) := Eq.mp (congrArg (fun w => va_D A0 w) MW_ks) hD
        have r6 : f_Mset u p0 p1 = ((f_Mfails (upA u 8 0 (0 : Int32)) (2 : Int32)).1, (f_Mfails (upA u 8 0 (0 : Int32)) (2 : Int32)).2) := by
          rw [f_Mset, if_pos c_11, if_pos c_23, if_neg c_47]
        exact kw_i hx hb hr hlk hP hS dX5_set_55 (by rw [r6]) (by rw [r6])
  · refine lv_aload_n hx hb dX5_set_14 rfl (lv_at hl 0 rfl) ?_
    refine lv_iconst (v := (1 : Int32)) hx hb dX5_set_15 (by decide) ?_
    refine kc_w (As := [.int (1 : Int32)]) (rest := []) S (v := (some (.int ((f_Mfails (upA u 8 0 (0 : Int32)) (1 : Int32)).1)))) (c_X5_fails l dC dI cI cZ cO h0 q (upA u 8 0 (0 : Int32)) (1 : Int32) H.size) gX5_set_X5_fails mi_X5_fails ⟨rfl, rfl⟩ ⟨Nat.le_of_ble_eq_true rfl, Nat.le_of_ble_eq_true rfl⟩ hK hP hD hS hA [0, 1, 2, 3, 4, 5, 6, 7] MW_all MW_fst rfl 0 rfl rfl ⟨Nat.le_refl _, Nat.le_refl _⟩ dX5_set_16 rfl hl.1 rfl (Nat.le_of_ble_eq_true rfl) (fun H locs hP hD hS => ?_)
    have hP : va_P (dC, dI) vwCl (MW cI cZ h0 q ((f_Mfails (upA u 8 0 (0 : Int32)) (1 : Int32)).2)) H := Eq.mp (congrArg (fun w => va_P (dC, dI) vwCl w H) MW_ks) hP
    have hD : va_D A0 (MW cI cZ h0 q ((f_Mfails (upA u 8 0 (0 : Int32)) (1 : Int32)).2)) := Eq.mp (congrArg (fun w => va_D A0 w) MW_ks) hD
    have r7 : f_Mset u p0 p1 = ((f_Mfails (upA u 8 0 (0 : Int32)) (1 : Int32)).1, (f_Mfails (upA u 8 0 (0 : Int32)) (1 : Int32)).2) := by
      rw [f_Mset, if_neg c_11]
    exact kw_i hx hb hr hlk hP hS dX5_set_19 (by rw [r7]) (by rw [r7])

def rm_X5_append : Room := { frames := 1, cells := 0, slots := 0, locals := 22 }
theorem mi_X5_append : kM yX5_append wsX5_append cX5_append 2 (some .int) 1 := ⟨⟨_, rfl⟩, by decide, by decide, by decide +kernel⟩
def f_Mappend (u : BS) (p0 : Int32) : Int32 × BS := if (f_Min p0 (33 : Int32) (126 : Int32)) = true then (if (nI ((u 7 0).toNatClampNeg)) = (60 : Int32) then ((f_Mfails (upA u 8 0 (0 : Int32)) (2 : Int32)).1, (f_Mfails (upA u 8 0 (0 : Int32)) (2 : Int32)).2) else (nI (((u 7 0).toNatClampNeg) + 1), upA (upA (upA u 8 0 (0 : Int32)) 6 ((u 7 0).toNatClampNeg) p0) 7 0 (nI (((u 7 0).toNatClampNeg) + 1)))) else ((f_Mfails (upA u 8 0 (0 : Int32)) (1 : Int32)).1, (f_Mfails (upA u 8 0 (0 : Int32)) (1 : Int32)).2)
set_option maxHeartbeats 1000000 in
set_option maxRecDepth 100000 in
theorem c_X5_append (l : Launch) (dC : Nat → ClassId) (dI : Nat → Nat → Nat) (cI cZ cO : ClassId) (h0 : Nat) (q : Nat → Nat) (u : BS) (p0 : Int32) (sz : Nat) (ht : vp_in (u 7 0) 61) : Met l yX5_append wsX5_append rm_X5_append (va_Pc [.ref h0, .int p0] (fun U => U.heap.size = sz ∧ va_P (dC, dI) vwCl (MW cI cZ h0 q u) U.heap ∧ va_K (dC, dI) vwCl (TY cI cZ cO) U ∧ va_D (fun _ => True) (MW cI cZ h0 q u))) (kQw (some (.int (f_Mappend u p0).1)) (dC, dI) vwCl (MW cI cZ h0 q ((f_Mappend u p0).2)) (va_A (MW cI cZ h0 q u) sz)) 0 0 (va_A (MW cI cZ h0 q u) sz) := by
  refine kofW (cc := cX5_append) (maxL := 2) (ret := some .int) (by decide) rfl (Nat.le_of_ble_eq_true rfl) ?_
  intro p e s m args below meth c ls S hr hlk hnm hsz hP hK hD hS hA hl
  generalize hA0 : va_A (MW cI cZ h0 q u) sz = A0 at hD hS hA ⊢
  subst hsz
  obtain ⟨hx, hb, hml, hown, hts⟩ := id S
  have ht_n : (u 7 0).toNatClampNeg < 61 := vp_lt ht
  have inX5 : ∀ w ∈ wsX50, w ∈ wsX5_append := fun w h => List.mem_cons_of_mem _ (List.mem_append_right _ h)
  have hl : lv_has ls 2 [(0, .ref h0), (1, .int p0)] := hl
  refine lv_aload_n hx hb dX5_append_0 rfl (lv_at hl 0 rfl) ?_
  refine lv_iconst (v := (0 : Int32)) hx hb dX5_append_1 (by decide) ?_
  refine va_put (D := (dC, dI)) (ci := 5) (v := .int (0 : Int32)) (ty := .int) (C := RX5) (T := TX5) (N := 14) hx hb hts inX5 tyX5 tyX5_ok nmX5 hown hK hP hD hS 0 rfl rfl 8 (by decide) (hts (.fieldLink RX5 32 "BoardMetronomesModel" "thrown" "I") (by decide +kernel)) (fun _ h9 => h9) rfl (by decide +kernel) rfl rfl (Nat.le_of_ble_eq_true rfl) dX5_append_2 (fun H locs hP hD hS => ?_)
  have hP : va_P (dC, dI) vwCl (MW cI cZ h0 q (upA u 8 0 (0 : Int32))) H := Eq.mp (congrArg (fun w => va_P (dC, dI) vwCl w H) MW_s8) hP
  have hD : va_D A0 (MW cI cZ h0 q (upA u 8 0 (0 : Int32))) := Eq.mp (congrArg (fun w => va_D A0 w) MW_s8) hD
  refine lv_iload_n hx hb dX5_append_5 rfl (lv_at hl 1 rfl) ?_
  refine lv_bipush (v := (33 : Int32)) hx hb dX5_append_6 (by decide) ?_
  refine lv_bipush (v := (126 : Int32)) hx hb dX5_append_8 (by decide) ?_
  refine kc_p (y := yX5_in) (As := [.int p0, .int (33 : Int32), .int (126 : Int32)]) (rest := []) rfl S (v := .int (bI (f_Min p0 (33 : Int32) (126 : Int32)))) (c_X5_in l p0 (33 : Int32) (126 : Int32)) gX5_append_X5_in mi_X5_in ⟨rfl, rfl⟩ ⟨Nat.le_of_ble_eq_true rfl, Nat.le_of_ble_eq_true rfl⟩ ⟨Nat.le_refl _, Nat.le_refl _⟩ dX5_append_10 rfl hl.1 rfl (Nat.le_of_ble_eq_true rfl) ?_
  refine kb_ne (tgt := 22) hx hb dX5_append_13 (by decide) (fun c_13 => ?_) (fun c_13 => ?_)
  · refine lv_aload_n hx hb dX5_append_22 rfl (lv_at hl 0 rfl) ?_
    refine va_get (D := (dC, dI)) (ci := 5) (v := .int (u 7 0)) (C := RX5) (T := TX5) (N := 14) hx hb hts inX5 hown hK hP 0 rfl rfl 7 (by decide) (hts (.fieldLink RX5 123 "BoardMetronomesModel" "typed" "I") (by decide +kernel)) (fun _ h9 => h9) (congrArg (fun z => some (Value.int z)) (show (upA u 8 0 (0 : Int32)) 7 0 = u 7 0 by rw [upA_o (show (7 : Nat) ≠ 8 by decide)])) dX5_append_23 ?_
    refine kt_i (kcl ht).symm ?_
    refine lv_bipush (v := (60 : Int32)) hx hb dX5_append_26 (by decide) ?_
    refine lv_icmp_ne (tgt := 37) hx hb dX5_append_28 (by decide) (fun c_28 => ?_) (fun c_28 => ?_)
    · have c_28n : ¬ ((u 7 0).toNatClampNeg) = 60 := fun z => c_28 ((nI_eq (a := ((u 7 0).toNatClampNeg)) (b := 60) (by omega) (by omega)).mpr z)
      refine lv_aload_n hx hb dX5_append_37 rfl (lv_at hl 0 rfl) ?_
      refine va_get (D := (dC, dI)) (ci := 5) (v := .ref (q 6)) (C := RX5) (T := TX5) (N := 14) hx hb hts inX5 hown hK hP 0 rfl rfl 6 (by decide) (hts (.fieldLink RX5 26 "BoardMetronomesModel" "text" "[I") (by decide +kernel)) (fun _ h9 => h9) rfl dX5_append_38 ?_
      refine lv_aload_n hx hb dX5_append_41 rfl (lv_at hl 0 rfl) ?_
      refine va_get (D := (dC, dI)) (ci := 5) (v := .int (u 7 0)) (C := RX5) (T := TX5) (N := 14) hx hb hts inX5 hown hK hP 0 rfl rfl 7 (by decide) (hts (.fieldLink RX5 123 "BoardMetronomesModel" "typed" "I") (by decide +kernel)) (fun _ h9 => h9) (congrArg (fun z => some (Value.int z)) (show (upA u 8 0 (0 : Int32)) 7 0 = u 7 0 by rw [upA_o (show (7 : Nat) ≠ 8 by decide)])) dX5_append_42 ?_
      refine kt_i (kcl ht).symm ?_
      refine lv_iload_n hx hb dX5_append_45 rfl (lv_at hl 1 rfl) ?_
      refine k_iast (D := (dC, dI)) hx hb hK hP hD hS 6 0 rfl rfl (j := ((u 7 0).toNatClampNeg)) (by omega) (by decide) dX5_append_46 (fun H locs hP hD hS => ?_)
      have hP : va_P (dC, dI) vwCl (MW cI cZ h0 q (upA (upA u 8 0 (0 : Int32)) 6 ((u 7 0).toNatClampNeg) p0)) H := Eq.mp (congrArg (fun w => va_P (dC, dI) vwCl w H) MW_a6) hP
      have hD : va_D A0 (MW cI cZ h0 q (upA (upA u 8 0 (0 : Int32)) 6 ((u 7 0).toNatClampNeg) p0)) := Eq.mp (congrArg (fun w => va_D A0 w) MW_a6) hD
      refine lv_aload_n hx hb dX5_append_47 rfl (lv_at hl 0 rfl) ?_
      refine lv_dup hx hb dX5_append_48 rfl ?_
      refine va_get (D := (dC, dI)) (ci := 5) (v := .int (u 7 0)) (C := RX5) (T := TX5) (N := 14) hx hb hts inX5 hown hK hP 0 rfl rfl 7 (by decide) (hts (.fieldLink RX5 123 "BoardMetronomesModel" "typed" "I") (by decide +kernel)) (fun _ h9 => h9) (congrArg (fun z => some (Value.int z)) (show (upA (upA u 8 0 (0 : Int32)) 6 ((u 7 0).toNatClampNeg) p0) 7 0 = u 7 0 by rw [upA_o (show (7 : Nat) ≠ 6 by decide), upA_o (show (7 : Nat) ≠ 8 by decide)])) dX5_append_49 ?_
      refine kt_i (kcl ht).symm ?_
      refine lv_iconst (v := (1 : Int32)) hx hb dX5_append_52 (by decide) ?_
      refine k_iaddn (x := (u 7 0).toNatClampNeg) (y := 1) hx hb dX5_append_53 ?_
      refine va_put (D := (dC, dI)) (ci := 5) (v := .int (nI (((u 7 0).toNatClampNeg) + 1))) (ty := .int) (C := RX5) (T := TX5) (N := 14) hx hb hts inX5 tyX5 tyX5_ok nmX5 hown hK hP hD hS 0 rfl rfl 7 (by decide) (hts (.fieldLink RX5 123 "BoardMetronomesModel" "typed" "I") (by decide +kernel)) (fun _ h9 => h9) rfl (by decide +kernel) rfl rfl (Nat.le_of_ble_eq_true rfl) dX5_append_54 (fun H locs hP hD hS => ?_)
      have hP : va_P (dC, dI) vwCl (MW cI cZ h0 q (upA (upA (upA u 8 0 (0 : Int32)) 6 ((u 7 0).toNatClampNeg) p0) 7 0 (nI (((u 7 0).toNatClampNeg) + 1)))) H := Eq.mp (congrArg (fun w => va_P (dC, dI) vwCl w H) MW_s7) hP
      have hD : va_D A0 (MW cI cZ h0 q (upA (upA (upA u 8 0 (0 : Int32)) 6 ((u 7 0).toNatClampNeg) p0) 7 0 (nI (((u 7 0).toNatClampNeg) + 1)))) := Eq.mp (congrArg (fun w => va_D A0 w) MW_s7) hD
      refine lv_aload_n hx hb dX5_append_57 rfl (lv_at hl 0 rfl) ?_
      refine va_get (D := (dC, dI)) (ci := 5) (v := .int (nI (((u 7 0).toNatClampNeg) + 1))) (C := RX5) (T := TX5) (N := 14) hx hb hts inX5 hown hK hP 0 rfl rfl 7 (by decide) (hts (.fieldLink RX5 123 "BoardMetronomesModel" "typed" "I") (by decide +kernel)) (fun _ h9 => h9) (congrArg (fun z => some (Value.int z)) (show (upA (upA (upA u 8 0 (0 : Int32)) 6 ((u 7 0).toNatClampNeg) p0) 7 0 (nI (((u 7 0).toNatClampNeg) + 1))) 7 0 = nI (((u 7 0).toNatClampNeg) + 1) by rw [upA_s])) dX5_append_58 ?_
      have r1 : f_Mappend u p0 = (nI (((u 7 0).toNatClampNeg) + 1), upA (upA (upA u 8 0 (0 : Int32)) 6 ((u 7 0).toNatClampNeg) p0) 7 0 (nI (((u 7 0).toNatClampNeg) + 1))) := by
        rw [f_Mappend, if_pos c_13, if_neg c_28]
      exact kw_i hx hb hr hlk hP hS dX5_append_61 (by rw [r1]) (by rw [r1])
    · have c_28n : ((u 7 0).toNatClampNeg) = 60 := (nI_eq (a := ((u 7 0).toNatClampNeg)) (b := 60) (by omega) (by omega)).mp c_28
      refine lv_aload_n hx hb dX5_append_31 rfl (lv_at hl 0 rfl) ?_
      refine lv_iconst (v := (2 : Int32)) hx hb dX5_append_32 (by decide) ?_
      refine kc_w (As := [.int (2 : Int32)]) (rest := []) S (v := (some (.int ((f_Mfails (upA u 8 0 (0 : Int32)) (2 : Int32)).1)))) (c_X5_fails l dC dI cI cZ cO h0 q (upA u 8 0 (0 : Int32)) (2 : Int32) H.size) gX5_append_X5_fails mi_X5_fails ⟨rfl, rfl⟩ ⟨Nat.le_of_ble_eq_true rfl, Nat.le_of_ble_eq_true rfl⟩ hK hP hD hS hA [0, 1, 2, 3, 4, 5, 6, 7] MW_all MW_fst rfl 0 rfl rfl ⟨Nat.le_refl _, Nat.le_refl _⟩ dX5_append_33 rfl hl.1 rfl (Nat.le_of_ble_eq_true rfl) (fun H locs hP hD hS => ?_)
      have hP : va_P (dC, dI) vwCl (MW cI cZ h0 q ((f_Mfails (upA u 8 0 (0 : Int32)) (2 : Int32)).2)) H := Eq.mp (congrArg (fun w => va_P (dC, dI) vwCl w H) MW_ks) hP
      have hD : va_D A0 (MW cI cZ h0 q ((f_Mfails (upA u 8 0 (0 : Int32)) (2 : Int32)).2)) := Eq.mp (congrArg (fun w => va_D A0 w) MW_ks) hD
      have r2 : f_Mappend u p0 = ((f_Mfails (upA u 8 0 (0 : Int32)) (2 : Int32)).1, (f_Mfails (upA u 8 0 (0 : Int32)) (2 : Int32)).2) := by
        rw [f_Mappend, if_pos c_13, if_pos c_28]
      exact kw_i hx hb hr hlk hP hS dX5_append_36 (by rw [r2]) (by rw [r2])
  · refine lv_aload_n hx hb dX5_append_16 rfl (lv_at hl 0 rfl) ?_
    refine lv_iconst (v := (1 : Int32)) hx hb dX5_append_17 (by decide) ?_
    refine kc_w (As := [.int (1 : Int32)]) (rest := []) S (v := (some (.int ((f_Mfails (upA u 8 0 (0 : Int32)) (1 : Int32)).1)))) (c_X5_fails l dC dI cI cZ cO h0 q (upA u 8 0 (0 : Int32)) (1 : Int32) H.size) gX5_append_X5_fails mi_X5_fails ⟨rfl, rfl⟩ ⟨Nat.le_of_ble_eq_true rfl, Nat.le_of_ble_eq_true rfl⟩ hK hP hD hS hA [0, 1, 2, 3, 4, 5, 6, 7] MW_all MW_fst rfl 0 rfl rfl ⟨Nat.le_refl _, Nat.le_refl _⟩ dX5_append_18 rfl hl.1 rfl (Nat.le_of_ble_eq_true rfl) (fun H locs hP hD hS => ?_)
    have hP : va_P (dC, dI) vwCl (MW cI cZ h0 q ((f_Mfails (upA u 8 0 (0 : Int32)) (1 : Int32)).2)) H := Eq.mp (congrArg (fun w => va_P (dC, dI) vwCl w H) MW_ks) hP
    have hD : va_D A0 (MW cI cZ h0 q ((f_Mfails (upA u 8 0 (0 : Int32)) (1 : Int32)).2)) := Eq.mp (congrArg (fun w => va_D A0 w) MW_ks) hD
    have r3 : f_Mappend u p0 = ((f_Mfails (upA u 8 0 (0 : Int32)) (1 : Int32)).1, (f_Mfails (upA u 8 0 (0 : Int32)) (1 : Int32)).2) := by
      rw [f_Mappend, if_neg c_13]
    exact kw_i hx hb hr hlk hP hS dX5_append_21 (by rw [r3]) (by rw [r3])

def rm_X5_clearBuffer : Room := { frames := 0, cells := 0, slots := 0, locals := 0 }
theorem mi_X5_clearBuffer : kM yX5_clearBuffer wsX5_clearBuffer cX5_clearBuffer 2 (some .int) 0 := ⟨⟨_, rfl⟩, by decide, by decide, by decide +kernel⟩
def f_MclearBuffer (u : BS) : Int32 × BS := (u 7 0, upA (upA u 8 0 (0 : Int32)) 7 0 (0 : Int32))
set_option maxHeartbeats 1000000 in
set_option maxRecDepth 100000 in
theorem c_X5_clearBuffer (l : Launch) (dC : Nat → ClassId) (dI : Nat → Nat → Nat) (cI cZ cO : ClassId) (h0 : Nat) (q : Nat → Nat) (u : BS) (sz : Nat) : Met l yX5_clearBuffer wsX5_clearBuffer rm_X5_clearBuffer (va_Pc [.ref h0] (fun U => U.heap.size = sz ∧ va_P (dC, dI) vwCl (MW cI cZ h0 q u) U.heap ∧ va_K (dC, dI) vwCl (TY cI cZ cO) U ∧ va_D (fun _ => True) (MW cI cZ h0 q u))) (kQw (some (.int (f_MclearBuffer u).1)) (dC, dI) vwCl (MW cI cZ h0 q ((f_MclearBuffer u).2)) (va_A (MW cI cZ h0 q u) sz)) 0 0 (va_A (MW cI cZ h0 q u) sz) := by
  refine kofW (cc := cX5_clearBuffer) (maxL := 2) (ret := some .int) (by decide) rfl (Nat.le_of_ble_eq_true rfl) ?_
  intro p e s m args below meth c ls S hr hlk hnm hsz hP hK hD hS hA hl
  generalize hA0 : va_A (MW cI cZ h0 q u) sz = A0 at hD hS hA ⊢
  subst hsz
  obtain ⟨hx, hb, hml, hown, hts⟩ := id S
  have inX5 : ∀ w ∈ wsX50, w ∈ wsX5_clearBuffer := fun w h => List.mem_cons_of_mem _ (List.mem_append_right _ h)
  have hl : lv_has ls 2 [(0, .ref h0)] := hl
  refine lv_aload_n hx hb dX5_clearBuffer_0 rfl (lv_at hl 0 rfl) ?_
  refine lv_iconst (v := (0 : Int32)) hx hb dX5_clearBuffer_1 (by decide) ?_
  refine va_put (D := (dC, dI)) (ci := 5) (v := .int (0 : Int32)) (ty := .int) (C := RX5) (T := TX5) (N := 14) hx hb hts inX5 tyX5 tyX5_ok nmX5 hown hK hP hD hS 0 rfl rfl 8 (by decide) (hts (.fieldLink RX5 32 "BoardMetronomesModel" "thrown" "I") (by decide +kernel)) (fun _ h9 => h9) rfl (by decide +kernel) rfl rfl (Nat.le_of_ble_eq_true rfl) dX5_clearBuffer_2 (fun H locs hP hD hS => ?_)
  have hP : va_P (dC, dI) vwCl (MW cI cZ h0 q (upA u 8 0 (0 : Int32))) H := Eq.mp (congrArg (fun w => va_P (dC, dI) vwCl w H) MW_s8) hP
  have hD : va_D A0 (MW cI cZ h0 q (upA u 8 0 (0 : Int32))) := Eq.mp (congrArg (fun w => va_D A0 w) MW_s8) hD
  refine lv_aload_n hx hb dX5_clearBuffer_5 rfl (lv_at hl 0 rfl) ?_
  refine va_get (D := (dC, dI)) (ci := 5) (v := .int (u 7 0)) (C := RX5) (T := TX5) (N := 14) hx hb hts inX5 hown hK hP 0 rfl rfl 7 (by decide) (hts (.fieldLink RX5 123 "BoardMetronomesModel" "typed" "I") (by decide +kernel)) (fun _ h9 => h9) (congrArg (fun z => some (Value.int z)) (show (upA u 8 0 (0 : Int32)) 7 0 = u 7 0 by rw [upA_o (show (7 : Nat) ≠ 8 by decide)])) dX5_clearBuffer_6 ?_
  refine lv_istore_n (lv' := [(1, .int (u 7 0)), (0, .ref h0)]) hx hb dX5_clearBuffer_9 rfl hl (by decide) rfl (fun ls hl => ?_)
  refine lv_aload_n hx hb dX5_clearBuffer_10 rfl (lv_at hl 1 rfl) ?_
  refine lv_iconst (v := (0 : Int32)) hx hb dX5_clearBuffer_11 (by decide) ?_
  refine va_put (D := (dC, dI)) (ci := 5) (v := .int (0 : Int32)) (ty := .int) (C := RX5) (T := TX5) (N := 14) hx hb hts inX5 tyX5 tyX5_ok nmX5 hown hK hP hD hS 0 rfl rfl 7 (by decide) (hts (.fieldLink RX5 123 "BoardMetronomesModel" "typed" "I") (by decide +kernel)) (fun _ h9 => h9) rfl (by decide +kernel) rfl rfl (Nat.le_of_ble_eq_true rfl) dX5_clearBuffer_12 (fun H locs hP hD hS => ?_)
  have hP : va_P (dC, dI) vwCl (MW cI cZ h0 q (upA (upA u 8 0 (0 : Int32)) 7 0 (0 : Int32))) H := Eq.mp (congrArg (fun w => va_P (dC, dI) vwCl w H) MW_s7) hP
  have hD : va_D A0 (MW cI cZ h0 q (upA (upA u 8 0 (0 : Int32)) 7 0 (0 : Int32))) := Eq.mp (congrArg (fun w => va_D A0 w) MW_s7) hD
  refine lv_iload_n hx hb dX5_clearBuffer_15 rfl (lv_at hl 0 rfl) ?_
  have r1 : f_MclearBuffer u = (u 7 0, upA (upA u 8 0 (0 : Int32)) 7 0 (0 : Int32)) := by
    rw [f_MclearBuffer]
  exact kw_i hx hb hr hlk hP hS dX5_clearBuffer_16 (by rw [r1]) (by rw [r1])

theorem vp_wk {x : Int32} {n m : Nat} (h : vp_in x n) (hm : n ≤ m) : vp_in x m := by
  have h1 := vp_in_iff.mp h
  exact vp_in_iff.mpr ⟨h1.1, by omega⟩

def rm_X5_thrown : Room := { frames := 0, cells := 0, slots := 0, locals := 0 }
theorem mi_X5_thrown : kM yX5_thrown wsX5_thrown cX5_thrown 1 (some .int) 0 := ⟨⟨_, rfl⟩, by decide, by decide, by decide +kernel⟩
def f_Mthrown (u : BS) : Int32 := u 8 0
set_option maxHeartbeats 1000000 in
set_option maxRecDepth 100000 in
theorem c_X5_thrown (l : Launch) (dC : Nat → ClassId) (dI : Nat → Nat → Nat) (cI cZ cO : ClassId) (h0 : Nat) (q : Nat → Nat) (u : BS) : Met l yX5_thrown wsX5_thrown rm_X5_thrown (va_Pc [.ref h0] (fun U => va_P (dC, dI) vwCl (MW cI cZ h0 q u) U.heap ∧ va_K (dC, dI) vwCl (TY cI cZ cO) U)) (kQ (some (.int (f_Mthrown u)))) 0 0 (fun _ => False) := by
  refine kofR (cc := cX5_thrown) (maxL := 1) (ret := some .int) (by decide) rfl (Nat.le_of_ble_eq_true rfl) ?_
  intro p e s m args below meth c ls S hr hlk hP hK hl
  obtain ⟨hx, hb, hml, hown, hts⟩ := id S
  have inX5 : ∀ w ∈ wsX50, w ∈ wsX5_thrown := fun w h => List.mem_cons_of_mem _ (List.mem_append_right _ h)
  have hl : lv_has ls 1 [(0, .ref h0)] := hl
  refine lv_aload_n hx hb dX5_thrown_0 rfl (lv_at hl 0 rfl) ?_
  refine va_get (D := (dC, dI)) (ci := 5) (v := .int (u 8 0)) (C := RX5) (T := TX5) (N := 14) hx hb hts inX5 hown hK hP 0 rfl rfl 8 (by decide) (hts (.fieldLink RX5 32 "BoardMetronomesModel" "thrown" "I") (by decide +kernel)) (fun _ h9 => h9) rfl dX5_thrown_1 ?_
  have r1 : f_Mthrown u = u 8 0 := by
    rw [f_Mthrown]
  exact kr_i hx hb hr hlk dX5_thrown_4 r1.symm

def rm_X5_fails : Room := { frames := 0, cells := 0, slots := 0, locals := 0 }
theorem mi_X5_fails : kM yX5_fails wsX5_fails cX5_fails 2 (some .int) 1 := ⟨⟨_, rfl⟩, by decide, by decide, by decide +kernel⟩
def f_Mfails (u : BS) (p0 : Int32) : Int32 × BS := ((0 : Int32), upA u 8 0 p0)
set_option maxHeartbeats 1000000 in
set_option maxRecDepth 100000 in
theorem c_X5_fails (l : Launch) (dC : Nat → ClassId) (dI : Nat → Nat → Nat) (cI cZ cO : ClassId) (h0 : Nat) (q : Nat → Nat) (u : BS) (p0 : Int32) (sz : Nat) : Met l yX5_fails wsX5_fails rm_X5_fails (va_Pc [.ref h0, .int p0] (fun U => U.heap.size = sz ∧ va_P (dC, dI) vwCl (MW cI cZ h0 q u) U.heap ∧ va_K (dC, dI) vwCl (TY cI cZ cO) U ∧ va_D (fun _ => True) (MW cI cZ h0 q u))) (kQw (some (.int (f_Mfails u p0).1)) (dC, dI) vwCl (MW cI cZ h0 q ((f_Mfails u p0).2)) (va_A (MW cI cZ h0 q u) sz)) 0 0 (va_A (MW cI cZ h0 q u) sz) := by
  refine kofW (cc := cX5_fails) (maxL := 2) (ret := some .int) (by decide) rfl (Nat.le_of_ble_eq_true rfl) ?_
  intro p e s m args below meth c ls S hr hlk hnm hsz hP hK hD hS hA hl
  generalize hA0 : va_A (MW cI cZ h0 q u) sz = A0 at hD hS hA ⊢
  subst hsz
  obtain ⟨hx, hb, hml, hown, hts⟩ := id S
  have inX5 : ∀ w ∈ wsX50, w ∈ wsX5_fails := fun w h => List.mem_cons_of_mem _ (List.mem_append_right _ h)
  have hl : lv_has ls 2 [(0, .ref h0), (1, .int p0)] := hl
  refine lv_aload_n hx hb dX5_fails_0 rfl (lv_at hl 0 rfl) ?_
  refine lv_iload_n hx hb dX5_fails_1 rfl (lv_at hl 1 rfl) ?_
  refine va_put (D := (dC, dI)) (ci := 5) (v := .int p0) (ty := .int) (C := RX5) (T := TX5) (N := 14) hx hb hts inX5 tyX5 tyX5_ok nmX5 hown hK hP hD hS 0 rfl rfl 8 (by decide) (hts (.fieldLink RX5 32 "BoardMetronomesModel" "thrown" "I") (by decide +kernel)) (fun _ h9 => h9) rfl (by decide +kernel) rfl rfl (Nat.le_of_ble_eq_true rfl) dX5_fails_2 (fun H locs hP hD hS => ?_)
  have hP : va_P (dC, dI) vwCl (MW cI cZ h0 q (upA u 8 0 p0)) H := Eq.mp (congrArg (fun w => va_P (dC, dI) vwCl w H) MW_s8) hP
  have hD : va_D A0 (MW cI cZ h0 q (upA u 8 0 p0)) := Eq.mp (congrArg (fun w => va_D A0 w) MW_s8) hD
  refine lv_iconst (v := (0 : Int32)) hx hb dX5_fails_5 (by decide) ?_
  have r1 : f_Mfails u p0 = ((0 : Int32), upA u 8 0 p0) := by
    rw [f_Mfails]
  exact kw_i hx hb hr hlk hP hS dX5_fails_6 (by rw [r1]) (by rw [r1])

def rm_X5_isArm : Room := { frames := 1, cells := 0, slots := 0, locals := 22 }
theorem mi_X5_isArm : kM yX5_isArm wsX5_isArm cX5_isArm 2 (some .boolean) 1 := ⟨⟨_, rfl⟩, by decide, by decide, by decide +kernel⟩
def f_MisArm (u : BS) (p0 : Int32) : Bool := (f_Min p0 (0 : Int32) (((u 0) 3) - (1 : Int32)))
set_option maxHeartbeats 1000000 in
set_option maxRecDepth 100000 in
theorem c_X5_isArm (l : Launch) (dC : Nat → ClassId) (dI : Nat → Nat → Nat) (cI cZ cO : ClassId) (h0 : Nat) (q : Nat → Nat) (u : BS) (p0 : Int32) : Met l yX5_isArm wsX5_isArm rm_X5_isArm (va_Pc [.ref h0, .int p0] (fun U => va_P (dC, dI) vwCl (MW cI cZ h0 q u) U.heap ∧ va_K (dC, dI) vwCl (TY cI cZ cO) U)) (kQ (some (.int (bI (f_MisArm u p0))))) 0 0 (fun _ => False) := by
  refine kofR (cc := cX5_isArm) (maxL := 2) (ret := some .boolean) (by decide) rfl (Nat.le_of_ble_eq_true rfl) ?_
  intro p e s m args below meth c ls S hr hlk hP hK hl
  obtain ⟨hx, hb, hml, hown, hts⟩ := id S
  have inX5 : ∀ w ∈ wsX50, w ∈ wsX5_isArm := fun w h => List.mem_cons_of_mem _ (List.mem_append_right _ h)
  have hl : lv_has ls 2 [(0, .ref h0), (1, .int p0)] := hl
  refine lv_iload_n hx hb dX5_isArm_0 rfl (lv_at hl 1 rfl) ?_
  refine lv_iconst (v := (0 : Int32)) hx hb dX5_isArm_1 (by decide) ?_
  refine lv_aload_n hx hb dX5_isArm_2 rfl (lv_at hl 0 rfl) ?_
  refine va_get (D := (dC, dI)) (ci := 5) (v := .ref (q 0)) (C := RX5) (T := TX5) (N := 14) hx hb hts inX5 hown hK hP 0 rfl rfl 0 (by decide) (hts (.fieldLink RX5 7 "BoardMetronomesModel" "now" "[I") (by decide +kernel)) (fun _ h9 => h9) rfl dX5_isArm_3 ?_
  refine lv_iconst (v := (3 : Int32)) hx hb dX5_isArm_6 (by decide) ?_
  refine k_iald (D := (dC, dI)) hx hb hK hP 1 0 rfl rfl (j := 3) (by omega) (by decide) dX5_isArm_7 ?_
  refine lv_iconst (v := (1 : Int32)) hx hb dX5_isArm_8 (by decide) ?_
  refine lv_isub hx hb dX5_isArm_9 ?_
  refine kc_p (y := yX5_in) (As := [.int p0, .int (0 : Int32), .int (((u 0) 3) - (1 : Int32))]) (rest := []) rfl S (v := .int (bI (f_Min p0 (0 : Int32) (((u 0) 3) - (1 : Int32))))) (c_X5_in l p0 (0 : Int32) (((u 0) 3) - (1 : Int32))) gX5_isArm_X5_in mi_X5_in ⟨rfl, rfl⟩ ⟨Nat.le_of_ble_eq_true rfl, Nat.le_of_ble_eq_true rfl⟩ ⟨Nat.le_refl _, Nat.le_refl _⟩ dX5_isArm_10 rfl hl.1 rfl (Nat.le_of_ble_eq_true rfl) ?_
  have r1 : f_MisArm u p0 = (f_Min p0 (0 : Int32) (((u 0) 3) - (1 : Int32))) := by
    rw [f_MisArm]
  exact kr_z (x := (f_Min p0 (0 : Int32) (((u 0) 3) - (1 : Int32)))) hx hb hr hlk dX5_isArm_13 rfl r1

def rm_X5_mayRun : Room := { frames := 0, cells := 0, slots := 0, locals := 0 }
theorem mi_X5_mayRun : kM yX5_mayRun wsX5_mayRun cX5_mayRun 2 (some .boolean) 1 := ⟨⟨_, rfl⟩, by decide, by decide, by decide +kernel⟩
def f_MmayRun (u : BS) (p0 : Int32) : Bool := if (99999 : Int32) < (((u 0) 4) + p0) then false else true
set_option maxHeartbeats 1000000 in
set_option maxRecDepth 100000 in
theorem c_X5_mayRun (l : Launch) (dC : Nat → ClassId) (dI : Nat → Nat → Nat) (cI cZ cO : ClassId) (h0 : Nat) (q : Nat → Nat) (u : BS) (p0 : Int32) : Met l yX5_mayRun wsX5_mayRun rm_X5_mayRun (va_Pc [.ref h0, .int p0] (fun U => va_P (dC, dI) vwCl (MW cI cZ h0 q u) U.heap ∧ va_K (dC, dI) vwCl (TY cI cZ cO) U)) (kQ (some (.int (bI (f_MmayRun u p0))))) 0 0 (fun _ => False) := by
  refine kofR (cc := cX5_mayRun) (maxL := 2) (ret := some .boolean) (by decide) rfl (Nat.le_of_ble_eq_true rfl) ?_
  intro p e s m args below meth c ls S hr hlk hP hK hl
  obtain ⟨hx, hb, hml, hown, hts⟩ := id S
  have inX5 : ∀ w ∈ wsX50, w ∈ wsX5_mayRun := fun w h => List.mem_cons_of_mem _ (List.mem_append_right _ h)
  have hl : lv_has ls 2 [(0, .ref h0), (1, .int p0)] := hl
  refine lv_aload_n hx hb dX5_mayRun_0 rfl (lv_at hl 0 rfl) ?_
  refine va_get (D := (dC, dI)) (ci := 5) (v := .ref (q 0)) (C := RX5) (T := TX5) (N := 14) hx hb hts inX5 hown hK hP 0 rfl rfl 0 (by decide) (hts (.fieldLink RX5 7 "BoardMetronomesModel" "now" "[I") (by decide +kernel)) (fun _ h9 => h9) rfl dX5_mayRun_1 ?_
  refine lv_iconst (v := (4 : Int32)) hx hb dX5_mayRun_4 (by decide) ?_
  refine k_iald (D := (dC, dI)) hx hb hK hP 1 0 rfl rfl (j := 4) (by omega) (by decide) dX5_mayRun_5 ?_
  refine lv_iload_n hx hb dX5_mayRun_6 rfl (lv_at hl 1 rfl) ?_
  refine lv_iadd hx hb dX5_mayRun_7 ?_
  refine lv_ldc (v := (99999 : Int32)) hx hb hown (hts (.constant RX5 112 (99999)) (by decide +kernel)) dX5_mayRun_8 ?_
  refine lv_icmp_gt (tgt := 17) hx hb dX5_mayRun_10 (by decide) (fun c_10 => ?_) (fun c_10 => ?_)
  · refine lv_iconst (v := (0 : Int32)) hx hb dX5_mayRun_17 (by decide) ?_
    have r1 : f_MmayRun u p0 = false := by
      rw [f_MmayRun, if_pos c_10]
    exact kr_z (x := false) hx hb hr hlk dX5_mayRun_18 rfl r1
  · refine lv_iconst (v := (1 : Int32)) hx hb dX5_mayRun_13 (by decide) ?_
    refine lv_goto (tgt := 18) hx hb dX5_mayRun_14 (by decide) ?_
    have r2 : f_MmayRun u p0 = true := by
      rw [f_MmayRun, if_neg c_10]
    exact kr_z (x := true) hx hb hr hlk dX5_mayRun_18 rfl r2

def rm_X5_changes : Room := { frames := 0, cells := 0, slots := 0, locals := 0 }
theorem mi_X5_changes : kM yX5_changes wsX5_changes cX5_changes 4 (some .int) 2 := ⟨⟨_, rfl⟩, by decide, by decide, by decide +kernel⟩
def f_Mchanges (u : BS) (k0 : Nat) (p1 : Int32) : Int32 × BS := ((u 0) k0, upA u 0 k0 p1)
set_option maxHeartbeats 1000000 in
set_option maxRecDepth 100000 in
theorem c_X5_changes (l : Launch) (dC : Nat → ClassId) (dI : Nat → Nat → Nat) (cI cZ cO : ClassId) (h0 : Nat) (q : Nat → Nat) (u : BS) (k0 : Nat) (p1 : Int32) (sz : Nat) (hk0 : k0 < 39) : Met l yX5_changes wsX5_changes rm_X5_changes (va_Pc [.ref h0, .int (nI k0), .int p1] (fun U => U.heap.size = sz ∧ va_P (dC, dI) vwCl (MW cI cZ h0 q u) U.heap ∧ va_K (dC, dI) vwCl (TY cI cZ cO) U ∧ va_D (fun _ => True) (MW cI cZ h0 q u))) (kQw (some (.int (f_Mchanges u k0 p1).1)) (dC, dI) vwCl (MW cI cZ h0 q ((f_Mchanges u k0 p1).2)) (va_A (MW cI cZ h0 q u) sz)) 0 0 (va_A (MW cI cZ h0 q u) sz) := by
  refine kofW (cc := cX5_changes) (maxL := 4) (ret := some .int) (by decide) rfl (Nat.le_of_ble_eq_true rfl) ?_
  intro p e s m args below meth c ls S hr hlk hnm hsz hP hK hD hS hA hl
  generalize hA0 : va_A (MW cI cZ h0 q u) sz = A0 at hD hS hA ⊢
  subst hsz
  obtain ⟨hx, hb, hml, hown, hts⟩ := id S
  have inX5 : ∀ w ∈ wsX50, w ∈ wsX5_changes := fun w h => List.mem_cons_of_mem _ (List.mem_append_right _ h)
  have hl : lv_has ls 4 [(0, .ref h0), (1, .int (nI k0)), (2, .int p1)] := hl
  refine lv_aload_n hx hb dX5_changes_0 rfl (lv_at hl 0 rfl) ?_
  refine va_get (D := (dC, dI)) (ci := 5) (v := .ref (q 0)) (C := RX5) (T := TX5) (N := 14) hx hb hts inX5 hown hK hP 0 rfl rfl 0 (by decide) (hts (.fieldLink RX5 7 "BoardMetronomesModel" "now" "[I") (by decide +kernel)) (fun _ h9 => h9) rfl dX5_changes_1 ?_
  refine lv_iload_n hx hb dX5_changes_4 rfl (lv_at hl 1 rfl) ?_
  refine k_iald (D := (dC, dI)) hx hb hK hP 1 0 rfl rfl (j := k0) (by omega) (by decide) dX5_changes_5 ?_
  refine lv_istore_n (lv' := [(3, .int ((u 0) k0)), (0, .ref h0), (1, .int (nI k0)), (2, .int p1)]) hx hb dX5_changes_6 rfl hl (by decide) rfl (fun ls hl => ?_)
  refine lv_aload_n hx hb dX5_changes_7 rfl (lv_at hl 1 rfl) ?_
  refine va_get (D := (dC, dI)) (ci := 5) (v := .ref (q 0)) (C := RX5) (T := TX5) (N := 14) hx hb hts inX5 hown hK hP 0 rfl rfl 0 (by decide) (hts (.fieldLink RX5 7 "BoardMetronomesModel" "now" "[I") (by decide +kernel)) (fun _ h9 => h9) rfl dX5_changes_8 ?_
  refine lv_iload_n hx hb dX5_changes_11 rfl (lv_at hl 2 rfl) ?_
  refine lv_iload_n hx hb dX5_changes_12 rfl (lv_at hl 3 rfl) ?_
  refine k_iast (D := (dC, dI)) hx hb hK hP hD hS 1 0 rfl rfl (j := k0) (by omega) (by decide) dX5_changes_13 (fun H locs hP hD hS => ?_)
  have hP : va_P (dC, dI) vwCl (MW cI cZ h0 q (upA u 0 k0 p1)) H := Eq.mp (congrArg (fun w => va_P (dC, dI) vwCl w H) MW_a0) hP
  have hD : va_D A0 (MW cI cZ h0 q (upA u 0 k0 p1)) := Eq.mp (congrArg (fun w => va_D A0 w) MW_a0) hD
  refine lv_iload_n hx hb dX5_changes_14 rfl (lv_at hl 0 rfl) ?_
  have r1 : f_Mchanges u k0 p1 = ((u 0) k0, upA u 0 k0 p1) := by
    rw [f_Mchanges]
  exact kw_i hx hb hr hlk hP hS dX5_changes_15 (by rw [r1]) (by rw [r1])

def rm_X5_saves : Room := { frames := 1, cells := 0, slots := 0, locals := 24 }
theorem mi_X5_saves : kM yX5_saves wsX5_saves cX5_saves 2 none 0 := ⟨⟨_, rfl⟩, by decide, by decide, by decide +kernel⟩
def f_Msaves_L11 (u : BS) (j0 : Nat) (x0 : BS) : BS := upA x0 2 j0 ((x0 2) (j0 + 39))
def f_Msaves (u : BS) : BS := if (nI ((u 3 0).toNatClampNeg)) = (6 : Int32) then (upA (upR (upA (it 195 (f_Msaves_L11 u) u) 3 0 (nI (((u 3 0).toNatClampNeg) - 1))) 2 (f_Mcopies (u 0) ((it 195 (f_Msaves_L11 u) u) 2) 0 (39 * (((u 3 0).toNatClampNeg) - 1)))) 3 0 (nI ((((u 3 0).toNatClampNeg) - 1) + 1))) else upA (upR u 2 (f_Mcopies (u 0) (u 2) 0 (39 * ((u 3 0).toNatClampNeg)))) 3 0 (nI (((u 3 0).toNatClampNeg) + 1))
theorem f_Msaves_L11_o {u : BS} {k : Nat} (h : k ≠ 2) : ∀ {j : Nat}, it j (f_Msaves_L11 u) u k = u k
  | 0 => rfl
  | j + 1 => by rw [it_s, f_Msaves_L11, upA_o h]; exact f_Msaves_L11_o h
theorem f_Msaves_o {u : BS} {k : Nat} (h2 : k ≠ 2) (h3 : k ≠ 3) : f_Msaves u k = u k := by
  unfold f_Msaves
  split
  · rw [upA_o h3, upR_o h2, upA_o h3]; exact f_Msaves_L11_o h2
  · rw [upA_o h3, upR_o h2]
set_option maxHeartbeats 1000000 in
set_option maxRecDepth 100000 in
theorem c_X5_saves (l : Launch) (dC : Nat → ClassId) (dI : Nat → Nat → Nat) (cI cZ cO : ClassId) (h0 : Nat) (q : Nat → Nat) (u : BS) (sz : Nat) (hk : vp_in (u 3 0) 7) : Met l yX5_saves wsX5_saves rm_X5_saves (va_Pc [.ref h0] (fun U => U.heap.size = sz ∧ va_P (dC, dI) vwCl (MW cI cZ h0 q u) U.heap ∧ va_K (dC, dI) vwCl (TY cI cZ cO) U ∧ va_D (fun _ => True) (MW cI cZ h0 q u))) (kQw none (dC, dI) vwCl (MW cI cZ h0 q (f_Msaves u)) (va_A (MW cI cZ h0 q u) sz)) 0 0 (va_A (MW cI cZ h0 q u) sz) := by
  refine kofW (cc := cX5_saves) (maxL := 2) (ret := none) (by decide) rfl (Nat.le_of_ble_eq_true rfl) ?_
  intro p e s m args below meth c ls S hr hlk hnm hsz hP hK hD hS hA hl
  generalize hA0 : va_A (MW cI cZ h0 q u) sz = A0 at hD hS hA ⊢
  subst hsz
  obtain ⟨hx, hb, hml, hown, hts⟩ := id S
  have hk_n : (u 3 0).toNatClampNeg < 7 := vp_lt hk
  have inX5 : ∀ w ∈ wsX50, w ∈ wsX5_saves := fun w h => List.mem_cons_of_mem _ (List.mem_append_right _ h)
  have hl : lv_has ls 2 [(0, .ref h0)] := hl
  refine lv_aload_n hx hb dX5_saves_0 rfl (lv_at hl 0 rfl) ?_
  refine va_get (D := (dC, dI)) (ci := 5) (v := .int (u 3 0)) (C := RX5) (T := TX5) (N := 14) hx hb hts inX5 hown hK hP 0 rfl rfl 3 (by decide) (hts (.fieldLink RX5 44 "BoardMetronomesModel" "kept" "I") (by decide +kernel)) (fun _ h9 => h9) rfl dX5_saves_1 ?_
  refine kt_i (kcl hk).symm ?_
  refine lv_bipush (v := (6 : Int32)) hx hb dX5_saves_4 (by decide) ?_
  refine lv_icmp_ne (tgt := 49) hx hb dX5_saves_6 (by decide) (fun c_6 => ?_) (fun c_6 => ?_)
  · have c_6n : ¬ ((u 3 0).toNatClampNeg) = 6 := fun z => c_6 ((nI_eq (a := ((u 3 0).toNatClampNeg)) (b := 6) (by omega) (by omega)).mpr z)
    refine lv_aload_n hx hb dX5_saves_49 rfl (lv_at hl 0 rfl) ?_
    refine va_get (D := (dC, dI)) (ci := 5) (v := .ref (q 0)) (C := RX5) (T := TX5) (N := 14) hx hb hts inX5 hown hK hP 0 rfl rfl 0 (by decide) (hts (.fieldLink RX5 7 "BoardMetronomesModel" "now" "[I") (by decide +kernel)) (fun _ h9 => h9) rfl dX5_saves_50 ?_
    refine lv_iconst (v := (0 : Int32)) hx hb dX5_saves_53 (by decide) ?_
    refine lv_aload_n hx hb dX5_saves_54 rfl (lv_at hl 0 rfl) ?_
    refine va_get (D := (dC, dI)) (ci := 5) (v := .ref (q 2)) (C := RX5) (T := TX5) (N := 14) hx hb hts inX5 hown hK hP 0 rfl rfl 2 (by decide) (hts (.fieldLink RX5 16 "BoardMetronomesModel" "past" "[I") (by decide +kernel)) (fun _ h9 => h9) rfl dX5_saves_55 ?_
    refine lv_bipush (v := (39 : Int32)) hx hb dX5_saves_58 (by decide) ?_
    refine lv_aload_n hx hb dX5_saves_60 rfl (lv_at hl 0 rfl) ?_
    refine va_get (D := (dC, dI)) (ci := 5) (v := .int (u 3 0)) (C := RX5) (T := TX5) (N := 14) hx hb hts inX5 hown hK hP 0 rfl rfl 3 (by decide) (hts (.fieldLink RX5 44 "BoardMetronomesModel" "kept" "I") (by decide +kernel)) (fun _ h9 => h9) rfl dX5_saves_61 ?_
    refine kt_i (kcl hk).symm ?_
    refine k_imuln (x := 39) (y := (u 3 0).toNatClampNeg) hx hb dX5_saves_64 ?_
    refine kc_sw (y := yX5_copies) (As := [.ref (q 0), .int (nI 0), .ref (q 2), .int (nI (39 * ((u 3 0).toNatClampNeg)))]) (rest := []) rfl S (v := none) (c_X5_copies l dC dI cI cZ cO 39 234 (q 0) (q 2) (u 0) (u 2) 0 (39 * ((u 3 0).toNatClampNeg)) s.heap.size (by omega) (by omega) (by decide) (by decide)) gX5_saves_X5_copies mi_X5_copies ⟨rfl, rfl⟩ ⟨Nat.le_of_ble_eq_true rfl, Nat.le_of_ble_eq_true rfl⟩ hK hP hD hS hA [1, 3] (MW_allc0_2 rfl rfl) AW2_fst rfl ⟨Nat.le_refl _, Nat.le_refl _⟩ dX5_saves_65 rfl hl.1 rfl (Nat.le_of_ble_eq_true rfl) (fun H locs hP hD hS => ?_)
    have hP : va_P (dC, dI) vwCl (MW cI cZ h0 q (upR u 2 (f_Mcopies (u 0) (u 2) 0 (39 * ((u 3 0).toNatClampNeg))))) H := Eq.mp (congrArg (fun w => va_P (dC, dI) vwCl w H) (MW_c0_2 rfl)) hP
    have hD : va_D A0 (MW cI cZ h0 q (upR u 2 (f_Mcopies (u 0) (u 2) 0 (39 * ((u 3 0).toNatClampNeg))))) := Eq.mp (congrArg (fun w => va_D A0 w) (MW_c0_2 rfl)) hD
    refine lv_aload_n hx hb dX5_saves_68 rfl (lv_at hl 0 rfl) ?_
    refine lv_dup hx hb dX5_saves_69 rfl ?_
    refine va_get (D := (dC, dI)) (ci := 5) (v := .int (u 3 0)) (C := RX5) (T := TX5) (N := 14) hx hb hts inX5 hown hK hP 0 rfl rfl 3 (by decide) (hts (.fieldLink RX5 44 "BoardMetronomesModel" "kept" "I") (by decide +kernel)) (fun _ h9 => h9) (congrArg (fun z => some (Value.int z)) (show (upR u 2 (f_Mcopies (u 0) (u 2) 0 (39 * ((u 3 0).toNatClampNeg)))) 3 0 = u 3 0 by rw [upR_o (show (3 : Nat) ≠ 2 by decide)])) dX5_saves_70 ?_
    refine kt_i (kcl hk).symm ?_
    refine lv_iconst (v := (1 : Int32)) hx hb dX5_saves_73 (by decide) ?_
    refine k_iaddn (x := (u 3 0).toNatClampNeg) (y := 1) hx hb dX5_saves_74 ?_
    refine va_put (D := (dC, dI)) (ci := 5) (v := .int (nI (((u 3 0).toNatClampNeg) + 1))) (ty := .int) (C := RX5) (T := TX5) (N := 14) hx hb hts inX5 tyX5 tyX5_ok nmX5 hown hK hP hD hS 0 rfl rfl 3 (by decide) (hts (.fieldLink RX5 44 "BoardMetronomesModel" "kept" "I") (by decide +kernel)) (fun _ h9 => h9) rfl (by decide +kernel) rfl rfl (Nat.le_of_ble_eq_true rfl) dX5_saves_75 (fun H locs hP hD hS => ?_)
    have hP : va_P (dC, dI) vwCl (MW cI cZ h0 q (upA (upR u 2 (f_Mcopies (u 0) (u 2) 0 (39 * ((u 3 0).toNatClampNeg)))) 3 0 (nI (((u 3 0).toNatClampNeg) + 1)))) H := Eq.mp (congrArg (fun w => va_P (dC, dI) vwCl w H) MW_s3) hP
    have hD : va_D A0 (MW cI cZ h0 q (upA (upR u 2 (f_Mcopies (u 0) (u 2) 0 (39 * ((u 3 0).toNatClampNeg)))) 3 0 (nI (((u 3 0).toNatClampNeg) + 1)))) := Eq.mp (congrArg (fun w => va_D A0 w) MW_s3) hD
    have r1 : f_Msaves u = upA (upR u 2 (f_Mcopies (u 0) (u 2) 0 (39 * ((u 3 0).toNatClampNeg)))) 3 0 (nI (((u 3 0).toNatClampNeg) + 1)) := by
      rw [f_Msaves, if_neg c_6]
    exact kw_v hx hb hr hlk hP hS dX5_saves_78 (by rw [r1])
  · have c_6n : ((u 3 0).toNatClampNeg) = 6 := (nI_eq (a := ((u 3 0).toNatClampNeg)) (b := 6) (by omega) (by omega)).mp c_6
    refine lv_iconst (v := (0 : Int32)) hx hb dX5_saves_9 (by decide) ?_
    refine lv_istore_n (lv' := [(1, .int (0 : Int32)), (0, .ref h0)]) hx hb dX5_saves_10 rfl hl (by decide) rfl (fun ls hl => ?_)
    have L2 : ∀ (n j0 : Nat), j0 + n = 195 → ∀ (H : Heap) (locs : List Loc) (ls : Array Slot), va_P (dC, dI) vwCl (MW cI cZ h0 q (it j0 (f_Msaves_L11 u) u)) H → va_D A0 (MW cI cZ h0 q (it j0 (f_Msaves_L11 u) u)) → va_S A0 s.heap H locs → lv_has ls 2 [(0, .ref h0), (1, .int (nI j0))] → W p l e rm_X5_saves s m args below meth c H locs 0 0 (MQ below (kQw none (dC, dI) vwCl (MW cI cZ h0 q (f_Msaves u)) A0) args s 0 0 A0) (F0 m 11 ls []) := by
      intro n
      induction n with
      | zero =>
        intro j0 hj2 H locs ls hP hD hS hl
        obtain rfl : j0 = 195 := by omega
        refine lv_iload_n hx hb dX5_saves_11 rfl (lv_at hl 1 rfl) ?_
        refine lv_sipush (v := (195 : Int32)) hx hb dX5_saves_12 (by decide) ?_
        refine lv_icmp_ge (tgt := 39) hx hb dX5_saves_15 (by decide) (fun c_15 => ?_) (fun c_15 => ?_)
        · refine lv_aload_n hx hb dX5_saves_39 rfl (lv_at hl 0 rfl) ?_
          refine lv_dup hx hb dX5_saves_40 rfl ?_
          refine va_get (D := (dC, dI)) (ci := 5) (v := .int (u 3 0)) (C := RX5) (T := TX5) (N := 14) hx hb hts inX5 hown hK hP 0 rfl rfl 3 (by decide) (hts (.fieldLink RX5 44 "BoardMetronomesModel" "kept" "I") (by decide +kernel)) (fun _ h9 => h9) (congrArg (fun z => some (Value.int z)) (show (it 195 (f_Msaves_L11 u) u) 3 0 = u 3 0 by rw [f_Msaves_L11_o (show (3 : Nat) ≠ 2 by decide)])) dX5_saves_41 ?_
          refine kt_i (kcl hk).symm ?_
          refine lv_iconst (v := (1 : Int32)) hx hb dX5_saves_44 (by decide) ?_
          refine k_isubn (x := (u 3 0).toNatClampNeg) (y := 1) hx hb dX5_saves_45 (by omega) ?_
          refine va_put (D := (dC, dI)) (ci := 5) (v := .int (nI (((u 3 0).toNatClampNeg) - 1))) (ty := .int) (C := RX5) (T := TX5) (N := 14) hx hb hts inX5 tyX5 tyX5_ok nmX5 hown hK hP hD hS 0 rfl rfl 3 (by decide) (hts (.fieldLink RX5 44 "BoardMetronomesModel" "kept" "I") (by decide +kernel)) (fun _ h9 => h9) rfl (by decide +kernel) rfl rfl (Nat.le_of_ble_eq_true rfl) dX5_saves_46 (fun H locs hP hD hS => ?_)
          have hP : va_P (dC, dI) vwCl (MW cI cZ h0 q (upA (it 195 (f_Msaves_L11 u) u) 3 0 (nI (((u 3 0).toNatClampNeg) - 1)))) H := Eq.mp (congrArg (fun w => va_P (dC, dI) vwCl w H) MW_s3) hP
          have hD : va_D A0 (MW cI cZ h0 q (upA (it 195 (f_Msaves_L11 u) u) 3 0 (nI (((u 3 0).toNatClampNeg) - 1)))) := Eq.mp (congrArg (fun w => va_D A0 w) MW_s3) hD
          refine lv_aload_n hx hb dX5_saves_49 rfl (lv_at hl 0 rfl) ?_
          refine va_get (D := (dC, dI)) (ci := 5) (v := .ref (q 0)) (C := RX5) (T := TX5) (N := 14) hx hb hts inX5 hown hK hP 0 rfl rfl 0 (by decide) (hts (.fieldLink RX5 7 "BoardMetronomesModel" "now" "[I") (by decide +kernel)) (fun _ h9 => h9) rfl dX5_saves_50 ?_
          refine lv_iconst (v := (0 : Int32)) hx hb dX5_saves_53 (by decide) ?_
          refine lv_aload_n hx hb dX5_saves_54 rfl (lv_at hl 0 rfl) ?_
          refine va_get (D := (dC, dI)) (ci := 5) (v := .ref (q 2)) (C := RX5) (T := TX5) (N := 14) hx hb hts inX5 hown hK hP 0 rfl rfl 2 (by decide) (hts (.fieldLink RX5 16 "BoardMetronomesModel" "past" "[I") (by decide +kernel)) (fun _ h9 => h9) rfl dX5_saves_55 ?_
          refine lv_bipush (v := (39 : Int32)) hx hb dX5_saves_58 (by decide) ?_
          refine lv_aload_n hx hb dX5_saves_60 rfl (lv_at hl 0 rfl) ?_
          refine va_get (D := (dC, dI)) (ci := 5) (v := .int (nI (((u 3 0).toNatClampNeg) - 1))) (C := RX5) (T := TX5) (N := 14) hx hb hts inX5 hown hK hP 0 rfl rfl 3 (by decide) (hts (.fieldLink RX5 44 "BoardMetronomesModel" "kept" "I") (by decide +kernel)) (fun _ h9 => h9) (congrArg (fun z => some (Value.int z)) (show (upA (it 195 (f_Msaves_L11 u) u) 3 0 (nI (((u 3 0).toNatClampNeg) - 1))) 3 0 = nI (((u 3 0).toNatClampNeg) - 1) by rw [upA_s])) dX5_saves_61 ?_
          refine k_imuln (x := 39) (y := ((u 3 0).toNatClampNeg) - 1) hx hb dX5_saves_64 ?_
          refine kc_sw (y := yX5_copies) (As := [.ref (q 0), .int (nI 0), .ref (q 2), .int (nI (39 * (((u 3 0).toNatClampNeg) - 1)))]) (rest := []) rfl S (v := none) (c_X5_copies l dC dI cI cZ cO 39 234 (q 0) (q 2) (u 0) ((it 195 (f_Msaves_L11 u) u) 2) 0 (39 * (((u 3 0).toNatClampNeg) - 1)) H.size (by omega) (by omega) (by decide) (by decide)) gX5_saves_X5_copies mi_X5_copies ⟨rfl, rfl⟩ ⟨Nat.le_of_ble_eq_true rfl, Nat.le_of_ble_eq_true rfl⟩ hK hP hD hS hA [1, 3] (MW_allc0_2 (show (upA (it 195 (f_Msaves_L11 u) u) 3 0 (nI (((u 3 0).toNatClampNeg) - 1))) 0 = u 0 by rw [upA_o (show (0 : Nat) ≠ 3 by decide), f_Msaves_L11_o (show (0 : Nat) ≠ 2 by decide)]) (show (upA (it 195 (f_Msaves_L11 u) u) 3 0 (nI (((u 3 0).toNatClampNeg) - 1))) 2 = (it 195 (f_Msaves_L11 u) u) 2 by rw [upA_o (show (2 : Nat) ≠ 3 by decide)])) AW2_fst rfl ⟨Nat.le_refl _, Nat.le_refl _⟩ dX5_saves_65 rfl hl.1 rfl (Nat.le_of_ble_eq_true rfl) (fun H locs hP hD hS => ?_)
          have hP : va_P (dC, dI) vwCl (MW cI cZ h0 q (upR (upA (it 195 (f_Msaves_L11 u) u) 3 0 (nI (((u 3 0).toNatClampNeg) - 1))) 2 (f_Mcopies (u 0) ((it 195 (f_Msaves_L11 u) u) 2) 0 (39 * (((u 3 0).toNatClampNeg) - 1))))) H := Eq.mp (congrArg (fun w => va_P (dC, dI) vwCl w H) (MW_c0_2 (show (upA (it 195 (f_Msaves_L11 u) u) 3 0 (nI (((u 3 0).toNatClampNeg) - 1))) 0 = u 0 by rw [upA_o (show (0 : Nat) ≠ 3 by decide), f_Msaves_L11_o (show (0 : Nat) ≠ 2 by decide)]))) hP
          have hD : va_D A0 (MW cI cZ h0 q (upR (upA (it 195 (f_Msaves_L11 u) u) 3 0 (nI (((u 3 0).toNatClampNeg) - 1))) 2 (f_Mcopies (u 0) ((it 195 (f_Msaves_L11 u) u) 2) 0 (39 * (((u 3 0).toNatClampNeg) - 1))))) := Eq.mp (congrArg (fun w => va_D A0 w) (MW_c0_2 (show (upA (it 195 (f_Msaves_L11 u) u) 3 0 (nI (((u 3 0).toNatClampNeg) - 1))) 0 = u 0 by rw [upA_o (show (0 : Nat) ≠ 3 by decide), f_Msaves_L11_o (show (0 : Nat) ≠ 2 by decide)]))) hD
          refine lv_aload_n hx hb dX5_saves_68 rfl (lv_at hl 0 rfl) ?_
          refine lv_dup hx hb dX5_saves_69 rfl ?_
          refine va_get (D := (dC, dI)) (ci := 5) (v := .int (nI (((u 3 0).toNatClampNeg) - 1))) (C := RX5) (T := TX5) (N := 14) hx hb hts inX5 hown hK hP 0 rfl rfl 3 (by decide) (hts (.fieldLink RX5 44 "BoardMetronomesModel" "kept" "I") (by decide +kernel)) (fun _ h9 => h9) (congrArg (fun z => some (Value.int z)) (show (upR (upA (it 195 (f_Msaves_L11 u) u) 3 0 (nI (((u 3 0).toNatClampNeg) - 1))) 2 (f_Mcopies (u 0) ((it 195 (f_Msaves_L11 u) u) 2) 0 (39 * (((u 3 0).toNatClampNeg) - 1)))) 3 0 = nI (((u 3 0).toNatClampNeg) - 1) by rw [upR_o (show (3 : Nat) ≠ 2 by decide), upA_s])) dX5_saves_70 ?_
          refine lv_iconst (v := (1 : Int32)) hx hb dX5_saves_73 (by decide) ?_
          refine k_iaddn (x := ((u 3 0).toNatClampNeg) - 1) (y := 1) hx hb dX5_saves_74 ?_
          refine va_put (D := (dC, dI)) (ci := 5) (v := .int (nI ((((u 3 0).toNatClampNeg) - 1) + 1))) (ty := .int) (C := RX5) (T := TX5) (N := 14) hx hb hts inX5 tyX5 tyX5_ok nmX5 hown hK hP hD hS 0 rfl rfl 3 (by decide) (hts (.fieldLink RX5 44 "BoardMetronomesModel" "kept" "I") (by decide +kernel)) (fun _ h9 => h9) rfl (by decide +kernel) rfl rfl (Nat.le_of_ble_eq_true rfl) dX5_saves_75 (fun H locs hP hD hS => ?_)
          have hP : va_P (dC, dI) vwCl (MW cI cZ h0 q (upA (upR (upA (it 195 (f_Msaves_L11 u) u) 3 0 (nI (((u 3 0).toNatClampNeg) - 1))) 2 (f_Mcopies (u 0) ((it 195 (f_Msaves_L11 u) u) 2) 0 (39 * (((u 3 0).toNatClampNeg) - 1)))) 3 0 (nI ((((u 3 0).toNatClampNeg) - 1) + 1)))) H := Eq.mp (congrArg (fun w => va_P (dC, dI) vwCl w H) MW_s3) hP
          have hD : va_D A0 (MW cI cZ h0 q (upA (upR (upA (it 195 (f_Msaves_L11 u) u) 3 0 (nI (((u 3 0).toNatClampNeg) - 1))) 2 (f_Mcopies (u 0) ((it 195 (f_Msaves_L11 u) u) 2) 0 (39 * (((u 3 0).toNatClampNeg) - 1)))) 3 0 (nI ((((u 3 0).toNatClampNeg) - 1) + 1)))) := Eq.mp (congrArg (fun w => va_D A0 w) MW_s3) hD
          have r3 : f_Msaves u = upA (upR (upA (it 195 (f_Msaves_L11 u) u) 3 0 (nI (((u 3 0).toNatClampNeg) - 1))) 2 (f_Mcopies (u 0) ((it 195 (f_Msaves_L11 u) u) 2) 0 (39 * (((u 3 0).toNatClampNeg) - 1)))) 3 0 (nI ((((u 3 0).toNatClampNeg) - 1) + 1)) := by
            rw [f_Msaves, if_pos c_6]
          exact kw_v hx hb hr hlk hP hS dX5_saves_78 (by rw [r3])
        · exact absurd (nI_le (a := 195) (by omega) (by omega)) c_15
      | succ n ih2 =>
        intro j0 hj2 H locs ls hP hD hS hl
        refine lv_iload_n hx hb dX5_saves_11 rfl (lv_at hl 1 rfl) ?_
        refine lv_sipush (v := (195 : Int32)) hx hb dX5_saves_12 (by decide) ?_
        refine lv_icmp_ge (tgt := 39) hx hb dX5_saves_15 (by decide) (fun c_15 => ?_) (fun c_15 => ?_)
        · exact absurd c_15 (nI_ge (b := 195) (by omega) (by decide))
        · refine lv_aload_n hx hb dX5_saves_18 rfl (lv_at hl 0 rfl) ?_
          refine va_get (D := (dC, dI)) (ci := 5) (v := .ref (q 2)) (C := RX5) (T := TX5) (N := 14) hx hb hts inX5 hown hK hP 0 rfl rfl 2 (by decide) (hts (.fieldLink RX5 16 "BoardMetronomesModel" "past" "[I") (by decide +kernel)) (fun _ h9 => h9) rfl dX5_saves_19 ?_
          refine lv_iload_n hx hb dX5_saves_22 rfl (lv_at hl 1 rfl) ?_
          refine lv_aload_n hx hb dX5_saves_23 rfl (lv_at hl 0 rfl) ?_
          refine va_get (D := (dC, dI)) (ci := 5) (v := .ref (q 2)) (C := RX5) (T := TX5) (N := 14) hx hb hts inX5 hown hK hP 0 rfl rfl 2 (by decide) (hts (.fieldLink RX5 16 "BoardMetronomesModel" "past" "[I") (by decide +kernel)) (fun _ h9 => h9) rfl dX5_saves_24 ?_
          refine lv_iload_n hx hb dX5_saves_27 rfl (lv_at hl 1 rfl) ?_
          refine lv_bipush (v := (39 : Int32)) hx hb dX5_saves_28 (by decide) ?_
          refine k_iaddn (x := j0) (y := 39) hx hb dX5_saves_30 ?_
          refine k_iald (D := (dC, dI)) hx hb hK hP 3 0 rfl rfl (j := (j0 + 39)) (by omega) (by decide) dX5_saves_31 ?_
          refine k_iast (D := (dC, dI)) hx hb hK hP hD hS 3 0 rfl rfl (j := j0) (by omega) (by decide) dX5_saves_32 (fun H locs hP hD hS => ?_)
          have hP : va_P (dC, dI) vwCl (MW cI cZ h0 q (upA (it j0 (f_Msaves_L11 u) u) 2 j0 (((it j0 (f_Msaves_L11 u) u) 2) (j0 + 39)))) H := Eq.mp (congrArg (fun w => va_P (dC, dI) vwCl w H) MW_a2) hP
          have hD : va_D A0 (MW cI cZ h0 q (upA (it j0 (f_Msaves_L11 u) u) 2 j0 (((it j0 (f_Msaves_L11 u) u) 2) (j0 + 39)))) := Eq.mp (congrArg (fun w => va_D A0 w) MW_a2) hD
          refine lv_iinc (v := nI (j0 + 1)) (lv' := [(1, .int (nI (j0 + 1))), (0, .ref h0)]) hx hb dX5_saves_33 hl (k := 1) rfl (nI_add j0 1) (by decide) rfl (fun ls hl => ?_)
          refine lv_goto (tgt := 11) hx hb dX5_saves_36 (by decide) ?_
          have b4 : f_Msaves_L11 u j0 (it j0 (f_Msaves_L11 u) u) = upA (it j0 (f_Msaves_L11 u) u) 2 j0 (((it j0 (f_Msaves_L11 u) u) 2) (j0 + 39)) := by
            rw [f_Msaves_L11]
          have e4 : it (j0 + 1) (f_Msaves_L11 u) u = upA (it j0 (f_Msaves_L11 u) u) 2 j0 (((it j0 (f_Msaves_L11 u) u) 2) (j0 + 39)) := (it_s _ _ _).trans b4
          exact ih2 (j0 + 1) (by omega) H locs ls (by rw [e4]; exact hP) (by rw [e4]; exact hD) hS (lv_sub hl [1, 0] rfl)
    exact L2 195 0 (by omega) s.heap [] ls hP hD hS (lv_sub hl [1, 0] rfl)

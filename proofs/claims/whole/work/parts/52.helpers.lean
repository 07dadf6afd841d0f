/-! the law's helpers: each answers what its method answers, or tells by a number what it has thrown -/
theorem cdAS_ne {k : Nat} (h : ¬ cdAS k = 0) : k = 1 ∨ k = 2 := by
  by_cases h1 : k = 1
  · exact .inl h1
  · by_cases h2 : k = 2
    · exact .inr h2
    · exact absurd (by unfold cdAS; rw [if_neg h1, if_neg h2]) h
theorem cdIA_ne {k : Nat} (h : ¬ cdIA k = 0) : k = 3 ∨ k = 1 := by
  by_cases h1 : k = 3
  · exact .inl h1
  · by_cases h2 : k = 1
    · exact .inr h2
    · exact absurd (by unfold cdIA; rw [if_neg h1, if_neg h2]) h
theorem cdI_ne {k : Nat} (h : ¬ cdI k = 0) : k = 3 := by
  by_cases h1 : k = 3
  · exact h1
  · exact absurd (by unfold cdI; rw [if_neg h1]) h
theorem cdS_ne {k : Nat} (h : ¬ cdS k = 0) : k = 2 := by
  by_cases h1 : k = 2
  · exact h1
  · exact absurd (by unfold cdS; rw [if_neg h1]) h
theorem cdA_ne {k : Nat} (h : ¬ cdA k = 0) : k = 1 := by
  by_cases h1 : k = 1
  · exact h1
  · exact absurd (by unfold cdA; rw [if_neg h1]) h
section LWR
variable {cI cZ cO cL : ClassId} {A : Nat → Nat} {Q : Nat → Nat → Nat} {fl fl1 : Nat → Int32} {un ut u0 u1 un1 ut1 u01 u11 : BS} {S S1 : SS} {x r x1 r1 : BS} {w : va_W} {o : Nat} {f : Nat → Int64} {v : Int64}
theorem XW_len : (XW cI cZ cO A Q fl un ut u0 u1 S x r).length = 67 := rfl
theorem XW_allT : (List.range' 0 67).map (fun i => (XW cI cZ cO A Q fl un ut u0 u1 S x r ++ w)[i]?) = (XW cI cZ cO A Q fl un ut u0 u1 S x r).map some := kget_mid (XW cI cZ cO A Q fl un ut u0 u1 S x r) [] w
theorem XW_ksT : ksets (XW cI cZ cO A Q fl un ut u0 u1 S x r ++ w) (List.range' 0 67) (XW cI cZ cO A Q fl1 un1 ut1 u01 u11 S1 x1 r1) = XW cI cZ cO A Q fl1 un1 ut1 u01 u11 S1 x1 r1 ++ w := kset_mid (XW cI cZ cO A Q fl un ut u0 u1 S x r) (XW cI cZ cO A Q fl1 un1 ut1 u01 u11 S1 x1 r1) [] w rfl
theorem XW_getL : (XW cI cZ cO A Q fl un ut u0 u1 S x r ++ LW cL o f)[67]? = some (o, .inl (cL, 1, .inr (.inl f))) := kget_pre (XW cI cZ cO A Q fl un ut u0 u1 S x r) [] _
theorem XW_setL : (XW cI cZ cO A Q fl un ut u0 u1 S x r ++ LW cL o f).set 67 (o, .inl (cL, 1, .inr (.inl (vp_updL f (0 : Int32).toNatClampNeg v)))) = XW cI cZ cO A Q fl un ut u0 u1 S x r ++ LW cL o (vp_updL f 0 v) := kset_pre (XW cI cZ cO A Q fl un ut u0 u1 S x r) [] _ _
end LWR
def rm_L_metronome : Room := { frames := 7, cells := 1, slots := 6, locals := 105 }
set_option maxHeartbeats 1000000 in
set_option maxRecDepth 100000 in
theorem c_L_metronome (l : Launch) (hst : l.stackTraces = false) (dC : Nat → ClassId) (dI : Nat → Nat → Nat) (cI cZ cO cL : ClassId) (A : Nat → Nat) (Q : Nat → Nat → Nat) (fl : (Nat → Int32)) (un : BS) (ut : BS) (u0 : BS) (u1 : BS) (sv : SS) (x : BS) (r : BS) (p0 : Int32) (p1 : Int32) (p2 : Int32) (o : Nat) (f : Nat → Int64) (sz : Nat) (hS1 : sv.1 < 6) (hS2 : sv.2.1 ≤ 6) (hE : ∀ e, f_Xmetronome fl un ut u0 u1 sv x r p0 p1 p2 = .error e → ¬ cdAS e.1 = 0) : Met l yL_metronome wsL_metronome rm_L_metronome (va_Pc [.ref (A 0), .int p0, .int p1, .int p2, .ref o] (fun U => U.heap.size = sz ∧ va_P (dC, dI) vwCl (XW cI cZ cO A Q fl un ut u0 u1 sv x r ++ LW cL o f) U.heap ∧ va_K (dC, dI) vwCl (TY cI cZ cO ++ [(cL, .long)]) U ∧ va_D (fun _ => True) (XW cI cZ cO A Q fl un ut u0 u1 sv x r ++ LW cL o f) ∧ HX (va_A (XW cI cZ cO A Q fl un ut u0 u1 sv x r ++ LW cL o f) sz) U)) (kQw (some (.int (hA (f_Xmetronome fl un ut u0 u1 sv x r p0 p1 p2) cdAS))) (dC, dI) vwCl (hWd (f_Xmetronome fl un ut u0 u1 sv x r p0 p1 p2) (fun z => XW cI cZ cO A Q fl z.2.1 ut u0 u1 z.2.2 x r) (fun r1 => XW cI cZ cO A Q fl un ut u0 u1 sv x r1) (fun z => z.1) cL o f) (va_A (XW cI cZ cO A Q fl un ut u0 u1 sv x r ++ LW cL o f) sz)) 1 6 (va_A (XW cI cZ cO A Q fl un ut u0 u1 sv x r ++ LW cL o f) sz) := by
  refine kofH (cc := cL_metronome) (maxL := 6) (ret := some .int) (hh := [(0, 12, 15, 13), (0, 12, 19, 15)]) (by decide) rfl (Nat.le_of_ble_eq_true rfl) ?_
  intro p e s m args below meth c ls S hr hlk hsz hP hK hD hS hA1 hX htab hl
  generalize hA0 : va_A (XW cI cZ cO A Q fl un ut u0 u1 sv x r ++ LW cL o f) sz = A0 at hD hS hA1 hX ⊢
  subst hsz
  obtain ⟨hx, hb, hml, hown, hts⟩ := id S
  have hl : lv_has ls 6 [(0, .ref (A 0)), (1, .int p0), (2, .int p1), (3, .int p2), (4, .ref o)] := hl
  refine lv_aload hx hb dL_metronome_0 (lv_at hl 4 rfl) ?_
  refine lv_iconst (v := (0 : Int32)) hx hb dL_metronome_2 (by decide) ?_
  refine lv_aload_n hx hb dL_metronome_3 rfl (lv_at hl 0 rfl) ?_
  refine lv_iload_n hx hb dL_metronome_4 rfl (lv_at hl 1 rfl) ?_
  refine lv_iload_n hx hb dL_metronome_5 rfl (lv_at hl 2 rfl) ?_
  refine lv_iload_n hx hb dL_metronome_6 rfl (lv_at hl 3 rfl) ?_
  refine kx_v (F := f_Xmetronome fl un ut u0 u1 sv x r p0 p1 p2) (ans := fun z => z.1) (W1 := fun z => XW cI cZ cO A Q fl z.2.1 ut u0 u1 z.2.2 x r) (Wf := fun r1 => XW cI cZ cO A Q fl un ut u0 u1 sv x r1) (wc := XW cI cZ cO A Q fl un ut u0 u1 sv x r) (As := [.int p0, .int p1, .int p2]) (rest := [.int (0 : Int32), .ref o]) S (c_X4_metronome l hst dC dI cI cZ cO A Q fl un ut u0 u1 sv x r p0 p1 p2 s.heap.size hS1 hS2) gL_metronome_X4_metronome mi_X4_metronome ⟨rfl, rfl⟩ ⟨Nat.le_of_ble_eq_true rfl, Nat.le_of_ble_eq_true rfl⟩ hX.1 (hK.sub [0, 1, 2] rfl) hP hD hS hA1 (List.range' 0 67) XW_allT (fun z => XW_fst) (fun r1 => XW_fst) (nd_range 67 0) 0 rfl rfl ⟨Nat.le_of_ble_eq_true rfl, Nat.le_of_ble_eq_true rfl⟩ dL_metronome_7 rfl hl.1 rfl (Nat.le_of_ble_eq_true rfl) (fun z hz H locs hP hD hS => ?_) (fun k r1 hz H locs q9 ce hP hD hS hc9 hv9 hcl9 => ?_)
  · have hP : va_P (dC, dI) vwCl (XW cI cZ cO A Q fl z.2.1 ut u0 u1 z.2.2 x r ++ LW cL o f) H := Eq.mp (congrArg (fun w => va_P (dC, dI) vwCl w H) XW_ksT) hP
    have hD : va_D A0 (XW cI cZ cO A Q fl z.2.1 ut u0 u1 z.2.2 x r ++ LW cL o f) := Eq.mp (congrArg (fun w => va_D A0 w) XW_ksT) hD
    refine lv_i2l hx hb dL_metronome_10 rfl ?_
    refine va_last hx hb hK hP hD hS 67 3 XW_getL rfl (i := (0 : Int32)) (vp_in_nI (n := 0) (N := 1) (by omega) (by omega)) dL_metronome_11 (fun H locs hP hD hS => ?_)
    have hP : va_P (dC, dI) vwCl (XW cI cZ cO A Q fl z.2.1 ut u0 u1 z.2.2 x r ++ LW cL o (vp_updL f 0 (z.1).toInt64)) H := Eq.mp (congrArg (fun w => va_P (dC, dI) vwCl w H) XW_setL) hP
    refine lv_goto (tgt := 23) hx hb dL_metronome_12 (by decide) ?_
    refine lv_iconst (v := (0 : Int32)) hx hb dL_metronome_23 (by decide) ?_
    exact kw_i hx hb hr hlk hP hS dL_metronome_24 (by rw [hz]; rfl) (by rw [hz]; rfl)
  · have hP : va_P (dC, dI) vwCl (XW cI cZ cO A Q fl un ut u0 u1 sv x r1 ++ LW cL o f) H := Eq.mp (congrArg (fun w => va_P (dC, dI) vwCl w H) XW_ksT) hP
    have hk := hE _ hz
    dsimp only at hk
    rcases cdAS_ne hk with rfl | rfl
    · refine kcatch1 (own := RL) hown htab (by decide) (by decide) (hts (.classLink RL 13 (exN 1)) (List.mem_of_getElem? (i := 1) rfl)) hX.1.1 hc9 hv9 hcl9 ?_
      refine lv_astore (lv' := [(5, .ref q9), (0, .ref (A 0)), (1, .int p0), (2, .int p1), (3, .int p2), (4, .ref o)]) hx hb dL_metronome_15 hl (by decide) rfl (fun ls hl => ?_)
      refine lv_iconst (v := (1 : Int32)) hx hb dL_metronome_17 (by decide) ?_
      exact kw_i hx hb hr hlk hP hS dL_metronome_18 (by rw [hz]; rfl) (by rw [hz]; rfl)
    · refine kcatch2 (own := RL) (k1 := 1) hown htab (by decide) (by decide) (by decide) (hts (.classLink RL 13 (exN 1)) (List.mem_of_getElem? (i := 1) rfl)) hX.2.1 (hts (.classLink RL 15 (exN 2)) (List.mem_of_getElem? (i := 2) rfl)) hX.1.1 hc9 hv9 hcl9 ?_
      refine lv_astore (lv' := [(5, .ref q9), (0, .ref (A 0)), (1, .int p0), (2, .int p1), (3, .int p2), (4, .ref o)]) hx hb dL_metronome_19 hl (by decide) rfl (fun ls hl => ?_)
      refine lv_iconst (v := (2 : Int32)) hx hb dL_metronome_21 (by decide) ?_
      exact kw_i hx hb hr hlk hP hS dL_metronome_22 (by rw [hz]; rfl) (by rw [hz]; rfl)
def rm_L_weigh : Room := { frames := 7, cells := 1, slots := 6, locals := 104 }
set_option maxHeartbeats 1000000 in
set_option maxRecDepth 100000 in
theorem c_L_weigh (l : Launch) (hst : l.stackTraces = false) (dC : Nat → ClassId) (dI : Nat → Nat → Nat) (cI cZ cO cL : ClassId) (A : Nat → Nat) (Q : Nat → Nat → Nat) (fl : (Nat → Int32)) (un : BS) (ut : BS) (u0 : BS) (u1 : BS) (sv : SS) (x : BS) (r : BS) (p0 : Int32) (p1 : Int32) (o : Nat) (f : Nat → Int64) (sz : Nat) (hS1 : sv.1 < 6) (hS2 : sv.2.1 ≤ 6) (hE : ∀ e, f_Xweigh fl un ut u0 u1 sv x r p0 p1 = .error e → ¬ cdIA e.1 = 0) : Met l yL_weigh wsL_weigh rm_L_weigh (va_Pc [.ref (A 0), .int p0, .int p1, .ref o] (fun U => U.heap.size = sz ∧ va_P (dC, dI) vwCl (XW cI cZ cO A Q fl un ut u0 u1 sv x r ++ LW cL o f) U.heap ∧ va_K (dC, dI) vwCl (TY cI cZ cO ++ [(cL, .long)]) U ∧ va_D (fun _ => True) (XW cI cZ cO A Q fl un ut u0 u1 sv x r ++ LW cL o f) ∧ HX (va_A (XW cI cZ cO A Q fl un ut u0 u1 sv x r ++ LW cL o f) sz) U)) (kQw (some (.int (hA (f_Xweigh fl un ut u0 u1 sv x r p0 p1) cdIA))) (dC, dI) vwCl (hWd (f_Xweigh fl un ut u0 u1 sv x r p0 p1) (fun z => XW cI cZ cO A Q fl z.2.1 ut u0 u1 z.2.2 x r) (fun r1 => XW cI cZ cO A Q fl un ut u0 u1 sv x r1) (fun z => z.1) cL o f) (va_A (XW cI cZ cO A Q fl un ut u0 u1 sv x r ++ LW cL o f) sz)) 1 6 (va_A (XW cI cZ cO A Q fl un ut u0 u1 sv x r ++ LW cL o f) sz) := by
  refine kofH (cc := cL_weigh) (maxL := 5) (ret := some .int) (hh := [(0, 10, 13, 21), (0, 10, 17, 13)]) (by decide) rfl (Nat.le_of_ble_eq_true rfl) ?_
  intro p e s m args below meth c ls S hr hlk hsz hP hK hD hS hA1 hX htab hl
  generalize hA0 : va_A (XW cI cZ cO A Q fl un ut u0 u1 sv x r ++ LW cL o f) sz = A0 at hD hS hA1 hX ⊢
  subst hsz
  obtain ⟨hx, hb, hml, hown, hts⟩ := id S
  have hl : lv_has ls 5 [(0, .ref (A 0)), (1, .int p0), (2, .int p1), (3, .ref o)] := hl
  refine lv_aload_n hx hb dL_weigh_0 rfl (lv_at hl 3 rfl) ?_
  refine lv_iconst (v := (0 : Int32)) hx hb dL_weigh_1 (by decide) ?_
  refine lv_aload_n hx hb dL_weigh_2 rfl (lv_at hl 0 rfl) ?_
  refine lv_iload_n hx hb dL_weigh_3 rfl (lv_at hl 1 rfl) ?_
  refine lv_iload_n hx hb dL_weigh_4 rfl (lv_at hl 2 rfl) ?_
  refine kx_v (F := f_Xweigh fl un ut u0 u1 sv x r p0 p1) (ans := fun z => z.1) (W1 := fun z => XW cI cZ cO A Q fl z.2.1 ut u0 u1 z.2.2 x r) (Wf := fun r1 => XW cI cZ cO A Q fl un ut u0 u1 sv x r1) (wc := XW cI cZ cO A Q fl un ut u0 u1 sv x r) (As := [.int p0, .int p1]) (rest := [.int (0 : Int32), .ref o]) S (c_X4_weigh l hst dC dI cI cZ cO A Q fl un ut u0 u1 sv x r p0 p1 s.heap.size hS1 hS2) gL_weigh_X4_weigh mi_X4_weigh ⟨rfl, rfl⟩ ⟨Nat.le_of_ble_eq_true rfl, Nat.le_of_ble_eq_true rfl⟩ hX.1 (hK.sub [0, 1, 2] rfl) hP hD hS hA1 (List.range' 0 67) XW_allT (fun z => XW_fst) (fun r1 => XW_fst) (nd_range 67 0) 0 rfl rfl ⟨Nat.le_of_ble_eq_true rfl, Nat.le_of_ble_eq_true rfl⟩ dL_weigh_5 rfl hl.1 rfl (Nat.le_of_ble_eq_true rfl) (fun z hz H locs hP hD hS => ?_) (fun k r1 hz H locs q9 ce hP hD hS hc9 hv9 hcl9 => ?_)
  · have hP : va_P (dC, dI) vwCl (XW cI cZ cO A Q fl z.2.1 ut u0 u1 z.2.2 x r ++ LW cL o f) H := Eq.mp (congrArg (fun w => va_P (dC, dI) vwCl w H) XW_ksT) hP
    have hD : va_D A0 (XW cI cZ cO A Q fl z.2.1 ut u0 u1 z.2.2 x r ++ LW cL o f) := Eq.mp (congrArg (fun w => va_D A0 w) XW_ksT) hD
    refine lv_i2l hx hb dL_weigh_8 rfl ?_
    refine va_last hx hb hK hP hD hS 67 3 XW_getL rfl (i := (0 : Int32)) (vp_in_nI (n := 0) (N := 1) (by omega) (by omega)) dL_weigh_9 (fun H locs hP hD hS => ?_)
    have hP : va_P (dC, dI) vwCl (XW cI cZ cO A Q fl z.2.1 ut u0 u1 z.2.2 x r ++ LW cL o (vp_updL f 0 (z.1).toInt64)) H := Eq.mp (congrArg (fun w => va_P (dC, dI) vwCl w H) XW_setL) hP
    refine lv_goto (tgt := 21) hx hb dL_weigh_10 (by decide) ?_
    refine lv_iconst (v := (0 : Int32)) hx hb dL_weigh_21 (by decide) ?_
    exact kw_i hx hb hr hlk hP hS dL_weigh_22 (by rw [hz]; rfl) (by rw [hz]; rfl)
  · have hP : va_P (dC, dI) vwCl (XW cI cZ cO A Q fl un ut u0 u1 sv x r1 ++ LW cL o f) H := Eq.mp (congrArg (fun w => va_P (dC, dI) vwCl w H) XW_ksT) hP
    have hk := hE _ hz
    dsimp only at hk
    rcases cdIA_ne hk with rfl | rfl
    · refine kcatch1 (own := RL) hown htab (by decide) (by decide) (hts (.classLink RL 21 (exN 3)) (List.mem_of_getElem? (i := 1) rfl)) hX.1.1 hc9 hv9 hcl9 ?_
      refine lv_astore (lv' := [(4, .ref q9), (0, .ref (A 0)), (1, .int p0), (2, .int p1), (3, .ref o)]) hx hb dL_weigh_13 hl (by decide) rfl (fun ls hl => ?_)
      refine lv_iconst (v := (1 : Int32)) hx hb dL_weigh_15 (by decide) ?_
      exact kw_i hx hb hr hlk hP hS dL_weigh_16 (by rw [hz]; rfl) (by rw [hz]; rfl)
    · refine kcatch2 (own := RL) (k1 := 3) hown htab (by decide) (by decide) (by decide) (hts (.classLink RL 21 (exN 3)) (List.mem_of_getElem? (i := 1) rfl)) hX.2.2 (hts (.classLink RL 13 (exN 1)) (List.mem_of_getElem? (i := 2) rfl)) hX.1.1 hc9 hv9 hcl9 ?_
      refine lv_astore (lv' := [(4, .ref q9), (0, .ref (A 0)), (1, .int p0), (2, .int p1), (3, .ref o)]) hx hb dL_weigh_17 hl (by decide) rfl (fun ls hl => ?_)
      refine lv_iconst (v := (2 : Int32)) hx hb dL_weigh_19 (by decide) ?_
      exact kw_i hx hb hr hlk hP hS dL_weigh_20 (by rw [hz]; rfl) (by rw [hz]; rfl)
def rm_L_wind : Room := { frames := 7, cells := 1, slots := 6, locals := 104 }
set_option maxHeartbeats 1000000 in
set_option maxRecDepth 100000 in
theorem c_L_wind (l : Launch) (hst : l.stackTraces = false) (dC : Nat → ClassId) (dI : Nat → Nat → Nat) (cI cZ cO cL : ClassId) (A : Nat → Nat) (Q : Nat → Nat → Nat) (fl : (Nat → Int32)) (un : BS) (ut : BS) (u0 : BS) (u1 : BS) (sv : SS) (x : BS) (r : BS) (p0 : Int32) (p1 : Int32) (o : Nat) (f : Nat → Int64) (sz : Nat) (hS1 : sv.1 < 6) (hS2 : sv.2.1 ≤ 6) (hE : ∀ e, f_Xwind fl un ut u0 u1 sv x r p0 p1 = .error e → ¬ cdIA e.1 = 0) : Met l yL_wind wsL_wind rm_L_wind (va_Pc [.ref (A 0), .int p0, .int p1, .ref o] (fun U => U.heap.size = sz ∧ va_P (dC, dI) vwCl (XW cI cZ cO A Q fl un ut u0 u1 sv x r ++ LW cL o f) U.heap ∧ va_K (dC, dI) vwCl (TY cI cZ cO ++ [(cL, .long)]) U ∧ va_D (fun _ => True) (XW cI cZ cO A Q fl un ut u0 u1 sv x r ++ LW cL o f) ∧ HX (va_A (XW cI cZ cO A Q fl un ut u0 u1 sv x r ++ LW cL o f) sz) U)) (kQw (some (.int (hA (f_Xwind fl un ut u0 u1 sv x r p0 p1) cdIA))) (dC, dI) vwCl (hWd (f_Xwind fl un ut u0 u1 sv x r p0 p1) (fun z => XW cI cZ cO A Q fl z.2.1 ut u0 u1 z.2.2 x r) (fun r1 => XW cI cZ cO A Q fl un ut u0 u1 sv x r1) (fun z => z.1) cL o f) (va_A (XW cI cZ cO A Q fl un ut u0 u1 sv x r ++ LW cL o f) sz)) 1 6 (va_A (XW cI cZ cO A Q fl un ut u0 u1 sv x r ++ LW cL o f) sz) := by
  refine kofH (cc := cL_wind) (maxL := 5) (ret := some .int) (hh := [(0, 10, 13, 21), (0, 10, 17, 13)]) (by decide) rfl (Nat.le_of_ble_eq_true rfl) ?_
  intro p e s m args below meth c ls S hr hlk hsz hP hK hD hS hA1 hX htab hl
  generalize hA0 : va_A (XW cI cZ cO A Q fl un ut u0 u1 sv x r ++ LW cL o f) sz = A0 at hD hS hA1 hX ⊢
  subst hsz
  obtain ⟨hx, hb, hml, hown, hts⟩ := id S
  have hl : lv_has ls 5 [(0, .ref (A 0)), (1, .int p0), (2, .int p1), (3, .ref o)] := hl
  refine lv_aload_n hx hb dL_wind_0 rfl (lv_at hl 3 rfl) ?_
  refine lv_iconst (v := (0 : Int32)) hx hb dL_wind_1 (by decide) ?_
  refine lv_aload_n hx hb dL_wind_2 rfl (lv_at hl 0 rfl) ?_
  refine lv_iload_n hx hb dL_wind_3 rfl (lv_at hl 1 rfl) ?_
  refine lv_iload_n hx hb dL_wind_4 rfl (lv_at hl 2 rfl) ?_
  refine kx_v (F := f_Xwind fl un ut u0 u1 sv x r p0 p1) (ans := fun z => z.1) (W1 := fun z => XW cI cZ cO A Q fl z.2.1 ut u0 u1 z.2.2 x r) (Wf := fun r1 => XW cI cZ cO A Q fl un ut u0 u1 sv x r1) (wc := XW cI cZ cO A Q fl un ut u0 u1 sv x r) (As := [.int p0, .int p1]) (rest := [.int (0 : Int32), .ref o]) S (c_X4_wind l hst dC dI cI cZ cO A Q fl un ut u0 u1 sv x r p0 p1 s.heap.size hS1 hS2) gL_wind_X4_wind mi_X4_wind ⟨rfl, rfl⟩ ⟨Nat.le_of_ble_eq_true rfl, Nat.le_of_ble_eq_true rfl⟩ hX.1 (hK.sub [0, 1, 2] rfl) hP hD hS hA1 (List.range' 0 67) XW_allT (fun z => XW_fst) (fun r1 => XW_fst) (nd_range 67 0) 0 rfl rfl ⟨Nat.le_of_ble_eq_true rfl, Nat.le_of_ble_eq_true rfl⟩ dL_wind_5 rfl hl.1 rfl (Nat.le_of_ble_eq_true rfl) (fun z hz H locs hP hD hS => ?_) (fun k r1 hz H locs q9 ce hP hD hS hc9 hv9 hcl9 => ?_)
  · have hP : va_P (dC, dI) vwCl (XW cI cZ cO A Q fl z.2.1 ut u0 u1 z.2.2 x r ++ LW cL o f) H := Eq.mp (congrArg (fun w => va_P (dC, dI) vwCl w H) XW_ksT) hP
    have hD : va_D A0 (XW cI cZ cO A Q fl z.2.1 ut u0 u1 z.2.2 x r ++ LW cL o f) := Eq.mp (congrArg (fun w => va_D A0 w) XW_ksT) hD
    refine lv_i2l hx hb dL_wind_8 rfl ?_
    refine va_last hx hb hK hP hD hS 67 3 XW_getL rfl (i := (0 : Int32)) (vp_in_nI (n := 0) (N := 1) (by omega) (by omega)) dL_wind_9 (fun H locs hP hD hS => ?_)
    have hP : va_P (dC, dI) vwCl (XW cI cZ cO A Q fl z.2.1 ut u0 u1 z.2.2 x r ++ LW cL o (vp_updL f 0 (z.1).toInt64)) H := Eq.mp (congrArg (fun w => va_P (dC, dI) vwCl w H) XW_setL) hP
    refine lv_goto (tgt := 21) hx hb dL_wind_10 (by decide) ?_
    refine lv_iconst (v := (0 : Int32)) hx hb dL_wind_21 (by decide) ?_
    exact kw_i hx hb hr hlk hP hS dL_wind_22 (by rw [hz]; rfl) (by rw [hz]; rfl)
  · have hP : va_P (dC, dI) vwCl (XW cI cZ cO A Q fl un ut u0 u1 sv x r1 ++ LW cL o f) H := Eq.mp (congrArg (fun w => va_P (dC, dI) vwCl w H) XW_ksT) hP
    have hk := hE _ hz
    dsimp only at hk
    rcases cdIA_ne hk with rfl | rfl
    · refine kcatch1 (own := RL) hown htab (by decide) (by decide) (hts (.classLink RL 21 (exN 3)) (List.mem_of_getElem? (i := 1) rfl)) hX.1.1 hc9 hv9 hcl9 ?_
      refine lv_astore (lv' := [(4, .ref q9), (0, .ref (A 0)), (1, .int p0), (2, .int p1), (3, .ref o)]) hx hb dL_wind_13 hl (by decide) rfl (fun ls hl => ?_)
      refine lv_iconst (v := (1 : Int32)) hx hb dL_wind_15 (by decide) ?_
      exact kw_i hx hb hr hlk hP hS dL_wind_16 (by rw [hz]; rfl) (by rw [hz]; rfl)
    · refine kcatch2 (own := RL) (k1 := 3) hown htab (by decide) (by decide) (by decide) (hts (.classLink RL 21 (exN 3)) (List.mem_of_getElem? (i := 1) rfl)) hX.2.2 (hts (.classLink RL 13 (exN 1)) (List.mem_of_getElem? (i := 2) rfl)) hX.1.1 hc9 hv9 hcl9 ?_
      refine lv_astore (lv' := [(4, .ref q9), (0, .ref (A 0)), (1, .int p0), (2, .int p1), (3, .ref o)]) hx hb dL_wind_17 hl (by decide) rfl (fun ls hl => ?_)
      refine lv_iconst (v := (2 : Int32)) hx hb dL_wind_19 (by decide) ?_
      exact kw_i hx hb hr hlk hP hS dL_wind_20 (by rw [hz]; rfl) (by rw [hz]; rfl)
def rm_L_hold : Room := { frames := 7, cells := 1, slots := 6, locals := 103 }
set_option maxHeartbeats 1000000 in
set_option maxRecDepth 100000 in
theorem c_L_hold (l : Launch) (hst : l.stackTraces = false) (dC : Nat → ClassId) (dI : Nat → Nat → Nat) (cI cZ cO cL : ClassId) (A : Nat → Nat) (Q : Nat → Nat → Nat) (fl : (Nat → Int32)) (un : BS) (ut : BS) (u0 : BS) (u1 : BS) (sv : SS) (x : BS) (r : BS) (p0 : Int32) (o : Nat) (f : Nat → Int64) (sz : Nat) (hS1 : sv.1 < 6) (hS2 : sv.2.1 ≤ 6) (hE : ∀ e, f_Xhold fl un ut u0 u1 sv x r p0 = .error e → ¬ cdI e.1 = 0) : Met l yL_hold wsL_hold rm_L_hold (va_Pc [.ref (A 0), .int p0, .ref o] (fun U => U.heap.size = sz ∧ va_P (dC, dI) vwCl (XW cI cZ cO A Q fl un ut u0 u1 sv x r ++ LW cL o f) U.heap ∧ va_K (dC, dI) vwCl (TY cI cZ cO ++ [(cL, .long)]) U ∧ va_D (fun _ => True) (XW cI cZ cO A Q fl un ut u0 u1 sv x r ++ LW cL o f) ∧ HX (va_A (XW cI cZ cO A Q fl un ut u0 u1 sv x r ++ LW cL o f) sz) U)) (kQw (some (.int (hA (f_Xhold fl un ut u0 u1 sv x r p0) cdI))) (dC, dI) vwCl (hWd (f_Xhold fl un ut u0 u1 sv x r p0) (fun z => XW cI cZ cO A Q fl z.2.1 ut u0 u1 z.2.2 x r) (fun r1 => XW cI cZ cO A Q fl un ut u0 u1 sv x r1) (fun z => z.1) cL o f) (va_A (XW cI cZ cO A Q fl un ut u0 u1 sv x r ++ LW cL o f) sz)) 1 6 (va_A (XW cI cZ cO A Q fl un ut u0 u1 sv x r ++ LW cL o f) sz) := by
  refine kofH (cc := cL_hold) (maxL := 4) (ret := some .int) (hh := [(0, 9, 12, 21)]) (by decide) rfl (Nat.le_of_ble_eq_true rfl) ?_
  intro p e s m args below meth c ls S hr hlk hsz hP hK hD hS hA1 hX htab hl
  generalize hA0 : va_A (XW cI cZ cO A Q fl un ut u0 u1 sv x r ++ LW cL o f) sz = A0 at hD hS hA1 hX ⊢
  subst hsz
  obtain ⟨hx, hb, hml, hown, hts⟩ := id S
  have hl : lv_has ls 4 [(0, .ref (A 0)), (1, .int p0), (2, .ref o)] := hl
  refine lv_aload_n hx hb dL_hold_0 rfl (lv_at hl 2 rfl) ?_
  refine lv_iconst (v := (0 : Int32)) hx hb dL_hold_1 (by decide) ?_
  refine lv_aload_n hx hb dL_hold_2 rfl (lv_at hl 0 rfl) ?_
  refine lv_iload_n hx hb dL_hold_3 rfl (lv_at hl 1 rfl) ?_
  refine kx_v (F := f_Xhold fl un ut u0 u1 sv x r p0) (ans := fun z => z.1) (W1 := fun z => XW cI cZ cO A Q fl z.2.1 ut u0 u1 z.2.2 x r) (Wf := fun r1 => XW cI cZ cO A Q fl un ut u0 u1 sv x r1) (wc := XW cI cZ cO A Q fl un ut u0 u1 sv x r) (As := [.int p0]) (rest := [.int (0 : Int32), .ref o]) S (c_X4_hold l hst dC dI cI cZ cO A Q fl un ut u0 u1 sv x r p0 s.heap.size hS1 hS2) gL_hold_X4_hold mi_X4_hold ⟨rfl, rfl⟩ ⟨Nat.le_of_ble_eq_true rfl, Nat.le_of_ble_eq_true rfl⟩ hX.1 (hK.sub [0, 1, 2] rfl) hP hD hS hA1 (List.range' 0 67) XW_allT (fun z => XW_fst) (fun r1 => XW_fst) (nd_range 67 0) 0 rfl rfl ⟨Nat.le_of_ble_eq_true rfl, Nat.le_of_ble_eq_true rfl⟩ dL_hold_4 rfl hl.1 rfl (Nat.le_of_ble_eq_true rfl) (fun z hz H locs hP hD hS => ?_) (fun k r1 hz H locs q9 ce hP hD hS hc9 hv9 hcl9 => ?_)
  · have hP : va_P (dC, dI) vwCl (XW cI cZ cO A Q fl z.2.1 ut u0 u1 z.2.2 x r ++ LW cL o f) H := Eq.mp (congrArg (fun w => va_P (dC, dI) vwCl w H) XW_ksT) hP
    have hD : va_D A0 (XW cI cZ cO A Q fl z.2.1 ut u0 u1 z.2.2 x r ++ LW cL o f) := Eq.mp (congrArg (fun w => va_D A0 w) XW_ksT) hD
    refine lv_i2l hx hb dL_hold_7 rfl ?_
    refine va_last hx hb hK hP hD hS 67 3 XW_getL rfl (i := (0 : Int32)) (vp_in_nI (n := 0) (N := 1) (by omega) (by omega)) dL_hold_8 (fun H locs hP hD hS => ?_)
    have hP : va_P (dC, dI) vwCl (XW cI cZ cO A Q fl z.2.1 ut u0 u1 z.2.2 x r ++ LW cL o (vp_updL f 0 (z.1).toInt64)) H := Eq.mp (congrArg (fun w => va_P (dC, dI) vwCl w H) XW_setL) hP
    refine lv_goto (tgt := 15) hx hb dL_hold_9 (by decide) ?_
    refine lv_iconst (v := (0 : Int32)) hx hb dL_hold_15 (by decide) ?_
    exact kw_i hx hb hr hlk hP hS dL_hold_16 (by rw [hz]; rfl) (by rw [hz]; rfl)
  · have hP : va_P (dC, dI) vwCl (XW cI cZ cO A Q fl un ut u0 u1 sv x r1 ++ LW cL o f) H := Eq.mp (congrArg (fun w => va_P (dC, dI) vwCl w H) XW_ksT) hP
    have hk := hE _ hz
    dsimp only at hk
    obtain rfl := cdI_ne hk
    refine kcatch1 (own := RL) hown htab (by decide) (by decide) (hts (.classLink RL 21 (exN 3)) (List.mem_of_getElem? (i := 1) rfl)) hX.1.1 hc9 hv9 hcl9 ?_
    refine lv_astore_n (lv' := [(3, .ref q9), (0, .ref (A 0)), (1, .int p0), (2, .ref o)]) hx hb dL_hold_12 rfl hl (by decide) rfl (fun ls hl => ?_)
    refine lv_iconst (v := (1 : Int32)) hx hb dL_hold_13 (by decide) ?_
    exact kw_i hx hb hr hlk hP hS dL_hold_14 (by rw [hz]; rfl) (by rw [hz]; rfl)
def rm_L_take : Room := { frames := 7, cells := 1, slots := 6, locals := 102 }
set_option maxHeartbeats 1000000 in
set_option maxRecDepth 100000 in
theorem c_L_take (l : Launch) (hst : l.stackTraces = false) (dC : Nat → ClassId) (dI : Nat → Nat → Nat) (cI cZ cO cL : ClassId) (A : Nat → Nat) (Q : Nat → Nat → Nat) (fl : (Nat → Int32)) (un : BS) (ut : BS) (u0 : BS) (u1 : BS) (sv : SS) (x : BS) (r : BS) (o : Nat) (f : Nat → Int64) (sz : Nat) (hS1 : sv.1 < 6) (hS2 : sv.2.1 ≤ 6) (hE : ∀ e, f_Xtake fl un ut u0 u1 sv x r = .error e → ¬ cdS e.1 = 0) : Met l yL_take wsL_take rm_L_take (va_Pc [.ref (A 0), .ref o] (fun U => U.heap.size = sz ∧ va_P (dC, dI) vwCl (XW cI cZ cO A Q fl un ut u0 u1 sv x r ++ LW cL o f) U.heap ∧ va_K (dC, dI) vwCl (TY cI cZ cO ++ [(cL, .long)]) U ∧ va_D (fun _ => True) (XW cI cZ cO A Q fl un ut u0 u1 sv x r ++ LW cL o f) ∧ HX (va_A (XW cI cZ cO A Q fl un ut u0 u1 sv x r ++ LW cL o f) sz) U)) (kQw (some (.int (hA (f_Xtake fl un ut u0 u1 sv x r) cdS))) (dC, dI) vwCl (hWd (f_Xtake fl un ut u0 u1 sv x r) (fun z => XW cI cZ cO A Q fl z.2.1 ut u0 u1 z.2.2 x r) (fun r1 => XW cI cZ cO A Q fl un ut u0 u1 sv x r1) (fun z => z.1) cL o f) (va_A (XW cI cZ cO A Q fl un ut u0 u1 sv x r ++ LW cL o f) sz)) 1 6 (va_A (XW cI cZ cO A Q fl un ut u0 u1 sv x r ++ LW cL o f) sz) := by
  refine kofH (cc := cL_take) (maxL := 3) (ret := some .int) (hh := [(0, 8, 11, 15)]) (by decide) rfl (Nat.le_of_ble_eq_true rfl) ?_
  intro p e s m args below meth c ls S hr hlk hsz hP hK hD hS hA1 hX htab hl
  generalize hA0 : va_A (XW cI cZ cO A Q fl un ut u0 u1 sv x r ++ LW cL o f) sz = A0 at hD hS hA1 hX ⊢
  subst hsz
  obtain ⟨hx, hb, hml, hown, hts⟩ := id S
  have hl : lv_has ls 3 [(0, .ref (A 0)), (1, .ref o)] := hl
  refine lv_aload_n hx hb dL_take_0 rfl (lv_at hl 1 rfl) ?_
  refine lv_iconst (v := (0 : Int32)) hx hb dL_take_1 (by decide) ?_
  refine lv_aload_n hx hb dL_take_2 rfl (lv_at hl 0 rfl) ?_
  refine kx_v (F := f_Xtake fl un ut u0 u1 sv x r) (ans := fun z => z.1) (W1 := fun z => XW cI cZ cO A Q fl z.2.1 ut u0 u1 z.2.2 x r) (Wf := fun r1 => XW cI cZ cO A Q fl un ut u0 u1 sv x r1) (wc := XW cI cZ cO A Q fl un ut u0 u1 sv x r) (As := []) (rest := [.int (0 : Int32), .ref o]) S (c_X4_take l hst dC dI cI cZ cO A Q fl un ut u0 u1 sv x r s.heap.size hS1 hS2) gL_take_X4_take mi_X4_take ⟨rfl, rfl⟩ ⟨Nat.le_of_ble_eq_true rfl, Nat.le_of_ble_eq_true rfl⟩ hX.1 (hK.sub [0, 1, 2] rfl) hP hD hS hA1 (List.range' 0 67) XW_allT (fun z => XW_fst) (fun r1 => XW_fst) (nd_range 67 0) 0 rfl rfl ⟨Nat.le_of_ble_eq_true rfl, Nat.le_of_ble_eq_true rfl⟩ dL_take_3 rfl hl.1 rfl (Nat.le_of_ble_eq_true rfl) (fun z hz H locs hP hD hS => ?_) (fun k r1 hz H locs q9 ce hP hD hS hc9 hv9 hcl9 => ?_)
  · have hP : va_P (dC, dI) vwCl (XW cI cZ cO A Q fl z.2.1 ut u0 u1 z.2.2 x r ++ LW cL o f) H := Eq.mp (congrArg (fun w => va_P (dC, dI) vwCl w H) XW_ksT) hP
    have hD : va_D A0 (XW cI cZ cO A Q fl z.2.1 ut u0 u1 z.2.2 x r ++ LW cL o f) := Eq.mp (congrArg (fun w => va_D A0 w) XW_ksT) hD
    refine lv_i2l hx hb dL_take_6 rfl ?_
    refine va_last hx hb hK hP hD hS 67 3 XW_getL rfl (i := (0 : Int32)) (vp_in_nI (n := 0) (N := 1) (by omega) (by omega)) dL_take_7 (fun H locs hP hD hS => ?_)
    have hP : va_P (dC, dI) vwCl (XW cI cZ cO A Q fl z.2.1 ut u0 u1 z.2.2 x r ++ LW cL o (vp_updL f 0 (z.1).toInt64)) H := Eq.mp (congrArg (fun w => va_P (dC, dI) vwCl w H) XW_setL) hP
    refine lv_goto (tgt := 14) hx hb dL_take_8 (by decide) ?_
    refine lv_iconst (v := (0 : Int32)) hx hb dL_take_14 (by decide) ?_
    exact kw_i hx hb hr hlk hP hS dL_take_15 (by rw [hz]; rfl) (by rw [hz]; rfl)
  · have hP : va_P (dC, dI) vwCl (XW cI cZ cO A Q fl un ut u0 u1 sv x r1 ++ LW cL o f) H := Eq.mp (congrArg (fun w => va_P (dC, dI) vwCl w H) XW_ksT) hP
    have hk := hE _ hz
    dsimp only at hk
    obtain rfl := cdS_ne hk
    refine kcatch1 (own := RL) hown htab (by decide) (by decide) (hts (.classLink RL 15 (exN 2)) (List.mem_of_getElem? (i := 1) rfl)) hX.1.1 hc9 hv9 hcl9 ?_
    refine lv_astore_n (lv' := [(2, .ref q9), (0, .ref (A 0)), (1, .ref o)]) hx hb dL_take_11 rfl hl (by decide) rfl (fun ls hl => ?_)
    refine lv_iconst (v := (1 : Int32)) hx hb dL_take_12 (by decide) ?_
    exact kw_i hx hb hr hlk hP hS dL_take_13 (by rw [hz]; rfl) (by rw [hz]; rfl)
def rm_L_run : Room := { frames := 7, cells := 1, slots := 6, locals := 132 }
set_option maxHeartbeats 1000000 in
set_option maxRecDepth 100000 in
theorem c_L_run (l : Launch) (hst : l.stackTraces = false) (dC : Nat → ClassId) (dI : Nat → Nat → Nat) (cI cZ cO cL : ClassId) (A : Nat → Nat) (Q : Nat → Nat → Nat) (fl : (Nat → Int32)) (un : BS) (ut : BS) (u0 : BS) (u1 : BS) (sv : SS) (x : BS) (r : BS) (p0 : Int32) (o : Nat) (f : Nat → Int64) (sz : Nat) (hS1 : sv.1 < 6) (hS2 : sv.2.1 ≤ 6) (hE : ∀ e, f_Xrun fl un ut u0 u1 sv x r p0 = .error e → ¬ cdAS e.1 = 0) : Met l yL_run wsL_run rm_L_run (va_Pc [.ref (A 0), .int p0, .ref o] (fun U => U.heap.size = sz ∧ va_P (dC, dI) vwCl (XW cI cZ cO A Q fl un ut u0 u1 sv x r ++ LW cL o f) U.heap ∧ va_K (dC, dI) vwCl (TY cI cZ cO ++ [(cL, .long)]) U ∧ va_D (fun _ => True) (XW cI cZ cO A Q fl un ut u0 u1 sv x r ++ LW cL o f) ∧ HX (va_A (XW cI cZ cO A Q fl un ut u0 u1 sv x r ++ LW cL o f) sz) U)) (kQw (some (.int (hA (f_Xrun fl un ut u0 u1 sv x r p0) cdAS))) (dC, dI) vwCl (hWd (f_Xrun fl un ut u0 u1 sv x r p0) (fun z => XW cI cZ cO A Q fl z.2.1 ut u0 u1 z.2.2 x r) (fun r1 => XW cI cZ cO A Q fl un ut u0 u1 sv x r1) (fun z => z.1) cL o f) (va_A (XW cI cZ cO A Q fl un ut u0 u1 sv x r ++ LW cL o f) sz)) 1 6 (va_A (XW cI cZ cO A Q fl un ut u0 u1 sv x r ++ LW cL o f) sz) := by
  refine kofH (cc := cL_run) (maxL := 4) (ret := some .int) (hh := [(0, 9, 12, 13), (0, 9, 15, 15)]) (by decide) rfl (Nat.le_of_ble_eq_true rfl) ?_
  intro p e s m args below meth c ls S hr hlk hsz hP hK hD hS hA1 hX htab hl
  generalize hA0 : va_A (XW cI cZ cO A Q fl un ut u0 u1 sv x r ++ LW cL o f) sz = A0 at hD hS hA1 hX ⊢
  subst hsz
  obtain ⟨hx, hb, hml, hown, hts⟩ := id S
  have hl : lv_has ls 4 [(0, .ref (A 0)), (1, .int p0), (2, .ref o)] := hl
  refine lv_aload_n hx hb dL_run_0 rfl (lv_at hl 2 rfl) ?_
  refine lv_iconst (v := (0 : Int32)) hx hb dL_run_1 (by decide) ?_
  refine lv_aload_n hx hb dL_run_2 rfl (lv_at hl 0 rfl) ?_
  refine lv_iload_n hx hb dL_run_3 rfl (lv_at hl 1 rfl) ?_
  refine kx_v (F := f_Xrun fl un ut u0 u1 sv x r p0) (ans := fun z => z.1) (W1 := fun z => XW cI cZ cO A Q fl z.2.1 ut u0 u1 z.2.2 x r) (Wf := fun r1 => XW cI cZ cO A Q fl un ut u0 u1 sv x r1) (wc := XW cI cZ cO A Q fl un ut u0 u1 sv x r) (As := [.int p0]) (rest := [.int (0 : Int32), .ref o]) S (c_X4_run l hst dC dI cI cZ cO A Q fl un ut u0 u1 sv x r p0 s.heap.size hS1 hS2) gL_run_X4_run mi_X4_run ⟨rfl, rfl⟩ ⟨Nat.le_of_ble_eq_true rfl, Nat.le_of_ble_eq_true rfl⟩ hX.1 (hK.sub [0, 1, 2] rfl) hP hD hS hA1 (List.range' 0 67) XW_allT (fun z => XW_fst) (fun r1 => XW_fst) (nd_range 67 0) 0 rfl rfl ⟨Nat.le_of_ble_eq_true rfl, Nat.le_of_ble_eq_true rfl⟩ dL_run_4 rfl hl.1 rfl (Nat.le_of_ble_eq_true rfl) (fun z hz H locs hP hD hS => ?_) (fun k r1 hz H locs q9 ce hP hD hS hc9 hv9 hcl9 => ?_)
  · have hP : va_P (dC, dI) vwCl (XW cI cZ cO A Q fl z.2.1 ut u0 u1 z.2.2 x r ++ LW cL o f) H := Eq.mp (congrArg (fun w => va_P (dC, dI) vwCl w H) XW_ksT) hP
    have hD : va_D A0 (XW cI cZ cO A Q fl z.2.1 ut u0 u1 z.2.2 x r ++ LW cL o f) := Eq.mp (congrArg (fun w => va_D A0 w) XW_ksT) hD
    refine lv_i2l hx hb dL_run_7 rfl ?_
    refine va_last hx hb hK hP hD hS 67 3 XW_getL rfl (i := (0 : Int32)) (vp_in_nI (n := 0) (N := 1) (by omega) (by omega)) dL_run_8 (fun H locs hP hD hS => ?_)
    have hP : va_P (dC, dI) vwCl (XW cI cZ cO A Q fl z.2.1 ut u0 u1 z.2.2 x r ++ LW cL o (vp_updL f 0 (z.1).toInt64)) H := Eq.mp (congrArg (fun w => va_P (dC, dI) vwCl w H) XW_setL) hP
    refine lv_goto (tgt := 18) hx hb dL_run_9 (by decide) ?_
    refine lv_iconst (v := (0 : Int32)) hx hb dL_run_18 (by decide) ?_
    exact kw_i hx hb hr hlk hP hS dL_run_19 (by rw [hz]; rfl) (by rw [hz]; rfl)
  · have hP : va_P (dC, dI) vwCl (XW cI cZ cO A Q fl un ut u0 u1 sv x r1 ++ LW cL o f) H := Eq.mp (congrArg (fun w => va_P (dC, dI) vwCl w H) XW_ksT) hP
    have hk := hE _ hz
    dsimp only at hk
    rcases cdAS_ne hk with rfl | rfl
    · refine kcatch1 (own := RL) hown htab (by decide) (by decide) (hts (.classLink RL 13 (exN 1)) (List.mem_of_getElem? (i := 1) rfl)) hX.1.1 hc9 hv9 hcl9 ?_
      refine lv_astore_n (lv' := [(3, .ref q9), (0, .ref (A 0)), (1, .int p0), (2, .ref o)]) hx hb dL_run_12 rfl hl (by decide) rfl (fun ls hl => ?_)
      refine lv_iconst (v := (1 : Int32)) hx hb dL_run_13 (by decide) ?_
      exact kw_i hx hb hr hlk hP hS dL_run_14 (by rw [hz]; rfl) (by rw [hz]; rfl)
    · refine kcatch2 (own := RL) (k1 := 1) hown htab (by decide) (by decide) (by decide) (hts (.classLink RL 13 (exN 1)) (List.mem_of_getElem? (i := 1) rfl)) hX.2.1 (hts (.classLink RL 15 (exN 2)) (List.mem_of_getElem? (i := 2) rfl)) hX.1.1 hc9 hv9 hcl9 ?_
      refine lv_astore_n (lv' := [(3, .ref q9), (0, .ref (A 0)), (1, .int p0), (2, .ref o)]) hx hb dL_run_15 rfl hl (by decide) rfl (fun ls hl => ?_)
      refine lv_iconst (v := (2 : Int32)) hx hb dL_run_16 (by decide) ?_
      exact kw_i hx hb hr hlk hP hS dL_run_17 (by rw [hz]; rfl) (by rw [hz]; rfl)
def rm_L_set : Room := { frames := 7, cells := 1, slots := 6, locals := 104 }
set_option maxHeartbeats 1000000 in
set_option maxRecDepth 100000 in
theorem c_L_set (l : Launch) (hst : l.stackTraces = false) (dC : Nat → ClassId) (dI : Nat → Nat → Nat) (cI cZ cO cL : ClassId) (A : Nat → Nat) (Q : Nat → Nat → Nat) (fl : (Nat → Int32)) (un : BS) (ut : BS) (u0 : BS) (u1 : BS) (sv : SS) (x : BS) (r : BS) (p0 : Int32) (p1 : Int32) (o : Nat) (f : Nat → Int64) (sz : Nat) (hS1 : sv.1 < 6) (hS2 : sv.2.1 ≤ 6) (hE : ∀ e, f_Xset fl un ut u0 u1 sv x r p0 p1 = .error e → ¬ cdIA e.1 = 0) : Met l yL_set wsL_set rm_L_set (va_Pc [.ref (A 0), .int p0, .int p1, .ref o] (fun U => U.heap.size = sz ∧ va_P (dC, dI) vwCl (XW cI cZ cO A Q fl un ut u0 u1 sv x r ++ LW cL o f) U.heap ∧ va_K (dC, dI) vwCl (TY cI cZ cO ++ [(cL, .long)]) U ∧ va_D (fun _ => True) (XW cI cZ cO A Q fl un ut u0 u1 sv x r ++ LW cL o f) ∧ HX (va_A (XW cI cZ cO A Q fl un ut u0 u1 sv x r ++ LW cL o f) sz) U)) (kQw (some (.int (hA (f_Xset fl un ut u0 u1 sv x r p0 p1) cdIA))) (dC, dI) vwCl (hWd (f_Xset fl un ut u0 u1 sv x r p0 p1) (fun z => XW cI cZ cO A Q fl z.2.1 ut u0 u1 z.2.2 x r) (fun r1 => XW cI cZ cO A Q fl un ut u0 u1 sv x r1) (fun z => z.1) cL o f) (va_A (XW cI cZ cO A Q fl un ut u0 u1 sv x r ++ LW cL o f) sz)) 1 6 (va_A (XW cI cZ cO A Q fl un ut u0 u1 sv x r ++ LW cL o f) sz) := by
  refine kofH (cc := cL_set) (maxL := 5) (ret := some .int) (hh := [(0, 10, 13, 21), (0, 10, 17, 13)]) (by decide) rfl (Nat.le_of_ble_eq_true rfl) ?_
  intro p e s m args below meth c ls S hr hlk hsz hP hK hD hS hA1 hX htab hl
  generalize hA0 : va_A (XW cI cZ cO A Q fl un ut u0 u1 sv x r ++ LW cL o f) sz = A0 at hD hS hA1 hX ⊢
  subst hsz
  obtain ⟨hx, hb, hml, hown, hts⟩ := id S
  have hl : lv_has ls 5 [(0, .ref (A 0)), (1, .int p0), (2, .int p1), (3, .ref o)] := hl
  refine lv_aload_n hx hb dL_set_0 rfl (lv_at hl 3 rfl) ?_
  refine lv_iconst (v := (0 : Int32)) hx hb dL_set_1 (by decide) ?_
  refine lv_aload_n hx hb dL_set_2 rfl (lv_at hl 0 rfl) ?_
  refine lv_iload_n hx hb dL_set_3 rfl (lv_at hl 1 rfl) ?_
  refine lv_iload_n hx hb dL_set_4 rfl (lv_at hl 2 rfl) ?_
  refine kx_v (F := f_Xset fl un ut u0 u1 sv x r p0 p1) (ans := fun z => z.1) (W1 := fun z => XW cI cZ cO A Q fl z.2.1 ut u0 u1 z.2.2 x r) (Wf := fun r1 => XW cI cZ cO A Q fl un ut u0 u1 sv x r1) (wc := XW cI cZ cO A Q fl un ut u0 u1 sv x r) (As := [.int p0, .int p1]) (rest := [.int (0 : Int32), .ref o]) S (c_X4_set l hst dC dI cI cZ cO A Q fl un ut u0 u1 sv x r p0 p1 s.heap.size hS1 hS2) gL_set_X4_set mi_X4_set ⟨rfl, rfl⟩ ⟨Nat.le_of_ble_eq_true rfl, Nat.le_of_ble_eq_true rfl⟩ hX.1 (hK.sub [0, 1, 2] rfl) hP hD hS hA1 (List.range' 0 67) XW_allT (fun z => XW_fst) (fun r1 => XW_fst) (nd_range 67 0) 0 rfl rfl ⟨Nat.le_of_ble_eq_true rfl, Nat.le_of_ble_eq_true rfl⟩ dL_set_5 rfl hl.1 rfl (Nat.le_of_ble_eq_true rfl) (fun z hz H locs hP hD hS => ?_) (fun k r1 hz H locs q9 ce hP hD hS hc9 hv9 hcl9 => ?_)
  · have hP : va_P (dC, dI) vwCl (XW cI cZ cO A Q fl z.2.1 ut u0 u1 z.2.2 x r ++ LW cL o f) H := Eq.mp (congrArg (fun w => va_P (dC, dI) vwCl w H) XW_ksT) hP
    have hD : va_D A0 (XW cI cZ cO A Q fl z.2.1 ut u0 u1 z.2.2 x r ++ LW cL o f) := Eq.mp (congrArg (fun w => va_D A0 w) XW_ksT) hD
    refine lv_i2l hx hb dL_set_8 rfl ?_
    refine va_last hx hb hK hP hD hS 67 3 XW_getL rfl (i := (0 : Int32)) (vp_in_nI (n := 0) (N := 1) (by omega) (by omega)) dL_set_9 (fun H locs hP hD hS => ?_)
    have hP : va_P (dC, dI) vwCl (XW cI cZ cO A Q fl z.2.1 ut u0 u1 z.2.2 x r ++ LW cL o (vp_updL f 0 (z.1).toInt64)) H := Eq.mp (congrArg (fun w => va_P (dC, dI) vwCl w H) XW_setL) hP
    refine lv_goto (tgt := 21) hx hb dL_set_10 (by decide) ?_
    refine lv_iconst (v := (0 : Int32)) hx hb dL_set_21 (by decide) ?_
    exact kw_i hx hb hr hlk hP hS dL_set_22 (by rw [hz]; rfl) (by rw [hz]; rfl)
  · have hP : va_P (dC, dI) vwCl (XW cI cZ cO A Q fl un ut u0 u1 sv x r1 ++ LW cL o f) H := Eq.mp (congrArg (fun w => va_P (dC, dI) vwCl w H) XW_ksT) hP
    have hk := hE _ hz
    dsimp only at hk
    rcases cdIA_ne hk with rfl | rfl
    · refine kcatch1 (own := RL) hown htab (by decide) (by decide) (hts (.classLink RL 21 (exN 3)) (List.mem_of_getElem? (i := 1) rfl)) hX.1.1 hc9 hv9 hcl9 ?_
      refine lv_astore (lv' := [(4, .ref q9), (0, .ref (A 0)), (1, .int p0), (2, .int p1), (3, .ref o)]) hx hb dL_set_13 hl (by decide) rfl (fun ls hl => ?_)
      refine lv_iconst (v := (1 : Int32)) hx hb dL_set_15 (by decide) ?_
      exact kw_i hx hb hr hlk hP hS dL_set_16 (by rw [hz]; rfl) (by rw [hz]; rfl)
    · refine kcatch2 (own := RL) (k1 := 3) hown htab (by decide) (by decide) (by decide) (hts (.classLink RL 21 (exN 3)) (List.mem_of_getElem? (i := 1) rfl)) hX.2.2 (hts (.classLink RL 13 (exN 1)) (List.mem_of_getElem? (i := 2) rfl)) hX.1.1 hc9 hv9 hcl9 ?_
      refine lv_astore (lv' := [(4, .ref q9), (0, .ref (A 0)), (1, .int p0), (2, .int p1), (3, .ref o)]) hx hb dL_set_17 hl (by decide) rfl (fun ls hl => ?_)
      refine lv_iconst (v := (2 : Int32)) hx hb dL_set_19 (by decide) ?_
      exact kw_i hx hb hr hlk hP hS dL_set_20 (by rw [hz]; rfl) (by rw [hz]; rfl)
def rm_L_append : Room := { frames := 7, cells := 1, slots := 6, locals := 103 }
set_option maxHeartbeats 1000000 in
set_option maxRecDepth 100000 in
theorem c_L_append (l : Launch) (hst : l.stackTraces = false) (dC : Nat → ClassId) (dI : Nat → Nat → Nat) (cI cZ cO cL : ClassId) (A : Nat → Nat) (Q : Nat → Nat → Nat) (fl : (Nat → Int32)) (un : BS) (ut : BS) (u0 : BS) (u1 : BS) (sv : SS) (x : BS) (r : BS) (p0 : Int32) (o : Nat) (f : Nat → Int64) (sz : Nat)  (hE : ∀ e, f_Xappend fl un ut u0 u1 sv x r p0 = .error e → ¬ cdAS e.1 = 0) : Met l yL_append wsL_append rm_L_append (va_Pc [.ref (A 0), .int p0, .ref o] (fun U => U.heap.size = sz ∧ va_P (dC, dI) vwCl (XW cI cZ cO A Q fl un ut u0 u1 sv x r ++ LW cL o f) U.heap ∧ va_K (dC, dI) vwCl (TY cI cZ cO ++ [(cL, .long)]) U ∧ va_D (fun _ => True) (XW cI cZ cO A Q fl un ut u0 u1 sv x r ++ LW cL o f) ∧ HX (va_A (XW cI cZ cO A Q fl un ut u0 u1 sv x r ++ LW cL o f) sz) U)) (kQw (some (.int (hA (f_Xappend fl un ut u0 u1 sv x r p0) cdAS))) (dC, dI) vwCl (hWd (f_Xappend fl un ut u0 u1 sv x r p0) (fun z => XW cI cZ cO A Q fl un ut u0 u1 sv z.2 r) (fun r1 => XW cI cZ cO A Q fl un ut u0 u1 sv x r1) (fun z => z.1) cL o f) (va_A (XW cI cZ cO A Q fl un ut u0 u1 sv x r ++ LW cL o f) sz)) 1 6 (va_A (XW cI cZ cO A Q fl un ut u0 u1 sv x r ++ LW cL o f) sz) := by
  refine kofH (cc := cL_append) (maxL := 4) (ret := some .int) (hh := [(0, 9, 12, 13), (0, 9, 15, 15)]) (by decide) rfl (Nat.le_of_ble_eq_true rfl) ?_
  intro p e s m args below meth c ls S hr hlk hsz hP hK hD hS hA1 hX htab hl
  generalize hA0 : va_A (XW cI cZ cO A Q fl un ut u0 u1 sv x r ++ LW cL o f) sz = A0 at hD hS hA1 hX ⊢
  subst hsz
  obtain ⟨hx, hb, hml, hown, hts⟩ := id S
  have hl : lv_has ls 4 [(0, .ref (A 0)), (1, .int p0), (2, .ref o)] := hl
  refine lv_aload_n hx hb dL_append_0 rfl (lv_at hl 2 rfl) ?_
  refine lv_iconst (v := (0 : Int32)) hx hb dL_append_1 (by decide) ?_
  refine lv_aload_n hx hb dL_append_2 rfl (lv_at hl 0 rfl) ?_
  refine lv_iload_n hx hb dL_append_3 rfl (lv_at hl 1 rfl) ?_
  refine kx_v (F := f_Xappend fl un ut u0 u1 sv x r p0) (ans := fun z => z.1) (W1 := fun z => XW cI cZ cO A Q fl un ut u0 u1 sv z.2 r) (Wf := fun r1 => XW cI cZ cO A Q fl un ut u0 u1 sv x r1) (wc := XW cI cZ cO A Q fl un ut u0 u1 sv x r) (As := [.int p0]) (rest := [.int (0 : Int32), .ref o]) S (c_X4_append l hst dC dI cI cZ cO A Q fl un ut u0 u1 sv x r p0 s.heap.size) gL_append_X4_append mi_X4_append ⟨rfl, rfl⟩ ⟨Nat.le_of_ble_eq_true rfl, Nat.le_of_ble_eq_true rfl⟩ hX.1 (hK.sub [0, 1, 2] rfl) hP hD hS hA1 (List.range' 0 67) XW_allT (fun z => XW_fst) (fun r1 => XW_fst) (nd_range 67 0) 0 rfl rfl ⟨Nat.le_of_ble_eq_true rfl, Nat.le_of_ble_eq_true rfl⟩ dL_append_4 rfl hl.1 rfl (Nat.le_of_ble_eq_true rfl) (fun z hz H locs hP hD hS => ?_) (fun k r1 hz H locs q9 ce hP hD hS hc9 hv9 hcl9 => ?_)
  · have hP : va_P (dC, dI) vwCl (XW cI cZ cO A Q fl un ut u0 u1 sv z.2 r ++ LW cL o f) H := Eq.mp (congrArg (fun w => va_P (dC, dI) vwCl w H) XW_ksT) hP
    have hD : va_D A0 (XW cI cZ cO A Q fl un ut u0 u1 sv z.2 r ++ LW cL o f) := Eq.mp (congrArg (fun w => va_D A0 w) XW_ksT) hD
    refine lv_i2l hx hb dL_append_7 rfl ?_
    refine va_last hx hb hK hP hD hS 67 3 XW_getL rfl (i := (0 : Int32)) (vp_in_nI (n := 0) (N := 1) (by omega) (by omega)) dL_append_8 (fun H locs hP hD hS => ?_)
    have hP : va_P (dC, dI) vwCl (XW cI cZ cO A Q fl un ut u0 u1 sv z.2 r ++ LW cL o (vp_updL f 0 (z.1).toInt64)) H := Eq.mp (congrArg (fun w => va_P (dC, dI) vwCl w H) XW_setL) hP
    refine lv_goto (tgt := 18) hx hb dL_append_9 (by decide) ?_
    refine lv_iconst (v := (0 : Int32)) hx hb dL_append_18 (by decide) ?_
    exact kw_i hx hb hr hlk hP hS dL_append_19 (by rw [hz]; rfl) (by rw [hz]; rfl)
  · have hP : va_P (dC, dI) vwCl (XW cI cZ cO A Q fl un ut u0 u1 sv x r1 ++ LW cL o f) H := Eq.mp (congrArg (fun w => va_P (dC, dI) vwCl w H) XW_ksT) hP
    have hk := hE _ hz
    dsimp only at hk
    rcases cdAS_ne hk with rfl | rfl
    · refine kcatch1 (own := RL) hown htab (by decide) (by decide) (hts (.classLink RL 13 (exN 1)) (List.mem_of_getElem? (i := 1) rfl)) hX.1.1 hc9 hv9 hcl9 ?_
      refine lv_astore_n (lv' := [(3, .ref q9), (0, .ref (A 0)), (1, .int p0), (2, .ref o)]) hx hb dL_append_12 rfl hl (by decide) rfl (fun ls hl => ?_)
      refine lv_iconst (v := (1 : Int32)) hx hb dL_append_13 (by decide) ?_
      exact kw_i hx hb hr hlk hP hS dL_append_14 (by rw [hz]; rfl) (by rw [hz]; rfl)
    · refine kcatch2 (own := RL) (k1 := 1) hown htab (by decide) (by decide) (by decide) (hts (.classLink RL 13 (exN 1)) (List.mem_of_getElem? (i := 1) rfl)) hX.2.1 (hts (.classLink RL 15 (exN 2)) (List.mem_of_getElem? (i := 2) rfl)) hX.1.1 hc9 hv9 hcl9 ?_
      refine lv_astore_n (lv' := [(3, .ref q9), (0, .ref (A 0)), (1, .int p0), (2, .ref o)]) hx hb dL_append_15 rfl hl (by decide) rfl (fun ls hl => ?_)
      refine lv_iconst (v := (2 : Int32)) hx hb dL_append_16 (by decide) ?_
      exact kw_i hx hb hr hlk hP hS dL_append_17 (by rw [hz]; rfl) (by rw [hz]; rfl)
def rm_L_play : Room := { frames := 7, cells := 1, slots := 6, locals := 154 }
set_option maxHeartbeats 1000000 in
set_option maxRecDepth 100000 in
theorem c_L_play (l : Launch) (hst : l.stackTraces = false) (dC : Nat → ClassId) (dI : Nat → Nat → Nat) (cI cZ cO cL : ClassId) (A : Nat → Nat) (Q : Nat → Nat → Nat) (fl : (Nat → Int32)) (un : BS) (ut : BS) (u0 : BS) (u1 : BS) (sv : SS) (x : BS) (r : BS) (o : Nat) (f : Nat → Int64) (sz : Nat) (hS1 : sv.1 < 6) (hS2 : sv.2.1 ≤ 6) (hxs : vp_in (f_Tsize x) 61) (hE : ∀ e, f_Xplay fl un ut u0 u1 sv x r = .error e → ¬ cdA e.1 = 0) : Met l yL_play wsL_play rm_L_play (va_Pc [.ref (A 0), .ref o] (fun U => U.heap.size = sz ∧ va_P (dC, dI) vwCl (XW cI cZ cO A Q fl un ut u0 u1 sv x r ++ LW cL o f) U.heap ∧ va_K (dC, dI) vwCl (TY cI cZ cO ++ [(cL, .long)]) U ∧ va_D (fun _ => True) (XW cI cZ cO A Q fl un ut u0 u1 sv x r ++ LW cL o f) ∧ HX (va_A (XW cI cZ cO A Q fl un ut u0 u1 sv x r ++ LW cL o f) sz) U)) (kQw (some (.int (hA (f_Xplay fl un ut u0 u1 sv x r) cdA))) (dC, dI) vwCl (hWd (f_Xplay fl un ut u0 u1 sv x r) (fun z => XW cI cZ cO A Q fl z.2.1 ut u0 u1 z.2.2.1 z.2.2.2.1 z.2.2.2.2) (fun r1 => XW cI cZ cO A Q fl un ut u0 u1 sv x r1) (fun z => z.1) cL o f) (va_A (XW cI cZ cO A Q fl un ut u0 u1 sv x r ++ LW cL o f) sz)) 1 6 (va_A (XW cI cZ cO A Q fl un ut u0 u1 sv x r ++ LW cL o f) sz) := by
  refine kofH (cc := cL_play) (maxL := 3) (ret := some .int) (hh := [(0, 8, 11, 13)]) (by decide) rfl (Nat.le_of_ble_eq_true rfl) ?_
  intro p e s m args below meth c ls S hr hlk hsz hP hK hD hS hA1 hX htab hl
  generalize hA0 : va_A (XW cI cZ cO A Q fl un ut u0 u1 sv x r ++ LW cL o f) sz = A0 at hD hS hA1 hX ⊢
  subst hsz
  obtain ⟨hx, hb, hml, hown, hts⟩ := id S
  have hl : lv_has ls 3 [(0, .ref (A 0)), (1, .ref o)] := hl
  refine lv_aload_n hx hb dL_play_0 rfl (lv_at hl 1 rfl) ?_
  refine lv_iconst (v := (0 : Int32)) hx hb dL_play_1 (by decide) ?_
  refine lv_aload_n hx hb dL_play_2 rfl (lv_at hl 0 rfl) ?_
  refine kx_v (F := f_Xplay fl un ut u0 u1 sv x r) (ans := fun z => z.1) (W1 := fun z => XW cI cZ cO A Q fl z.2.1 ut u0 u1 z.2.2.1 z.2.2.2.1 z.2.2.2.2) (Wf := fun r1 => XW cI cZ cO A Q fl un ut u0 u1 sv x r1) (wc := XW cI cZ cO A Q fl un ut u0 u1 sv x r) (As := []) (rest := [.int (0 : Int32), .ref o]) S (c_X4_play l hst dC dI cI cZ cO A Q fl un ut u0 u1 sv x r s.heap.size hS1 hS2 hxs) gL_play_X4_play mi_X4_play ⟨rfl, rfl⟩ ⟨Nat.le_of_ble_eq_true rfl, Nat.le_of_ble_eq_true rfl⟩ hX.1 (hK.sub [0, 1, 2] rfl) hP hD hS hA1 (List.range' 0 67) XW_allT (fun z => XW_fst) (fun r1 => XW_fst) (nd_range 67 0) 0 rfl rfl ⟨Nat.le_of_ble_eq_true rfl, Nat.le_of_ble_eq_true rfl⟩ dL_play_3 rfl hl.1 rfl (Nat.le_of_ble_eq_true rfl) (fun z hz H locs hP hD hS => ?_) (fun k r1 hz H locs q9 ce hP hD hS hc9 hv9 hcl9 => ?_)
  · have hP : va_P (dC, dI) vwCl (XW cI cZ cO A Q fl z.2.1 ut u0 u1 z.2.2.1 z.2.2.2.1 z.2.2.2.2 ++ LW cL o f) H := Eq.mp (congrArg (fun w => va_P (dC, dI) vwCl w H) XW_ksT) hP
    have hD : va_D A0 (XW cI cZ cO A Q fl z.2.1 ut u0 u1 z.2.2.1 z.2.2.2.1 z.2.2.2.2 ++ LW cL o f) := Eq.mp (congrArg (fun w => va_D A0 w) XW_ksT) hD
    refine lv_i2l hx hb dL_play_6 rfl ?_
    refine va_last hx hb hK hP hD hS 67 3 XW_getL rfl (i := (0 : Int32)) (vp_in_nI (n := 0) (N := 1) (by omega) (by omega)) dL_play_7 (fun H locs hP hD hS => ?_)
    have hP : va_P (dC, dI) vwCl (XW cI cZ cO A Q fl z.2.1 ut u0 u1 z.2.2.1 z.2.2.2.1 z.2.2.2.2 ++ LW cL o (vp_updL f 0 (z.1).toInt64)) H := Eq.mp (congrArg (fun w => va_P (dC, dI) vwCl w H) XW_setL) hP
    refine lv_goto (tgt := 14) hx hb dL_play_8 (by decide) ?_
    refine lv_iconst (v := (0 : Int32)) hx hb dL_play_14 (by decide) ?_
    exact kw_i hx hb hr hlk hP hS dL_play_15 (by rw [hz]; rfl) (by rw [hz]; rfl)
  · have hP : va_P (dC, dI) vwCl (XW cI cZ cO A Q fl un ut u0 u1 sv x r1 ++ LW cL o f) H := Eq.mp (congrArg (fun w => va_P (dC, dI) vwCl w H) XW_ksT) hP
    have hk := hE _ hz
    dsimp only at hk
    obtain rfl := cdA_ne hk
    refine kcatch1 (own := RL) hown htab (by decide) (by decide) (hts (.classLink RL 13 (exN 1)) (List.mem_of_getElem? (i := 1) rfl)) hX.1.1 hc9 hv9 hcl9 ?_
    refine lv_astore_n (lv' := [(2, .ref q9), (0, .ref (A 0)), (1, .ref o)]) hx hb dL_play_11 rfl hl (by decide) rfl (fun ls hl => ?_)
    refine lv_iconst (v := (1 : Int32)) hx hb dL_play_12 (by decide) ?_
    exact kw_i hx hb hr hlk hP hS dL_play_13 (by rw [hz]; rfl) (by rw [hz]; rfl)
def rm_L_keep : Room := { frames := 7, cells := 1, slots := 6, locals := 103 }
set_option maxHeartbeats 1000000 in
set_option maxRecDepth 100000 in
theorem c_L_keep (l : Launch) (hst : l.stackTraces = false) (dC : Nat → ClassId) (dI : Nat → Nat → Nat) (cI cZ cO cL : ClassId) (A : Nat → Nat) (Q : Nat → Nat → Nat) (fl : (Nat → Int32)) (un : BS) (ut : BS) (u0 : BS) (u1 : BS) (sv : SS) (x : BS) (r : BS) (p0 : Int32) (o : Nat) (f : Nat → Int64) (sz : Nat)  (hE : ∀ e, f_Xkeep fl un ut u0 u1 sv x r p0 = .error e → ¬ cdA e.1 = 0) : Met l yL_keep wsL_keep rm_L_keep (va_Pc [.ref (A 0), .int p0, .ref o] (fun U => U.heap.size = sz ∧ va_P (dC, dI) vwCl (XW cI cZ cO A Q fl un ut u0 u1 sv x r ++ LW cL o f) U.heap ∧ va_K (dC, dI) vwCl (TY cI cZ cO ++ [(cL, .long)]) U ∧ va_D (fun _ => True) (XW cI cZ cO A Q fl un ut u0 u1 sv x r ++ LW cL o f) ∧ HX (va_A (XW cI cZ cO A Q fl un ut u0 u1 sv x r ++ LW cL o f) sz) U)) (kQw (some (.int (hA (f_Xkeep fl un ut u0 u1 sv x r p0) cdA))) (dC, dI) vwCl (hWd (f_Xkeep fl un ut u0 u1 sv x r p0) (fun z => XW cI cZ cO A Q z.2.1 un ut z.2.2.1 z.2.2.2 sv x r) (fun r1 => XW cI cZ cO A Q fl un ut u0 u1 sv x r1) (fun z => z.1) cL o f) (va_A (XW cI cZ cO A Q fl un ut u0 u1 sv x r ++ LW cL o f) sz)) 1 6 (va_A (XW cI cZ cO A Q fl un ut u0 u1 sv x r ++ LW cL o f) sz) := by
  refine kofH (cc := cL_keep) (maxL := 4) (ret := some .int) (hh := [(0, 9, 12, 13)]) (by decide) rfl (Nat.le_of_ble_eq_true rfl) ?_
  intro p e s m args below meth c ls S hr hlk hsz hP hK hD hS hA1 hX htab hl
  generalize hA0 : va_A (XW cI cZ cO A Q fl un ut u0 u1 sv x r ++ LW cL o f) sz = A0 at hD hS hA1 hX ⊢
  subst hsz
  obtain ⟨hx, hb, hml, hown, hts⟩ := id S
  have hl : lv_has ls 4 [(0, .ref (A 0)), (1, .int p0), (2, .ref o)] := hl
  refine lv_aload_n hx hb dL_keep_0 rfl (lv_at hl 2 rfl) ?_
  refine lv_iconst (v := (0 : Int32)) hx hb dL_keep_1 (by decide) ?_
  refine lv_aload_n hx hb dL_keep_2 rfl (lv_at hl 0 rfl) ?_
  refine lv_iload_n hx hb dL_keep_3 rfl (lv_at hl 1 rfl) ?_
  refine kx_v (F := f_Xkeep fl un ut u0 u1 sv x r p0) (ans := fun z => z.1) (W1 := fun z => XW cI cZ cO A Q z.2.1 un ut z.2.2.1 z.2.2.2 sv x r) (Wf := fun r1 => XW cI cZ cO A Q fl un ut u0 u1 sv x r1) (wc := XW cI cZ cO A Q fl un ut u0 u1 sv x r) (As := [.int p0]) (rest := [.int (0 : Int32), .ref o]) S (c_X4_keep l hst dC dI cI cZ cO A Q fl un ut u0 u1 sv x r p0 s.heap.size) gL_keep_X4_keep mi_X4_keep ⟨rfl, rfl⟩ ⟨Nat.le_of_ble_eq_true rfl, Nat.le_of_ble_eq_true rfl⟩ hX.1 (hK.sub [0, 1, 2] rfl) hP hD hS hA1 (List.range' 0 67) XW_allT (fun z => XW_fst) (fun r1 => XW_fst) (nd_range 67 0) 0 rfl rfl ⟨Nat.le_of_ble_eq_true rfl, Nat.le_of_ble_eq_true rfl⟩ dL_keep_4 rfl hl.1 rfl (Nat.le_of_ble_eq_true rfl) (fun z hz H locs hP hD hS => ?_) (fun k r1 hz H locs q9 ce hP hD hS hc9 hv9 hcl9 => ?_)
  · have hP : va_P (dC, dI) vwCl (XW cI cZ cO A Q z.2.1 un ut z.2.2.1 z.2.2.2 sv x r ++ LW cL o f) H := Eq.mp (congrArg (fun w => va_P (dC, dI) vwCl w H) XW_ksT) hP
    have hD : va_D A0 (XW cI cZ cO A Q z.2.1 un ut z.2.2.1 z.2.2.2 sv x r ++ LW cL o f) := Eq.mp (congrArg (fun w => va_D A0 w) XW_ksT) hD
    refine lv_i2l hx hb dL_keep_7 rfl ?_
    refine va_last hx hb hK hP hD hS 67 3 XW_getL rfl (i := (0 : Int32)) (vp_in_nI (n := 0) (N := 1) (by omega) (by omega)) dL_keep_8 (fun H locs hP hD hS => ?_)
    have hP : va_P (dC, dI) vwCl (XW cI cZ cO A Q z.2.1 un ut z.2.2.1 z.2.2.2 sv x r ++ LW cL o (vp_updL f 0 (z.1).toInt64)) H := Eq.mp (congrArg (fun w => va_P (dC, dI) vwCl w H) XW_setL) hP
    refine lv_goto (tgt := 15) hx hb dL_keep_9 (by decide) ?_
    refine lv_iconst (v := (0 : Int32)) hx hb dL_keep_15 (by decide) ?_
    exact kw_i hx hb hr hlk hP hS dL_keep_16 (by rw [hz]; rfl) (by rw [hz]; rfl)
  · have hP : va_P (dC, dI) vwCl (XW cI cZ cO A Q fl un ut u0 u1 sv x r1 ++ LW cL o f) H := Eq.mp (congrArg (fun w => va_P (dC, dI) vwCl w H) XW_ksT) hP
    have hk := hE _ hz
    dsimp only at hk
    obtain rfl := cdA_ne hk
    refine kcatch1 (own := RL) hown htab (by decide) (by decide) (hts (.classLink RL 13 (exN 1)) (List.mem_of_getElem? (i := 1) rfl)) hX.1.1 hc9 hv9 hcl9 ?_
    refine lv_astore_n (lv' := [(3, .ref q9), (0, .ref (A 0)), (1, .int p0), (2, .ref o)]) hx hb dL_keep_12 rfl hl (by decide) rfl (fun ls hl => ?_)
    refine lv_iconst (v := (1 : Int32)) hx hb dL_keep_13 (by decide) ?_
    exact kw_i hx hb hr hlk hP hS dL_keep_14 (by rw [hz]; rfl) (by rw [hz]; rfl)
def rm_L_goBack : Room := { frames := 7, cells := 1, slots := 6, locals := 103 }
set_option maxHeartbeats 1000000 in
set_option maxRecDepth 100000 in
theorem c_L_goBack (l : Launch) (hst : l.stackTraces = false) (dC : Nat → ClassId) (dI : Nat → Nat → Nat) (cI cZ cO cL : ClassId) (A : Nat → Nat) (Q : Nat → Nat → Nat) (fl : (Nat → Int32)) (un : BS) (ut : BS) (u0 : BS) (u1 : BS) (sv : SS) (x : BS) (r : BS) (p0 : Int32) (o : Nat) (f : Nat → Int64) (sz : Nat) (hS1 : sv.1 < 6) (hS2 : sv.2.1 ≤ 6) (hE : ∀ e, f_XgoBack fl un ut u0 u1 sv x r p0 = .error e → ¬ cdAS e.1 = 0) : Met l yL_goBack wsL_goBack rm_L_goBack (va_Pc [.ref (A 0), .int p0, .ref o] (fun U => U.heap.size = sz ∧ va_P (dC, dI) vwCl (XW cI cZ cO A Q fl un ut u0 u1 sv x r ++ LW cL o f) U.heap ∧ va_K (dC, dI) vwCl (TY cI cZ cO ++ [(cL, .long)]) U ∧ va_D (fun _ => True) (XW cI cZ cO A Q fl un ut u0 u1 sv x r ++ LW cL o f) ∧ HX (va_A (XW cI cZ cO A Q fl un ut u0 u1 sv x r ++ LW cL o f) sz) U)) (kQw (some (.int (hA (f_XgoBack fl un ut u0 u1 sv x r p0) cdAS))) (dC, dI) vwCl (hWd (f_XgoBack fl un ut u0 u1 sv x r p0) (fun z => XW cI cZ cO A Q fl z.2.1 ut u0 u1 z.2.2 x r) (fun r1 => XW cI cZ cO A Q fl un ut u0 u1 sv x r1) (fun z => z.1) cL o f) (va_A (XW cI cZ cO A Q fl un ut u0 u1 sv x r ++ LW cL o f) sz)) 1 6 (va_A (XW cI cZ cO A Q fl un ut u0 u1 sv x r ++ LW cL o f) sz) := by
  refine kofH (cc := cL_goBack) (maxL := 4) (ret := some .int) (hh := [(0, 9, 12, 13), (0, 9, 15, 15)]) (by decide) rfl (Nat.le_of_ble_eq_true rfl) ?_
  intro p e s m args below meth c ls S hr hlk hsz hP hK hD hS hA1 hX htab hl
  generalize hA0 : va_A (XW cI cZ cO A Q fl un ut u0 u1 sv x r ++ LW cL o f) sz = A0 at hD hS hA1 hX ⊢
  subst hsz
  obtain ⟨hx, hb, hml, hown, hts⟩ := id S
  have hl : lv_has ls 4 [(0, .ref (A 0)), (1, .int p0), (2, .ref o)] := hl
  refine lv_aload_n hx hb dL_goBack_0 rfl (lv_at hl 2 rfl) ?_
  refine lv_iconst (v := (0 : Int32)) hx hb dL_goBack_1 (by decide) ?_
  refine lv_aload_n hx hb dL_goBack_2 rfl (lv_at hl 0 rfl) ?_
  refine lv_iload_n hx hb dL_goBack_3 rfl (lv_at hl 1 rfl) ?_
  refine kx_v (F := f_XgoBack fl un ut u0 u1 sv x r p0) (ans := fun z => z.1) (W1 := fun z => XW cI cZ cO A Q fl z.2.1 ut u0 u1 z.2.2 x r) (Wf := fun r1 => XW cI cZ cO A Q fl un ut u0 u1 sv x r1) (wc := XW cI cZ cO A Q fl un ut u0 u1 sv x r) (As := [.int p0]) (rest := [.int (0 : Int32), .ref o]) S (c_X4_goBack l hst dC dI cI cZ cO A Q fl un ut u0 u1 sv x r p0 s.heap.size hS1 hS2) gL_goBack_X4_goBack mi_X4_goBack ⟨rfl, rfl⟩ ⟨Nat.le_of_ble_eq_true rfl, Nat.le_of_ble_eq_true rfl⟩ hX.1 (hK.sub [0, 1, 2] rfl) hP hD hS hA1 (List.range' 0 67) XW_allT (fun z => XW_fst) (fun r1 => XW_fst) (nd_range 67 0) 0 rfl rfl ⟨Nat.le_of_ble_eq_true rfl, Nat.le_of_ble_eq_true rfl⟩ dL_goBack_4 rfl hl.1 rfl (Nat.le_of_ble_eq_true rfl) (fun z hz H locs hP hD hS => ?_) (fun k r1 hz H locs q9 ce hP hD hS hc9 hv9 hcl9 => ?_)
  · have hP : va_P (dC, dI) vwCl (XW cI cZ cO A Q fl z.2.1 ut u0 u1 z.2.2 x r ++ LW cL o f) H := Eq.mp (congrArg (fun w => va_P (dC, dI) vwCl w H) XW_ksT) hP
    have hD : va_D A0 (XW cI cZ cO A Q fl z.2.1 ut u0 u1 z.2.2 x r ++ LW cL o f) := Eq.mp (congrArg (fun w => va_D A0 w) XW_ksT) hD
    refine lv_i2l hx hb dL_goBack_7 rfl ?_
    refine va_last hx hb hK hP hD hS 67 3 XW_getL rfl (i := (0 : Int32)) (vp_in_nI (n := 0) (N := 1) (by omega) (by omega)) dL_goBack_8 (fun H locs hP hD hS => ?_)
    have hP : va_P (dC, dI) vwCl (XW cI cZ cO A Q fl z.2.1 ut u0 u1 z.2.2 x r ++ LW cL o (vp_updL f 0 (z.1).toInt64)) H := Eq.mp (congrArg (fun w => va_P (dC, dI) vwCl w H) XW_setL) hP
    refine lv_goto (tgt := 18) hx hb dL_goBack_9 (by decide) ?_
    refine lv_iconst (v := (0 : Int32)) hx hb dL_goBack_18 (by decide) ?_
    exact kw_i hx hb hr hlk hP hS dL_goBack_19 (by rw [hz]; rfl) (by rw [hz]; rfl)
  · have hP : va_P (dC, dI) vwCl (XW cI cZ cO A Q fl un ut u0 u1 sv x r1 ++ LW cL o f) H := Eq.mp (congrArg (fun w => va_P (dC, dI) vwCl w H) XW_ksT) hP
    have hk := hE _ hz
    dsimp only at hk
    rcases cdAS_ne hk with rfl | rfl
    · refine kcatch1 (own := RL) hown htab (by decide) (by decide) (hts (.classLink RL 13 (exN 1)) (List.mem_of_getElem? (i := 1) rfl)) hX.1.1 hc9 hv9 hcl9 ?_
      refine lv_astore_n (lv' := [(3, .ref q9), (0, .ref (A 0)), (1, .int p0), (2, .ref o)]) hx hb dL_goBack_12 rfl hl (by decide) rfl (fun ls hl => ?_)
      refine lv_iconst (v := (1 : Int32)) hx hb dL_goBack_13 (by decide) ?_
      exact kw_i hx hb hr hlk hP hS dL_goBack_14 (by rw [hz]; rfl) (by rw [hz]; rfl)
    · refine kcatch2 (own := RL) (k1 := 1) hown htab (by decide) (by decide) (by decide) (hts (.classLink RL 13 (exN 1)) (List.mem_of_getElem? (i := 1) rfl)) hX.2.1 (hts (.classLink RL 15 (exN 2)) (List.mem_of_getElem? (i := 2) rfl)) hX.1.1 hc9 hv9 hcl9 ?_
      refine lv_astore_n (lv' := [(3, .ref q9), (0, .ref (A 0)), (1, .int p0), (2, .ref o)]) hx hb dL_goBack_15 rfl hl (by decide) rfl (fun ls hl => ?_)
      refine lv_iconst (v := (2 : Int32)) hx hb dL_goBack_16 (by decide) ?_
      exact kw_i hx hb hr hlk hP hS dL_goBack_17 (by rw [hz]; rfl) (by rw [hz]; rfl)
def rm_L_undo : Room := { frames := 7, cells := 1, slots := 6, locals := 102 }
set_option maxHeartbeats 1000000 in
set_option maxRecDepth 100000 in
theorem c_L_undo (l : Launch) (hst : l.stackTraces = false) (dC : Nat → ClassId) (dI : Nat → Nat → Nat) (cI cZ cO cL : ClassId) (A : Nat → Nat) (Q : Nat → Nat → Nat) (fl : (Nat → Int32)) (un : BS) (ut : BS) (u0 : BS) (u1 : BS) (sv : SS) (x : BS) (r : BS) (o : Nat) (f : Nat → Int64) (sz : Nat) (hS1 : sv.1 < 6) (hS2 : sv.2.1 ≤ 6) (hE : ∀ e, f_Xundo fl un ut u0 u1 sv x r = .error e → ¬ cdS e.1 = 0) : Met l yL_undo wsL_undo rm_L_undo (va_Pc [.ref (A 0), .ref o] (fun U => U.heap.size = sz ∧ va_P (dC, dI) vwCl (XW cI cZ cO A Q fl un ut u0 u1 sv x r ++ LW cL o f) U.heap ∧ va_K (dC, dI) vwCl (TY cI cZ cO ++ [(cL, .long)]) U ∧ va_D (fun _ => True) (XW cI cZ cO A Q fl un ut u0 u1 sv x r ++ LW cL o f) ∧ HX (va_A (XW cI cZ cO A Q fl un ut u0 u1 sv x r ++ LW cL o f) sz) U)) (kQw (some (.int (hA (f_Xundo fl un ut u0 u1 sv x r) cdS))) (dC, dI) vwCl (hWd (f_Xundo fl un ut u0 u1 sv x r) (fun z => XW cI cZ cO A Q fl z.2.1 ut u0 u1 z.2.2 x r) (fun r1 => XW cI cZ cO A Q fl un ut u0 u1 sv x r1) (fun z => z.1) cL o f) (va_A (XW cI cZ cO A Q fl un ut u0 u1 sv x r ++ LW cL o f) sz)) 1 6 (va_A (XW cI cZ cO A Q fl un ut u0 u1 sv x r ++ LW cL o f) sz) := by
  refine kofH (cc := cL_undo) (maxL := 3) (ret := some .int) (hh := [(0, 8, 11, 15)]) (by decide) rfl (Nat.le_of_ble_eq_true rfl) ?_
  intro p e s m args below meth c ls S hr hlk hsz hP hK hD hS hA1 hX htab hl
  generalize hA0 : va_A (XW cI cZ cO A Q fl un ut u0 u1 sv x r ++ LW cL o f) sz = A0 at hD hS hA1 hX ⊢
  subst hsz
  obtain ⟨hx, hb, hml, hown, hts⟩ := id S
  have hl : lv_has ls 3 [(0, .ref (A 0)), (1, .ref o)] := hl
  refine lv_aload_n hx hb dL_undo_0 rfl (lv_at hl 1 rfl) ?_
  refine lv_iconst (v := (0 : Int32)) hx hb dL_undo_1 (by decide) ?_
  refine lv_aload_n hx hb dL_undo_2 rfl (lv_at hl 0 rfl) ?_
  refine kx_v (F := f_Xundo fl un ut u0 u1 sv x r) (ans := fun z => z.1) (W1 := fun z => XW cI cZ cO A Q fl z.2.1 ut u0 u1 z.2.2 x r) (Wf := fun r1 => XW cI cZ cO A Q fl un ut u0 u1 sv x r1) (wc := XW cI cZ cO A Q fl un ut u0 u1 sv x r) (As := []) (rest := [.int (0 : Int32), .ref o]) S (c_X4_undo l hst dC dI cI cZ cO A Q fl un ut u0 u1 sv x r s.heap.size hS1 hS2) gL_undo_X4_undo mi_X4_undo ⟨rfl, rfl⟩ ⟨Nat.le_of_ble_eq_true rfl, Nat.le_of_ble_eq_true rfl⟩ hX.1 (hK.sub [0, 1, 2] rfl) hP hD hS hA1 (List.range' 0 67) XW_allT (fun z => XW_fst) (fun r1 => XW_fst) (nd_range 67 0) 0 rfl rfl ⟨Nat.le_of_ble_eq_true rfl, Nat.le_of_ble_eq_true rfl⟩ dL_undo_3 rfl hl.1 rfl (Nat.le_of_ble_eq_true rfl) (fun z hz H locs hP hD hS => ?_) (fun k r1 hz H locs q9 ce hP hD hS hc9 hv9 hcl9 => ?_)
  · have hP : va_P (dC, dI) vwCl (XW cI cZ cO A Q fl z.2.1 ut u0 u1 z.2.2 x r ++ LW cL o f) H := Eq.mp (congrArg (fun w => va_P (dC, dI) vwCl w H) XW_ksT) hP
    have hD : va_D A0 (XW cI cZ cO A Q fl z.2.1 ut u0 u1 z.2.2 x r ++ LW cL o f) := Eq.mp (congrArg (fun w => va_D A0 w) XW_ksT) hD
    refine lv_i2l hx hb dL_undo_6 rfl ?_
    refine va_last hx hb hK hP hD hS 67 3 XW_getL rfl (i := (0 : Int32)) (vp_in_nI (n := 0) (N := 1) (by omega) (by omega)) dL_undo_7 (fun H locs hP hD hS => ?_)
    have hP : va_P (dC, dI) vwCl (XW cI cZ cO A Q fl z.2.1 ut u0 u1 z.2.2 x r ++ LW cL o (vp_updL f 0 (z.1).toInt64)) H := Eq.mp (congrArg (fun w => va_P (dC, dI) vwCl w H) XW_setL) hP
    refine lv_goto (tgt := 14) hx hb dL_undo_8 (by decide) ?_
    refine lv_iconst (v := (0 : Int32)) hx hb dL_undo_14 (by decide) ?_
    exact kw_i hx hb hr hlk hP hS dL_undo_15 (by rw [hz]; rfl) (by rw [hz]; rfl)
  · have hP : va_P (dC, dI) vwCl (XW cI cZ cO A Q fl un ut u0 u1 sv x r1 ++ LW cL o f) H := Eq.mp (congrArg (fun w => va_P (dC, dI) vwCl w H) XW_ksT) hP
    have hk := hE _ hz
    dsimp only at hk
    obtain rfl := cdS_ne hk
    refine kcatch1 (own := RL) hown htab (by decide) (by decide) (hts (.classLink RL 15 (exN 2)) (List.mem_of_getElem? (i := 1) rfl)) hX.1.1 hc9 hv9 hcl9 ?_
    refine lv_astore_n (lv' := [(2, .ref q9), (0, .ref (A 0)), (1, .ref o)]) hx hb dL_undo_11 rfl hl (by decide) rfl (fun ls hl => ?_)
    refine lv_iconst (v := (1 : Int32)) hx hb dL_undo_12 (by decide) ?_
    exact kw_i hx hb hr hlk hP hS dL_undo_13 (by rw [hz]; rfl) (by rw [hz]; rfl)
def rm_L_arm : Room := { frames := 7, cells := 1, slots := 6, locals := 104 }
set_option maxHeartbeats 1000000 in
set_option maxRecDepth 100000 in
theorem c_L_arm (l : Launch) (hst : l.stackTraces = false) (dC : Nat → ClassId) (dI : Nat → Nat → Nat) (cI cZ cO cL : ClassId) (A : Nat → Nat) (Q : Nat → Nat → Nat) (fl : (Nat → Int32)) (un : BS) (ut : BS) (u0 : BS) (u1 : BS) (sv : SS) (x : BS) (r : BS) (p0 : Int32) (p1 : Int32) (o : Nat) (f : Nat → Int64) (sz : Nat)  (hE : ∀ e, f_Xarm fl un ut u0 u1 sv x r p0 p1 = .error e → ¬ cdIA e.1 = 0) : Met l yL_arm wsL_arm rm_L_arm (va_Pc [.ref (A 0), .int p0, .int p1, .ref o] (fun U => U.heap.size = sz ∧ va_P (dC, dI) vwCl (XW cI cZ cO A Q fl un ut u0 u1 sv x r ++ LW cL o f) U.heap ∧ va_K (dC, dI) vwCl (TY cI cZ cO ++ [(cL, .long)]) U ∧ va_D (fun _ => True) (XW cI cZ cO A Q fl un ut u0 u1 sv x r ++ LW cL o f) ∧ HX (va_A (XW cI cZ cO A Q fl un ut u0 u1 sv x r ++ LW cL o f) sz) U)) (kQw (some (.int (hA (f_Xarm fl un ut u0 u1 sv x r p0 p1) cdIA))) (dC, dI) vwCl (hWd (f_Xarm fl un ut u0 u1 sv x r p0 p1) (fun z => XW cI cZ cO A Q fl un ut u0 u1 sv x r) (fun r1 => XW cI cZ cO A Q fl un ut u0 u1 sv x r1) (fun z => z) cL o f) (va_A (XW cI cZ cO A Q fl un ut u0 u1 sv x r ++ LW cL o f) sz)) 1 6 (va_A (XW cI cZ cO A Q fl un ut u0 u1 sv x r ++ LW cL o f) sz) := by
  refine kofH (cc := cL_arm) (maxL := 5) (ret := some .int) (hh := [(0, 10, 13, 21), (0, 10, 17, 13)]) (by decide) rfl (Nat.le_of_ble_eq_true rfl) ?_
  intro p e s m args below meth c ls S hr hlk hsz hP hK hD hS hA1 hX htab hl
  generalize hA0 : va_A (XW cI cZ cO A Q fl un ut u0 u1 sv x r ++ LW cL o f) sz = A0 at hD hS hA1 hX ⊢
  subst hsz
  obtain ⟨hx, hb, hml, hown, hts⟩ := id S
  have hl : lv_has ls 5 [(0, .ref (A 0)), (1, .int p0), (2, .int p1), (3, .ref o)] := hl
  refine lv_aload_n hx hb dL_arm_0 rfl (lv_at hl 3 rfl) ?_
  refine lv_iconst (v := (0 : Int32)) hx hb dL_arm_1 (by decide) ?_
  refine lv_aload_n hx hb dL_arm_2 rfl (lv_at hl 0 rfl) ?_
  refine lv_iload_n hx hb dL_arm_3 rfl (lv_at hl 1 rfl) ?_
  refine lv_iload_n hx hb dL_arm_4 rfl (lv_at hl 2 rfl) ?_
  refine kx_v (F := f_Xarm fl un ut u0 u1 sv x r p0 p1) (ans := fun z => z) (W1 := fun z => XW cI cZ cO A Q fl un ut u0 u1 sv x r) (Wf := fun r1 => XW cI cZ cO A Q fl un ut u0 u1 sv x r1) (wc := XW cI cZ cO A Q fl un ut u0 u1 sv x r) (As := [.int p0, .int p1]) (rest := [.int (0 : Int32), .ref o]) S (c_X4_arm l hst dC dI cI cZ cO A Q fl un ut u0 u1 sv x r p0 p1 s.heap.size) gL_arm_X4_arm mi_X4_arm ⟨rfl, rfl⟩ ⟨Nat.le_of_ble_eq_true rfl, Nat.le_of_ble_eq_true rfl⟩ hX.1 (hK.sub [0, 1, 2] rfl) hP hD hS hA1 (List.range' 0 67) XW_allT (fun z => XW_fst) (fun r1 => XW_fst) (nd_range 67 0) 0 rfl rfl ⟨Nat.le_of_ble_eq_true rfl, Nat.le_of_ble_eq_true rfl⟩ dL_arm_5 rfl hl.1 rfl (Nat.le_of_ble_eq_true rfl) (fun z hz H locs hP hD hS => ?_) (fun k r1 hz H locs q9 ce hP hD hS hc9 hv9 hcl9 => ?_)
  · have hP : va_P (dC, dI) vwCl (XW cI cZ cO A Q fl un ut u0 u1 sv x r ++ LW cL o f) H := Eq.mp (congrArg (fun w => va_P (dC, dI) vwCl w H) XW_ksT) hP
    have hD : va_D A0 (XW cI cZ cO A Q fl un ut u0 u1 sv x r ++ LW cL o f) := Eq.mp (congrArg (fun w => va_D A0 w) XW_ksT) hD
    refine lv_i2l hx hb dL_arm_8 rfl ?_
    refine va_last hx hb hK hP hD hS 67 3 XW_getL rfl (i := (0 : Int32)) (vp_in_nI (n := 0) (N := 1) (by omega) (by omega)) dL_arm_9 (fun H locs hP hD hS => ?_)
    have hP : va_P (dC, dI) vwCl (XW cI cZ cO A Q fl un ut u0 u1 sv x r ++ LW cL o (vp_updL f 0 (z).toInt64)) H := Eq.mp (congrArg (fun w => va_P (dC, dI) vwCl w H) XW_setL) hP
    refine lv_goto (tgt := 21) hx hb dL_arm_10 (by decide) ?_
    refine lv_iconst (v := (0 : Int32)) hx hb dL_arm_21 (by decide) ?_
    exact kw_i hx hb hr hlk hP hS dL_arm_22 (by rw [hz]; rfl) (by rw [hz]; rfl)
  · have hP : va_P (dC, dI) vwCl (XW cI cZ cO A Q fl un ut u0 u1 sv x r1 ++ LW cL o f) H := Eq.mp (congrArg (fun w => va_P (dC, dI) vwCl w H) XW_ksT) hP
    have hk := hE _ hz
    dsimp only at hk
    rcases cdIA_ne hk with rfl | rfl
    · refine kcatch1 (own := RL) hown htab (by decide) (by decide) (hts (.classLink RL 21 (exN 3)) (List.mem_of_getElem? (i := 1) rfl)) hX.1.1 hc9 hv9 hcl9 ?_
      refine lv_astore (lv' := [(4, .ref q9), (0, .ref (A 0)), (1, .int p0), (2, .int p1), (3, .ref o)]) hx hb dL_arm_13 hl (by decide) rfl (fun ls hl => ?_)
      refine lv_iconst (v := (1 : Int32)) hx hb dL_arm_15 (by decide) ?_
      exact kw_i hx hb hr hlk hP hS dL_arm_16 (by rw [hz]; rfl) (by rw [hz]; rfl)
    · refine kcatch2 (own := RL) (k1 := 3) hown htab (by decide) (by decide) (by decide) (hts (.classLink RL 21 (exN 3)) (List.mem_of_getElem? (i := 1) rfl)) hX.2.2 (hts (.classLink RL 13 (exN 1)) (List.mem_of_getElem? (i := 2) rfl)) hX.1.1 hc9 hv9 hcl9 ?_
      refine lv_astore (lv' := [(4, .ref q9), (0, .ref (A 0)), (1, .int p0), (2, .int p1), (3, .ref o)]) hx hb dL_arm_17 hl (by decide) rfl (fun ls hl => ?_)
      refine lv_iconst (v := (2 : Int32)) hx hb dL_arm_19 (by decide) ?_
      exact kw_i hx hb hr hlk hP hS dL_arm_20 (by rw [hz]; rfl) (by rw [hz]; rfl)
def rm_L_apart : Room := { frames := 7, cells := 1, slots := 6, locals := 104 }
set_option maxHeartbeats 1000000 in
set_option maxRecDepth 100000 in
theorem c_L_apart (l : Launch) (hst : l.stackTraces = false) (dC : Nat → ClassId) (dI : Nat → Nat → Nat) (cI cZ cO cL : ClassId) (A : Nat → Nat) (Q : Nat → Nat → Nat) (fl : (Nat → Int32)) (un : BS) (ut : BS) (u0 : BS) (u1 : BS) (sv : SS) (x : BS) (r : BS) (p0 : Int32) (p1 : Int32) (o : Nat) (f : Nat → Int64) (sz : Nat)  (hE : ∀ e, f_Xapart fl un ut u0 u1 sv x r p0 p1 = .error e → ¬ cdIA e.1 = 0) : Met l yL_apart wsL_apart rm_L_apart (va_Pc [.ref (A 0), .int p0, .int p1, .ref o] (fun U => U.heap.size = sz ∧ va_P (dC, dI) vwCl (XW cI cZ cO A Q fl un ut u0 u1 sv x r ++ LW cL o f) U.heap ∧ va_K (dC, dI) vwCl (TY cI cZ cO ++ [(cL, .long)]) U ∧ va_D (fun _ => True) (XW cI cZ cO A Q fl un ut u0 u1 sv x r ++ LW cL o f) ∧ HX (va_A (XW cI cZ cO A Q fl un ut u0 u1 sv x r ++ LW cL o f) sz) U)) (kQw (some (.int (hA (f_Xapart fl un ut u0 u1 sv x r p0 p1) cdIA))) (dC, dI) vwCl (hWd (f_Xapart fl un ut u0 u1 sv x r p0 p1) (fun z => XW cI cZ cO A Q fl un ut u0 u1 sv x r) (fun r1 => XW cI cZ cO A Q fl un ut u0 u1 sv x r1) (fun z => z) cL o f) (va_A (XW cI cZ cO A Q fl un ut u0 u1 sv x r ++ LW cL o f) sz)) 1 6 (va_A (XW cI cZ cO A Q fl un ut u0 u1 sv x r ++ LW cL o f) sz) := by
  refine kofH (cc := cL_apart) (maxL := 5) (ret := some .int) (hh := [(0, 10, 13, 21), (0, 10, 17, 13)]) (by decide) rfl (Nat.le_of_ble_eq_true rfl) ?_
  intro p e s m args below meth c ls S hr hlk hsz hP hK hD hS hA1 hX htab hl
  generalize hA0 : va_A (XW cI cZ cO A Q fl un ut u0 u1 sv x r ++ LW cL o f) sz = A0 at hD hS hA1 hX ⊢
  subst hsz
  obtain ⟨hx, hb, hml, hown, hts⟩ := id S
  have hl : lv_has ls 5 [(0, .ref (A 0)), (1, .int p0), (2, .int p1), (3, .ref o)] := hl
  refine lv_aload_n hx hb dL_apart_0 rfl (lv_at hl 3 rfl) ?_
  refine lv_iconst (v := (0 : Int32)) hx hb dL_apart_1 (by decide) ?_
  refine lv_aload_n hx hb dL_apart_2 rfl (lv_at hl 0 rfl) ?_
  refine lv_iload_n hx hb dL_apart_3 rfl (lv_at hl 1 rfl) ?_
  refine lv_iload_n hx hb dL_apart_4 rfl (lv_at hl 2 rfl) ?_
  refine kx_v (F := f_Xapart fl un ut u0 u1 sv x r p0 p1) (ans := fun z => z) (W1 := fun z => XW cI cZ cO A Q fl un ut u0 u1 sv x r) (Wf := fun r1 => XW cI cZ cO A Q fl un ut u0 u1 sv x r1) (wc := XW cI cZ cO A Q fl un ut u0 u1 sv x r) (As := [.int p0, .int p1]) (rest := [.int (0 : Int32), .ref o]) S (c_X4_apart l hst dC dI cI cZ cO A Q fl un ut u0 u1 sv x r p0 p1 s.heap.size) gL_apart_X4_apart mi_X4_apart ⟨rfl, rfl⟩ ⟨Nat.le_of_ble_eq_true rfl, Nat.le_of_ble_eq_true rfl⟩ hX.1 (hK.sub [0, 1, 2] rfl) hP hD hS hA1 (List.range' 0 67) XW_allT (fun z => XW_fst) (fun r1 => XW_fst) (nd_range 67 0) 0 rfl rfl ⟨Nat.le_of_ble_eq_true rfl, Nat.le_of_ble_eq_true rfl⟩ dL_apart_5 rfl hl.1 rfl (Nat.le_of_ble_eq_true rfl) (fun z hz H locs hP hD hS => ?_) (fun k r1 hz H locs q9 ce hP hD hS hc9 hv9 hcl9 => ?_)
  · have hP : va_P (dC, dI) vwCl (XW cI cZ cO A Q fl un ut u0 u1 sv x r ++ LW cL o f) H := Eq.mp (congrArg (fun w => va_P (dC, dI) vwCl w H) XW_ksT) hP
    have hD : va_D A0 (XW cI cZ cO A Q fl un ut u0 u1 sv x r ++ LW cL o f) := Eq.mp (congrArg (fun w => va_D A0 w) XW_ksT) hD
    refine lv_i2l hx hb dL_apart_8 rfl ?_
    refine va_last hx hb hK hP hD hS 67 3 XW_getL rfl (i := (0 : Int32)) (vp_in_nI (n := 0) (N := 1) (by omega) (by omega)) dL_apart_9 (fun H locs hP hD hS => ?_)
    have hP : va_P (dC, dI) vwCl (XW cI cZ cO A Q fl un ut u0 u1 sv x r ++ LW cL o (vp_updL f 0 (z).toInt64)) H := Eq.mp (congrArg (fun w => va_P (dC, dI) vwCl w H) XW_setL) hP
    refine lv_goto (tgt := 21) hx hb dL_apart_10 (by decide) ?_
    refine lv_iconst (v := (0 : Int32)) hx hb dL_apart_21 (by decide) ?_
    exact kw_i hx hb hr hlk hP hS dL_apart_22 (by rw [hz]; rfl) (by rw [hz]; rfl)
  · have hP : va_P (dC, dI) vwCl (XW cI cZ cO A Q fl un ut u0 u1 sv x r1 ++ LW cL o f) H := Eq.mp (congrArg (fun w => va_P (dC, dI) vwCl w H) XW_ksT) hP
    have hk := hE _ hz
    dsimp only at hk
    rcases cdIA_ne hk with rfl | rfl
    · refine kcatch1 (own := RL) hown htab (by decide) (by decide) (hts (.classLink RL 21 (exN 3)) (List.mem_of_getElem? (i := 1) rfl)) hX.1.1 hc9 hv9 hcl9 ?_
      refine lv_astore (lv' := [(4, .ref q9), (0, .ref (A 0)), (1, .int p0), (2, .int p1), (3, .ref o)]) hx hb dL_apart_13 hl (by decide) rfl (fun ls hl => ?_)
      refine lv_iconst (v := (1 : Int32)) hx hb dL_apart_15 (by decide) ?_
      exact kw_i hx hb hr hlk hP hS dL_apart_16 (by rw [hz]; rfl) (by rw [hz]; rfl)
    · refine kcatch2 (own := RL) (k1 := 3) hown htab (by decide) (by decide) (by decide) (hts (.classLink RL 21 (exN 3)) (List.mem_of_getElem? (i := 1) rfl)) hX.2.2 (hts (.classLink RL 13 (exN 1)) (List.mem_of_getElem? (i := 2) rfl)) hX.1.1 hc9 hv9 hcl9 ?_
      refine lv_astore (lv' := [(4, .ref q9), (0, .ref (A 0)), (1, .int p0), (2, .int p1), (3, .ref o)]) hx hb dL_apart_17 hl (by decide) rfl (fun ls hl => ?_)
      refine lv_iconst (v := (2 : Int32)) hx hb dL_apart_19 (by decide) ?_
      exact kw_i hx hb hr hlk hP hS dL_apart_20 (by rw [hz]; rfl) (by rw [hz]; rfl)
def rm_L_count : Room := { frames := 7, cells := 1, slots := 6, locals := 151 }
set_option maxHeartbeats 1000000 in
set_option maxRecDepth 100000 in
theorem c_L_count (l : Launch) (hst : l.stackTraces = false) (dC : Nat → ClassId) (dI : Nat → Nat → Nat) (cI cZ cO cL : ClassId) (A : Nat → Nat) (Q : Nat → Nat → Nat) (fl : (Nat → Int32)) (un : BS) (ut : BS) (u0 : BS) (u1 : BS) (sv : SS) (x : BS) (r : BS) (p0 : Int32) (o : Nat) (f : Nat → Int64) (sz : Nat)  (hE : ∀ e, f_Xcount fl un ut u0 u1 sv x r p0 = .error e → ¬ cdA e.1 = 0) : Met l yL_count wsL_count rm_L_count (va_Pc [.ref (A 0), .int p0, .ref o] (fun U => U.heap.size = sz ∧ va_P (dC, dI) vwCl (XW cI cZ cO A Q fl un ut u0 u1 sv x r ++ LW cL o f) U.heap ∧ va_K (dC, dI) vwCl (TY cI cZ cO ++ [(cL, .long)]) U ∧ va_D (fun _ => True) (XW cI cZ cO A Q fl un ut u0 u1 sv x r ++ LW cL o f) ∧ HX (va_A (XW cI cZ cO A Q fl un ut u0 u1 sv x r ++ LW cL o f) sz) U)) (kQw (some (.int (hA (f_Xcount fl un ut u0 u1 sv x r p0) cdA))) (dC, dI) vwCl (hWd (f_Xcount fl un ut u0 u1 sv x r p0) (fun z => XW cI cZ cO A Q fl un ut u0 u1 sv x r) (fun r1 => XW cI cZ cO A Q fl un ut u0 u1 sv x r1) (fun z => z) cL o f) (va_A (XW cI cZ cO A Q fl un ut u0 u1 sv x r ++ LW cL o f) sz)) 1 6 (va_A (XW cI cZ cO A Q fl un ut u0 u1 sv x r ++ LW cL o f) sz) := by
  refine kofH (cc := cL_count) (maxL := 4) (ret := some .int) (hh := [(0, 9, 12, 13)]) (by decide) rfl (Nat.le_of_ble_eq_true rfl) ?_
  intro p e s m args below meth c ls S hr hlk hsz hP hK hD hS hA1 hX htab hl
  generalize hA0 : va_A (XW cI cZ cO A Q fl un ut u0 u1 sv x r ++ LW cL o f) sz = A0 at hD hS hA1 hX ⊢
  subst hsz
  obtain ⟨hx, hb, hml, hown, hts⟩ := id S
  have hl : lv_has ls 4 [(0, .ref (A 0)), (1, .int p0), (2, .ref o)] := hl
  refine lv_aload_n hx hb dL_count_0 rfl (lv_at hl 2 rfl) ?_
  refine lv_iconst (v := (0 : Int32)) hx hb dL_count_1 (by decide) ?_
  refine lv_aload_n hx hb dL_count_2 rfl (lv_at hl 0 rfl) ?_
  refine lv_iload_n hx hb dL_count_3 rfl (lv_at hl 1 rfl) ?_
  refine kx_v (F := f_Xcount fl un ut u0 u1 sv x r p0) (ans := fun z => z) (W1 := fun z => XW cI cZ cO A Q fl un ut u0 u1 sv x r) (Wf := fun r1 => XW cI cZ cO A Q fl un ut u0 u1 sv x r1) (wc := XW cI cZ cO A Q fl un ut u0 u1 sv x r) (As := [.int p0]) (rest := [.int (0 : Int32), .ref o]) S (c_X4_count l hst dC dI cI cZ cO A Q fl un ut u0 u1 sv x r p0 s.heap.size) gL_count_X4_count mi_X4_count ⟨rfl, rfl⟩ ⟨Nat.le_of_ble_eq_true rfl, Nat.le_of_ble_eq_true rfl⟩ hX.1 (hK.sub [0, 1, 2] rfl) hP hD hS hA1 (List.range' 0 67) XW_allT (fun z => XW_fst) (fun r1 => XW_fst) (nd_range 67 0) 0 rfl rfl ⟨Nat.le_of_ble_eq_true rfl, Nat.le_of_ble_eq_true rfl⟩ dL_count_4 rfl hl.1 rfl (Nat.le_of_ble_eq_true rfl) (fun z hz H locs hP hD hS => ?_) (fun k r1 hz H locs q9 ce hP hD hS hc9 hv9 hcl9 => ?_)
  · have hP : va_P (dC, dI) vwCl (XW cI cZ cO A Q fl un ut u0 u1 sv x r ++ LW cL o f) H := Eq.mp (congrArg (fun w => va_P (dC, dI) vwCl w H) XW_ksT) hP
    have hD : va_D A0 (XW cI cZ cO A Q fl un ut u0 u1 sv x r ++ LW cL o f) := Eq.mp (congrArg (fun w => va_D A0 w) XW_ksT) hD
    refine lv_i2l hx hb dL_count_7 rfl ?_
    refine va_last hx hb hK hP hD hS 67 3 XW_getL rfl (i := (0 : Int32)) (vp_in_nI (n := 0) (N := 1) (by omega) (by omega)) dL_count_8 (fun H locs hP hD hS => ?_)
    have hP : va_P (dC, dI) vwCl (XW cI cZ cO A Q fl un ut u0 u1 sv x r ++ LW cL o (vp_updL f 0 (z).toInt64)) H := Eq.mp (congrArg (fun w => va_P (dC, dI) vwCl w H) XW_setL) hP
    refine lv_goto (tgt := 15) hx hb dL_count_9 (by decide) ?_
    refine lv_iconst (v := (0 : Int32)) hx hb dL_count_15 (by decide) ?_
    exact kw_i hx hb hr hlk hP hS dL_count_16 (by rw [hz]; rfl) (by rw [hz]; rfl)
  · have hP : va_P (dC, dI) vwCl (XW cI cZ cO A Q fl un ut u0 u1 sv x r1 ++ LW cL o f) H := Eq.mp (congrArg (fun w => va_P (dC, dI) vwCl w H) XW_ksT) hP
    have hk := hE _ hz
    dsimp only at hk
    obtain rfl := cdA_ne hk
    refine kcatch1 (own := RL) hown htab (by decide) (by decide) (hts (.classLink RL 13 (exN 1)) (List.mem_of_getElem? (i := 1) rfl)) hX.1.1 hc9 hv9 hcl9 ?_
    refine lv_astore_n (lv' := [(3, .ref q9), (0, .ref (A 0)), (1, .int p0), (2, .ref o)]) hx hb dL_count_12 rfl hl (by decide) rfl (fun ls hl => ?_)
    refine lv_iconst (v := (1 : Int32)) hx hb dL_count_13 (by decide) ?_
    exact kw_i hx hb hr hlk hP hS dL_count_14 (by rw [hz]; rfl) (by rw [hz]; rfl)
def rm_L_setting : Room := { frames := 7, cells := 1, slots := 6, locals := 103 }
set_option maxHeartbeats 1000000 in
set_option maxRecDepth 100000 in
theorem c_L_setting (l : Launch) (hst : l.stackTraces = false) (dC : Nat → ClassId) (dI : Nat → Nat → Nat) (cI cZ cO cL : ClassId) (A : Nat → Nat) (Q : Nat → Nat → Nat) (fl : (Nat → Int32)) (un : BS) (ut : BS) (u0 : BS) (u1 : BS) (sv : SS) (x : BS) (r : BS) (p0 : Int32) (o : Nat) (f : Nat → Int64) (sz : Nat)  (hE : ∀ e, f_Xsetting fl un ut u0 u1 sv x r p0 = .error e → ¬ cdI e.1 = 0) : Met l yL_setting wsL_setting rm_L_setting (va_Pc [.ref (A 0), .int p0, .ref o] (fun U => U.heap.size = sz ∧ va_P (dC, dI) vwCl (XW cI cZ cO A Q fl un ut u0 u1 sv x r ++ LW cL o f) U.heap ∧ va_K (dC, dI) vwCl (TY cI cZ cO ++ [(cL, .long)]) U ∧ va_D (fun _ => True) (XW cI cZ cO A Q fl un ut u0 u1 sv x r ++ LW cL o f) ∧ HX (va_A (XW cI cZ cO A Q fl un ut u0 u1 sv x r ++ LW cL o f) sz) U)) (kQw (some (.int (hA (f_Xsetting fl un ut u0 u1 sv x r p0) cdI))) (dC, dI) vwCl (hWd (f_Xsetting fl un ut u0 u1 sv x r p0) (fun z => XW cI cZ cO A Q fl un ut u0 u1 sv x r) (fun r1 => XW cI cZ cO A Q fl un ut u0 u1 sv x r1) (fun z => z) cL o f) (va_A (XW cI cZ cO A Q fl un ut u0 u1 sv x r ++ LW cL o f) sz)) 1 6 (va_A (XW cI cZ cO A Q fl un ut u0 u1 sv x r ++ LW cL o f) sz) := by
  refine kofH (cc := cL_setting) (maxL := 4) (ret := some .int) (hh := [(0, 9, 12, 21)]) (by decide) rfl (Nat.le_of_ble_eq_true rfl) ?_
  intro p e s m args below meth c ls S hr hlk hsz hP hK hD hS hA1 hX htab hl
  generalize hA0 : va_A (XW cI cZ cO A Q fl un ut u0 u1 sv x r ++ LW cL o f) sz = A0 at hD hS hA1 hX ⊢
  subst hsz
  obtain ⟨hx, hb, hml, hown, hts⟩ := id S
  have hl : lv_has ls 4 [(0, .ref (A 0)), (1, .int p0), (2, .ref o)] := hl
  refine lv_aload_n hx hb dL_setting_0 rfl (lv_at hl 2 rfl) ?_
  refine lv_iconst (v := (0 : Int32)) hx hb dL_setting_1 (by decide) ?_
  refine lv_aload_n hx hb dL_setting_2 rfl (lv_at hl 0 rfl) ?_
  refine lv_iload_n hx hb dL_setting_3 rfl (lv_at hl 1 rfl) ?_
  refine kx_v (F := f_Xsetting fl un ut u0 u1 sv x r p0) (ans := fun z => z) (W1 := fun z => XW cI cZ cO A Q fl un ut u0 u1 sv x r) (Wf := fun r1 => XW cI cZ cO A Q fl un ut u0 u1 sv x r1) (wc := XW cI cZ cO A Q fl un ut u0 u1 sv x r) (As := [.int p0]) (rest := [.int (0 : Int32), .ref o]) S (c_X4_setting l hst dC dI cI cZ cO A Q fl un ut u0 u1 sv x r p0 s.heap.size) gL_setting_X4_setting mi_X4_setting ⟨rfl, rfl⟩ ⟨Nat.le_of_ble_eq_true rfl, Nat.le_of_ble_eq_true rfl⟩ hX.1 (hK.sub [0, 1, 2] rfl) hP hD hS hA1 (List.range' 0 67) XW_allT (fun z => XW_fst) (fun r1 => XW_fst) (nd_range 67 0) 0 rfl rfl ⟨Nat.le_of_ble_eq_true rfl, Nat.le_of_ble_eq_true rfl⟩ dL_setting_4 rfl hl.1 rfl (Nat.le_of_ble_eq_true rfl) (fun z hz H locs hP hD hS => ?_) (fun k r1 hz H locs q9 ce hP hD hS hc9 hv9 hcl9 => ?_)
  · have hP : va_P (dC, dI) vwCl (XW cI cZ cO A Q fl un ut u0 u1 sv x r ++ LW cL o f) H := Eq.mp (congrArg (fun w => va_P (dC, dI) vwCl w H) XW_ksT) hP
    have hD : va_D A0 (XW cI cZ cO A Q fl un ut u0 u1 sv x r ++ LW cL o f) := Eq.mp (congrArg (fun w => va_D A0 w) XW_ksT) hD
    refine lv_i2l hx hb dL_setting_7 rfl ?_
    refine va_last hx hb hK hP hD hS 67 3 XW_getL rfl (i := (0 : Int32)) (vp_in_nI (n := 0) (N := 1) (by omega) (by omega)) dL_setting_8 (fun H locs hP hD hS => ?_)
    have hP : va_P (dC, dI) vwCl (XW cI cZ cO A Q fl un ut u0 u1 sv x r ++ LW cL o (vp_updL f 0 (z).toInt64)) H := Eq.mp (congrArg (fun w => va_P (dC, dI) vwCl w H) XW_setL) hP
    refine lv_goto (tgt := 15) hx hb dL_setting_9 (by decide) ?_
    refine lv_iconst (v := (0 : Int32)) hx hb dL_setting_15 (by decide) ?_
    exact kw_i hx hb hr hlk hP hS dL_setting_16 (by rw [hz]; rfl) (by rw [hz]; rfl)
  · have hP : va_P (dC, dI) vwCl (XW cI cZ cO A Q fl un ut u0 u1 sv x r1 ++ LW cL o f) H := Eq.mp (congrArg (fun w => va_P (dC, dI) vwCl w H) XW_ksT) hP
    have hk := hE _ hz
    dsimp only at hk
    obtain rfl := cdI_ne hk
    refine kcatch1 (own := RL) hown htab (by decide) (by decide) (hts (.classLink RL 21 (exN 3)) (List.mem_of_getElem? (i := 1) rfl)) hX.1.1 hc9 hv9 hcl9 ?_
    refine lv_astore_n (lv' := [(3, .ref q9), (0, .ref (A 0)), (1, .int p0), (2, .ref o)]) hx hb dL_setting_12 rfl hl (by decide) rfl (fun ls hl => ?_)
    refine lv_iconst (v := (1 : Int32)) hx hb dL_setting_13 (by decide) ?_
    exact kw_i hx hb hr hlk hP hS dL_setting_14 (by rw [hz]; rfl) (by rw [hz]; rfl)
def rm_L_ifRun : Room := { frames := 7, cells := 1, slots := 6, locals := 134 }
set_option maxHeartbeats 1000000 in
set_option maxRecDepth 100000 in
theorem c_L_ifRun (l : Launch) (hst : l.stackTraces = false) (dC : Nat → ClassId) (dI : Nat → Nat → Nat) (cI cZ cO cL : ClassId) (A : Nat → Nat) (Q : Nat → Nat → Nat) (fl : (Nat → Int32)) (un : BS) (ut : BS) (u0 : BS) (u1 : BS) (sv : SS) (x : BS) (r : BS) (p0 : Int32) (p1 : Int32) (p2 : Int32) (o : Nat) (f : Nat → Int64) (sz : Nat)  (hE : ∀ e, f_XifRun fl un ut u0 u1 sv x r p0 p1 p2 = .error e → ¬ cdA e.1 = 0) : Met l yL_ifRun wsL_ifRun rm_L_ifRun (va_Pc [.ref (A 0), .int p0, .int p1, .int p2, .ref o] (fun U => U.heap.size = sz ∧ va_P (dC, dI) vwCl (XW cI cZ cO A Q fl un ut u0 u1 sv x r ++ LW cL o f) U.heap ∧ va_K (dC, dI) vwCl (TY cI cZ cO ++ [(cL, .long)]) U ∧ va_D (fun _ => True) (XW cI cZ cO A Q fl un ut u0 u1 sv x r ++ LW cL o f) ∧ HX (va_A (XW cI cZ cO A Q fl un ut u0 u1 sv x r ++ LW cL o f) sz) U)) (kQw (some (.int (hA (f_XifRun fl un ut u0 u1 sv x r p0 p1 p2) cdA))) (dC, dI) vwCl (hWd (f_XifRun fl un ut u0 u1 sv x r p0 p1 p2) (fun z => XW cI cZ cO A Q fl un z.2 u0 u1 sv x r) (fun r1 => XW cI cZ cO A Q fl un ut u0 u1 sv x r1) (fun z => z.1) cL o f) (va_A (XW cI cZ cO A Q fl un ut u0 u1 sv x r ++ LW cL o f) sz)) 1 6 (va_A (XW cI cZ cO A Q fl un ut u0 u1 sv x r ++ LW cL o f) sz) := by
  refine kofH (cc := cL_ifRun) (maxL := 6) (ret := some .int) (hh := [(0, 12, 15, 13)]) (by decide) rfl (Nat.le_of_ble_eq_true rfl) ?_
  intro p e s m args below meth c ls S hr hlk hsz hP hK hD hS hA1 hX htab hl
  generalize hA0 : va_A (XW cI cZ cO A Q fl un ut u0 u1 sv x r ++ LW cL o f) sz = A0 at hD hS hA1 hX ⊢
  subst hsz
  obtain ⟨hx, hb, hml, hown, hts⟩ := id S
  have hl : lv_has ls 6 [(0, .ref (A 0)), (1, .int p0), (2, .int p1), (3, .int p2), (4, .ref o)] := hl
  refine lv_aload hx hb dL_ifRun_0 (lv_at hl 4 rfl) ?_
  refine lv_iconst (v := (0 : Int32)) hx hb dL_ifRun_2 (by decide) ?_
  refine lv_aload_n hx hb dL_ifRun_3 rfl (lv_at hl 0 rfl) ?_
  refine lv_iload_n hx hb dL_ifRun_4 rfl (lv_at hl 1 rfl) ?_
  refine lv_iload_n hx hb dL_ifRun_5 rfl (lv_at hl 2 rfl) ?_
  refine lv_iload_n hx hb dL_ifRun_6 rfl (lv_at hl 3 rfl) ?_
  refine kx_v (F := f_XifRun fl un ut u0 u1 sv x r p0 p1 p2) (ans := fun z => z.1) (W1 := fun z => XW cI cZ cO A Q fl un z.2 u0 u1 sv x r) (Wf := fun r1 => XW cI cZ cO A Q fl un ut u0 u1 sv x r1) (wc := XW cI cZ cO A Q fl un ut u0 u1 sv x r) (As := [.int p0, .int p1, .int p2]) (rest := [.int (0 : Int32), .ref o]) S (c_X4_ifRun l hst dC dI cI cZ cO A Q fl un ut u0 u1 sv x r p0 p1 p2 s.heap.size) gL_ifRun_X4_ifRun mi_X4_ifRun ⟨rfl, rfl⟩ ⟨Nat.le_of_ble_eq_true rfl, Nat.le_of_ble_eq_true rfl⟩ hX.1 (hK.sub [0, 1, 2] rfl) hP hD hS hA1 (List.range' 0 67) XW_allT (fun z => XW_fst) (fun r1 => XW_fst) (nd_range 67 0) 0 rfl rfl ⟨Nat.le_of_ble_eq_true rfl, Nat.le_of_ble_eq_true rfl⟩ dL_ifRun_7 rfl hl.1 rfl (Nat.le_of_ble_eq_true rfl) (fun z hz H locs hP hD hS => ?_) (fun k r1 hz H locs q9 ce hP hD hS hc9 hv9 hcl9 => ?_)
  · have hP : va_P (dC, dI) vwCl (XW cI cZ cO A Q fl un z.2 u0 u1 sv x r ++ LW cL o f) H := Eq.mp (congrArg (fun w => va_P (dC, dI) vwCl w H) XW_ksT) hP
    have hD : va_D A0 (XW cI cZ cO A Q fl un z.2 u0 u1 sv x r ++ LW cL o f) := Eq.mp (congrArg (fun w => va_D A0 w) XW_ksT) hD
    refine lv_i2l hx hb dL_ifRun_10 rfl ?_
    refine va_last hx hb hK hP hD hS 67 3 XW_getL rfl (i := (0 : Int32)) (vp_in_nI (n := 0) (N := 1) (by omega) (by omega)) dL_ifRun_11 (fun H locs hP hD hS => ?_)
    have hP : va_P (dC, dI) vwCl (XW cI cZ cO A Q fl un z.2 u0 u1 sv x r ++ LW cL o (vp_updL f 0 (z.1).toInt64)) H := Eq.mp (congrArg (fun w => va_P (dC, dI) vwCl w H) XW_setL) hP
    refine lv_goto (tgt := 19) hx hb dL_ifRun_12 (by decide) ?_
    refine lv_iconst (v := (0 : Int32)) hx hb dL_ifRun_19 (by decide) ?_
    exact kw_i hx hb hr hlk hP hS dL_ifRun_20 (by rw [hz]; rfl) (by rw [hz]; rfl)
  · have hP : va_P (dC, dI) vwCl (XW cI cZ cO A Q fl un ut u0 u1 sv x r1 ++ LW cL o f) H := Eq.mp (congrArg (fun w => va_P (dC, dI) vwCl w H) XW_ksT) hP
    have hk := hE _ hz
    dsimp only at hk
    obtain rfl := cdA_ne hk
    refine kcatch1 (own := RL) hown htab (by decide) (by decide) (hts (.classLink RL 13 (exN 1)) (List.mem_of_getElem? (i := 1) rfl)) hX.1.1 hc9 hv9 hcl9 ?_
    refine lv_astore (lv' := [(5, .ref q9), (0, .ref (A 0)), (1, .int p0), (2, .int p1), (3, .int p2), (4, .ref o)]) hx hb dL_ifRun_15 hl (by decide) rfl (fun ls hl => ?_)
    refine lv_iconst (v := (1 : Int32)) hx hb dL_ifRun_17 (by decide) ?_
    exact kw_i hx hb hr hlk hP hS dL_ifRun_18 (by rw [hz]; rfl) (by rw [hz]; rfl)
def rm_L_bestStrength : Room := { frames := 7, cells := 1, slots := 6, locals := 157 }
set_option maxHeartbeats 1000000 in
set_option maxRecDepth 100000 in
theorem c_L_bestStrength (l : Launch) (hst : l.stackTraces = false) (dC : Nat → ClassId) (dI : Nat → Nat → Nat) (cI cZ cO cL : ClassId) (A : Nat → Nat) (Q : Nat → Nat → Nat) (fl : (Nat → Int32)) (un : BS) (ut : BS) (u0 : BS) (u1 : BS) (sv : SS) (x : BS) (r : BS) (p0 : Int32) (o : Nat) (f : Nat → Int64) (sz : Nat)  (hE : ∀ e, f_XbestStrength fl un ut u0 u1 sv x r p0 = .error e → ¬ cdA e.1 = 0) : Met l yL_bestStrength wsL_bestStrength rm_L_bestStrength (va_Pc [.ref (A 0), .int p0, .ref o] (fun U => U.heap.size = sz ∧ va_P (dC, dI) vwCl (XW cI cZ cO A Q fl un ut u0 u1 sv x r ++ LW cL o f) U.heap ∧ va_K (dC, dI) vwCl (TY cI cZ cO ++ [(cL, .long)]) U ∧ va_D (fun _ => True) (XW cI cZ cO A Q fl un ut u0 u1 sv x r ++ LW cL o f) ∧ HX (va_A (XW cI cZ cO A Q fl un ut u0 u1 sv x r ++ LW cL o f) sz) U)) (kQw (some (.int (hA (f_XbestStrength fl un ut u0 u1 sv x r p0) cdA))) (dC, dI) vwCl (hWd (f_XbestStrength fl un ut u0 u1 sv x r p0) (fun z => XW cI cZ cO A Q fl un z.2 u0 u1 sv x r) (fun r1 => XW cI cZ cO A Q fl un ut u0 u1 sv x r1) (fun z => z.1) cL o f) (va_A (XW cI cZ cO A Q fl un ut u0 u1 sv x r ++ LW cL o f) sz)) 1 6 (va_A (XW cI cZ cO A Q fl un ut u0 u1 sv x r ++ LW cL o f) sz) := by
  refine kofH (cc := cL_bestStrength) (maxL := 4) (ret := some .int) (hh := [(0, 9, 12, 13)]) (by decide) rfl (Nat.le_of_ble_eq_true rfl) ?_
  intro p e s m args below meth c ls S hr hlk hsz hP hK hD hS hA1 hX htab hl
  generalize hA0 : va_A (XW cI cZ cO A Q fl un ut u0 u1 sv x r ++ LW cL o f) sz = A0 at hD hS hA1 hX ⊢
  subst hsz
  obtain ⟨hx, hb, hml, hown, hts⟩ := id S
  have hl : lv_has ls 4 [(0, .ref (A 0)), (1, .int p0), (2, .ref o)] := hl
  refine lv_aload_n hx hb dL_bestStrength_0 rfl (lv_at hl 2 rfl) ?_
  refine lv_iconst (v := (0 : Int32)) hx hb dL_bestStrength_1 (by decide) ?_
  refine lv_aload_n hx hb dL_bestStrength_2 rfl (lv_at hl 0 rfl) ?_
  refine lv_iload_n hx hb dL_bestStrength_3 rfl (lv_at hl 1 rfl) ?_
  refine kx_v (F := f_XbestStrength fl un ut u0 u1 sv x r p0) (ans := fun z => z.1) (W1 := fun z => XW cI cZ cO A Q fl un z.2 u0 u1 sv x r) (Wf := fun r1 => XW cI cZ cO A Q fl un ut u0 u1 sv x r1) (wc := XW cI cZ cO A Q fl un ut u0 u1 sv x r) (As := [.int p0]) (rest := [.int (0 : Int32), .ref o]) S (c_X4_bestStrength l hst dC dI cI cZ cO A Q fl un ut u0 u1 sv x r p0 s.heap.size) gL_bestStrength_X4_bestStrength mi_X4_bestStrength ⟨rfl, rfl⟩ ⟨Nat.le_of_ble_eq_true rfl, Nat.le_of_ble_eq_true rfl⟩ hX.1 (hK.sub [0, 1, 2] rfl) hP hD hS hA1 (List.range' 0 67) XW_allT (fun z => XW_fst) (fun r1 => XW_fst) (nd_range 67 0) 0 rfl rfl ⟨Nat.le_of_ble_eq_true rfl, Nat.le_of_ble_eq_true rfl⟩ dL_bestStrength_4 rfl hl.1 rfl (Nat.le_of_ble_eq_true rfl) (fun z hz H locs hP hD hS => ?_) (fun k r1 hz H locs q9 ce hP hD hS hc9 hv9 hcl9 => ?_)
  · have hP : va_P (dC, dI) vwCl (XW cI cZ cO A Q fl un z.2 u0 u1 sv x r ++ LW cL o f) H := Eq.mp (congrArg (fun w => va_P (dC, dI) vwCl w H) XW_ksT) hP
    have hD : va_D A0 (XW cI cZ cO A Q fl un z.2 u0 u1 sv x r ++ LW cL o f) := Eq.mp (congrArg (fun w => va_D A0 w) XW_ksT) hD
    refine lv_i2l hx hb dL_bestStrength_7 rfl ?_
    refine va_last hx hb hK hP hD hS 67 3 XW_getL rfl (i := (0 : Int32)) (vp_in_nI (n := 0) (N := 1) (by omega) (by omega)) dL_bestStrength_8 (fun H locs hP hD hS => ?_)
    have hP : va_P (dC, dI) vwCl (XW cI cZ cO A Q fl un z.2 u0 u1 sv x r ++ LW cL o (vp_updL f 0 (z.1).toInt64)) H := Eq.mp (congrArg (fun w => va_P (dC, dI) vwCl w H) XW_setL) hP
    refine lv_goto (tgt := 15) hx hb dL_bestStrength_9 (by decide) ?_
    refine lv_iconst (v := (0 : Int32)) hx hb dL_bestStrength_15 (by decide) ?_
    exact kw_i hx hb hr hlk hP hS dL_bestStrength_16 (by rw [hz]; rfl) (by rw [hz]; rfl)
  · have hP : va_P (dC, dI) vwCl (XW cI cZ cO A Q fl un ut u0 u1 sv x r1 ++ LW cL o f) H := Eq.mp (congrArg (fun w => va_P (dC, dI) vwCl w H) XW_ksT) hP
    have hk := hE _ hz
    dsimp only at hk
    obtain rfl := cdA_ne hk
    refine kcatch1 (own := RL) hown htab (by decide) (by decide) (hts (.classLink RL 13 (exN 1)) (List.mem_of_getElem? (i := 1) rfl)) hX.1.1 hc9 hv9 hcl9 ?_
    refine lv_astore_n (lv' := [(3, .ref q9), (0, .ref (A 0)), (1, .int p0), (2, .ref o)]) hx hb dL_bestStrength_12 rfl hl (by decide) rfl (fun ls hl => ?_)
    refine lv_iconst (v := (1 : Int32)) hx hb dL_bestStrength_13 (by decide) ?_
    exact kw_i hx hb hr hlk hP hS dL_bestStrength_14 (by rw [hz]; rfl) (by rw [hz]; rfl)
def rm_L_stopsIn : Room := { frames := 7, cells := 1, slots := 6, locals := 131 }
set_option maxHeartbeats 1000000 in
set_option maxRecDepth 100000 in
theorem c_L_stopsIn (l : Launch) (hst : l.stackTraces = false) (dC : Nat → ClassId) (dI : Nat → Nat → Nat) (cI cZ cO cL : ClassId) (A : Nat → Nat) (Q : Nat → Nat → Nat) (fl : (Nat → Int32)) (un : BS) (ut : BS) (u0 : BS) (u1 : BS) (sv : SS) (x : BS) (r : BS) (p0 : Int32) (o : Nat) (f : Nat → Int64) (sz : Nat)  (hE : ∀ e, f_XstopsIn fl un ut u0 u1 sv x r p0 = .error e → ¬ cdI e.1 = 0) : Met l yL_stopsIn wsL_stopsIn rm_L_stopsIn (va_Pc [.ref (A 0), .int p0, .ref o] (fun U => U.heap.size = sz ∧ va_P (dC, dI) vwCl (XW cI cZ cO A Q fl un ut u0 u1 sv x r ++ LW cL o f) U.heap ∧ va_K (dC, dI) vwCl (TY cI cZ cO ++ [(cL, .long)]) U ∧ va_D (fun _ => True) (XW cI cZ cO A Q fl un ut u0 u1 sv x r ++ LW cL o f) ∧ HX (va_A (XW cI cZ cO A Q fl un ut u0 u1 sv x r ++ LW cL o f) sz) U)) (kQw (some (.int (hA (f_XstopsIn fl un ut u0 u1 sv x r p0) cdI))) (dC, dI) vwCl (hWd (f_XstopsIn fl un ut u0 u1 sv x r p0) (fun z => XW cI cZ cO A Q fl un z.2 u0 u1 sv x r) (fun r1 => XW cI cZ cO A Q fl un ut u0 u1 sv x r1) (fun z => z.1) cL o f) (va_A (XW cI cZ cO A Q fl un ut u0 u1 sv x r ++ LW cL o f) sz)) 1 6 (va_A (XW cI cZ cO A Q fl un ut u0 u1 sv x r ++ LW cL o f) sz) := by
  refine kofH (cc := cL_stopsIn) (maxL := 4) (ret := some .int) (hh := [(0, 9, 12, 21)]) (by decide) rfl (Nat.le_of_ble_eq_true rfl) ?_
  intro p e s m args below meth c ls S hr hlk hsz hP hK hD hS hA1 hX htab hl
  generalize hA0 : va_A (XW cI cZ cO A Q fl un ut u0 u1 sv x r ++ LW cL o f) sz = A0 at hD hS hA1 hX ⊢
  subst hsz
  obtain ⟨hx, hb, hml, hown, hts⟩ := id S
  have hl : lv_has ls 4 [(0, .ref (A 0)), (1, .int p0), (2, .ref o)] := hl
  refine lv_aload_n hx hb dL_stopsIn_0 rfl (lv_at hl 2 rfl) ?_
  refine lv_iconst (v := (0 : Int32)) hx hb dL_stopsIn_1 (by decide) ?_
  refine lv_aload_n hx hb dL_stopsIn_2 rfl (lv_at hl 0 rfl) ?_
  refine lv_iload_n hx hb dL_stopsIn_3 rfl (lv_at hl 1 rfl) ?_
  refine kx_v (F := f_XstopsIn fl un ut u0 u1 sv x r p0) (ans := fun z => z.1) (W1 := fun z => XW cI cZ cO A Q fl un z.2 u0 u1 sv x r) (Wf := fun r1 => XW cI cZ cO A Q fl un ut u0 u1 sv x r1) (wc := XW cI cZ cO A Q fl un ut u0 u1 sv x r) (As := [.int p0]) (rest := [.int (0 : Int32), .ref o]) S (c_X4_stopsIn l hst dC dI cI cZ cO A Q fl un ut u0 u1 sv x r p0 s.heap.size) gL_stopsIn_X4_stopsIn mi_X4_stopsIn ⟨rfl, rfl⟩ ⟨Nat.le_of_ble_eq_true rfl, Nat.le_of_ble_eq_true rfl⟩ hX.1 (hK.sub [0, 1, 2] rfl) hP hD hS hA1 (List.range' 0 67) XW_allT (fun z => XW_fst) (fun r1 => XW_fst) (nd_range 67 0) 0 rfl rfl ⟨Nat.le_of_ble_eq_true rfl, Nat.le_of_ble_eq_true rfl⟩ dL_stopsIn_4 rfl hl.1 rfl (Nat.le_of_ble_eq_true rfl) (fun z hz H locs hP hD hS => ?_) (fun k r1 hz H locs q9 ce hP hD hS hc9 hv9 hcl9 => ?_)
  · have hP : va_P (dC, dI) vwCl (XW cI cZ cO A Q fl un z.2 u0 u1 sv x r ++ LW cL o f) H := Eq.mp (congrArg (fun w => va_P (dC, dI) vwCl w H) XW_ksT) hP
    have hD : va_D A0 (XW cI cZ cO A Q fl un z.2 u0 u1 sv x r ++ LW cL o f) := Eq.mp (congrArg (fun w => va_D A0 w) XW_ksT) hD
    refine lv_i2l hx hb dL_stopsIn_7 rfl ?_
    refine va_last hx hb hK hP hD hS 67 3 XW_getL rfl (i := (0 : Int32)) (vp_in_nI (n := 0) (N := 1) (by omega) (by omega)) dL_stopsIn_8 (fun H locs hP hD hS => ?_)
    have hP : va_P (dC, dI) vwCl (XW cI cZ cO A Q fl un z.2 u0 u1 sv x r ++ LW cL o (vp_updL f 0 (z.1).toInt64)) H := Eq.mp (congrArg (fun w => va_P (dC, dI) vwCl w H) XW_setL) hP
    refine lv_goto (tgt := 15) hx hb dL_stopsIn_9 (by decide) ?_
    refine lv_iconst (v := (0 : Int32)) hx hb dL_stopsIn_15 (by decide) ?_
    exact kw_i hx hb hr hlk hP hS dL_stopsIn_16 (by rw [hz]; rfl) (by rw [hz]; rfl)
  · have hP : va_P (dC, dI) vwCl (XW cI cZ cO A Q fl un ut u0 u1 sv x r1 ++ LW cL o f) H := Eq.mp (congrArg (fun w => va_P (dC, dI) vwCl w H) XW_ksT) hP
    have hk := hE _ hz
    dsimp only at hk
    obtain rfl := cdI_ne hk
    refine kcatch1 (own := RL) hown htab (by decide) (by decide) (hts (.classLink RL 21 (exN 3)) (List.mem_of_getElem? (i := 1) rfl)) hX.1.1 hc9 hv9 hcl9 ?_
    refine lv_astore_n (lv' := [(3, .ref q9), (0, .ref (A 0)), (1, .int p0), (2, .ref o)]) hx hb dL_stopsIn_12 rfl hl (by decide) rfl (fun ls hl => ?_)
    refine lv_iconst (v := (1 : Int32)) hx hb dL_stopsIn_13 (by decide) ?_
    exact kw_i hx hb hr hlk hP hS dL_stopsIn_14 (by rw [hz]; rfl) (by rw [hz]; rfl)

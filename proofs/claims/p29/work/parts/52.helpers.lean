/-! the law's helpers: numbers, the script, calls that may throw, the sum of the springs -/
def f_low (v n : Int32) : Int32 := (v &&& (2147483647 : Int32)) - (v &&& (2147483647 : Int32)) / n * n
theorem low_N (v : Int32) {q : Nat} (h0 : 0 < q) (hq : q < 2 ^ 31) : ∃ j, j < q ∧ f_low v (nI q) = nI j := by
  obtain ⟨j, hj, e⟩ := pk_andE v (m := (2147483647 : Int32)) 31 (by decide)
  unfold f_low
  rw [e, pk_rem hj h0 hq]
  exact ⟨j % q, Nat.mod_lt _ h0, rfl⟩
def rm_L_low : Room := { frames := 0, cells := 0, slots := 0, locals := 0 }
theorem mi_L_low : kM yL_low wsL_low cL_low 2 (some .int) 2 := ⟨⟨_, rfl⟩, by decide, by decide, by decide +kernel⟩
theorem c_L_low (l : Launch) (v n : Int32) (hn : ¬ n = 0) : Met l yL_low wsL_low rm_L_low (va_Pc [.int v, .int n] (fun _ => True)) (kQ (some (.int (f_low v n)))) 0 0 (fun _ => False) := by
  refine kofP (cc := cL_low) (maxL := 2) (ret := some .int) (by decide) rfl (Nat.le_of_ble_eq_true rfl) ?_
  intro p e s m args below meth c ls S hr hlk hl
  obtain ⟨hx, hb, hml, hown, hts⟩ := id S
  have hl : lv_has ls 2 [(0, .int v), (1, .int n)] := hl
  refine lv_iload_n hx hb dL_low_0 rfl (lv_at hl 0 rfl) ?_
  refine lv_ldc (v := (2147483647 : Int32)) hx hb hown (hts (.constant RL 7 (2147483647)) (by decide +kernel)) dL_low_1 ?_
  refine lv_iand hx hb dL_low_3 ?_
  refine lv_iload_n hx hb dL_low_4 rfl (lv_at hl 1 rfl) ?_
  refine lv_irem hx hb dL_low_5 hn ?_
  exact kr_i hx hb hr hlk dL_low_6 rfl
def ScE (b L : Nat) (xs : Nat → Int32) (U : State) : Prop := b < U.heap.size ∧ va_X b L xs U U.heap
theorem ScE.calling {b L : Nat} {xs : Nat → Int32} {U : State} (g : JFrame) (mk : MethodId) (a : Array Value) (h : ScE b L xs U) : ScE b L xs (U.calling g mk a) :=
  ⟨h.1, va_X.moved (u := U) (U := U.calling g mk a) (Vm.Alike.refl U.vm) h.2⟩
theorem ScE.at {b L : Nat} {xs : Nat → Int32} {s : State} {A : Nat → Prop} {H : Heap} {locs : List Loc} (hE : ScE b L xs s) (hbA : ¬ A b) (hS : va_S A s.heap H locs) : ∀ U : State, U.heap = H → s.WarmedH U.vm → ScE b L xs U := fun U hU hW => by
  refine ⟨?_, ?_⟩
  · rw [hU]; exact Nat.lt_of_lt_of_le hE.1 hS.1
  · rw [hU]
    exact va_X.moved hW.alike (va_X.kept hE.2 (hS.2.1 b hE.1 hbA))
def f_cell (L : Nat) (xs : Nat → Int32) (j : Nat) : Int32 := if L ≤ j then (40503 : Int32) * nI j + (977 : Int32) else xs j
def rm_L_cell : Room := { frames := 0, cells := 0, slots := 0, locals := 0 }
theorem mi_L_cell : kM yL_cell wsL_cell cL_cell 2 (some .int) 2 := ⟨⟨_, rfl⟩, by decide, by decide, by decide +kernel⟩
theorem c_L_cell (l : Launch) (b L : Nat) (xs : Nat → Int32) (j : Nat) (hj : j < 2 ^ 31) (hL : L < 2 ^ 31) : Met l yL_cell wsL_cell rm_L_cell (va_Pc [.ref b, .int (nI j)] (ScE b L xs)) (kQ (some (.int (f_cell L xs j)))) 0 0 (fun _ => False) := by
  refine kofE (cc := cL_cell) (maxL := 2) (ret := some .int) (by decide) rfl (Nat.le_of_ble_eq_true rfl) ?_
  intro p e s m args below meth c ls S hr hlk hE hl
  obtain ⟨hx, hb, hml, hown, hts⟩ := id S
  have hl : lv_has ls 2 [(0, .ref b), (1, .int (nI j))] := hl
  refine lv_iload_n hx hb dL_cell_0 rfl (lv_at hl 1 rfl) ?_
  refine lv_aload_n hx hb dL_cell_1 rfl (lv_at hl 0 rfl) ?_
  refine va_slen (A := fun _ => False) hx hb hE.2 hE.1 (fun z => z) va_S.rf dL_cell_2 ?_
  refine lv_icmp_ge (tgt := 12) hx hb dL_cell_3 (by decide) (fun hc => ?_) (fun hc => ?_)
  · have h9 : L ≤ j := by
      rcases Nat.lt_or_ge j L with q | q
      · exact absurd hc (nI_ge q hL)
      · exact q
    refine lv_ldc (v := (40503 : Int32)) hx hb hown (hts (.constant RL 8 (40503)) (by decide +kernel)) dL_cell_12 ?_
    refine lv_iload_n hx hb dL_cell_14 rfl (lv_at hl 1 rfl) ?_
    refine lv_imul hx hb dL_cell_15 ?_
    refine lv_sipush (v := (977 : Int32)) hx hb dL_cell_16 (by decide) ?_
    refine lv_iadd hx hb dL_cell_19 ?_
    exact kr_i hx hb hr hlk dL_cell_20 (by unfold f_cell; rw [if_pos h9])
  · have h9 : j < L := by
      rcases Nat.lt_or_ge j L with q | q
      · exact q
      · exact absurd (nI_le q hj) hc
    refine lv_aload_n hx hb dL_cell_6 rfl (lv_at hl 0 rfl) ?_
    refine lv_iload_n hx hb dL_cell_7 rfl (lv_at hl 1 rfl) ?_
    refine va_sld (A := fun _ => False) hx hb hE.2 hE.1 (fun z => z) va_S.rf (vp_in_nI h9 (by omega)) dL_cell_8 ?_
    refine lv_goto (tgt := 20) hx hb dL_cell_9 (by decide) ?_
    exact kr_i hx hb hr hlk dL_cell_20 (by unfold f_cell; rw [if_neg (by omega), nI_clamp hj])
/-- what a call that may throw leaves -/
def hR (F : Except (Nat × BS) (Int32 × BS × SS)) (un : BS) (sv : SS) : Int32 × BS × SS := match F with
  | .ok z => z
  | .error _ => (-3, un, sv)
def rm_L_metronome : Room := { frames := 7, cells := 1, slots := 6, locals := 105 }
set_option maxHeartbeats 1000000 in
set_option maxRecDepth 100000 in
theorem c_L_metronome (l : Launch) (hst : l.stackTraces = false) (dC : Nat → ClassId) (dI : Nat → Nat → Nat) (cI cZ cO : ClassId) (A : Nat → Nat) (Q : Nat → Nat → Nat) (fl : (Nat → Int32)) (un : BS) (ut : BS) (u0 : BS) (u1 : BS) (sv : SS) (x : BS) (r : BS) (p0 : Int32) (p1 : Int32) (p2 : Int32) (sz : Nat) (hS1 : sv.1 < 6) (hS2 : sv.2.1 ≤ 6) (hE : ∀ e, f_Xmetronome fl un ut u0 u1 sv x r p0 p1 p2 = .error e → e = (2, r)) : Met l yL_metronome wsL_metronome rm_L_metronome (va_Pc [.ref (A 0), .int p0, .int p1, .int p2] (fun U => U.heap.size = sz ∧ va_P (dC, dI) vwCl (XW cI cZ cO A Q fl un ut u0 u1 sv x r) U.heap ∧ va_K (dC, dI) vwCl (TY cI cZ cO) U ∧ va_D (fun _ => True) (XW cI cZ cO A Q fl un ut u0 u1 sv x r) ∧ XT (va_A (XW cI cZ cO A Q fl un ut u0 u1 sv x r) sz) U)) (kQw (some (.int (hR (f_Xmetronome fl un ut u0 u1 sv x r p0 p1 p2) un sv).1)) (dC, dI) vwCl (XW cI cZ cO A Q fl (hR (f_Xmetronome fl un ut u0 u1 sv x r p0 p1 p2) un sv).2.1 ut u0 u1 (hR (f_Xmetronome fl un ut u0 u1 sv x r p0 p1 p2) un sv).2.2 x r) (va_A (XW cI cZ cO A Q fl un ut u0 u1 sv x r) sz)) 1 6 (va_A (XW cI cZ cO A Q fl un ut u0 u1 sv x r) sz) := by
  refine kofH (cc := cL_metronome) (maxL := 5) (ret := some .int) (hh := [(0, 7, 8, 15)]) (by decide) rfl (Nat.le_of_ble_eq_true rfl) ?_
  intro p e s m args below meth c ls S hr hlk hsz hP hK hD hS hA1 hX htab hl
  generalize hA0 : va_A (XW cI cZ cO A Q fl un ut u0 u1 sv x r) sz = A0 at hD hS hA1 hX ⊢
  subst hsz
  obtain ⟨hx, hb, hml, hown, hts⟩ := id S
  have hl : lv_has ls 5 [(0, .ref (A 0)), (1, .int p0), (2, .int p1), (3, .int p2)] := hl
  refine lv_aload_n hx hb dL_metronome_0 rfl (lv_at hl 0 rfl) ?_
  refine lv_iload_n hx hb dL_metronome_1 rfl (lv_at hl 1 rfl) ?_
  refine lv_iload_n hx hb dL_metronome_2 rfl (lv_at hl 2 rfl) ?_
  refine lv_iload_n hx hb dL_metronome_3 rfl (lv_at hl 3 rfl) ?_
  refine kx_v (F := f_Xmetronome fl un ut u0 u1 sv x r p0 p1 p2) (ans := fun z => z.1) (W1 := fun z => XW cI cZ cO A Q fl z.2.1 ut u0 u1 z.2.2 x r) (Wf := fun r1 => XW cI cZ cO A Q fl un ut u0 u1 sv x r1) (wc := XW cI cZ cO A Q fl un ut u0 u1 sv x r) (As := [.int p0, .int p1, .int p2]) (rest := []) S (c_X4_metronome l hst dC dI cI cZ cO A Q fl un ut u0 u1 sv x r p0 p1 p2 s.heap.size hS1 hS2) gL_metronome_X4_metronome mi_X4_metronome ⟨rfl, rfl⟩ ⟨Nat.le_of_ble_eq_true rfl, Nat.le_of_ble_eq_true rfl⟩ hX hK hP hD hS hA1 _ XW_all (fun z => XW_fst) (fun r1 => XW_fst) (by decide) 0 rfl rfl ⟨Nat.le_of_ble_eq_true rfl, Nat.le_of_ble_eq_true rfl⟩ dL_metronome_4 rfl hl.1 rfl (Nat.le_of_ble_eq_true rfl) (fun z hz H locs hP hD hS => ?_) (fun k r1 hz H locs q9 ce hP hD hS hc9 hv9 hcl9 => ?_)
  · have hP : va_P (dC, dI) vwCl (XW cI cZ cO A Q fl z.2.1 ut u0 u1 z.2.2 x r) H := Eq.mp (congrArg (fun w => va_P (dC, dI) vwCl w H) XW_ks) hP
    exact kw_i hx hb hr hlk hP hS dL_metronome_7 (by rw [hz]; rfl) (by rw [hz]; rfl)
  · have hk := hE _ hz
    obtain ⟨rfl, e2⟩ := Prod.mk.inj hk
    have e3 : r = r1 := e2.symm
    subst e3
    have hP : va_P (dC, dI) vwCl (XW cI cZ cO A Q fl un ut u0 u1 sv x r) H := Eq.mp (congrArg (fun w => va_P (dC, dI) vwCl w H) XW_ks) hP
    refine kcatch1 (own := RL) hown htab (by decide) (by decide) (hts (.classLink RL 15 (exN 2)) (List.mem_of_getElem? (i := 1) rfl)) hX.1 hc9 hv9 hcl9 ?_
    refine lv_astore (lv' := [(4, .ref q9), (0, .ref (A 0)), (1, .int p0), (2, .int p1), (3, .int p2)]) hx hb dL_metronome_8 hl (by decide) rfl (fun ls hl => ?_)
    refine lv_bipush (v := (-3 : Int32)) hx hb dL_metronome_10 (by decide) ?_
    exact kw_i hx hb hr hlk hP hS dL_metronome_12 (by rw [hz]; rfl) (by rw [hz]; rfl)
def rm_L_undo : Room := { frames := 7, cells := 1, slots := 6, locals := 105 }
set_option maxHeartbeats 1000000 in
set_option maxRecDepth 100000 in
theorem c_L_undo (l : Launch) (hst : l.stackTraces = false) (dC : Nat → ClassId) (dI : Nat → Nat → Nat) (cI cZ cO : ClassId) (A : Nat → Nat) (Q : Nat → Nat → Nat) (fl : (Nat → Int32)) (un : BS) (ut : BS) (u0 : BS) (u1 : BS) (sv : SS) (x : BS) (r : BS) (sz : Nat) (hS1 : sv.1 < 6) (hS2 : sv.2.1 ≤ 6) (hE : ∀ e, f_Xundo fl un ut u0 u1 sv x r = .error e → e = (2, r)) : Met l yL_undo wsL_undo rm_L_undo (va_Pc [.ref (A 0)] (fun U => U.heap.size = sz ∧ va_P (dC, dI) vwCl (XW cI cZ cO A Q fl un ut u0 u1 sv x r) U.heap ∧ va_K (dC, dI) vwCl (TY cI cZ cO) U ∧ va_D (fun _ => True) (XW cI cZ cO A Q fl un ut u0 u1 sv x r) ∧ XT (va_A (XW cI cZ cO A Q fl un ut u0 u1 sv x r) sz) U)) (kQw (some (.int (hR (f_Xundo fl un ut u0 u1 sv x r) un sv).1)) (dC, dI) vwCl (XW cI cZ cO A Q fl (hR (f_Xundo fl un ut u0 u1 sv x r) un sv).2.1 ut u0 u1 (hR (f_Xundo fl un ut u0 u1 sv x r) un sv).2.2 x r) (va_A (XW cI cZ cO A Q fl un ut u0 u1 sv x r) sz)) 1 6 (va_A (XW cI cZ cO A Q fl un ut u0 u1 sv x r) sz) := by
  refine kofH (cc := cL_undo) (maxL := 2) (ret := some .int) (hh := [(0, 4, 5, 15)]) (by decide) rfl (Nat.le_of_ble_eq_true rfl) ?_
  intro p e s m args below meth c ls S hr hlk hsz hP hK hD hS hA1 hX htab hl
  generalize hA0 : va_A (XW cI cZ cO A Q fl un ut u0 u1 sv x r) sz = A0 at hD hS hA1 hX ⊢
  subst hsz
  obtain ⟨hx, hb, hml, hown, hts⟩ := id S
  have hl : lv_has ls 2 [(0, .ref (A 0))] := hl
  refine lv_aload_n hx hb dL_undo_0 rfl (lv_at hl 0 rfl) ?_
  refine kx_v (F := f_Xundo fl un ut u0 u1 sv x r) (ans := fun z => z.1) (W1 := fun z => XW cI cZ cO A Q fl z.2.1 ut u0 u1 z.2.2 x r) (Wf := fun r1 => XW cI cZ cO A Q fl un ut u0 u1 sv x r1) (wc := XW cI cZ cO A Q fl un ut u0 u1 sv x r) (As := []) (rest := []) S (c_X4_undo l hst dC dI cI cZ cO A Q fl un ut u0 u1 sv x r s.heap.size hS1 hS2) gL_undo_X4_undo mi_X4_undo ⟨rfl, rfl⟩ ⟨Nat.le_of_ble_eq_true rfl, Nat.le_of_ble_eq_true rfl⟩ hX hK hP hD hS hA1 _ XW_all (fun z => XW_fst) (fun r1 => XW_fst) (by decide) 0 rfl rfl ⟨Nat.le_of_ble_eq_true rfl, Nat.le_of_ble_eq_true rfl⟩ dL_undo_1 rfl hl.1 rfl (Nat.le_of_ble_eq_true rfl) (fun z hz H locs hP hD hS => ?_) (fun k r1 hz H locs q9 ce hP hD hS hc9 hv9 hcl9 => ?_)
  · have hP : va_P (dC, dI) vwCl (XW cI cZ cO A Q fl z.2.1 ut u0 u1 z.2.2 x r) H := Eq.mp (congrArg (fun w => va_P (dC, dI) vwCl w H) XW_ks) hP
    exact kw_i hx hb hr hlk hP hS dL_undo_4 (by rw [hz]; rfl) (by rw [hz]; rfl)
  · have hk := hE _ hz
    obtain ⟨rfl, e2⟩ := Prod.mk.inj hk
    have e3 : r = r1 := e2.symm
    subst e3
    have hP : va_P (dC, dI) vwCl (XW cI cZ cO A Q fl un ut u0 u1 sv x r) H := Eq.mp (congrArg (fun w => va_P (dC, dI) vwCl w H) XW_ks) hP
    refine kcatch1 (own := RL) hown htab (by decide) (by decide) (hts (.classLink RL 15 (exN 2)) (List.mem_of_getElem? (i := 1) rfl)) hX.1 hc9 hv9 hcl9 ?_
    refine lv_astore_n (lv' := [(1, .ref q9), (0, .ref (A 0))]) hx hb dL_undo_5 rfl hl (by decide) rfl (fun ls hl => ?_)
    refine lv_bipush (v := (-3 : Int32)) hx hb dL_undo_6 (by decide) ?_
    exact kw_i hx hb hr hlk hP hS dL_undo_8 (by rw [hz]; rfl) (by rw [hz]; rfl)
def rm_L_take : Room := { frames := 7, cells := 1, slots := 6, locals := 105 }
set_option maxHeartbeats 1000000 in
set_option maxRecDepth 100000 in
theorem c_L_take (l : Launch) (hst : l.stackTraces = false) (dC : Nat → ClassId) (dI : Nat → Nat → Nat) (cI cZ cO : ClassId) (A : Nat → Nat) (Q : Nat → Nat → Nat) (fl : (Nat → Int32)) (un : BS) (ut : BS) (u0 : BS) (u1 : BS) (sv : SS) (x : BS) (r : BS) (sz : Nat) (hS1 : sv.1 < 6) (hS2 : sv.2.1 ≤ 6) (hE : ∀ e, f_Xtake fl un ut u0 u1 sv x r = .error e → e = (2, r)) : Met l yL_take wsL_take rm_L_take (va_Pc [.ref (A 0)] (fun U => U.heap.size = sz ∧ va_P (dC, dI) vwCl (XW cI cZ cO A Q fl un ut u0 u1 sv x r) U.heap ∧ va_K (dC, dI) vwCl (TY cI cZ cO) U ∧ va_D (fun _ => True) (XW cI cZ cO A Q fl un ut u0 u1 sv x r) ∧ XT (va_A (XW cI cZ cO A Q fl un ut u0 u1 sv x r) sz) U)) (kQw (some (.int (hR (f_Xtake fl un ut u0 u1 sv x r) un sv).1)) (dC, dI) vwCl (XW cI cZ cO A Q fl (hR (f_Xtake fl un ut u0 u1 sv x r) un sv).2.1 ut u0 u1 (hR (f_Xtake fl un ut u0 u1 sv x r) un sv).2.2 x r) (va_A (XW cI cZ cO A Q fl un ut u0 u1 sv x r) sz)) 1 6 (va_A (XW cI cZ cO A Q fl un ut u0 u1 sv x r) sz) := by
  refine kofH (cc := cL_take) (maxL := 2) (ret := some .int) (hh := [(0, 4, 5, 15)]) (by decide) rfl (Nat.le_of_ble_eq_true rfl) ?_
  intro p e s m args below meth c ls S hr hlk hsz hP hK hD hS hA1 hX htab hl
  generalize hA0 : va_A (XW cI cZ cO A Q fl un ut u0 u1 sv x r) sz = A0 at hD hS hA1 hX ⊢
  subst hsz
  obtain ⟨hx, hb, hml, hown, hts⟩ := id S
  have hl : lv_has ls 2 [(0, .ref (A 0))] := hl
  refine lv_aload_n hx hb dL_take_0 rfl (lv_at hl 0 rfl) ?_
  refine kx_v (F := f_Xtake fl un ut u0 u1 sv x r) (ans := fun z => z.1) (W1 := fun z => XW cI cZ cO A Q fl z.2.1 ut u0 u1 z.2.2 x r) (Wf := fun r1 => XW cI cZ cO A Q fl un ut u0 u1 sv x r1) (wc := XW cI cZ cO A Q fl un ut u0 u1 sv x r) (As := []) (rest := []) S (c_X4_take l hst dC dI cI cZ cO A Q fl un ut u0 u1 sv x r s.heap.size hS1 hS2) gL_take_X4_take mi_X4_take ⟨rfl, rfl⟩ ⟨Nat.le_of_ble_eq_true rfl, Nat.le_of_ble_eq_true rfl⟩ hX hK hP hD hS hA1 _ XW_all (fun z => XW_fst) (fun r1 => XW_fst) (by decide) 0 rfl rfl ⟨Nat.le_of_ble_eq_true rfl, Nat.le_of_ble_eq_true rfl⟩ dL_take_1 rfl hl.1 rfl (Nat.le_of_ble_eq_true rfl) (fun z hz H locs hP hD hS => ?_) (fun k r1 hz H locs q9 ce hP hD hS hc9 hv9 hcl9 => ?_)
  · have hP : va_P (dC, dI) vwCl (XW cI cZ cO A Q fl z.2.1 ut u0 u1 z.2.2 x r) H := Eq.mp (congrArg (fun w => va_P (dC, dI) vwCl w H) XW_ks) hP
    exact kw_i hx hb hr hlk hP hS dL_take_4 (by rw [hz]; rfl) (by rw [hz]; rfl)
  · have hk := hE _ hz
    obtain ⟨rfl, e2⟩ := Prod.mk.inj hk
    have e3 : r = r1 := e2.symm
    subst e3
    have hP : va_P (dC, dI) vwCl (XW cI cZ cO A Q fl un ut u0 u1 sv x r) H := Eq.mp (congrArg (fun w => va_P (dC, dI) vwCl w H) XW_ks) hP
    refine kcatch1 (own := RL) hown htab (by decide) (by decide) (hts (.classLink RL 15 (exN 2)) (List.mem_of_getElem? (i := 1) rfl)) hX.1 hc9 hv9 hcl9 ?_
    refine lv_astore_n (lv' := [(1, .ref q9), (0, .ref (A 0))]) hx hb dL_take_5 rfl hl (by decide) rfl (fun ls hl => ?_)
    refine lv_bipush (v := (-3 : Int32)) hx hb dL_take_6 (by decide) ?_
    exact kw_i hx hb hr hlk hP hS dL_take_8 (by rw [hz]; rfl) (by rw [hz]; rfl)
/-- the sum of the springs -/
def rm_L_springs : Room := { frames := 7, cells := 13, slots := 78, locals := 155 }
theorem mi_L_springs : kM yL_springs wsL_springs cL_springs 3 (some .int) 1 := ⟨⟨_, rfl⟩, by decide, by decide, by decide +kernel⟩
section SPR
variable {p : Program} {l : Launch} {e : Env} {s : State} {m : MethodId} {args : Array Value} {below : List Frame} {meth : Method} {c : Code} {dC : Nat → ClassId} {dI : Nat → Nat → Nat} {A0 : Nat → Prop}
  {cI cZ cO : ClassId} {A : Nat → Nat} {Qq : Nat → Nat → Nat} {fl : Nat → Int32} {un ut u0 u1 : BS} {sv : SS} {x r : BS} {n : Nat}
set_option maxRecDepth 100000 in
theorem springs_loop (C : RC p l m c cL_springs 3 s args wsL_springs (dC, dI) cI cZ cO A0) (hr : meth.sig.returnType = some .int) (hlk : meth.locks = false) (hG : GI n un) : ∀ (d k cells slots : Nat) (H : Heap) (locs : List Loc) (ls : Array Slot), k + d = n → cells + (2 * d + 1) ≤ 13 → slots + (12 * d + 6) ≤ 78 → DY (dC, dI) (XW cI cZ cO A Qq fl un ut u0 u1 sv x r) A0 s H locs → lv_has ls 3 [(2, .int (nI k)), (1, .int (s32 (un 2) k)), (0, .ref (A 0))] → W p l e rm_L_springs s m args below meth c H locs cells slots (MQ below (kQw (some (.int (s32 (un 2) n))) (dC, dI) vwCl (XW cI cZ cO A Qq fl un ut u0 u1 sv x r) A0) args s 13 78 A0) (F0 m 4 ls [])
  | d, k, cells, slots, H, locs, ls => fun hk hc1 hc2 hY hl => by
    obtain ⟨hx, hb, hml, hown, hts⟩ := id C.1
    have hn := GI_n hG
    refine lv_iload_n hx hb dL_springs_4 rfl (lv_at hl 0 rfl) ?_
    refine lv_aload_n hx hb dL_springs_5 rfl (lv_at hl 2 rfl) ?_
    refine lv_iconst (v := (0 : Int32)) hx hb dL_springs_6 (by decide) ?_
    refine rd_count cou0 gL_springs_X4_count C hY hl.1 ⟨Nat.le_of_ble_eq_true rfl, Nat.le_of_ble_eq_true rfl⟩ ⟨by show cells + 1 ≤ 13; omega, by show slots + 6 ≤ 78; omega⟩ (Nat.le_of_ble_eq_true rfl) dL_springs_7 (fun H locs hY => ?_)
    rw [GI_5 hG]
    refine lv_icmp_ge (tgt := 28) hx hb dL_springs_10 (by decide) (fun hc => ?_) (fun hc => ?_)
    · have h9 : k = n := by
        rcases Nat.lt_or_ge k n with q | q
        · exact absurd hc (nI_ge q (by omega))
        · omega
      refine lv_iload_n hx hb dL_springs_28 rfl (lv_at hl 1 rfl) ?_
      refine W.widen (k := 13) (n := 78) (by omega) (by omega) ?_
      exact kw_i hx hb hr hlk hY.1 hY.2.2 dL_springs_29 (by rw [h9]) rfl
    · have h9 : k < n := by
        rcases Nat.lt_or_ge k n with q | q
        · exact q
        · exact absurd (nI_le q (by omega)) hc
      refine lv_iload_n hx hb dL_springs_13 rfl (lv_at hl 1 rfl) ?_
      refine lv_aload_n hx hb dL_springs_14 rfl (lv_at hl 2 rfl) ?_
      refine lv_iload_n hx hb dL_springs_15 rfl (lv_at hl 0 rfl) ?_
      refine lv_iconst (v := (2 : Int32)) hx hb dL_springs_16 (by decide) ?_
      refine rd_arm (arm2 (by omega) (G_has hG h9)) gL_springs_X4_arm C hY hl.1 ⟨Nat.le_of_ble_eq_true rfl, Nat.le_of_ble_eq_true rfl⟩ ⟨by show cells + 1 + 1 ≤ 13; omega, by show slots + 6 + 6 ≤ 78; omega⟩ (Nat.le_of_ble_eq_true rfl) dL_springs_17 (fun H locs hY => ?_)
      refine lv_iadd hx hb dL_springs_20 ?_
      refine lv_istore_n (lv' := [(1, .int (s32 (un 2) (k + 1))), (2, .int (nI k)), (0, .ref (A 0))]) hx hb dL_springs_21 rfl hl (by decide) rfl (fun ls hl => ?_)
      refine lv_iinc (v := nI (k + 1)) (lv' := [(2, .int (nI (k + 1))), (1, .int (s32 (un 2) (k + 1))), (0, .ref (A 0))]) hx hb dL_springs_22 hl (k := 1) rfl (nI_add k 1) (by decide) rfl (fun ls hl => ?_)
      refine lv_goto (tgt := 4) hx hb dL_springs_25 (by decide) ?_
      match d, hk, hc1, hc2 with
      | 0, hk, _, _ => omega
      | d + 1, hk, hc1, hc2 => exact springs_loop C hr hlk hG d (k + 1) _ _ H locs ls (by omega) (by omega) (by omega) hY hl
termination_by d => d
end SPR
set_option maxRecDepth 100000 in
theorem c_L_springs (l : Launch) (hst : l.stackTraces = false) (dC : Nat → ClassId) (dI : Nat → Nat → Nat) (cI cZ cO : ClassId) (A : Nat → Nat) (Q : Nat → Nat → Nat) (fl : (Nat → Int32)) (un : BS) (ut : BS) (u0 : BS) (u1 : BS) (sv : SS) (x : BS) (r : BS) (sz : Nat) {n : Nat} (hG : GI n un) : Met l yL_springs wsL_springs rm_L_springs (va_Pc [.ref (A 0)] (fun U => U.heap.size = sz ∧ va_P (dC, dI) vwCl (XW cI cZ cO A Q fl un ut u0 u1 sv x r) U.heap ∧ va_K (dC, dI) vwCl (TY cI cZ cO) U ∧ va_D (fun _ => True) (XW cI cZ cO A Q fl un ut u0 u1 sv x r) ∧ XT (va_A (XW cI cZ cO A Q fl un ut u0 u1 sv x r) sz) U)) (kQw (some (.int (s32 (un 2) n))) (dC, dI) vwCl (XW cI cZ cO A Q fl un ut u0 u1 sv x r) (va_A (XW cI cZ cO A Q fl un ut u0 u1 sv x r) sz)) 13 78 (va_A (XW cI cZ cO A Q fl un ut u0 u1 sv x r) sz) := by
  refine kofWE (cc := cL_springs) (maxL := 3) (ret := some .int) (by decide) rfl (Nat.le_of_ble_eq_true rfl) ?_
  intro p e s m args below meth c ls S hr hlk hnm hsz hP hK hD hS hA1 hX hl
  generalize hA0 : va_A (XW cI cZ cO A Q fl un ut u0 u1 sv x r) sz = A0 at hD hS hA1 hX ⊢
  subst hsz
  obtain ⟨hx, hb, hml, hown, hts⟩ := id S
  have hl : lv_has ls 3 [(0, .ref (A 0))] := hl
  refine lv_iconst (v := (0 : Int32)) hx hb dL_springs_0 (by decide) ?_
  refine lv_istore_n (lv' := [(1, .int (s32 (un 2) 0)), (0, .ref (A 0))]) hx hb dL_springs_1 rfl hl (by decide) rfl (fun ls hl => ?_)
  refine lv_iconst (v := (0 : Int32)) hx hb dL_springs_2 (by decide) ?_
  refine lv_istore_n (lv' := [(2, .int (nI 0)), (1, .int (s32 (un 2) 0)), (0, .ref (A 0))]) hx hb dL_springs_3 rfl hl (by decide) rfl (fun ls hl => ?_)
  have hn := GI_n hG
  exact springs_loop (A0 := A0) ⟨S, hst, hK, hX, hA1⟩ hr hlk hG n 0 0 0 _ _ ls (by omega) (by omega) (by omega) ⟨hP, hD, hS⟩ hl

section KRA
variable {p : Program} {l : Launch} {e : Env} {R : Room} {s : State} {m : MethodId} {args : Array Value} {below : List Frame} {meth : Method} {c : Code} {H : Heap} {locs : List Loc} {cells slots : Nat} {cc : ByteArray} {pc : Nat} {ls : Array Slot}
theorem kr_a {v r : Nat} {on : String} (hexec : p.tables.exec = Jvm.exec) (hb : c.code = cc) (hr : meth.sig.returnType = some (.object on)) (hlocks : meth.locks = false) (hdg : decode cc pc = .ok (.areturn, 1)) (hv : v = r) :
    W p l e R s m args below meth c s.heap [] 0 0 (MQ below (kQ (some (.ref r))) args s 0 0 (fun _ => False)) (F0 m pc ls [.ref v]) := by
  intro T hT X
  obtain ⟨fs, hret, hrun, hended, hW, hframe⟩ := X.leave (v := some (.ref v)) (fun h => by rw [hr] at h; cases h)
  have hmeth' : T.vm.method? m = some meth := X.method'
  refine ⟨T.setFrames fs, ?_, .returned (some (.ref v)), hrun, hended, ⟨by rw [hv], hT⟩, [], ⟨⟨_, rfl⟩, hW, hframe⟩, fun q h => by cases h⟩
  jvm_step X.here [X.here.top, hexec, hb, hdg, hmeth', hr, narrow]
  (try refine ⟨rfl, ?_⟩); (try refine ⟨rfl, ?_⟩)
  first | (intro acts; rw [hret _ acts rfl rfl rfl]) | rw [hret _ _ rfl rfl rfl]
  exact Steps.refl _
end KRA

def rm_X4_slotBench : Room := { frames := 0, cells := 0, slots := 0, locals := 0 }
def f_XslotBench (fl : (Nat → Int32)) (un : BS) (ut : BS) (u0 : BS) (u1 : BS) (sv : SS) (x : BS) (r : BS) (p0 : Int32) : Nat := if p0 = 0 then 3 else 4
theorem f_XslotBench_34 {fl : Nat → Int32} {un ut u0 u1 : BS} {sv : SS} {x r : BS} {p0 : Int32} : f_XslotBench fl un ut u0 u1 sv x r p0 = 3 ∨ f_XslotBench fl un ut u0 u1 sv x r p0 = 4 := by
  unfold f_XslotBench
  split
  · exact Or.inl rfl
  · exact Or.inr rfl

def rm_X4_togetherShare : Room := { frames := 1, cells := 0, slots := 0, locals := 20 }
theorem mi_X4_togetherShare : kM yX4_togetherShare wsX4_togetherShare cX4_togetherShare 1 (some .double) 0 := ⟨⟨_, rfl⟩, by decide, by decide, by decide +kernel⟩
def f_XtogetherShare (fl : (Nat → Int32)) (un : BS) (ut : BS) (u0 : BS) (u1 : BS) (sv : SS) (x : BS) (r : BS) : UInt64 := f_shareTogether un
set_option maxHeartbeats 1000000 in
set_option maxRecDepth 100000 in
theorem c_X4_togetherShare (l : Launch) (dC : Nat → ClassId) (dI : Nat → Nat → Nat) (cI cZ cO : ClassId) (A : Nat → Nat) (Q : Nat → Nat → Nat) (fl : (Nat → Int32)) (un : BS) (ut : BS) (u0 : BS) (u1 : BS) (sv : SS) (x : BS) (r : BS) : Met l yX4_togetherShare wsX4_togetherShare rm_X4_togetherShare (va_Pc [.ref (A 0)] (fun U => va_P (dC, dI) vwCl (XW cI cZ cO A Q fl un ut u0 u1 sv x r) U.heap ∧ va_K (dC, dI) vwCl (TY cI cZ cO) U)) (kQ (some (.double (f_XtogetherShare fl un ut u0 u1 sv x r)))) 0 0 (fun _ => False) := by
  refine kofR (cc := cX4_togetherShare) (maxL := 1) (ret := some .double) (by decide) rfl (Nat.le_of_ble_eq_true rfl) ?_
  intro p e s m args below meth c ls S hr hlk hP hK hl
  obtain ⟨hx, hb, hml, hown, hts⟩ := id S
  have inX4 : ∀ w ∈ wsX40, w ∈ wsX4_togetherShare := fun w h => List.mem_cons_of_mem _ (List.mem_append_left _ (List.mem_append_right _ h))
  have hl : lv_has ls 1 [(0, .ref (A 0))] := hl
  refine lv_aload_n hx hb dX4_togetherShare_0 rfl (lv_at hl 0 rfl) ?_
  refine va_get (D := (dC, dI)) (ci := 4) (v := .ref (A 1)) (C := RX4) (T := TX4) (N := 8) hx hb hts inX4 hown hK hP 0 rfl rfl 0 (by decide) (hts (.fieldLink RX4 10 "BoardMetronomes" "now" "LBoardMetronomes$Bench;") (by decide +kernel)) (fun _ h9 => h9) rfl dX4_togetherShare_1 ?_
  refine kc_v (As := []) (rest := []) S (v := .double (f_shareTogether un)) (c_X0_shareTogether l dC dI cI cZ cO (A 1) (Q 1) un) gX4_togetherShare_X0_shareTogether mi_X0_shareTogether ⟨rfl, rfl⟩ ⟨Nat.le_of_ble_eq_true rfl, Nat.le_of_ble_eq_true rfl⟩ hK (XW_p_un hP) 0 rfl rfl ⟨Nat.le_refl _, Nat.le_refl _⟩ dX4_togetherShare_4 rfl hl.1 rfl (Nat.le_of_ble_eq_true rfl) ?_
  have r1 : f_XtogetherShare fl un ut u0 u1 sv x r = f_shareTogether un := by
    rw [f_XtogetherShare]
  exact kr_d hx hb hr hlk dX4_togetherShare_7 r1.symm

def rm_X4_stop : Room := { frames := 2, cells := 0, slots := 0, locals := 43 }
theorem mi_X4_stop : kM yX4_stop wsX4_stop cX4_stop 1 (some .int) 0 := ⟨⟨_, rfl⟩, by decide, by decide, by decide +kernel⟩
def f_Xstop (fl : (Nat → Int32)) (un : BS) (ut : BS) (u0 : BS) (u1 : BS) (sv : SS) (x : BS) (r : BS) : Int32 × BS × SS := ((f_stopBoard un).1, (f_stopBoard un).2, (f_Spush sv.1 sv.2.1 sv.2.2 un))
set_option maxHeartbeats 1000000 in
set_option maxRecDepth 100000 in
theorem c_X4_stop (l : Launch) (dC : Nat → ClassId) (dI : Nat → Nat → Nat) (cI cZ cO : ClassId) (A : Nat → Nat) (Q : Nat → Nat → Nat) (fl : (Nat → Int32)) (un : BS) (ut : BS) (u0 : BS) (u1 : BS) (sv : SS) (x : BS) (r : BS) (sz : Nat) (hS1 : sv.1 < 6) (hS2 : sv.2.1 ≤ 6) : Met l yX4_stop wsX4_stop rm_X4_stop (va_Pc [.ref (A 0)] (fun U => U.heap.size = sz ∧ va_P (dC, dI) vwCl (XW cI cZ cO A Q fl un ut u0 u1 sv x r) U.heap ∧ va_K (dC, dI) vwCl (TY cI cZ cO) U ∧ va_D (fun _ => True) (XW cI cZ cO A Q fl un ut u0 u1 sv x r))) (kQw (some (.int (f_Xstop fl un ut u0 u1 sv x r).1)) (dC, dI) vwCl (XW cI cZ cO A Q fl ((f_Xstop fl un ut u0 u1 sv x r).2.1) ut u0 u1 ((f_Xstop fl un ut u0 u1 sv x r).2.2) x r) (va_A (XW cI cZ cO A Q fl un ut u0 u1 sv x r) sz)) 0 0 (va_A (XW cI cZ cO A Q fl un ut u0 u1 sv x r) sz) := by
  refine kofW (cc := cX4_stop) (maxL := 1) (ret := some .int) (by decide) rfl (Nat.le_of_ble_eq_true rfl) ?_
  intro p e s m args below meth c ls S hr hlk hnm hsz hP hK hD hS hA hl
  generalize hA0 : va_A (XW cI cZ cO A Q fl un ut u0 u1 sv x r) sz = A0 at hD hS hA ⊢
  subst hsz
  obtain ⟨hx, hb, hml, hown, hts⟩ := id S
  have inX4 : ∀ w ∈ wsX40, w ∈ wsX4_stop := fun w h => List.mem_cons_of_mem _ (List.mem_append_left _ (List.mem_append_left _ (List.mem_append_right _ h)))
  have hl : lv_has ls 1 [(0, .ref (A 0))] := hl
  refine lv_aload_n hx hb dX4_stop_0 rfl (lv_at hl 0 rfl) ?_
  refine va_get (D := (dC, dI)) (ci := 4) (v := .ref (A 6)) (C := RX4) (T := TX4) (N := 8) hx hb hts inX4 hown hK hP 0 rfl rfl 5 (by decide) (hts (.fieldLink RX4 32 "BoardMetronomes" "saved" "LBoardMetronomes$SavedStates;") (by decide +kernel)) (fun _ h9 => h9) rfl dX4_stop_1 ?_
  refine lv_aload_n hx hb dX4_stop_4 rfl (lv_at hl 0 rfl) ?_
  refine va_get (D := (dC, dI)) (ci := 4) (v := .ref (A 1)) (C := RX4) (T := TX4) (N := 8) hx hb hts inX4 hown hK hP 0 rfl rfl 0 (by decide) (hts (.fieldLink RX4 10 "BoardMetronomes" "now" "LBoardMetronomes$Bench;") (by decide +kernel)) (fun _ h9 => h9) rfl dX4_stop_5 ?_
  refine kc_w (As := [.ref (A 1)]) (rest := []) S (v := none) (c_X2_push l dC dI cI cZ cO A Q (A 1) (Q 1) sv.1 sv.2.1 sv.2.2 un s.heap.size hS1 hS2) gX4_stop_X2_push mi_X2_push ⟨rfl, rfl⟩ ⟨Nat.le_of_ble_eq_true rfl, Nat.le_of_ble_eq_true rfl⟩ hK hP hD hS hA [26, 27, 28, 29, 30, 31, 32, 33, 34, 35, 36, 37, 38, 39, 40, 41, 42, 43, 44, 45, 46, 47, 48, 49, 50, 51, 52, 53, 54, 55, 56, 57, 58, 59, 60, 61, 62, 63, 2, 3, 4, 5, 6, 7] XW_all_S_un SWB_fst rfl 0 rfl rfl ⟨Nat.le_refl _, Nat.le_refl _⟩ dX4_stop_8 rfl hl.1 rfl (Nat.le_of_ble_eq_true rfl) (fun H locs hP hD hS => ?_)
  have hP : va_P (dC, dI) vwCl (XW cI cZ cO A Q fl un ut u0 u1 (f_Spush sv.1 sv.2.1 sv.2.2 un) x r) H := Eq.mp (congrArg (fun w => va_P (dC, dI) vwCl w H) XW_ks_S_un) hP
  have hD : va_D A0 (XW cI cZ cO A Q fl un ut u0 u1 (f_Spush sv.1 sv.2.1 sv.2.2 un) x r) := Eq.mp (congrArg (fun w => va_D A0 w) XW_ks_S_un) hD
  refine lv_aload_n hx hb dX4_stop_11 rfl (lv_at hl 0 rfl) ?_
  refine va_get (D := (dC, dI)) (ci := 4) (v := .ref (A 1)) (C := RX4) (T := TX4) (N := 8) hx hb hts inX4 hown hK hP 0 rfl rfl 0 (by decide) (hts (.fieldLink RX4 10 "BoardMetronomes" "now" "LBoardMetronomes$Bench;") (by decide +kernel)) (fun _ h9 => h9) rfl dX4_stop_12 ?_
  refine kc_w (As := []) (rest := []) S (v := (some (.int ((f_stopBoard un).1)))) (c_X0_stopBoard l dC dI cI cZ cO (A 1) (Q 1) un H.size) gX4_stop_X0_stopBoard mi_X0_stopBoard ⟨rfl, rfl⟩ ⟨Nat.le_of_ble_eq_true rfl, Nat.le_of_ble_eq_true rfl⟩ hK hP hD hS hA [2, 3, 4, 5, 6, 7] XW_all_un BW_fst rfl 0 rfl rfl ⟨Nat.le_refl _, Nat.le_refl _⟩ dX4_stop_15 rfl hl.1 rfl (Nat.le_of_ble_eq_true rfl) (fun H locs hP hD hS => ?_)
  have hP : va_P (dC, dI) vwCl (XW cI cZ cO A Q fl ((f_stopBoard un).2) ut u0 u1 (f_Spush sv.1 sv.2.1 sv.2.2 un) x r) H := Eq.mp (congrArg (fun w => va_P (dC, dI) vwCl w H) XW_ks_un) hP
  have hD : va_D A0 (XW cI cZ cO A Q fl ((f_stopBoard un).2) ut u0 u1 (f_Spush sv.1 sv.2.1 sv.2.2 un) x r) := Eq.mp (congrArg (fun w => va_D A0 w) XW_ks_un) hD
  have r1 : f_Xstop fl un ut u0 u1 sv x r = ((f_stopBoard un).1, (f_stopBoard un).2, (f_Spush sv.1 sv.2.1 sv.2.2 un)) := by
    rw [f_Xstop]
  exact kw_i hx hb hr hlk hP hS dX4_stop_18 (by rw [r1]) (by rw [r1])

def rm_X4_digest : Room := { frames := 6, cells := 0, slots := 0, locals := 136 }
def f_Xdigest_L6 (fl : (Nat → Int32)) (un : BS) (ut : BS) (u0 : BS) (u1 : BS) (sv : SS) (x : BS) (r : BS) (j0 : Nat) (x0 : Int64) : Int64 := ((31 : Int64) * x0) + ((f_Xfigure fl un ut u0 u1 sv x r (nI j0)).toInt64)
def f_Xdigest_L33 (fl : (Nat → Int32)) (un : BS) (ut : BS) (u0 : BS) (u1 : BS) (sv : SS) (x : BS) (r : BS) (j0 : Nat) (x0 : Int64) : Int64 := ((31 : Int64) * x0) + ((f_settingValue un (nI j0)).toInt64)
def f_Xdigest_L82 (fl : (Nat → Int32)) (un : BS) (ut : BS) (u0 : BS) (u1 : BS) (sv : SS) (x : BS) (r : BS) (j0 : Nat) (x0 : Int64) : Int64 := ((31 : Int64) * x0) + ((f_Xoutcome fl un (f_XtryOut fl un ((f_XwithArms fl un ut u0 u1 sv x r (it 3 (f_Xdigest_L33 fl un ut u0 u1 sv x r) (it 12 (f_Xdigest_L6 fl un ut u0 u1 sv x r) (2999 : Int64)))).2) u0 u1 sv x r (40 : Int32) (20 : Int32)) u0 u1 sv x r (nI j0)).toInt64)
/-! two more methods of the class: clearBuffer, firstError -/
def rm_X4_clearBuffer : Room := { frames := 1, cells := 0, slots := 0, locals := 21 }
theorem mi_X4_clearBuffer : kM yX4_clearBuffer wsX4_clearBuffer cX4_clearBuffer 1 (some .int) 0 := ⟨⟨_, rfl⟩, by decide, by decide, by decide +kernel⟩
set_option maxHeartbeats 1000000 in
set_option maxRecDepth 100000 in
theorem c_X4_clearBuffer (l : Launch) (dC : Nat → ClassId) (dI : Nat → Nat → Nat) (cI cZ cO : ClassId) (A : Nat → Nat) (Q : Nat → Nat → Nat) (fl : (Nat → Int32)) (un : BS) (ut : BS) (u0 : BS) (u1 : BS) (sv : SS) (x : BS) (r : BS) (sz : Nat) : Met l yX4_clearBuffer wsX4_clearBuffer rm_X4_clearBuffer (va_Pc [.ref (A 0)] (fun U => U.heap.size = sz ∧ va_P (dC, dI) vwCl (XW cI cZ cO A Q fl un ut u0 u1 sv x r) U.heap ∧ va_K (dC, dI) vwCl (TY cI cZ cO) U ∧ va_D (fun _ => True) (XW cI cZ cO A Q fl un ut u0 u1 sv x r))) (kQw (some (.int (f_Tempty x).1)) (dC, dI) vwCl (XW cI cZ cO A Q fl un ut u0 u1 sv (f_Tempty x).2 r) (va_A (XW cI cZ cO A Q fl un ut u0 u1 sv x r) sz)) 0 0 (va_A (XW cI cZ cO A Q fl un ut u0 u1 sv x r) sz) := by
  refine kofW (cc := cX4_clearBuffer) (maxL := 1) (ret := some .int) (by decide) rfl (Nat.le_of_ble_eq_true rfl) ?_
  intro p e s m args below meth c ls S hr hlk hnm hsz hP hK hD hS hA hl
  generalize hA0 : va_A (XW cI cZ cO A Q fl un ut u0 u1 sv x r) sz = A0 at hD hS hA ⊢
  subst hsz
  obtain ⟨hx, hb, hml, hown, hts⟩ := id S
  have inX4 : ∀ w ∈ wsX40, w ∈ wsX4_clearBuffer := fun w h => List.mem_cons_of_mem _ (List.mem_append_left _ (List.mem_append_right _ h))
  have hl : lv_has ls 1 [(0, .ref (A 0))] := hl
  refine lv_aload_n hx hb dX4_clearBuffer_0 rfl (lv_at hl 0 rfl) ?_
  refine va_get (D := (dC, dI)) (ci := 4) (v := .ref (A 8)) (C := RX4) (T := TX4) (N := 8) hx hb hts inX4 hown hK hP 0 rfl rfl 6 (by decide) (hts (.fieldLink RX4 39 "BoardMetronomes" "text" "LBoardMetronomes$Text;") (by decide +kernel)) (fun _ h9 => h9) rfl dX4_clearBuffer_1 ?_
  refine kc_w (As := []) (rest := []) S (v := (some (.int ((f_Tempty x).1)))) (c_X3_empty l dC dI cI cZ cO (A 8) (Q 8) x s.heap.size) gX4_clearBuffer_X3_empty mi_X3_empty ⟨rfl, rfl⟩ ⟨Nat.le_of_ble_eq_true rfl, Nat.le_of_ble_eq_true rfl⟩ hK hP hD hS hA [64, 65] XW_all_x TW_fst rfl 0 rfl rfl ⟨Nat.le_refl _, Nat.le_refl _⟩ dX4_clearBuffer_4 rfl hl.1 rfl (Nat.le_of_ble_eq_true rfl) (fun H locs hP hD hS => ?_)
  have hP : va_P (dC, dI) vwCl (XW cI cZ cO A Q fl un ut u0 u1 sv ((f_Tempty x).2) r) H := Eq.mp (congrArg (fun w => va_P (dC, dI) vwCl w H) XW_ks_x) hP
  exact kw_i hx hb hr hlk hP hS dX4_clearBuffer_7 rfl rfl
def rm_X4_firstError : Room := { frames := 4, cells := 0, slots := 0, locals := 89 }
theorem mi_X4_firstError : kM yX4_firstError wsX4_firstError cX4_firstError 1 (some .int) 0 := ⟨⟨_, rfl⟩, by decide, by decide, by decide +kernel⟩
set_option maxHeartbeats 1000000 in
set_option maxRecDepth 100000 in
theorem c_X4_firstError (l : Launch) (dC : Nat → ClassId) (dI : Nat → Nat → Nat) (cI cZ cO : ClassId) (A : Nat → Nat) (Q : Nat → Nat → Nat) (fl : (Nat → Int32)) (un : BS) (ut : BS) (u0 : BS) (u1 : BS) (sv : SS) (x : BS) (r : BS) (sz : Nat) : Met l yX4_firstError wsX4_firstError rm_X4_firstError (va_Pc [.ref (A 0)] (fun U => U.heap.size = sz ∧ va_P (dC, dI) vwCl (XW cI cZ cO A Q fl un ut u0 u1 sv x r) U.heap ∧ va_K (dC, dI) vwCl (TY cI cZ cO) U ∧ va_D (fun _ => True) (XW cI cZ cO A Q fl un ut u0 u1 sv x r))) (kQw (some (.int (f_XreadText fl un ut u0 u1 sv x r).1)) (dC, dI) vwCl (XW cI cZ cO A Q fl un ut u0 u1 sv x (f_XreadText fl un ut u0 u1 sv x r).2) (va_A (XW cI cZ cO A Q fl un ut u0 u1 sv x r) sz)) 0 0 (va_A (XW cI cZ cO A Q fl un ut u0 u1 sv x r) sz) := by
  refine kofW (cc := cX4_firstError) (maxL := 1) (ret := some .int) (by decide) rfl (Nat.le_of_ble_eq_true rfl) ?_
  intro p e s m args below meth c ls S hr hlk hnm hsz hP hK hD hS hA hl
  generalize hA0 : va_A (XW cI cZ cO A Q fl un ut u0 u1 sv x r) sz = A0 at hD hS hA ⊢
  subst hsz
  obtain ⟨hx, hb, hml, hown, hts⟩ := id S
  have hl : lv_has ls 1 [(0, .ref (A 0))] := hl
  refine lv_aload_n hx hb dX4_firstError_0 rfl (lv_at hl 0 rfl) ?_
  refine kc_w (As := []) (rest := []) S (v := (some (.int ((f_XreadText fl un ut u0 u1 sv x r).1)))) (c_X4_readText l dC dI cI cZ cO A Q fl un ut u0 u1 sv x r s.heap.size) gX4_firstError_X4_readText mi_X4_readText ⟨rfl, rfl⟩ ⟨Nat.le_of_ble_eq_true rfl, Nat.le_of_ble_eq_true rfl⟩ hK hP hD hS hA [0, 1, 2, 3, 4, 5, 6, 7, 8, 9, 10, 11, 12, 13, 14, 15, 16, 17, 18, 19, 20, 21, 22, 23, 24, 25, 26, 27, 28, 29, 30, 31, 32, 33, 34, 35, 36, 37, 38, 39, 40, 41, 42, 43, 44, 45, 46, 47, 48, 49, 50, 51, 52, 53, 54, 55, 56, 57, 58, 59, 60, 61, 62, 63, 64, 65, 66] XW_all XW_fst rfl 0 rfl rfl ⟨Nat.le_refl _, Nat.le_refl _⟩ dX4_firstError_1 rfl hl.1 rfl (Nat.le_of_ble_eq_true rfl) (fun H locs hP hD hS => ?_)
  have hP : va_P (dC, dI) vwCl (XW cI cZ cO A Q fl un ut u0 u1 sv x ((f_XreadText fl un ut u0 u1 sv x r).2)) H := Eq.mp (congrArg (fun w => va_P (dC, dI) vwCl w H) XW_ks) hP
  exact kw_i hx hb hr hlk hP hS dX4_firstError_4 rfl rfl

def rm_X2_size : Room := { frames := 0, cells := 0, slots := 0, locals := 0 }
theorem mi_X2_size : kM yX2_size wsX2_size cX2_size 1 (some .int) 0 := ⟨⟨_, rfl⟩, by decide, by decide, by decide +kernel⟩
def f_Ssize (sv : SS) : Int32 := nI sv.2.1
set_option maxHeartbeats 1000000 in
set_option maxRecDepth 100000 in
theorem c_X2_size (l : Launch) (dC : Nat → ClassId) (dI : Nat → Nat → Nat) (cI cZ cO : ClassId) (A : Nat → Nat) (Q : Nat → Nat → Nat) (sv : SS) : Met l yX2_size wsX2_size rm_X2_size (va_Pc [.ref (A 6)] (fun U => va_P (dC, dI) vwCl (SW cI cZ cO A Q sv) U.heap ∧ va_K (dC, dI) vwCl (TY cI cZ cO) U)) (kQ (some (.int (f_Ssize sv)))) 0 0 (fun _ => False) := by
  refine kofR (cc := cX2_size) (maxL := 1) (ret := some .int) (by decide) rfl (Nat.le_of_ble_eq_true rfl) ?_
  intro p e s m args below meth c ls S hr hlk hP hK hl
  obtain ⟨hx, hb, hml, hown, hts⟩ := id S
  have inX2 : ∀ w ∈ wsX20, w ∈ wsX2_size := fun w h => List.mem_cons_of_mem _ (List.mem_append_right _ h)
  have hl : lv_has ls 1 [(0, .ref (A 6))] := hl
  refine lv_aload_n hx hb dX2_size_0 rfl (lv_at hl 0 rfl) ?_
  refine va_get (D := (dC, dI)) (ci := 2) (v := .int (nI sv.2.1)) (C := RX2) (T := TX2) (N := 2) hx hb hts inX2 hown hK hP 0 rfl rfl 1 (by decide) (hts (.fieldLink RX2 18 "BoardMetronomes$SavedStates" "size" "I") (by decide +kernel)) (fun _ h9 => h9) rfl dX2_size_1 ?_
  have r1 : f_Ssize sv = nI sv.2.1 := by
    rw [f_Ssize]
  exact kr_i hx hb hr hlk dX2_size_4 r1.symm

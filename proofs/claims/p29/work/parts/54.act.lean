/-! one turn of the law: a call by the script -/
def rm_L_act : Room := { frames := 8, cells := 2, slots := 12, locals := 155 }
theorem mi_L_act : kM yL_act wsL_act cL_act 7 (some .int) 3 := ⟨⟨_, rfl⟩, by decide, by decide, by decide +kernel⟩
def f_act (fl : Nat → Int32) (un ut u0 u1 : BS) (sv : SS) (x r : BS) (n t : Nat) (a2 b2 : Int32) : Int32 × BS × SS :=
  if t ≤ 2 then hR (f_Xmetronome fl un ut u0 u1 sv x r (40 + f_low a2 169) (f_low b2 3600) (f_low (a2 + b2) 1000)) un sv else if t = 3 then (if n = 0 then ((-3 : Int32), un, sv) else hR (f_Xweigh fl un ut u0 u1 sv x r (f_low a2 (nI n)) (40 + f_low b2 169)) un sv) else if t ≤ 5 then (if n = 0 then ((-3 : Int32), un, sv) else hR (f_Xwind fl un ut u0 u1 sv x r (f_low a2 (nI n)) (f_low b2 30)) un sv) else if t = 6 then (if n = 0 then ((-3 : Int32), un, sv) else hR (f_Xhold fl un ut u0 u1 sv x r (f_low a2 (nI n))) un sv) else if t = 7 then (if f_low b2 2 = 0 then hR (f_Xtake fl un ut u0 u1 sv x r) un sv else f_Xstop fl un ut u0 u1 sv x r) else if t ≤ 12 then hR (f_Xrun fl un ut u0 u1 sv x r (1 + f_low a2 60)) un sv else if t = 13 then hR (f_Xset fl un ut u0 u1 sv x r 0 (f_low b2 96)) un sv else if t = 14 then hR (f_Xset fl un ut u0 u1 sv x r 1 (f_low b2 100)) un sv else if t = 15 then hR (f_Xset fl un ut u0 u1 sv x r 2 (f_low b2 901)) un sv else hR (f_Xundo fl un ut u0 u1 sv x r) un sv
theorem low_b {v : Int32} (q : Nat) (h0 : 0 < q) (hq : q < 2 ^ 31) : 0 ≤ (f_low v (nI q)).toInt ∧ (f_low v (nI q)).toInt ≤ (q : Int) - 1 := by
  obtain ⟨j, hj, e⟩ := low_N v h0 hq
  rw [e, nI_toInt (by omega)]
  omega
theorem low_s {v : Int32} (c q : Nat) (h0 : 0 < q) (hq : c + q < 2 ^ 31) : ∃ j, j < q ∧ nI c + f_low v (nI q) = nI (c + j) := by
  obtain ⟨j, hj, e⟩ := low_N v h0 (by omega)
  exact ⟨j, hj, by rw [e, nI_add]⟩
section ACT
variable {p : Program} {l : Launch} {e : Env} {s : State} {m : MethodId} {args : Array Value} {below : List Frame} {meth : Method} {c : Code} {dC : Nat → ClassId} {dI : Nat → Nat → Nat} {A0 : Nat → Prop}
  {cI cZ cO : ClassId} {A : Nat → Nat} {Qq : Nat → Nat → Nat} {fl : Nat → Int32} {un ut u0 u1 : BS} {sv : SS} {x r : BS} {n T K b : Nat} {a2 b2 v6 : Int32} {z : Int32 × BS × SS} {H : Heap} {locs : List Loc} {ls : Array Slot} {cells slots : Nat}
set_option maxRecDepth 100000 in
theorem act_128 (C : RC p l m c cL_act 7 s args wsL_act (dC, dI) cI cZ cO A0) (hr : meth.sig.returnType = some .int) (hlk : meth.locks = false) (hG : GI n un) (hWI : WI T un sv) (hz : hR (f_Xmetronome fl un ut u0 u1 sv x r (40 + f_low a2 169) (f_low b2 3600) (f_low (a2 + b2) 1000)) un sv = z) (hc1 : cells ≤ 1) (hc2 : slots ≤ 6) (hY : DY (dC, dI) (XW cI cZ cO A Qq fl un ut u0 u1 sv x r) A0 s H locs) (hl : lv_has ls 7 [(6, .int v6), (5, .int (nI n)), (4, .int b2), (3, .int a2), (0, .ref (A 0)), (1, .ref b), (2, .int (nI K))]) : W p l e rm_L_act s m args below meth c H locs cells slots (MQ below (kQw (some (.int z.1)) (dC, dI) vwCl (XW cI cZ cO A Qq fl z.2.1 ut u0 u1 z.2.2 x r) A0) args s 2 12 A0) (F0 m 128 ls []) := by
  obtain ⟨hx, hb, hml, hown, hts⟩ := id C.1
  have hn := GI_n hG
  have hS1 := hWI.2.1
  have hS2 := hWI.2.2.1
  obtain ⟨j1, hj1, ej1⟩ := low_s (v := a2) 40 169 (by omega) (by omega)
  have ej1' : (40 : Int32) + f_low a2 169 = nI (40 + j1) := ej1
  obtain ⟨j2, hj2, ej2⟩ := low_N b2 (q := 3600) (by omega) (by omega)
  have hb3 : 0 ≤ (f_low (a2 + b2) 1000).toInt ∧ (f_low (a2 + b2) 1000).toInt ≤ ((1000 : Nat) : Int) - 1 := low_b (v := a2 + b2) 1000 (by omega) (by omega)
  have hE : ∀ e9, f_Xmetronome fl un ut u0 u1 sv x r (40 + f_low a2 169) (f_low b2 3600) (f_low (a2 + b2) 1000) = .error e9 → e9 = (2, r) := fun e9 h9 => by
    rcases A_metronome (fl := fl) (ut := ut) (u0 := u0) (u1 := u1) (x := x) (r := r) hWI hG (b := 40 + f_low a2 169) (p := f_low b2 3600) (s := f_low (a2 + b2) 1000) (by rw [ej1', nI_toInt (by omega)]; omega) ⟨j2, hj2, ej2⟩ ⟨hb3.1, by have := hb3.2; omega⟩ with ⟨z9, h8, -⟩ | h8
    · rw [h8] at h9; cases h9
    · rw [h8] at h9; exact (Except.error.inj h9).symm
  refine lv_aload_n hx hb dL_act_128 rfl (lv_at hl 4 rfl) ?_
  refine lv_bipush (v := (40 : Int32)) hx hb dL_act_129 (by decide) ?_
  refine lv_iload_n hx hb dL_act_131 rfl (lv_at hl 3 rfl) ?_
  refine lv_sipush (v := (169 : Int32)) hx hb dL_act_132 (by decide) ?_
  refine kc_px (rest := [.int (40 : Int32), .ref (A 0)]) C.1 (c_L_low l (a2) ((169 : Int32)) (by decide)) gL_act_L_low mi_L_low ⟨rfl, rfl⟩ ⟨Nat.le_of_ble_eq_true rfl, Nat.le_of_ble_eq_true rfl⟩ ⟨by show _ ≤ (2 : Nat); omega, by show _ ≤ (12 : Nat); omega⟩ dL_act_135 rfl hl.1 rfl (Nat.le_of_ble_eq_true rfl) ?_
  refine lv_iadd hx hb dL_act_138 ?_
  refine lv_iload hx hb dL_act_139 (lv_at hl 2 rfl) ?_
  refine lv_sipush (v := (3600 : Int32)) hx hb dL_act_141 (by decide) ?_
  refine kc_px (rest := [.int ((40 : Int32) + (f_low (a2) ((169 : Int32)))), .ref (A 0)]) C.1 (c_L_low l (b2) ((3600 : Int32)) (by decide)) gL_act_L_low mi_L_low ⟨rfl, rfl⟩ ⟨Nat.le_of_ble_eq_true rfl, Nat.le_of_ble_eq_true rfl⟩ ⟨by show _ ≤ (2 : Nat); omega, by show _ ≤ (12 : Nat); omega⟩ dL_act_144 rfl hl.1 rfl (Nat.le_of_ble_eq_true rfl) ?_
  refine lv_iload_n hx hb dL_act_147 rfl (lv_at hl 3 rfl) ?_
  refine lv_iload hx hb dL_act_148 (lv_at hl 2 rfl) ?_
  refine lv_iadd hx hb dL_act_150 ?_
  refine lv_sipush (v := (1000 : Int32)) hx hb dL_act_151 (by decide) ?_
  refine kc_px (rest := [.int (f_low (b2) ((3600 : Int32))), .int ((40 : Int32) + (f_low (a2) ((169 : Int32)))), .ref (A 0)]) C.1 (c_L_low l ((a2 + b2)) ((1000 : Int32)) (by decide)) gL_act_L_low mi_L_low ⟨rfl, rfl⟩ ⟨Nat.le_of_ble_eq_true rfl, Nat.le_of_ble_eq_true rfl⟩ ⟨by show _ ≤ (2 : Nat); omega, by show _ ≤ (12 : Nat); omega⟩ dL_act_154 rfl hl.1 rfl (Nat.le_of_ble_eq_true rfl) ?_
  refine kc_swH (n := 4) (As := [.ref (A 0), .int (40 + f_low a2 169), .int (f_low b2 3600), .int (f_low (a2 + b2) 1000)]) (rest := []) C.1 (c_L_metronome l C.2.1 dC dI cI cZ cO A Qq fl un ut u0 u1 sv x r (40 + f_low a2 169) (f_low b2 3600) (f_low (a2 + b2) 1000) H.size hS1 hS2 hE) gL_act_L_metronome ⟨_, rfl⟩ ⟨by decide, by decide, by decide +kernel⟩ ⟨rfl, rfl⟩ ⟨Nat.le_of_ble_eq_true rfl, Nat.le_of_ble_eq_true rfl⟩ (C.xt hY) C.2.2.1 hY.1 hY.2.1 hY.2.2 C.2.2.2.2 _ XW_all XW_fst (by decide) ⟨by show _ ≤ (2 : Nat); omega, by show _ ≤ (12 : Nat); omega⟩ dL_act_157 rfl hl.1 rfl (Nat.le_of_ble_eq_true rfl) (fun H locs hP hD hS => ?_)
  rw [XW_ks] at hP
  refine W.widen (k := 2) (n := 12) (by omega) (by omega) ?_
  exact kw_i hx hb hr hlk hP hS dL_act_160 (by rw [← hz]) (by rw [← hz])
set_option maxRecDepth 100000 in
theorem act_161 (C : RC p l m c cL_act 7 s args wsL_act (dC, dI) cI cZ cO A0) (hr : meth.sig.returnType = some .int) (hlk : meth.locks = false) (hG : GI n un) (hWI : WI T un sv) (h6 : ¬ n = 0 → v6 = f_low a2 (nI n)) (hz : (if n = 0 then ((-3 : Int32), un, sv) else hR (f_Xweigh fl un ut u0 u1 sv x r (f_low a2 (nI n)) (40 + f_low b2 169)) un sv) = z) (hc1 : cells ≤ 1) (hc2 : slots ≤ 6) (hY : DY (dC, dI) (XW cI cZ cO A Qq fl un ut u0 u1 sv x r) A0 s H locs) (hl : lv_has ls 7 [(6, .int v6), (5, .int (nI n)), (4, .int b2), (3, .int a2), (0, .ref (A 0)), (1, .ref b), (2, .int (nI K))]) : W p l e rm_L_act s m args below meth c H locs cells slots (MQ below (kQw (some (.int z.1)) (dC, dI) vwCl (XW cI cZ cO A Qq fl z.2.1 ut u0 u1 z.2.2 x r) A0) args s 2 12 A0) (F0 m 161 ls []) := by
  obtain ⟨hx, hb, hml, hown, hts⟩ := id C.1
  have hn := GI_n hG
  have hS1 := hWI.2.1
  have hS2 := hWI.2.2.1
  refine lv_iload hx hb dL_act_161 (lv_at hl 1 rfl) ?_
  refine lv_if_ne (tgt := 171) hx hb dL_act_163 (by decide) (fun h0 => ?_) (fun h0 => ?_)
  · have hn0 : ¬ n = 0 := fun q => h0 (by rw [q]; rfl)
    rw [if_neg hn0] at hz
    rw [h6 hn0] at hl
    obtain ⟨jn, hjn, ejn⟩ := low_N a2 (q := n) (by omega) (by omega)
    obtain ⟨j1, hj1, ej1⟩ := low_s (v := b2) 40 169 (by omega) (by omega)
    have ej1' : (40 : Int32) + f_low b2 169 = nI (40 + j1) := ej1
    obtain ⟨z9, hz9, -⟩ := A_weigh (fl := fl) (ut := ut) (u0 := u0) (u1 := u1) (x := x) (r := r) hWI hG hjn (b := 40 + f_low b2 169) (by rw [ej1', nI_toInt (by omega)]; omega)
    have hz8 : f_Xweigh fl un ut u0 u1 sv x r (f_low a2 (nI n)) (40 + f_low b2 169) = .ok z9 := by rw [ejn]; exact hz9
    refine lv_aload_n hx hb dL_act_171 rfl (lv_at hl 4 rfl) ?_
    refine lv_iload hx hb dL_act_172 (lv_at hl 0 rfl) ?_
    refine lv_bipush (v := (40 : Int32)) hx hb dL_act_174 (by decide) ?_
    refine lv_iload hx hb dL_act_176 (lv_at hl 2 rfl) ?_
    refine lv_sipush (v := (169 : Int32)) hx hb dL_act_178 (by decide) ?_
    refine kc_px (rest := [.int (40 : Int32), .int (f_low a2 (nI n)), .ref (A 0)]) C.1 (c_L_low l (b2) ((169 : Int32)) (by decide)) gL_act_L_low mi_L_low ⟨rfl, rfl⟩ ⟨Nat.le_of_ble_eq_true rfl, Nat.le_of_ble_eq_true rfl⟩ ⟨by show _ ≤ (2 : Nat); omega, by show _ ≤ (12 : Nat); omega⟩ dL_act_181 rfl hl.1 rfl (Nat.le_of_ble_eq_true rfl) ?_
    refine lv_iadd hx hb dL_act_184 ?_
    refine kx_k (F := f_Xweigh fl un ut u0 u1 sv x r (f_low a2 (nI n)) (40 + f_low b2 169)) (ans := fun z => z.1) (W1 := fun z => XW cI cZ cO A Qq fl z.2.1 ut u0 u1 z.2.2 x r) (Wf := fun r1 => XW cI cZ cO A Qq fl un ut u0 u1 sv x r1) (wc := XW cI cZ cO A Qq fl un ut u0 u1 sv x r) (As := [.int (f_low a2 (nI n)), .int (40 + f_low b2 169)]) (rest := []) C.1 (c_X4_weigh l C.2.1 dC dI cI cZ cO A Qq fl un ut u0 u1 sv x r (f_low a2 (nI n)) (40 + f_low b2 169) H.size hS1 hS2) hz8 rfl XW_ks gL_act_X4_weigh mi_X4_weigh ⟨rfl, rfl⟩ ⟨Nat.le_of_ble_eq_true rfl, Nat.le_of_ble_eq_true rfl⟩ (C.xt hY) C.2.2.1 hY.1 hY.2.1 hY.2.2 C.2.2.2.2 XW_all (fun _ => XW_fst) (fun _ => XW_fst) (by decide) 0 rfl rfl ⟨by show _ ≤ (2 : Nat); omega, by show _ ≤ (12 : Nat); omega⟩ dL_act_185 rfl hl.1 rfl (Nat.le_of_ble_eq_true rfl) (fun H locs hP hD hS => ?_)
    refine W.widen (k := 2) (n := 12) (by omega) (by omega) ?_
    exact kw_i hx hb hr hlk hP hS dL_act_188 (by rw [← hz, hz8]; rfl) (by rw [← hz, hz8]; rfl)
  · have hn0 : n = 0 := (nI_eq (b := 0) (by omega) (by omega)).mp h0
    rw [if_pos hn0] at hz
    refine lv_bipush (v := ((-3) : Int32)) hx hb dL_act_166 (by decide) ?_
    refine lv_goto (tgt := 188) hx hb dL_act_168 (by decide) ?_
    obtain ⟨hP, hD, hS⟩ := hY
    refine W.widen (k := 2) (n := 12) (by omega) (by omega) ?_
    exact kw_i hx hb hr hlk hP hS dL_act_188 (by rw [← hz]) (by rw [← hz])
set_option maxRecDepth 100000 in
theorem act_189 (C : RC p l m c cL_act 7 s args wsL_act (dC, dI) cI cZ cO A0) (hr : meth.sig.returnType = some .int) (hlk : meth.locks = false) (hG : GI n un) (hWI : WI T un sv) (h6 : ¬ n = 0 → v6 = f_low a2 (nI n)) (hz : (if n = 0 then ((-3 : Int32), un, sv) else hR (f_Xwind fl un ut u0 u1 sv x r (f_low a2 (nI n)) (f_low b2 30)) un sv) = z) (hc1 : cells ≤ 1) (hc2 : slots ≤ 6) (hY : DY (dC, dI) (XW cI cZ cO A Qq fl un ut u0 u1 sv x r) A0 s H locs) (hl : lv_has ls 7 [(6, .int v6), (5, .int (nI n)), (4, .int b2), (3, .int a2), (0, .ref (A 0)), (1, .ref b), (2, .int (nI K))]) : W p l e rm_L_act s m args below meth c H locs cells slots (MQ below (kQw (some (.int z.1)) (dC, dI) vwCl (XW cI cZ cO A Qq fl z.2.1 ut u0 u1 z.2.2 x r) A0) args s 2 12 A0) (F0 m 189 ls []) := by
  obtain ⟨hx, hb, hml, hown, hts⟩ := id C.1
  have hn := GI_n hG
  have hS1 := hWI.2.1
  have hS2 := hWI.2.2.1
  refine lv_iload hx hb dL_act_189 (lv_at hl 1 rfl) ?_
  refine lv_if_ne (tgt := 199) hx hb dL_act_191 (by decide) (fun h0 => ?_) (fun h0 => ?_)
  · have hn0 : ¬ n = 0 := fun q => h0 (by rw [q]; rfl)
    rw [if_neg hn0] at hz
    rw [h6 hn0] at hl
    obtain ⟨jn, hjn, ejn⟩ := low_N a2 (q := n) (by omega) (by omega)
    have hb3 : 0 ≤ (f_low b2 30).toInt ∧ (f_low b2 30).toInt ≤ ((30 : Nat) : Int) - 1 := low_b (v := b2) 30 (by omega) (by omega)
    obtain ⟨z9, hz9, -⟩ := A_wind (fl := fl) (ut := ut) (u0 := u0) (u1 := u1) (x := x) (r := r) hWI hG hjn (b := f_low b2 30) ⟨hb3.1, by have := hb3.2; omega⟩
    have hz8 : f_Xwind fl un ut u0 u1 sv x r (f_low a2 (nI n)) (f_low b2 30) = .ok z9 := by rw [ejn]; exact hz9
    refine lv_aload_n hx hb dL_act_199 rfl (lv_at hl 4 rfl) ?_
    refine lv_iload hx hb dL_act_200 (lv_at hl 0 rfl) ?_
    refine lv_iload hx hb dL_act_202 (lv_at hl 2 rfl) ?_
    refine lv_bipush (v := (30 : Int32)) hx hb dL_act_204 (by decide) ?_
    refine kc_px (rest := [.int (f_low a2 (nI n)), .ref (A 0)]) C.1 (c_L_low l (b2) ((30 : Int32)) (by decide)) gL_act_L_low mi_L_low ⟨rfl, rfl⟩ ⟨Nat.le_of_ble_eq_true rfl, Nat.le_of_ble_eq_true rfl⟩ ⟨by show _ ≤ (2 : Nat); omega, by show _ ≤ (12 : Nat); omega⟩ dL_act_206 rfl hl.1 rfl (Nat.le_of_ble_eq_true rfl) ?_
    refine kx_k (F := f_Xwind fl un ut u0 u1 sv x r (f_low a2 (nI n)) (f_low b2 30)) (ans := fun z => z.1) (W1 := fun z => XW cI cZ cO A Qq fl z.2.1 ut u0 u1 z.2.2 x r) (Wf := fun r1 => XW cI cZ cO A Qq fl un ut u0 u1 sv x r1) (wc := XW cI cZ cO A Qq fl un ut u0 u1 sv x r) (As := [.int (f_low a2 (nI n)), .int (f_low b2 30)]) (rest := []) C.1 (c_X4_wind l C.2.1 dC dI cI cZ cO A Qq fl un ut u0 u1 sv x r (f_low a2 (nI n)) (f_low b2 30) H.size hS1 hS2) hz8 rfl XW_ks gL_act_X4_wind mi_X4_wind ⟨rfl, rfl⟩ ⟨Nat.le_of_ble_eq_true rfl, Nat.le_of_ble_eq_true rfl⟩ (C.xt hY) C.2.2.1 hY.1 hY.2.1 hY.2.2 C.2.2.2.2 XW_all (fun _ => XW_fst) (fun _ => XW_fst) (by decide) 0 rfl rfl ⟨by show _ ≤ (2 : Nat); omega, by show _ ≤ (12 : Nat); omega⟩ dL_act_209 rfl hl.1 rfl (Nat.le_of_ble_eq_true rfl) (fun H locs hP hD hS => ?_)
    refine W.widen (k := 2) (n := 12) (by omega) (by omega) ?_
    exact kw_i hx hb hr hlk hP hS dL_act_212 (by rw [← hz, hz8]; rfl) (by rw [← hz, hz8]; rfl)
  · have hn0 : n = 0 := (nI_eq (b := 0) (by omega) (by omega)).mp h0
    rw [if_pos hn0] at hz
    refine lv_bipush (v := ((-3) : Int32)) hx hb dL_act_194 (by decide) ?_
    refine lv_goto (tgt := 212) hx hb dL_act_196 (by decide) ?_
    obtain ⟨hP, hD, hS⟩ := hY
    refine W.widen (k := 2) (n := 12) (by omega) (by omega) ?_
    exact kw_i hx hb hr hlk hP hS dL_act_212 (by rw [← hz]) (by rw [← hz])
set_option maxRecDepth 100000 in
theorem act_213 (C : RC p l m c cL_act 7 s args wsL_act (dC, dI) cI cZ cO A0) (hr : meth.sig.returnType = some .int) (hlk : meth.locks = false) (hG : GI n un) (hWI : WI T un sv) (h6 : ¬ n = 0 → v6 = f_low a2 (nI n)) (hz : (if n = 0 then ((-3 : Int32), un, sv) else hR (f_Xhold fl un ut u0 u1 sv x r (f_low a2 (nI n))) un sv) = z) (hc1 : cells ≤ 1) (hc2 : slots ≤ 6) (hY : DY (dC, dI) (XW cI cZ cO A Qq fl un ut u0 u1 sv x r) A0 s H locs) (hl : lv_has ls 7 [(6, .int v6), (5, .int (nI n)), (4, .int b2), (3, .int a2), (0, .ref (A 0)), (1, .ref b), (2, .int (nI K))]) : W p l e rm_L_act s m args below meth c H locs cells slots (MQ below (kQw (some (.int z.1)) (dC, dI) vwCl (XW cI cZ cO A Qq fl z.2.1 ut u0 u1 z.2.2 x r) A0) args s 2 12 A0) (F0 m 213 ls []) := by
  obtain ⟨hx, hb, hml, hown, hts⟩ := id C.1
  have hn := GI_n hG
  have hS1 := hWI.2.1
  have hS2 := hWI.2.2.1
  refine lv_iload hx hb dL_act_213 (lv_at hl 1 rfl) ?_
  refine lv_if_ne (tgt := 223) hx hb dL_act_215 (by decide) (fun h0 => ?_) (fun h0 => ?_)
  · have hn0 : ¬ n = 0 := fun q => h0 (by rw [q]; rfl)
    rw [if_neg hn0] at hz
    rw [h6 hn0] at hl
    obtain ⟨jn, hjn, ejn⟩ := low_N a2 (q := n) (by omega) (by omega)
    obtain ⟨z9, hz9, -⟩ := A_hold (fl := fl) (ut := ut) (u0 := u0) (u1 := u1) (x := x) (r := r) hWI hG hjn
    have hz8 : f_Xhold fl un ut u0 u1 sv x r (f_low a2 (nI n)) = .ok z9 := by rw [ejn]; exact hz9
    refine lv_aload_n hx hb dL_act_223 rfl (lv_at hl 4 rfl) ?_
    refine lv_iload hx hb dL_act_224 (lv_at hl 0 rfl) ?_
    refine kx_k (F := f_Xhold fl un ut u0 u1 sv x r (f_low a2 (nI n))) (ans := fun z => z.1) (W1 := fun z => XW cI cZ cO A Qq fl z.2.1 ut u0 u1 z.2.2 x r) (Wf := fun r1 => XW cI cZ cO A Qq fl un ut u0 u1 sv x r1) (wc := XW cI cZ cO A Qq fl un ut u0 u1 sv x r) (As := [.int (f_low a2 (nI n))]) (rest := []) C.1 (c_X4_hold l C.2.1 dC dI cI cZ cO A Qq fl un ut u0 u1 sv x r (f_low a2 (nI n)) H.size hS1 hS2) hz8 rfl XW_ks gL_act_X4_hold mi_X4_hold ⟨rfl, rfl⟩ ⟨Nat.le_of_ble_eq_true rfl, Nat.le_of_ble_eq_true rfl⟩ (C.xt hY) C.2.2.1 hY.1 hY.2.1 hY.2.2 C.2.2.2.2 XW_all (fun _ => XW_fst) (fun _ => XW_fst) (by decide) 0 rfl rfl ⟨by show _ ≤ (2 : Nat); omega, by show _ ≤ (12 : Nat); omega⟩ dL_act_226 rfl hl.1 rfl (Nat.le_of_ble_eq_true rfl) (fun H locs hP hD hS => ?_)
    refine W.widen (k := 2) (n := 12) (by omega) (by omega) ?_
    exact kw_i hx hb hr hlk hP hS dL_act_229 (by rw [← hz, hz8]; rfl) (by rw [← hz, hz8]; rfl)
  · have hn0 : n = 0 := (nI_eq (b := 0) (by omega) (by omega)).mp h0
    rw [if_pos hn0] at hz
    refine lv_bipush (v := ((-3) : Int32)) hx hb dL_act_218 (by decide) ?_
    refine lv_goto (tgt := 229) hx hb dL_act_220 (by decide) ?_
    obtain ⟨hP, hD, hS⟩ := hY
    refine W.widen (k := 2) (n := 12) (by omega) (by omega) ?_
    exact kw_i hx hb hr hlk hP hS dL_act_229 (by rw [← hz]) (by rw [← hz])
set_option maxRecDepth 100000 in
theorem act_230 (C : RC p l m c cL_act 7 s args wsL_act (dC, dI) cI cZ cO A0) (hr : meth.sig.returnType = some .int) (hlk : meth.locks = false) (hG : GI n un) (hWI : WI T un sv) (hz : (if f_low b2 2 = 0 then hR (f_Xtake fl un ut u0 u1 sv x r) un sv else f_Xstop fl un ut u0 u1 sv x r) = z) (hc1 : cells ≤ 1) (hc2 : slots ≤ 6) (hY : DY (dC, dI) (XW cI cZ cO A Qq fl un ut u0 u1 sv x r) A0 s H locs) (hl : lv_has ls 7 [(6, .int v6), (5, .int (nI n)), (4, .int b2), (3, .int a2), (0, .ref (A 0)), (1, .ref b), (2, .int (nI K))]) : W p l e rm_L_act s m args below meth c H locs cells slots (MQ below (kQw (some (.int z.1)) (dC, dI) vwCl (XW cI cZ cO A Qq fl z.2.1 ut u0 u1 z.2.2 x r) A0) args s 2 12 A0) (F0 m 230 ls []) := by
  obtain ⟨hx, hb, hml, hown, hts⟩ := id C.1
  have hn := GI_n hG
  have hS1 := hWI.2.1
  have hS2 := hWI.2.2.1
  refine lv_iload hx hb dL_act_230 (lv_at hl 2 rfl) ?_
  refine lv_iconst (v := (2 : Int32)) hx hb dL_act_232 (by decide) ?_
  refine kc_px (rest := []) C.1 (c_L_low l (b2) ((2 : Int32)) (by decide)) gL_act_L_low mi_L_low ⟨rfl, rfl⟩ ⟨Nat.le_of_ble_eq_true rfl, Nat.le_of_ble_eq_true rfl⟩ ⟨by show _ ≤ (2 : Nat); omega, by show _ ≤ (12 : Nat); omega⟩ dL_act_233 rfl hl.1 rfl (Nat.le_of_ble_eq_true rfl) ?_
  refine lv_if_ne (tgt := 246) hx hb dL_act_236 (by decide) (fun h0 => ?_) (fun h0 => ?_)
  · rw [if_neg h0] at hz
    refine lv_aload_n hx hb dL_act_246 rfl (lv_at hl 4 rfl) ?_
    refine kc_w (As := []) (rest := []) C.1 (c_X4_stop l dC dI cI cZ cO A Qq fl un ut u0 u1 sv x r H.size hS1 hS2) gL_act_X4_stop mi_X4_stop ⟨rfl, rfl⟩ ⟨Nat.le_of_ble_eq_true rfl, Nat.le_of_ble_eq_true rfl⟩ C.2.2.1 hY.1 hY.2.1 hY.2.2 C.2.2.2.2 _ XW_all XW_fst (by decide) 0 rfl rfl ⟨by show _ ≤ (2 : Nat); omega, by show _ ≤ (12 : Nat); omega⟩ dL_act_247 rfl hl.1 rfl (Nat.le_of_ble_eq_true rfl) (fun H locs hP hD hS => ?_)
    rw [XW_ks] at hP
    refine W.widen (k := 2) (n := 12) (by omega) (by omega) ?_
    exact kw_i hx hb hr hlk hP hS dL_act_250 (by rw [← hz]) (by rw [← hz])
  · rw [if_pos h0] at hz
    have hE : ∀ e9, f_Xtake fl un ut u0 u1 sv x r = .error e9 → e9 = (2, r) := fun e9 h9 => by
      rcases A_take (fl := fl) (ut := ut) (u0 := u0) (u1 := u1) (x := x) (r := r) hWI hG with ⟨z9, h8, -⟩ | h8
      · rw [h8] at h9; cases h9
      · rw [h8] at h9; exact (Except.error.inj h9).symm
    refine lv_aload_n hx hb dL_act_239 rfl (lv_at hl 4 rfl) ?_
    refine kc_swH (n := 1) (As := [.ref (A 0)]) (rest := []) C.1 (c_L_take l C.2.1 dC dI cI cZ cO A Qq fl un ut u0 u1 sv x r  H.size hS1 hS2 hE) gL_act_L_take ⟨_, rfl⟩ ⟨by decide, by decide, by decide +kernel⟩ ⟨rfl, rfl⟩ ⟨Nat.le_of_ble_eq_true rfl, Nat.le_of_ble_eq_true rfl⟩ (C.xt hY) C.2.2.1 hY.1 hY.2.1 hY.2.2 C.2.2.2.2 _ XW_all XW_fst (by decide) ⟨by show _ ≤ (2 : Nat); omega, by show _ ≤ (12 : Nat); omega⟩ dL_act_240 rfl hl.1 rfl (Nat.le_of_ble_eq_true rfl) (fun H locs hP hD hS => ?_)
    rw [XW_ks] at hP
    refine lv_goto (tgt := 250) hx hb dL_act_243 (by decide) ?_
    refine W.widen (k := 2) (n := 12) (by omega) (by omega) ?_
    exact kw_i hx hb hr hlk hP hS dL_act_250 (by rw [← hz]) (by rw [← hz])
set_option maxRecDepth 100000 in
theorem act_251 (C : RC p l m c cL_act 7 s args wsL_act (dC, dI) cI cZ cO A0) (hr : meth.sig.returnType = some .int) (hlk : meth.locks = false) (hG : GI n un) (hWI : WI T un sv) (hT : T ≤ 100) (hz : hR (f_Xrun fl un ut u0 u1 sv x r (1 + f_low a2 60)) un sv = z) (hc1 : cells ≤ 1) (hc2 : slots ≤ 6) (hY : DY (dC, dI) (XW cI cZ cO A Qq fl un ut u0 u1 sv x r) A0 s H locs) (hl : lv_has ls 7 [(6, .int v6), (5, .int (nI n)), (4, .int b2), (3, .int a2), (0, .ref (A 0)), (1, .ref b), (2, .int (nI K))]) : W p l e rm_L_act s m args below meth c H locs cells slots (MQ below (kQw (some (.int z.1)) (dC, dI) vwCl (XW cI cZ cO A Qq fl z.2.1 ut u0 u1 z.2.2 x r) A0) args s 2 12 A0) (F0 m 251 ls []) := by
  obtain ⟨hx, hb, hml, hown, hts⟩ := id C.1
  have hn := GI_n hG
  have hS1 := hWI.2.1
  have hS2 := hWI.2.2.1
  obtain ⟨j1, hj1, ej1⟩ := low_s (v := a2) 1 60 (by omega) (by omega)
  have ej1' : (1 : Int32) + f_low a2 60 = nI (1 + j1) := ej1
  have hrun := (A_run (fl := fl) (ut := ut) (u0 := u0) (u1 := u1) (x := x) (r := r) hWI hT hG (q := 1 + j1) (by omega) (by omega)).1
  have hz8 : f_Xrun fl un ut u0 u1 sv x r (1 + f_low a2 60) = .ok ((f_letGoBy un (nI (1 + j1))).1, (f_letGoBy un (nI (1 + j1))).2, f_Spush sv.1 sv.2.1 sv.2.2 un) := by rw [ej1']; exact hrun
  generalize ((f_letGoBy un (nI (1 + j1))).1, (f_letGoBy un (nI (1 + j1))).2, f_Spush sv.1 sv.2.1 sv.2.2 un) = z9 at hz8
  refine lv_aload_n hx hb dL_act_251 rfl (lv_at hl 4 rfl) ?_
  refine lv_iconst (v := (1 : Int32)) hx hb dL_act_252 (by decide) ?_
  refine lv_iload_n hx hb dL_act_253 rfl (lv_at hl 3 rfl) ?_
  refine lv_bipush (v := (60 : Int32)) hx hb dL_act_254 (by decide) ?_
  refine kc_px (rest := [.int (1 : Int32), .ref (A 0)]) C.1 (c_L_low l (a2) ((60 : Int32)) (by decide)) gL_act_L_low mi_L_low ⟨rfl, rfl⟩ ⟨Nat.le_of_ble_eq_true rfl, Nat.le_of_ble_eq_true rfl⟩ ⟨by show _ ≤ (2 : Nat); omega, by show _ ≤ (12 : Nat); omega⟩ dL_act_256 rfl hl.1 rfl (Nat.le_of_ble_eq_true rfl) ?_
  refine lv_iadd hx hb dL_act_259 ?_
  refine kx_k (F := f_Xrun fl un ut u0 u1 sv x r (1 + f_low a2 60)) (ans := fun z => z.1) (W1 := fun z => XW cI cZ cO A Qq fl z.2.1 ut u0 u1 z.2.2 x r) (Wf := fun r1 => XW cI cZ cO A Qq fl un ut u0 u1 sv x r1) (wc := XW cI cZ cO A Qq fl un ut u0 u1 sv x r) (As := [.int (1 + f_low a2 60)]) (rest := []) C.1 (c_X4_run l C.2.1 dC dI cI cZ cO A Qq fl un ut u0 u1 sv x r (1 + f_low a2 60) H.size hS1 hS2) hz8 rfl XW_ks gL_act_X4_run mi_X4_run ⟨rfl, rfl⟩ ⟨Nat.le_of_ble_eq_true rfl, Nat.le_of_ble_eq_true rfl⟩ (C.xt hY) C.2.2.1 hY.1 hY.2.1 hY.2.2 C.2.2.2.2 XW_all (fun _ => XW_fst) (fun _ => XW_fst) (by decide) 0 rfl rfl ⟨by show _ ≤ (2 : Nat); omega, by show _ ≤ (12 : Nat); omega⟩ dL_act_260 rfl hl.1 rfl (Nat.le_of_ble_eq_true rfl) (fun H locs hP hD hS => ?_)
  refine W.widen (k := 2) (n := 12) (by omega) (by omega) ?_
  exact kw_i hx hb hr hlk hP hS dL_act_263 (by rw [← hz, hz8]; rfl) (by rw [← hz, hz8]; rfl)
set_option maxRecDepth 100000 in
theorem act_264 (C : RC p l m c cL_act 7 s args wsL_act (dC, dI) cI cZ cO A0) (hr : meth.sig.returnType = some .int) (hlk : meth.locks = false) (hG : GI n un) (hWI : WI T un sv) (hz : hR (f_Xset fl un ut u0 u1 sv x r 0 (f_low b2 96)) un sv = z) (hc1 : cells ≤ 1) (hc2 : slots ≤ 6) (hY : DY (dC, dI) (XW cI cZ cO A Qq fl un ut u0 u1 sv x r) A0 s H locs) (hl : lv_has ls 7 [(6, .int v6), (5, .int (nI n)), (4, .int b2), (3, .int a2), (0, .ref (A 0)), (1, .ref b), (2, .int (nI K))]) : W p l e rm_L_act s m args below meth c H locs cells slots (MQ below (kQw (some (.int z.1)) (dC, dI) vwCl (XW cI cZ cO A Qq fl z.2.1 ut u0 u1 z.2.2 x r) A0) args s 2 12 A0) (F0 m 264 ls []) := by
  obtain ⟨hx, hb, hml, hown, hts⟩ := id C.1
  have hn := GI_n hG
  have hS1 := hWI.2.1
  have hS2 := hWI.2.2.1
  have hb3 : 0 ≤ (f_low b2 96).toInt ∧ (f_low b2 96).toInt ≤ ((96 : Nat) : Int) - 1 := low_b (v := b2) 96 (by omega) (by omega)
  obtain ⟨z9, hz9, -⟩ := A_set (fl := fl) (ut := ut) (u0 := u0) (u1 := u1) (x := x) (r := r) hWI (w := f_low b2 96) (q := 0) (.inl ⟨rfl, hb3.1, by have := hb3.2; omega⟩)
  have hz8 : f_Xset fl un ut u0 u1 sv x r 0 (f_low b2 96) = .ok z9 := hz9
  refine lv_aload_n hx hb dL_act_264 rfl (lv_at hl 4 rfl) ?_
  refine lv_iconst (v := (0 : Int32)) hx hb dL_act_265 (by decide) ?_
  refine lv_iload hx hb dL_act_266 (lv_at hl 2 rfl) ?_
  refine lv_bipush (v := (96 : Int32)) hx hb dL_act_268 (by decide) ?_
  refine kc_px (rest := [.int (0 : Int32), .ref (A 0)]) C.1 (c_L_low l (b2) ((96 : Int32)) (by decide)) gL_act_L_low mi_L_low ⟨rfl, rfl⟩ ⟨Nat.le_of_ble_eq_true rfl, Nat.le_of_ble_eq_true rfl⟩ ⟨by show _ ≤ (2 : Nat); omega, by show _ ≤ (12 : Nat); omega⟩ dL_act_270 rfl hl.1 rfl (Nat.le_of_ble_eq_true rfl) ?_
  refine kx_k (F := f_Xset fl un ut u0 u1 sv x r (0) (f_low b2 96)) (ans := fun z => z.1) (W1 := fun z => XW cI cZ cO A Qq fl z.2.1 ut u0 u1 z.2.2 x r) (Wf := fun r1 => XW cI cZ cO A Qq fl un ut u0 u1 sv x r1) (wc := XW cI cZ cO A Qq fl un ut u0 u1 sv x r) (As := [.int (0), .int (f_low b2 96)]) (rest := []) C.1 (c_X4_set l C.2.1 dC dI cI cZ cO A Qq fl un ut u0 u1 sv x r (0) (f_low b2 96) H.size hS1 hS2) hz8 rfl XW_ks gL_act_X4_set mi_X4_set ⟨rfl, rfl⟩ ⟨Nat.le_of_ble_eq_true rfl, Nat.le_of_ble_eq_true rfl⟩ (C.xt hY) C.2.2.1 hY.1 hY.2.1 hY.2.2 C.2.2.2.2 XW_all (fun _ => XW_fst) (fun _ => XW_fst) (by decide) 0 rfl rfl ⟨by show _ ≤ (2 : Nat); omega, by show _ ≤ (12 : Nat); omega⟩ dL_act_273 rfl hl.1 rfl (Nat.le_of_ble_eq_true rfl) (fun H locs hP hD hS => ?_)
  refine W.widen (k := 2) (n := 12) (by omega) (by omega) ?_
  exact kw_i hx hb hr hlk hP hS dL_act_276 (by rw [← hz, hz8]; rfl) (by rw [← hz, hz8]; rfl)
set_option maxRecDepth 100000 in
theorem act_277 (C : RC p l m c cL_act 7 s args wsL_act (dC, dI) cI cZ cO A0) (hr : meth.sig.returnType = some .int) (hlk : meth.locks = false) (hG : GI n un) (hWI : WI T un sv) (hz : hR (f_Xset fl un ut u0 u1 sv x r 1 (f_low b2 100)) un sv = z) (hc1 : cells ≤ 1) (hc2 : slots ≤ 6) (hY : DY (dC, dI) (XW cI cZ cO A Qq fl un ut u0 u1 sv x r) A0 s H locs) (hl : lv_has ls 7 [(6, .int v6), (5, .int (nI n)), (4, .int b2), (3, .int a2), (0, .ref (A 0)), (1, .ref b), (2, .int (nI K))]) : W p l e rm_L_act s m args below meth c H locs cells slots (MQ below (kQw (some (.int z.1)) (dC, dI) vwCl (XW cI cZ cO A Qq fl z.2.1 ut u0 u1 z.2.2 x r) A0) args s 2 12 A0) (F0 m 277 ls []) := by
  obtain ⟨hx, hb, hml, hown, hts⟩ := id C.1
  have hn := GI_n hG
  have hS1 := hWI.2.1
  have hS2 := hWI.2.2.1
  have hb3 : 0 ≤ (f_low b2 100).toInt ∧ (f_low b2 100).toInt ≤ ((100 : Nat) : Int) - 1 := low_b (v := b2) 100 (by omega) (by omega)
  obtain ⟨z9, hz9, -⟩ := A_set (fl := fl) (ut := ut) (u0 := u0) (u1 := u1) (x := x) (r := r) hWI (w := f_low b2 100) (q := 1) (.inr (.inl ⟨rfl, hb3.1, by have := hb3.2; omega⟩))
  have hz8 : f_Xset fl un ut u0 u1 sv x r 1 (f_low b2 100) = .ok z9 := hz9
  refine lv_aload_n hx hb dL_act_277 rfl (lv_at hl 4 rfl) ?_
  refine lv_iconst (v := (1 : Int32)) hx hb dL_act_278 (by decide) ?_
  refine lv_iload hx hb dL_act_279 (lv_at hl 2 rfl) ?_
  refine lv_bipush (v := (100 : Int32)) hx hb dL_act_281 (by decide) ?_
  refine kc_px (rest := [.int (1 : Int32), .ref (A 0)]) C.1 (c_L_low l (b2) ((100 : Int32)) (by decide)) gL_act_L_low mi_L_low ⟨rfl, rfl⟩ ⟨Nat.le_of_ble_eq_true rfl, Nat.le_of_ble_eq_true rfl⟩ ⟨by show _ ≤ (2 : Nat); omega, by show _ ≤ (12 : Nat); omega⟩ dL_act_283 rfl hl.1 rfl (Nat.le_of_ble_eq_true rfl) ?_
  refine kx_k (F := f_Xset fl un ut u0 u1 sv x r (1) (f_low b2 100)) (ans := fun z => z.1) (W1 := fun z => XW cI cZ cO A Qq fl z.2.1 ut u0 u1 z.2.2 x r) (Wf := fun r1 => XW cI cZ cO A Qq fl un ut u0 u1 sv x r1) (wc := XW cI cZ cO A Qq fl un ut u0 u1 sv x r) (As := [.int (1), .int (f_low b2 100)]) (rest := []) C.1 (c_X4_set l C.2.1 dC dI cI cZ cO A Qq fl un ut u0 u1 sv x r (1) (f_low b2 100) H.size hS1 hS2) hz8 rfl XW_ks gL_act_X4_set mi_X4_set ⟨rfl, rfl⟩ ⟨Nat.le_of_ble_eq_true rfl, Nat.le_of_ble_eq_true rfl⟩ (C.xt hY) C.2.2.1 hY.1 hY.2.1 hY.2.2 C.2.2.2.2 XW_all (fun _ => XW_fst) (fun _ => XW_fst) (by decide) 0 rfl rfl ⟨by show _ ≤ (2 : Nat); omega, by show _ ≤ (12 : Nat); omega⟩ dL_act_286 rfl hl.1 rfl (Nat.le_of_ble_eq_true rfl) (fun H locs hP hD hS => ?_)
  refine W.widen (k := 2) (n := 12) (by omega) (by omega) ?_
  exact kw_i hx hb hr hlk hP hS dL_act_289 (by rw [← hz, hz8]; rfl) (by rw [← hz, hz8]; rfl)
set_option maxRecDepth 100000 in
theorem act_290 (C : RC p l m c cL_act 7 s args wsL_act (dC, dI) cI cZ cO A0) (hr : meth.sig.returnType = some .int) (hlk : meth.locks = false) (hG : GI n un) (hWI : WI T un sv) (hz : hR (f_Xset fl un ut u0 u1 sv x r 2 (f_low b2 901)) un sv = z) (hc1 : cells ≤ 1) (hc2 : slots ≤ 6) (hY : DY (dC, dI) (XW cI cZ cO A Qq fl un ut u0 u1 sv x r) A0 s H locs) (hl : lv_has ls 7 [(6, .int v6), (5, .int (nI n)), (4, .int b2), (3, .int a2), (0, .ref (A 0)), (1, .ref b), (2, .int (nI K))]) : W p l e rm_L_act s m args below meth c H locs cells slots (MQ below (kQw (some (.int z.1)) (dC, dI) vwCl (XW cI cZ cO A Qq fl z.2.1 ut u0 u1 z.2.2 x r) A0) args s 2 12 A0) (F0 m 290 ls []) := by
  obtain ⟨hx, hb, hml, hown, hts⟩ := id C.1
  have hn := GI_n hG
  have hS1 := hWI.2.1
  have hS2 := hWI.2.2.1
  have hb3 : 0 ≤ (f_low b2 901).toInt ∧ (f_low b2 901).toInt ≤ ((901 : Nat) : Int) - 1 := low_b (v := b2) 901 (by omega) (by omega)
  obtain ⟨z9, hz9, -⟩ := A_set (fl := fl) (ut := ut) (u0 := u0) (u1 := u1) (x := x) (r := r) hWI (w := f_low b2 901) (q := 2) (.inr (.inr ⟨rfl, hb3.1, by have := hb3.2; omega⟩))
  have hz8 : f_Xset fl un ut u0 u1 sv x r 2 (f_low b2 901) = .ok z9 := hz9
  refine lv_aload_n hx hb dL_act_290 rfl (lv_at hl 4 rfl) ?_
  refine lv_iconst (v := (2 : Int32)) hx hb dL_act_291 (by decide) ?_
  refine lv_iload hx hb dL_act_292 (lv_at hl 2 rfl) ?_
  refine lv_sipush (v := (901 : Int32)) hx hb dL_act_294 (by decide) ?_
  refine kc_px (rest := [.int (2 : Int32), .ref (A 0)]) C.1 (c_L_low l (b2) ((901 : Int32)) (by decide)) gL_act_L_low mi_L_low ⟨rfl, rfl⟩ ⟨Nat.le_of_ble_eq_true rfl, Nat.le_of_ble_eq_true rfl⟩ ⟨by show _ ≤ (2 : Nat); omega, by show _ ≤ (12 : Nat); omega⟩ dL_act_297 rfl hl.1 rfl (Nat.le_of_ble_eq_true rfl) ?_
  refine kx_k (F := f_Xset fl un ut u0 u1 sv x r (2) (f_low b2 901)) (ans := fun z => z.1) (W1 := fun z => XW cI cZ cO A Qq fl z.2.1 ut u0 u1 z.2.2 x r) (Wf := fun r1 => XW cI cZ cO A Qq fl un ut u0 u1 sv x r1) (wc := XW cI cZ cO A Qq fl un ut u0 u1 sv x r) (As := [.int (2), .int (f_low b2 901)]) (rest := []) C.1 (c_X4_set l C.2.1 dC dI cI cZ cO A Qq fl un ut u0 u1 sv x r (2) (f_low b2 901) H.size hS1 hS2) hz8 rfl XW_ks gL_act_X4_set mi_X4_set ⟨rfl, rfl⟩ ⟨Nat.le_of_ble_eq_true rfl, Nat.le_of_ble_eq_true rfl⟩ (C.xt hY) C.2.2.1 hY.1 hY.2.1 hY.2.2 C.2.2.2.2 XW_all (fun _ => XW_fst) (fun _ => XW_fst) (by decide) 0 rfl rfl ⟨by show _ ≤ (2 : Nat); omega, by show _ ≤ (12 : Nat); omega⟩ dL_act_300 rfl hl.1 rfl (Nat.le_of_ble_eq_true rfl) (fun H locs hP hD hS => ?_)
  refine W.widen (k := 2) (n := 12) (by omega) (by omega) ?_
  exact kw_i hx hb hr hlk hP hS dL_act_303 (by rw [← hz, hz8]; rfl) (by rw [← hz, hz8]; rfl)
set_option maxRecDepth 100000 in
theorem act_304 (C : RC p l m c cL_act 7 s args wsL_act (dC, dI) cI cZ cO A0) (hr : meth.sig.returnType = some .int) (hlk : meth.locks = false) (hG : GI n un) (hWI : WI T un sv) (hz : hR (f_Xundo fl un ut u0 u1 sv x r) un sv = z) (hc1 : cells ≤ 1) (hc2 : slots ≤ 6) (hY : DY (dC, dI) (XW cI cZ cO A Qq fl un ut u0 u1 sv x r) A0 s H locs) (hl : lv_has ls 7 [(6, .int v6), (5, .int (nI n)), (4, .int b2), (3, .int a2), (0, .ref (A 0)), (1, .ref b), (2, .int (nI K))]) : W p l e rm_L_act s m args below meth c H locs cells slots (MQ below (kQw (some (.int z.1)) (dC, dI) vwCl (XW cI cZ cO A Qq fl z.2.1 ut u0 u1 z.2.2 x r) A0) args s 2 12 A0) (F0 m 304 ls []) := by
  obtain ⟨hx, hb, hml, hown, hts⟩ := id C.1
  have hn := GI_n hG
  have hS1 := hWI.2.1
  have hS2 := hWI.2.2.1
  have hE : ∀ e9, f_Xundo fl un ut u0 u1 sv x r = .error e9 → e9 = (2, r) := fun e9 h9 => by
    rcases A_undo (fl := fl) (ut := ut) (u0 := u0) (u1 := u1) (x := x) (r := r) hWI with ⟨z9, h8, -⟩ | h8
    · rw [h8] at h9; cases h9
    · rw [h8] at h9; exact (Except.error.inj h9).symm
  refine lv_aload_n hx hb dL_act_304 rfl (lv_at hl 4 rfl) ?_
  refine kc_swH (n := 1) (As := [.ref (A 0)]) (rest := []) C.1 (c_L_undo l C.2.1 dC dI cI cZ cO A Qq fl un ut u0 u1 sv x r  H.size hS1 hS2 hE) gL_act_L_undo ⟨_, rfl⟩ ⟨by decide, by decide, by decide +kernel⟩ ⟨rfl, rfl⟩ ⟨Nat.le_of_ble_eq_true rfl, Nat.le_of_ble_eq_true rfl⟩ (C.xt hY) C.2.2.1 hY.1 hY.2.1 hY.2.2 C.2.2.2.2 _ XW_all XW_fst (by decide) ⟨by show _ ≤ (2 : Nat); omega, by show _ ≤ (12 : Nat); omega⟩ dL_act_305 rfl hl.1 rfl (Nat.le_of_ble_eq_true rfl) (fun H locs hP hD hS => ?_)
  rw [XW_ks] at hP
  refine W.widen (k := 2) (n := 12) (by omega) (by omega) ?_
  exact kw_i hx hb hr hlk hP hS dL_act_308 (by rw [← hz]) (by rw [← hz])
set_option maxRecDepth 100000 in
theorem act_39 (C : RC p l m c cL_act 7 s args wsL_act (dC, dI) cI cZ cO A0) (hr : meth.sig.returnType = some .int) (hlk : meth.locks = false) (hG : GI n un) (hWI : WI T un sv) {L t : Nat} {xs : Nat → Int32} (hT : T ≤ 100) (hE : ScE b L xs s) (hbA : ¬ A0 b) (hK : K + 2 < 2 ^ 31) (hL : L < 2 ^ 31) (ht : f_low (f_cell L xs K) 18 = nI t) (ht18 : t < 18) (h6 : ¬ n = 0 → v6 = f_low a2 (nI n)) (hz : f_act fl un ut u0 u1 sv x r n t a2 b2 = z) (hc1 : cells ≤ 1) (hc2 : slots ≤ 6) (hY : DY (dC, dI) (XW cI cZ cO A Qq fl un ut u0 u1 sv x r) A0 s H locs) (hl : lv_has ls 7 [(5, .int (nI n)), (4, .int b2), (3, .int a2), (0, .ref (A 0)), (1, .ref b), (2, .int (nI K))]) : W p l e rm_L_act s m args below meth c H locs cells slots (MQ below (kQw (some (.int z.1)) (dC, dI) vwCl (XW cI cZ cO A Qq fl z.2.1 ut u0 u1 z.2.2 x r) A0) args s 2 12 A0) (F0 m 39 ls [.int v6]) := by
  obtain ⟨hx, hb, hml, hown, hts⟩ := id C.1
  have hn := GI_n hG
  have hS1 := hWI.2.1
  have hS2 := hWI.2.2.1
  have hS9 := hE.at hbA hY.2.2
  refine lv_istore (lv' := [(6, .int v6), (5, .int (nI n)), (4, .int b2), (3, .int a2), (0, .ref (A 0)), (1, .ref b), (2, .int (nI K))]) hx hb dL_act_39 hl (by decide) rfl (fun ls hl => ?_)
  refine lv_aload_n hx hb dL_act_41 rfl (lv_at hl 5 rfl) ?_
  refine lv_iload_n hx hb dL_act_42 rfl (lv_at hl 6 rfl) ?_
  refine kc_sE (rest := []) (fun U g mk a h => h.calling g mk a) hS9 C.1 (c_L_cell l b L xs K (by omega) hL) gL_act_L_cell mi_L_cell ⟨rfl, rfl⟩ ⟨Nat.le_of_ble_eq_true rfl, Nat.le_of_ble_eq_true rfl⟩ ⟨by show _ ≤ (2 : Nat); omega, by show _ ≤ (12 : Nat); omega⟩ dL_act_43 rfl hl.1 rfl (Nat.le_of_ble_eq_true rfl) ?_
  refine lv_bipush (v := (18 : Int32)) hx hb dL_act_46 (by decide) ?_
  refine kc_px (rest := []) C.1 (c_L_low l ((f_cell L xs K)) ((18 : Int32)) (by decide)) gL_act_L_low mi_L_low ⟨rfl, rfl⟩ ⟨Nat.le_of_ble_eq_true rfl, Nat.le_of_ble_eq_true rfl⟩ ⟨by show _ ≤ (2 : Nat); omega, by show _ ≤ (12 : Nat); omega⟩ dL_act_48 rfl hl.1 rfl (Nat.le_of_ble_eq_true rfl) ?_
  rw [ht]
  match t, ht18, hz with
  | 0, _, hz =>
    refine lv_tableIn (tgt := 128) (off := 77) hx hb dL_act_51 (by decide) (by decide) rfl (by decide) ?_
    exact act_128 C hr hlk hG hWI hz (by omega) (by omega) hY hl
  | 1, _, hz =>
    refine lv_tableIn (tgt := 128) (off := 77) hx hb dL_act_51 (by decide) (by decide) rfl (by decide) ?_
    exact act_128 C hr hlk hG hWI hz (by omega) (by omega) hY hl
  | 2, _, hz =>
    refine lv_tableIn (tgt := 128) (off := 77) hx hb dL_act_51 (by decide) (by decide) rfl (by decide) ?_
    exact act_128 C hr hlk hG hWI hz (by omega) (by omega) hY hl
  | 3, _, hz =>
    refine lv_tableIn (tgt := 161) (off := 110) hx hb dL_act_51 (by decide) (by decide) rfl (by decide) ?_
    exact act_161 C hr hlk hG hWI h6 hz (by omega) (by omega) hY hl
  | 4, _, hz =>
    refine lv_tableIn (tgt := 189) (off := 138) hx hb dL_act_51 (by decide) (by decide) rfl (by decide) ?_
    exact act_189 C hr hlk hG hWI h6 hz (by omega) (by omega) hY hl
  | 5, _, hz =>
    refine lv_tableIn (tgt := 189) (off := 138) hx hb dL_act_51 (by decide) (by decide) rfl (by decide) ?_
    exact act_189 C hr hlk hG hWI h6 hz (by omega) (by omega) hY hl
  | 6, _, hz =>
    refine lv_tableIn (tgt := 213) (off := 162) hx hb dL_act_51 (by decide) (by decide) rfl (by decide) ?_
    exact act_213 C hr hlk hG hWI h6 hz (by omega) (by omega) hY hl
  | 7, _, hz =>
    refine lv_tableIn (tgt := 230) (off := 179) hx hb dL_act_51 (by decide) (by decide) rfl (by decide) ?_
    exact act_230 C hr hlk hG hWI hz (by omega) (by omega) hY hl
  | 8, _, hz =>
    refine lv_tableIn (tgt := 251) (off := 200) hx hb dL_act_51 (by decide) (by decide) rfl (by decide) ?_
    exact act_251 C hr hlk hG hWI hT hz (by omega) (by omega) hY hl
  | 9, _, hz =>
    refine lv_tableIn (tgt := 251) (off := 200) hx hb dL_act_51 (by decide) (by decide) rfl (by decide) ?_
    exact act_251 C hr hlk hG hWI hT hz (by omega) (by omega) hY hl
  | 10, _, hz =>
    refine lv_tableIn (tgt := 251) (off := 200) hx hb dL_act_51 (by decide) (by decide) rfl (by decide) ?_
    exact act_251 C hr hlk hG hWI hT hz (by omega) (by omega) hY hl
  | 11, _, hz =>
    refine lv_tableIn (tgt := 251) (off := 200) hx hb dL_act_51 (by decide) (by decide) rfl (by decide) ?_
    exact act_251 C hr hlk hG hWI hT hz (by omega) (by omega) hY hl
  | 12, _, hz =>
    refine lv_tableIn (tgt := 251) (off := 200) hx hb dL_act_51 (by decide) (by decide) rfl (by decide) ?_
    exact act_251 C hr hlk hG hWI hT hz (by omega) (by omega) hY hl
  | 13, _, hz =>
    refine lv_tableIn (tgt := 264) (off := 213) hx hb dL_act_51 (by decide) (by decide) rfl (by decide) ?_
    exact act_264 C hr hlk hG hWI hz (by omega) (by omega) hY hl
  | 14, _, hz =>
    refine lv_tableIn (tgt := 277) (off := 226) hx hb dL_act_51 (by decide) (by decide) rfl (by decide) ?_
    exact act_277 C hr hlk hG hWI hz (by omega) (by omega) hY hl
  | 15, _, hz =>
    refine lv_tableIn (tgt := 290) (off := 239) hx hb dL_act_51 (by decide) (by decide) rfl (by decide) ?_
    exact act_290 C hr hlk hG hWI hz (by omega) (by omega) hY hl
  | 16, _, hz =>
    refine lv_tableOut (tgt := 304) hx hb dL_act_51 (.inr (by decide)) (by decide) ?_
    exact act_304 C hr hlk hG hWI hz (by omega) (by omega) hY hl
  | 17, _, hz =>
    refine lv_tableOut (tgt := 304) hx hb dL_act_51 (.inr (by decide)) (by decide) ?_
    exact act_304 C hr hlk hG hWI hz (by omega) (by omega) hY hl
  | t + 18, h, _ => omega
end ACT
set_option maxRecDepth 100000 in
theorem c_L_act (l : Launch) (hst : l.stackTraces = false) (dC : Nat → ClassId) (dI : Nat → Nat → Nat) (cI cZ cO : ClassId) (A : Nat → Nat) (Qq : Nat → Nat → Nat) (fl : (Nat → Int32)) (un : BS) (ut : BS) (u0 : BS) (u1 : BS) (sv : SS) (x : BS) (r : BS) (sz : Nat) {n T K L b t : Nat} {xs : Nat → Int32} (hG : GI n un) (hWI : WI T un sv) (hT : T ≤ 100) (hK9 : K + 2 < 2 ^ 31) (hL : L < 2 ^ 31) (ht : f_low (f_cell L xs K) 18 = nI t) (ht18 : t < 18) (hbA : ¬ va_A (XW cI cZ cO A Qq fl un ut u0 u1 sv x r) sz b) : Met l yL_act wsL_act rm_L_act (va_Pc [.ref (A 0), .ref b, .int (nI K)] (fun U => U.heap.size = sz ∧ va_P (dC, dI) vwCl (XW cI cZ cO A Qq fl un ut u0 u1 sv x r) U.heap ∧ va_K (dC, dI) vwCl (TY cI cZ cO) U ∧ va_D (fun _ => True) (XW cI cZ cO A Qq fl un ut u0 u1 sv x r) ∧ (XT (va_A (XW cI cZ cO A Qq fl un ut u0 u1 sv x r) sz) U ∧ ScE b L xs U))) (kQw (some (.int (f_act fl un ut u0 u1 sv x r n t (f_cell L xs (K + 1)) (f_cell L xs (K + 2))).1)) (dC, dI) vwCl (XW cI cZ cO A Qq fl (f_act fl un ut u0 u1 sv x r n t (f_cell L xs (K + 1)) (f_cell L xs (K + 2))).2.1 ut u0 u1 (f_act fl un ut u0 u1 sv x r n t (f_cell L xs (K + 1)) (f_cell L xs (K + 2))).2.2 x r) (va_A (XW cI cZ cO A Qq fl un ut u0 u1 sv x r) sz)) 2 12 (va_A (XW cI cZ cO A Qq fl un ut u0 u1 sv x r) sz) := by
  refine kofWE (Ex := fun U => XT (va_A (XW cI cZ cO A Qq fl un ut u0 u1 sv x r) sz) U ∧ ScE b L xs U) (cc := cL_act) (maxL := 7) (ret := some .int) (by decide) rfl (Nat.le_of_ble_eq_true rfl) ?_
  intro p e s m args below meth c ls S hr hlk hnm hsz hP hK hD hS hA1 hX hl
  generalize hA0 : va_A (XW cI cZ cO A Qq fl un ut u0 u1 sv x r) sz = A0 at hD hS hA1 hX hbA ⊢
  subst hsz
  have C : RC p l m c cL_act 7 s args wsL_act (dC, dI) cI cZ cO A0 := ⟨S, hst, hK, hX.1, hA1⟩
  have hE := hX.2
  have hY : DY (dC, dI) (XW cI cZ cO A Qq fl un ut u0 u1 sv x r) A0 s s.heap [] := ⟨hP, hD, hS⟩
  obtain ⟨hx, hb, hml, hown, hts⟩ := id S
  have hn := GI_n hG
  have hl : lv_has ls 7 [(0, .ref (A 0)), (1, .ref b), (2, .int (nI K))] := hl
  have c0 : f_Xcount fl un ut u0 u1 sv x r (0 : Int32) = .ok (nI n) := by rw [cou0, GI_5 hG]
  refine lv_aload_n hx hb dL_act_0 rfl (lv_at hl 1 rfl) ?_
  refine lv_iload_n hx hb dL_act_1 rfl (lv_at hl 2 rfl) ?_
  refine lv_iconst (v := (1 : Int32)) hx hb dL_act_2 (by decide) ?_
  refine lv_iadd hx hb dL_act_3 ?_
  rw [show nI K + (1 : Int32) = nI (K + 1) from nI_1 K]
  refine kc_sE (rest := []) (fun U g mk a h => h.calling g mk a) (hE.at hbA hY.2.2) C.1 (c_L_cell l b L xs (K + 1) (by omega) hL) gL_act_L_cell mi_L_cell ⟨rfl, rfl⟩ ⟨Nat.le_of_ble_eq_true rfl, Nat.le_of_ble_eq_true rfl⟩ ⟨by show _ ≤ (2 : Nat); omega, by show _ ≤ (12 : Nat); omega⟩ dL_act_4 rfl hl.1 rfl (Nat.le_of_ble_eq_true rfl) ?_
  refine lv_istore_n (lv' := [(3, .int (f_cell L xs (K + 1))), (0, .ref (A 0)), (1, .ref b), (2, .int (nI K))]) hx hb dL_act_7 rfl hl (by decide) rfl (fun ls hl => ?_)
  refine lv_aload_n hx hb dL_act_8 rfl (lv_at hl 2 rfl) ?_
  refine lv_iload_n hx hb dL_act_9 rfl (lv_at hl 3 rfl) ?_
  refine lv_iconst (v := (2 : Int32)) hx hb dL_act_10 (by decide) ?_
  refine lv_iadd hx hb dL_act_11 ?_
  rw [show nI K + (2 : Int32) = nI (K + 2) from nI_add K 2]
  refine kc_sE (rest := []) (fun U g mk a h => h.calling g mk a) (hE.at hbA hY.2.2) C.1 (c_L_cell l b L xs (K + 2) (by omega) hL) gL_act_L_cell mi_L_cell ⟨rfl, rfl⟩ ⟨Nat.le_of_ble_eq_true rfl, Nat.le_of_ble_eq_true rfl⟩ ⟨by show _ ≤ (2 : Nat); omega, by show _ ≤ (12 : Nat); omega⟩ dL_act_12 rfl hl.1 rfl (Nat.le_of_ble_eq_true rfl) ?_
  refine lv_istore (lv' := [(4, .int (f_cell L xs (K + 2))), (3, .int (f_cell L xs (K + 1))), (0, .ref (A 0)), (1, .ref b), (2, .int (nI K))]) hx hb dL_act_15 hl (by decide) rfl (fun ls hl => ?_)
  refine lv_aload_n hx hb dL_act_17 rfl (lv_at hl 2 rfl) ?_
  refine lv_iconst (v := (0 : Int32)) hx hb dL_act_18 (by decide) ?_
  refine rd_count (c0) gL_act_X4_count C hY hl.1 ⟨Nat.le_of_ble_eq_true rfl, Nat.le_of_ble_eq_true rfl⟩ ⟨by show _ ≤ (2 : Nat); omega, by show _ ≤ (12 : Nat); omega⟩ (Nat.le_of_ble_eq_true rfl) dL_act_19 (fun H locs hY => ?_)
  refine lv_istore (lv' := [(5, .int (nI n)), (4, .int (f_cell L xs (K + 2))), (3, .int (f_cell L xs (K + 1))), (0, .ref (A 0)), (1, .ref b), (2, .int (nI K))]) hx hb dL_act_22 hl (by decide) rfl (fun ls hl => ?_)
  refine lv_iload hx hb dL_act_24 (lv_at hl 0 rfl) ?_
  generalize f_cell L xs (K + 1) = a2 at hl ⊢
  generalize f_cell L xs (K + 2) = b2 at hl ⊢
  refine lv_if_ne (tgt := 33) hx hb dL_act_26 (by decide) (fun h0 => ?_) (fun h0 => ?_)
  · have hn0 : ¬ n = 0 := fun q => h0 (by rw [q]; rfl)
    refine lv_iload_n hx hb dL_act_33 rfl (lv_at hl 2 rfl) ?_
    refine lv_iload hx hb dL_act_34 (lv_at hl 0 rfl) ?_
    refine kc_px (rest := []) C.1 (c_L_low l (a2) ((nI n)) (h0)) gL_act_L_low mi_L_low ⟨rfl, rfl⟩ ⟨Nat.le_of_ble_eq_true rfl, Nat.le_of_ble_eq_true rfl⟩ ⟨by show _ ≤ (2 : Nat); omega, by show _ ≤ (12 : Nat); omega⟩ dL_act_36 rfl hl.1 rfl (Nat.le_of_ble_eq_true rfl) ?_
    exact act_39 (T := T) (K := K) (b := b) (L := L) (t := t) (xs := xs) C hr hlk hG hWI hT hE hbA hK9 hL ht ht18 (fun _ => rfl) rfl (by omega) (by omega) hY (lv_sub hl [0, 1, 2, 3, 4, 5] rfl)
  · have hn0 : n = 0 := (nI_eq (b := 0) (by omega) (by omega)).mp h0
    refine lv_iconst (v := (0 : Int32)) hx hb dL_act_29 (by decide) ?_
    refine lv_goto (tgt := 39) hx hb dL_act_30 (by decide) ?_
    exact act_39 (T := T) (K := K) (b := b) (L := L) (t := t) (xs := xs) C hr hlk hG hWI hT hE hbA hK9 hL ht ht18 (fun q => absurd hn0 q) rfl (by omega) (by omega) hY (lv_sub hl [0, 1, 2, 3, 4, 5] rfl)

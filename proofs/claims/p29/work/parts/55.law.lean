/-! the law: a turn, its loop -/
def AR (T : Nat) (un : BS) (sv : SS) (z : Int32 × BS × SS) : Prop := (0 ≤ z.1.toInt ∧ WI (T + 1) z.2.1 z.2.2) ∨ z = (-3, un, sv)
section ARS
variable {n T : Nat} {un ut u0 u1 x r : BS} {sv : SS} {fl : Nat → Int32} {a2 b2 : Int32}
theorem AR_R {F : Except (Nat × BS) (Int32 × BS × SS)} (h : (∃ z, F = .ok z ∧ 0 ≤ z.1.toInt ∧ WI T z.2.1 z.2.2) ∨ F = .error (2, r)) : AR T un sv (hR F un sv) := by
  rcases h with ⟨z, h1, h2, h3⟩ | h1
  · rw [h1]; exact .inl ⟨h2, WI_up h3 (by omega)⟩
  · rw [h1]; exact .inr rfl
theorem AR_n {F : Except (Nat × BS) (Int32 × BS × SS)} (h : ¬ n = 0 → ∃ z, F = .ok z ∧ 0 ≤ z.1.toInt ∧ WI T z.2.1 z.2.2) : AR T un sv (if n = 0 then ((-3 : Int32), un, sv) else hR F un sv) := by
  by_cases h0 : n = 0
  · rw [if_pos h0]; exact .inr rfl
  · rw [if_neg h0]; exact AR_R (r := un) (.inl (h h0))
theorem A_act (h : WI T un sv) (hT : T ≤ 100) (hG : GI n un) : ∀ t, t < 18 → AR T un sv (f_act fl un ut u0 u1 sv x r n t a2 b2) := by
  have hn := GI_n hG
  have met : AR T un sv (hR (f_Xmetronome fl un ut u0 u1 sv x r (40 + f_low a2 169) (f_low b2 3600) (f_low (a2 + b2) 1000)) un sv) := by
    obtain ⟨j1, hj1, ej1⟩ := low_s (v := a2) 40 169 (by omega) (by omega)
    have ej1' : (40 : Int32) + f_low a2 169 = nI (40 + j1) := ej1
    obtain ⟨j2, hj2, ej2⟩ := low_N b2 (q := 3600) (by omega) (by omega)
    have hb3 : 0 ≤ (f_low (a2 + b2) 1000).toInt ∧ (f_low (a2 + b2) 1000).toInt ≤ ((1000 : Nat) : Int) - 1 := low_b (v := a2 + b2) 1000 (by omega) (by omega)
    exact AR_R (A_metronome h hG (by rw [ej1', nI_toInt (by omega)]; omega) ⟨j2, hj2, ej2⟩ ⟨hb3.1, by have := hb3.2; omega⟩)
  have wnd : AR T un sv (if n = 0 then ((-3 : Int32), un, sv) else hR (f_Xwind fl un ut u0 u1 sv x r (f_low a2 (nI n)) (f_low b2 30)) un sv) := by
    refine AR_n (fun h0 => ?_)
    obtain ⟨jn, hjn, ejn⟩ := low_N a2 (q := n) (by omega) (by omega)
    have hb3 : 0 ≤ (f_low b2 30).toInt ∧ (f_low b2 30).toInt ≤ ((30 : Nat) : Int) - 1 := low_b (v := b2) 30 (by omega) (by omega)
    rw [ejn]
    exact A_wind h hG hjn ⟨hb3.1, by have := hb3.2; omega⟩
  have run : AR T un sv (hR (f_Xrun fl un ut u0 u1 sv x r (1 + f_low a2 60)) un sv) := by
    obtain ⟨j1, hj1, ej1⟩ := low_s (v := a2) 1 60 (by omega) (by omega)
    have ej1' : (1 : Int32) + f_low a2 60 = nI (1 + j1) := ej1
    obtain ⟨k1, k2, k3, -⟩ := A_run (fl := fl) (ut := ut) (u0 := u0) (u1 := u1) (x := x) (r := r) h hT hG (q := 1 + j1) (by omega) (by omega)
    rw [ej1', k1]
    exact .inl ⟨k2, k3⟩
  intro t ht
  match t, ht with
  | 0, _ => exact met
  | 1, _ => exact met
  | 2, _ => exact met
  | 3, _ =>
    show AR T un sv (if n = 0 then ((-3 : Int32), un, sv) else hR (f_Xweigh fl un ut u0 u1 sv x r (f_low a2 (nI n)) (40 + f_low b2 169)) un sv)
    refine AR_n (fun h0 => ?_)
    obtain ⟨jn, hjn, ejn⟩ := low_N a2 (q := n) (by omega) (by omega)
    obtain ⟨j1, hj1, ej1⟩ := low_s (v := b2) 40 169 (by omega) (by omega)
    have ej1' : (40 : Int32) + f_low b2 169 = nI (40 + j1) := ej1
    rw [ejn]
    exact A_weigh h hG hjn (by rw [ej1', nI_toInt (by omega)]; omega)
  | 4, _ => exact wnd
  | 5, _ => exact wnd
  | 6, _ =>
    show AR T un sv (if n = 0 then ((-3 : Int32), un, sv) else hR (f_Xhold fl un ut u0 u1 sv x r (f_low a2 (nI n))) un sv)
    refine AR_n (fun h0 => ?_)
    obtain ⟨jn, hjn, ejn⟩ := low_N a2 (q := n) (by omega) (by omega)
    rw [ejn]
    exact A_hold h hG hjn
  | 7, _ =>
    show AR T un sv (if f_low b2 2 = 0 then hR (f_Xtake fl un ut u0 u1 sv x r) un sv else f_Xstop fl un ut u0 u1 sv x r)
    by_cases h0 : f_low b2 2 = 0
    · rw [if_pos h0]; exact AR_R (A_take h hG)
    · rw [if_neg h0]
      have hs := A_stop (fl := fl) (ut := ut) (u0 := u0) (u1 := u1) (x := x) (r := r) h
      exact .inl ⟨hs.1, WI_up hs.2 (by omega)⟩
  | 8, _ => exact run
  | 9, _ => exact run
  | 10, _ => exact run
  | 11, _ => exact run
  | 12, _ => exact run
  | 13, _ =>
    have hb3 : 0 ≤ (f_low b2 96).toInt ∧ (f_low b2 96).toInt ≤ ((96 : Nat) : Int) - 1 := low_b (v := b2) 96 (by omega) (by omega)
    exact AR_R (r := r) (.inl (A_set h (q := 0) (.inl ⟨rfl, hb3.1, by have := hb3.2; omega⟩)))
  | 14, _ =>
    have hb3 : 0 ≤ (f_low b2 100).toInt ∧ (f_low b2 100).toInt ≤ ((100 : Nat) : Int) - 1 := low_b (v := b2) 100 (by omega) (by omega)
    exact AR_R (r := r) (.inl (A_set h (q := 1) (.inr (.inl ⟨rfl, hb3.1, by have := hb3.2; omega⟩))))
  | 15, _ =>
    have hb3 : 0 ≤ (f_low b2 901).toInt ∧ (f_low b2 901).toInt ≤ ((901 : Nat) : Int) - 1 := low_b (v := b2) 901 (by omega) (by omega)
    exact AR_R (r := r) (.inl (A_set h (q := 2) (.inr (.inr ⟨rfl, hb3.1, by have := hb3.2; omega⟩))))
  | 16, _ => exact AR_R (A_undo h)
  | 17, _ => exact AR_R (A_undo h)
  | t + 18, h9 => omega
theorem act_run {t : Nat} (h1 : 8 ≤ t) (h2 : t ≤ 12) : f_act fl un ut u0 u1 sv x r n t a2 b2 = hR (f_Xrun fl un ut u0 u1 sv x r (1 + f_low a2 60)) un sv := by
  unfold f_act
  rw [if_neg (by omega), if_neg (by omega), if_neg (by omega), if_neg (by omega), if_neg (by omega), if_pos h2]
end ARS
section LAW
variable {p : Program} {l : Launch} {e : Env} {s : State} {m : MethodId} {below : List Frame} {meth : Method} {c : Code} {dC : Nat → ClassId} {dI : Nat → Nat → Nat}
  {cI cZ cO : ClassId} {A : Nat → Nat} {Qq : Nat → Nat → Nat} {fl : Nat → Int32} {un ut u0 u1 : BS} {sv : SS} {x r : BS} {n k N3 b : Nat} {H : Heap} {locs : List Loc} {ls : Array Slot} {cells slots C1 S1 : Nat}
set_option maxRecDepth 100000 in
theorem law_276 (C : RC p l m c cL_law 15 s #[Value.ref b] wsL_law (dC, dI) cI cZ cO (fun q => s.heap.size ≤ q)) (hk : k < 44) (hWI : WI (k + 1) un sv) (hG : GI n un) (hC1 : C1 ≤ 600000) (hS1 : S1 ≤ 7301000) (kk : ∀ (un ut : BS) (sv : SS) (cells slots : Nat) (H : Heap) (locs : List Loc) (ls : Array Slot), cells ≤ C1 → slots ≤ S1 → WI (k + 1) un sv → DY (dC, dI) (XW cI cZ cO A Qq fl un ut u0 u1 sv x r) (fun q => s.heap.size ≤ q) s H locs → lv_has ls 15 [(4, .int (nI (k + 1))), (3, .int (nI N3)), (2, .int (1 : Int32)), (1, .ref (A 0)), (0, .ref b)] → W p l e room_1 s m #[Value.ref b] below meth c H locs cells slots (lw_Z below #[Value.ref b] s) (F0 m 32 ls [])) (hc1 : cells + 500 ≤ C1) (hc2 : slots + 3000 ≤ S1) (hY : DY (dC, dI) (XW cI cZ cO A Qq fl un ut u0 u1 sv x r) (fun q => s.heap.size ≤ q) s H locs) (hl : lv_has ls 15 [(4, .int (nI k)), (3, .int (nI N3)), (2, .int (1 : Int32)), (1, .ref (A 0)), (0, .ref b)]) : W p l e room_1 s m #[Value.ref b] below meth c H locs cells slots (lw_Z below #[Value.ref b] s) (F0 m 276 ls []) := by
  obtain ⟨hx, hb, hml, hown, hts⟩ := id C.1
  refine lv_aload_n hx hb dL_law_276 rfl (lv_at hl 3 rfl) ?_
  have hAB := va_free (wc := XW cI cZ cO A Qq fl un ut u0 u1 sv x r) hY.2.1 hY.2.2 C.2.2.2.2 _ XW_all
  refine kc_swE (Ex := fun U => XT (va_A (XW cI cZ cO A Qq fl un ut u0 u1 sv x r) H.size) U) (fun U g mk a h => h.calling) (fun U hU hW => (C.xt hY).at hW hU hAB) rfl C.1 (c_L_bench l C.2.1 dC dI cI cZ cO A Qq fl un ut u0 u1 sv x r H.size hG (by have := hWI.1.2; omega)) gL_law_L_bench mi_L_bench ⟨rfl, rfl⟩ ⟨Nat.le_of_ble_eq_true rfl, Nat.le_of_ble_eq_true rfl⟩ C.2.2.1 hY.1 hY.2.1 hY.2.2 C.2.2.2.2 _ XW_all XW_fst (by decide) ⟨by show _ ≤ (600130 : Nat); omega, by show _ ≤ (7301080 : Nat); omega⟩ dL_law_277 rfl hl.1 rfl (Nat.le_of_ble_eq_true rfl) (fun H locs hP hD hS => ?_)
  rw [XW_ks] at hP hD
  have hY : DY (dC, dI) (XW cI cZ cO A Qq fl un ut u0 u1 sv x r) (fun q => s.heap.size ≤ q) s H locs := ⟨hP, hD, hS⟩
  refine lv_if_eq (tgt := 287) hx hb dL_law_280 (by decide) (fun q => absurd q (by decide)) (fun _ => ?_)
  refine lv_iconst (v := (1 : Int32)) hx hb dL_law_283 (by decide) ?_
  refine lv_goto (tgt := 288) hx hb dL_law_284 (by decide) ?_
  refine lv_istore_n (lv' := [(2, .int (1 : Int32)), (4, .int (nI k)), (3, .int (nI N3)), (1, .ref (A 0)), (0, .ref b)]) hx hb dL_law_288 rfl hl (by decide) rfl (fun ls hl => ?_)
  refine lv_iinc (v := (nI (k + 1))) (lv' := [(4, .int (nI (k + 1))), (2, .int (1 : Int32)), (3, .int (nI N3)), (1, .ref (A 0)), (0, .ref b)]) hx hb dL_law_289 hl (k := 1) rfl (nI_add k 1) (by decide) rfl (fun ls hl => ?_)
  refine lv_goto (tgt := 32) hx hb dL_law_292 (by decide) ?_
  exact kk un ut sv _ _ H locs ls (by omega) (by omega) hWI hY (lv_sub hl [0, 2, 1, 3, 4] rfl)
set_option maxRecDepth 100000 in
theorem law_201 (C : RC p l m c cL_law 15 s #[Value.ref b] wsL_law (dC, dI) cI cZ cO (fun q => s.heap.size ≤ q)) (hk : k < 44) (hWI : WI (k + 1) un sv) (hG : GI n un) (hC1 : C1 ≤ 600000) (hS1 : S1 ≤ 7301000) (kk : ∀ (un ut : BS) (sv : SS) (cells slots : Nat) (H : Heap) (locs : List Loc) (ls : Array Slot), cells ≤ C1 → slots ≤ S1 → WI (k + 1) un sv → DY (dC, dI) (XW cI cZ cO A Qq fl un ut u0 u1 sv x r) (fun q => s.heap.size ≤ q) s H locs → lv_has ls 15 [(4, .int (nI (k + 1))), (3, .int (nI N3)), (2, .int (1 : Int32)), (1, .ref (A 0)), (0, .ref b)] → W p l e room_1 s m #[Value.ref b] below meth c H locs cells slots (lw_Z below #[Value.ref b] s) (F0 m 32 ls [])) {t n9 : Nat} (ht : t < 18) {v7 v8 v9 v11 v12 v13 v14 : Int32} (hrun : 8 ≤ t → t ≤ 12 → v14 = v12 ∧ un 12 0 = v8 + v14 ∧ f_order un = v13 ∧ un 11 0 = v7 + v11 ∧ GI n9 un ∧ s32 (un 2) n9 = v9 - v14) (hc1 : cells + 516 ≤ C1) (hc2 : slots + 3096 ≤ S1) (hY : DY (dC, dI) (XW cI cZ cO A Qq fl un ut u0 u1 sv x r) (fun q => s.heap.size ≤ q) s H locs) (hl : lv_has ls 15 [(14, .int v14), (13, .int v13), (12, .int v12), (11, .int v11), (10, .int (nI t)), (9, .int v9), (8, .int v8), (7, .int v7), (4, .int (nI k)), (3, .int (nI N3)), (1, .ref (A 0)), (0, .ref b)]) : W p l e room_1 s m #[Value.ref b] below meth c H locs cells slots (lw_Z below #[Value.ref b] s) (F0 m 201 ls [.int (1 : Int32)]) := by
  obtain ⟨hx, hb, hml, hown, hts⟩ := id C.1
  refine lv_istore_n (lv' := [(2, .int (1 : Int32)), (14, .int v14), (13, .int v13), (12, .int v12), (11, .int v11), (10, .int (nI t)), (9, .int v9), (8, .int v8), (7, .int v7), (4, .int (nI k)), (3, .int (nI N3)), (1, .ref (A 0)), (0, .ref b)]) hx hb dL_law_201 rfl hl (by decide) rfl (fun ls hl => ?_)
  refine lv_iload_n hx hb dL_law_202 rfl (lv_at hl 0 rfl) ?_
  refine lv_if_eq (tgt := 287) hx hb dL_law_203 (by decide) (fun q => absurd q (by decide)) (fun _ => ?_)
  refine lv_iload hx hb dL_law_206 (lv_at hl 5 rfl) ?_
  refine lv_bipush (v := (8 : Int32)) hx hb dL_law_208 (by decide) ?_
  refine lv_icmp_lt (tgt := 276) hx hb dL_law_210 (by decide) (fun h1 => ?_) (fun h1 => ?_)
  · exact law_276 C hk hWI hG hC1 hS1 kk (by omega) (by omega) hY (lv_sub hl [9, 10, 0, 11, 12] rfl)
  refine lv_iload hx hb dL_law_213 (lv_at hl 5 rfl) ?_
  refine lv_bipush (v := (12 : Int32)) hx hb dL_law_215 (by decide) ?_
  refine lv_icmp_gt (tgt := 276) hx hb dL_law_217 (by decide) (fun h2 => ?_) (fun h2 => ?_)
  · exact law_276 C hk hWI hG hC1 hS1 kk (by omega) (by omega) hY (lv_sub hl [9, 10, 0, 11, 12] rfl)
  have h3 : 8 ≤ t := by
    rcases Nat.lt_or_ge t 8 with q | q
    · exact absurd (nI_lt (b := 8) q (by omega)) h1
    · exact q
  have h4 : t ≤ 12 := by
    rcases Nat.lt_or_ge 12 t with q | q
    · exact absurd (nI_lt (a := 12) q (by omega)) h2
    · exact q
  obtain ⟨e14, e12, eo, e11, eG, es⟩ := hrun h3 h4
  refine lv_iload hx hb dL_law_220 (lv_at hl 1 rfl) ?_
  refine lv_iload hx hb dL_law_222 (lv_at hl 3 rfl) ?_
  refine lv_icmp_ne (tgt := 287) hx hb dL_law_224 (by decide) (fun q => absurd (e14) q) (fun _ => ?_)
  refine lv_aload_n hx hb dL_law_227 rfl (lv_at hl 11 rfl) ?_
  refine lv_iconst (v := (3 : Int32)) hx hb dL_law_228 (by decide) ?_
  refine rd_count (cou3) gL_law_X4_count C hY hl.1 ⟨Nat.le_of_ble_eq_true rfl, Nat.le_of_ble_eq_true rfl⟩ ⟨by show _ ≤ (600130 : Nat); omega, by show _ ≤ (7301080 : Nat); omega⟩ (Nat.le_of_ble_eq_true rfl) dL_law_229 (fun H locs hY => ?_)
  refine lv_iload hx hb dL_law_232 (lv_at hl 7 rfl) ?_
  refine lv_iload hx hb dL_law_234 (lv_at hl 1 rfl) ?_
  refine lv_iadd hx hb dL_law_236 ?_
  refine lv_icmp_ne (tgt := 287) hx hb dL_law_237 (by decide) (fun q => absurd (e12) q) (fun _ => ?_)
  refine lv_aload_n hx hb dL_law_240 rfl (lv_at hl 11 rfl) ?_
  refine lv_bipush (v := (6 : Int32)) hx hb dL_law_241 (by decide) ?_
  refine rd_count (cou6) gL_law_X4_count C hY hl.1 ⟨Nat.le_of_ble_eq_true rfl, Nat.le_of_ble_eq_true rfl⟩ ⟨by show _ ≤ (600130 : Nat); omega, by show _ ≤ (7301080 : Nat); omega⟩ (Nat.le_of_ble_eq_true rfl) dL_law_243 (fun H locs hY => ?_)
  refine lv_iload hx hb dL_law_246 (lv_at hl 2 rfl) ?_
  refine lv_icmp_ne (tgt := 287) hx hb dL_law_248 (by decide) (fun q => absurd (eo) q) (fun _ => ?_)
  refine lv_aload_n hx hb dL_law_251 rfl (lv_at hl 11 rfl) ?_
  refine lv_iconst (v := (2 : Int32)) hx hb dL_law_252 (by decide) ?_
  refine rd_count (cou2) gL_law_X4_count C hY hl.1 ⟨Nat.le_of_ble_eq_true rfl, Nat.le_of_ble_eq_true rfl⟩ ⟨by show _ ≤ (600130 : Nat); omega, by show _ ≤ (7301080 : Nat); omega⟩ (Nat.le_of_ble_eq_true rfl) dL_law_253 (fun H locs hY => ?_)
  refine lv_iload hx hb dL_law_256 (lv_at hl 8 rfl) ?_
  refine lv_iload hx hb dL_law_258 (lv_at hl 4 rfl) ?_
  refine lv_iadd hx hb dL_law_260 ?_
  refine lv_icmp_ne (tgt := 287) hx hb dL_law_261 (by decide) (fun q => absurd (e11) q) (fun _ => ?_)
  refine lv_aload_n hx hb dL_law_264 rfl (lv_at hl 11 rfl) ?_
  have hAB := va_free (wc := XW cI cZ cO A Qq fl un ut u0 u1 sv x r) hY.2.1 hY.2.2 C.2.2.2.2 _ XW_all
  refine kc_swE (Ex := fun U => XT (va_A (XW cI cZ cO A Qq fl un ut u0 u1 sv x r) H.size) U) (fun U g mk a h => h.calling) (fun U hU hW => (C.xt hY).at hW hU hAB) rfl C.1 (c_L_springs l C.2.1 dC dI cI cZ cO A Qq fl un ut u0 u1 sv x r H.size eG) gL_law_L_springs mi_L_springs ⟨rfl, rfl⟩ ⟨Nat.le_of_ble_eq_true rfl, Nat.le_of_ble_eq_true rfl⟩ C.2.2.1 hY.1 hY.2.1 hY.2.2 C.2.2.2.2 _ XW_all XW_fst (by decide) ⟨by show _ ≤ (600130 : Nat); omega, by show _ ≤ (7301080 : Nat); omega⟩ dL_law_265 rfl hl.1 rfl (Nat.le_of_ble_eq_true rfl) (fun H locs hP hD hS => ?_)
  rw [XW_ks] at hP hD
  have hY : DY (dC, dI) (XW cI cZ cO A Qq fl un ut u0 u1 sv x r) (fun q => s.heap.size ≤ q) s H locs := ⟨hP, hD, hS⟩
  refine lv_iload hx hb dL_law_268 (lv_at hl 6 rfl) ?_
  refine lv_iload hx hb dL_law_270 (lv_at hl 1 rfl) ?_
  refine lv_isub hx hb dL_law_272 ?_
  refine lv_icmp_ne (tgt := 287) hx hb dL_law_273 (by decide) (fun q => absurd (es) q) (fun _ => ?_)
  exact law_276 C hk hWI hG hC1 hS1 kk (by omega) (by omega) hY (lv_sub hl [9, 10, 0, 11, 12] rfl)
set_option maxRecDepth 100000 in
set_option maxHeartbeats 1000000 in
theorem law_42 (C : RC p l m c cL_law 15 s #[Value.ref b] wsL_law (dC, dI) cI cZ cO (fun q => s.heap.size ≤ q)) (hk : k < 44) (hWI : WI k un sv) (hG : GI n un) {L : Nat} {xs : Nat → Int32} (hE : ScE b L xs s) (hL : L < 2 ^ 31) (hC1 : C1 ≤ 600000) (hS1 : S1 ≤ 7301000) (kk : ∀ (un ut : BS) (sv : SS) (cells slots : Nat) (H : Heap) (locs : List Loc) (ls : Array Slot), cells ≤ C1 → slots ≤ S1 → WI (k + 1) un sv → DY (dC, dI) (XW cI cZ cO A Qq fl un ut u0 u1 sv x r) (fun q => s.heap.size ≤ q) s H locs → lv_has ls 15 [(4, .int (nI (k + 1))), (3, .int (nI N3)), (2, .int (1 : Int32)), (1, .ref (A 0)), (0, .ref b)] → W p l e room_1 s m #[Value.ref b] below meth c H locs cells slots (lw_Z below #[Value.ref b] s) (F0 m 32 ls [])) (hc1 : cells + 560 ≤ C1) (hc2 : slots + 3360 ≤ S1) (hY : DY (dC, dI) (XW cI cZ cO A Qq fl un ut u0 u1 sv x r) (fun q => s.heap.size ≤ q) s H locs) (hl : lv_has ls 15 [(4, .int (nI k)), (3, .int (nI N3)), (2, .int (1 : Int32)), (1, .ref (A 0)), (0, .ref b)]) : W p l e room_1 s m #[Value.ref b] below meth c H locs cells slots (lw_Z below #[Value.ref b] s) (F0 m 42 ls []) := by
  obtain ⟨hx, hb, hml, hown, hts⟩ := id C.1
  have hbA : ¬ (fun q : Nat => s.heap.size ≤ q) b := Nat.not_le.mpr hE.1
  have hn := GI_n hG
  have hb9 := hWI.1.2
  have c0 : f_Xcount fl un ut u0 u1 sv x r (0 : Int32) = .ok (nI n) := by rw [cou0, GI_5 hG]
  obtain ⟨t, ht18, ht⟩ := low_N (f_cell L xs (3 * k)) (q := 18) (by omega) (by omega)
  have ht' : f_low (f_cell L xs (3 * k)) (18 : Int32) = nI t := ht
  obtain ⟨j1, hj1, ej1⟩ := low_s (v := f_cell L xs (3 * k + 1)) 1 60 (by omega) (by omega)
  have ej1' : (1 : Int32) + f_low (f_cell L xs (3 * k + 1)) (60 : Int32) = nI (1 + j1) := ej1
  generalize hq : 1 + j1 = q1 at ej1'
  have hrn := A_run (fl := fl) (ut := ut) (u0 := u0) (u1 := u1) (x := x) (r := r) hWI (by omega) hG (q := q1) (by omega) (by omega)
  have hi1 := A_if (fl := fl) (ut := ut) (u0 := u0) (u1 := u1) (sv := sv) (x := x) (r := r) hG (q := q1) (by omega) (by omega)
  refine lv_aload_n hx hb dL_law_42 rfl (lv_at hl 3 rfl) ?_
  refine lv_bipush (v := (11 : Int32)) hx hb dL_law_43 (by decide) ?_
  refine rd_count (cou11) gL_law_X4_count C hY hl.1 ⟨Nat.le_of_ble_eq_true rfl, Nat.le_of_ble_eq_true rfl⟩ ⟨by show _ ≤ (600130 : Nat); omega, by show _ ≤ (7301080 : Nat); omega⟩ (Nat.le_of_ble_eq_true rfl) dL_law_45 (fun H locs hY => ?_)
  refine lv_istore (lv' := [(5, .int (nI sv.2.1)), (4, .int (nI k)), (3, .int (nI N3)), (2, .int (1 : Int32)), (1, .ref (A 0)), (0, .ref b)]) hx hb dL_law_48 hl (by decide) rfl (fun ls hl => ?_)
  refine lv_aload_n hx hb dL_law_50 rfl (lv_at hl 4 rfl) ?_
  refine lv_iconst (v := (0 : Int32)) hx hb dL_law_51 (by decide) ?_
  refine rd_count (c0) gL_law_X4_count C hY hl.1 ⟨Nat.le_of_ble_eq_true rfl, Nat.le_of_ble_eq_true rfl⟩ ⟨by show _ ≤ (600130 : Nat); omega, by show _ ≤ (7301080 : Nat); omega⟩ (Nat.le_of_ble_eq_true rfl) dL_law_52 (fun H locs hY => ?_)
  refine lv_istore (lv' := [(6, .int (nI n)), (5, .int (nI sv.2.1)), (4, .int (nI k)), (3, .int (nI N3)), (2, .int (1 : Int32)), (1, .ref (A 0)), (0, .ref b)]) hx hb dL_law_55 hl (by decide) rfl (fun ls hl => ?_)
  refine lv_aload_n hx hb dL_law_57 rfl (lv_at hl 5 rfl) ?_
  refine lv_iconst (v := (2 : Int32)) hx hb dL_law_58 (by decide) ?_
  refine rd_count (cou2) gL_law_X4_count C hY hl.1 ⟨Nat.le_of_ble_eq_true rfl, Nat.le_of_ble_eq_true rfl⟩ ⟨by show _ ≤ (600130 : Nat); omega, by show _ ≤ (7301080 : Nat); omega⟩ (Nat.le_of_ble_eq_true rfl) dL_law_59 (fun H locs hY => ?_)
  refine lv_istore (lv' := [(7, .int (un 11 0)), (6, .int (nI n)), (5, .int (nI sv.2.1)), (4, .int (nI k)), (3, .int (nI N3)), (2, .int (1 : Int32)), (1, .ref (A 0)), (0, .ref b)]) hx hb dL_law_62 hl (by decide) rfl (fun ls hl => ?_)
  refine lv_aload_n hx hb dL_law_64 rfl (lv_at hl 6 rfl) ?_
  refine lv_iconst (v := (3 : Int32)) hx hb dL_law_65 (by decide) ?_
  refine rd_count (cou3) gL_law_X4_count C hY hl.1 ⟨Nat.le_of_ble_eq_true rfl, Nat.le_of_ble_eq_true rfl⟩ ⟨by show _ ≤ (600130 : Nat); omega, by show _ ≤ (7301080 : Nat); omega⟩ (Nat.le_of_ble_eq_true rfl) dL_law_66 (fun H locs hY => ?_)
  refine lv_istore (lv' := [(8, .int (un 12 0)), (7, .int (un 11 0)), (6, .int (nI n)), (5, .int (nI sv.2.1)), (4, .int (nI k)), (3, .int (nI N3)), (2, .int (1 : Int32)), (1, .ref (A 0)), (0, .ref b)]) hx hb dL_law_69 hl (by decide) rfl (fun ls hl => ?_)
  refine lv_aload_n hx hb dL_law_71 rfl (lv_at hl 7 rfl) ?_
  have hAB := va_free (wc := XW cI cZ cO A Qq fl un ut u0 u1 sv x r) hY.2.1 hY.2.2 C.2.2.2.2 _ XW_all
  refine kc_swE (Ex := fun U => XT (va_A (XW cI cZ cO A Qq fl un ut u0 u1 sv x r) H.size) U) (fun U g mk a h => h.calling) (fun U hU hW => (C.xt hY).at hW hU hAB) rfl C.1 (c_L_springs l C.2.1 dC dI cI cZ cO A Qq fl un ut u0 u1 sv x r H.size hG) gL_law_L_springs mi_L_springs ⟨rfl, rfl⟩ ⟨Nat.le_of_ble_eq_true rfl, Nat.le_of_ble_eq_true rfl⟩ C.2.2.1 hY.1 hY.2.1 hY.2.2 C.2.2.2.2 _ XW_all XW_fst (by decide) ⟨by show _ ≤ (600130 : Nat); omega, by show _ ≤ (7301080 : Nat); omega⟩ dL_law_72 rfl hl.1 rfl (Nat.le_of_ble_eq_true rfl) (fun H locs hP hD hS => ?_)
  rw [XW_ks] at hP hD
  have hY : DY (dC, dI) (XW cI cZ cO A Qq fl un ut u0 u1 sv x r) (fun q => s.heap.size ≤ q) s H locs := ⟨hP, hD, hS⟩
  refine lv_istore (lv' := [(9, .int (s32 (un 2) n)), (8, .int (un 12 0)), (7, .int (un 11 0)), (6, .int (nI n)), (5, .int (nI sv.2.1)), (4, .int (nI k)), (3, .int (nI N3)), (2, .int (1 : Int32)), (1, .ref (A 0)), (0, .ref b)]) hx hb dL_law_75 hl (by decide) rfl (fun ls hl => ?_)
  refine lv_aload_n hx hb dL_law_77 rfl (lv_at hl 9 rfl) ?_
  refine lv_iconst (v := (3 : Int32)) hx hb dL_law_78 (by decide) ?_
  refine lv_iload hx hb dL_law_79 (lv_at hl 5 rfl) ?_
  refine lv_imul hx hb dL_law_81 ?_
  rw [show (3 : Int32) * nI k = nI (3 * k) from pk_mul 3 k]
  refine kc_sE (rest := []) (fun U g mk a h => h.calling g mk a) (hE.at hbA hY.2.2) C.1 (c_L_cell l b L xs (3 * k) (by omega) hL) gL_law_L_cell mi_L_cell ⟨rfl, rfl⟩ ⟨Nat.le_of_ble_eq_true rfl, Nat.le_of_ble_eq_true rfl⟩ ⟨by show _ ≤ (600130 : Nat); omega, by show _ ≤ (7301080 : Nat); omega⟩ dL_law_82 rfl hl.1 rfl (Nat.le_of_ble_eq_true rfl) ?_
  refine lv_bipush (v := (18 : Int32)) hx hb dL_law_85 (by decide) ?_
  refine kc_px (rest := []) C.1 (c_L_low l ((f_cell L xs (3 * k))) ((18 : Int32)) (by decide)) gL_law_L_low mi_L_low ⟨rfl, rfl⟩ ⟨Nat.le_of_ble_eq_true rfl, Nat.le_of_ble_eq_true rfl⟩ ⟨by show _ ≤ (600130 : Nat); omega, by show _ ≤ (7301080 : Nat); omega⟩ dL_law_87 rfl hl.1 rfl (Nat.le_of_ble_eq_true rfl) ?_
  rw [ht']
  refine lv_istore (lv' := [(10, .int (nI t)), (9, .int (s32 (un 2) n)), (8, .int (un 12 0)), (7, .int (un 11 0)), (6, .int (nI n)), (5, .int (nI sv.2.1)), (4, .int (nI k)), (3, .int (nI N3)), (2, .int (1 : Int32)), (1, .ref (A 0)), (0, .ref b)]) hx hb dL_law_90 hl (by decide) rfl (fun ls hl => ?_)
  refine lv_iconst (v := (1 : Int32)) hx hb dL_law_92 (by decide) ?_
  refine lv_aload_n hx hb dL_law_93 rfl (lv_at hl 10 rfl) ?_
  refine lv_iconst (v := (3 : Int32)) hx hb dL_law_94 (by decide) ?_
  refine lv_iload hx hb dL_law_95 (lv_at hl 6 rfl) ?_
  refine lv_imul hx hb dL_law_97 ?_
  rw [show (3 : Int32) * nI k = nI (3 * k) from pk_mul 3 k]
  refine lv_iconst (v := (1 : Int32)) hx hb dL_law_98 (by decide) ?_
  refine lv_iadd hx hb dL_law_99 ?_
  rw [show nI (3 * k) + (1 : Int32) = nI (3 * k + 1) from nI_1 (3 * k)]
  refine kc_sE (rest := [.int (1 : Int32)]) (fun U g mk a h => h.calling g mk a) (hE.at hbA hY.2.2) C.1 (c_L_cell l b L xs (3 * k + 1) (by omega) hL) gL_law_L_cell mi_L_cell ⟨rfl, rfl⟩ ⟨Nat.le_of_ble_eq_true rfl, Nat.le_of_ble_eq_true rfl⟩ ⟨by show _ ≤ (600130 : Nat); omega, by show _ ≤ (7301080 : Nat); omega⟩ dL_law_100 rfl hl.1 rfl (Nat.le_of_ble_eq_true rfl) ?_
  refine lv_bipush (v := (60 : Int32)) hx hb dL_law_103 (by decide) ?_
  refine kc_px (rest := [.int (1 : Int32)]) C.1 (c_L_low l ((f_cell L xs (3 * k + 1))) ((60 : Int32)) (by decide)) gL_law_L_low mi_L_low ⟨rfl, rfl⟩ ⟨Nat.le_of_ble_eq_true rfl, Nat.le_of_ble_eq_true rfl⟩ ⟨by show _ ≤ (600130 : Nat); omega, by show _ ≤ (7301080 : Nat); omega⟩ dL_law_105 rfl hl.1 rfl (Nat.le_of_ble_eq_true rfl) ?_
  refine lv_iadd hx hb dL_law_108 ?_
  rw [ej1']
  refine lv_istore (lv' := [(11, .int (nI q1)), (10, .int (nI t)), (9, .int (s32 (un 2) n)), (8, .int (un 12 0)), (7, .int (un 11 0)), (6, .int (nI n)), (5, .int (nI sv.2.1)), (4, .int (nI k)), (3, .int (nI N3)), (2, .int (1 : Int32)), (1, .ref (A 0)), (0, .ref b)]) hx hb dL_law_109 hl (by decide) rfl (fun ls hl => ?_)
  refine lv_aload_n hx hb dL_law_111 rfl (lv_at hl 10 rfl) ?_
  refine lv_iload hx hb dL_law_112 (lv_at hl 0 rfl) ?_
  refine lv_aload_n hx hb dL_law_114 rfl (lv_at hl 10 rfl) ?_
  refine lv_iconst (v := (1 : Int32)) hx hb dL_law_115 (by decide) ?_
  refine rd_setting (set1) gL_law_X4_setting C hY hl.1 ⟨Nat.le_of_ble_eq_true rfl, Nat.le_of_ble_eq_true rfl⟩ ⟨by show _ ≤ (600130 : Nat); omega, by show _ ≤ (7301080 : Nat); omega⟩ (Nat.le_of_ble_eq_true rfl) dL_law_116 (fun H locs hY => ?_)
  refine lv_iconst (v := (0 : Int32)) hx hb dL_law_119 (by decide) ?_
  refine rd_ifRun (hi1.1) gL_law_X4_ifRun C hY hl.1 ⟨Nat.le_of_ble_eq_true rfl, Nat.le_of_ble_eq_true rfl⟩ ⟨by show _ ≤ (600130 : Nat); omega, by show _ ≤ (7301080 : Nat); omega⟩ (Nat.le_of_ble_eq_true rfl) dL_law_120 (fun H locs hY => ?_)
  generalize hu2 : f_XtryOut fl un ut u0 u1 sv x r (nI q1) (un 9 0) = ut2 at hY
  have hi2 := A_if (fl := fl) (ut := ut2) (u0 := u0) (u1 := u1) (sv := sv) (x := x) (r := r) hG (q := q1) (by omega) (by omega)
  refine lv_istore (lv' := [(12, .int (f_letGoBy un (nI q1)).1), (11, .int (nI q1)), (10, .int (nI t)), (9, .int (s32 (un 2) n)), (8, .int (un 12 0)), (7, .int (un 11 0)), (6, .int (nI n)), (5, .int (nI sv.2.1)), (4, .int (nI k)), (3, .int (nI N3)), (2, .int (1 : Int32)), (1, .ref (A 0)), (0, .ref b)]) hx hb dL_law_123 hl (by decide) rfl (fun ls hl => ?_)
  refine lv_aload_n hx hb dL_law_125 rfl (lv_at hl 11 rfl) ?_
  refine lv_iload hx hb dL_law_126 (lv_at hl 1 rfl) ?_
  refine lv_aload_n hx hb dL_law_128 rfl (lv_at hl 11 rfl) ?_
  refine lv_iconst (v := (1 : Int32)) hx hb dL_law_129 (by decide) ?_
  refine rd_setting (set1) gL_law_X4_setting C hY hl.1 ⟨Nat.le_of_ble_eq_true rfl, Nat.le_of_ble_eq_true rfl⟩ ⟨by show _ ≤ (600130 : Nat); omega, by show _ ≤ (7301080 : Nat); omega⟩ (Nat.le_of_ble_eq_true rfl) dL_law_130 (fun H locs hY => ?_)
  refine lv_iconst (v := (1 : Int32)) hx hb dL_law_133 (by decide) ?_
  refine rd_ifRun (hi2.2) gL_law_X4_ifRun C hY hl.1 ⟨Nat.le_of_ble_eq_true rfl, Nat.le_of_ble_eq_true rfl⟩ ⟨by show _ ≤ (600130 : Nat); omega, by show _ ≤ (7301080 : Nat); omega⟩ (Nat.le_of_ble_eq_true rfl) dL_law_134 (fun H locs hY => ?_)
  generalize hu3 : f_XtryOut fl un ut2 u0 u1 sv x r (nI q1) (un 9 0) = ut3 at hY
  refine lv_istore (lv' := [(13, .int (f_order (f_letGoBy un (nI q1)).2)), (12, .int (f_letGoBy un (nI q1)).1), (11, .int (nI q1)), (10, .int (nI t)), (9, .int (s32 (un 2) n)), (8, .int (un 12 0)), (7, .int (un 11 0)), (6, .int (nI n)), (5, .int (nI sv.2.1)), (4, .int (nI k)), (3, .int (nI N3)), (2, .int (1 : Int32)), (1, .ref (A 0)), (0, .ref b)]) hx hb dL_law_137 hl (by decide) rfl (fun ls hl => ?_)
  refine lv_aload_n hx hb dL_law_139 rfl (lv_at hl 12 rfl) ?_
  refine lv_aload_n hx hb dL_law_140 rfl (lv_at hl 13 rfl) ?_
  refine lv_iconst (v := (3 : Int32)) hx hb dL_law_141 (by decide) ?_
  refine lv_iload hx hb dL_law_142 (lv_at hl 9 rfl) ?_
  refine lv_imul hx hb dL_law_144 ?_
  rw [show (3 : Int32) * nI k = nI (3 * k) from pk_mul 3 k]
  have hAB := va_free (wc := XW cI cZ cO A Qq fl un ut3 u0 u1 sv x r) hY.2.1 hY.2.2 C.2.2.2.2 _ XW_all
  have hzA := A_act (fl := fl) (ut := ut3) (u0 := u0) (u1 := u1) (x := x) (r := r) (a2 := f_cell L xs (3 * k + 1)) (b2 := f_cell L xs (3 * k + 2)) hWI (by omega) hG t ht18
  have hzr : 8 ≤ t → t ≤ 12 → f_act fl un ut3 u0 u1 sv x r n t (f_cell L xs (3 * k + 1)) (f_cell L xs (3 * k + 2)) = hR (f_Xrun fl un ut3 u0 u1 sv x r (1 + f_low (f_cell L xs (3 * k + 1)) 60)) un sv := fun h1 h2 => act_run h1 h2
  refine kc_swE (Ex := fun U => XT (va_A (XW cI cZ cO A Qq fl un ut3 u0 u1 sv x r) H.size) U ∧ ScE b L xs U) (fun U g mk a h => ⟨h.1.calling, h.2.calling g mk a⟩) (fun U hU hW => ⟨(C.xt hY).at hW hU hAB, hE.at hbA hY.2.2 U hU hW⟩) rfl C.1 (c_L_act l C.2.1 dC dI cI cZ cO A Qq fl un ut3 u0 u1 sv x r H.size hG hWI (by omega) (K := 3 * k) (b := b) (by omega) hL ht' ht18 (fun z => hbA (hAB b z))) gL_law_L_act mi_L_act ⟨rfl, rfl⟩ ⟨Nat.le_of_ble_eq_true rfl, Nat.le_of_ble_eq_true rfl⟩ C.2.2.1 hY.1 hY.2.1 hY.2.2 C.2.2.2.2 _ XW_all XW_fst (by decide) ⟨by show _ ≤ (600130 : Nat); omega, by show _ ≤ (7301080 : Nat); omega⟩ dL_law_145 rfl hl.1 rfl (Nat.le_of_ble_eq_true rfl) (fun H locs hP hD hS => ?_)
  rw [XW_ks] at hP hD
  generalize f_act fl un ut3 u0 u1 sv x r n t (f_cell L xs (3 * k + 1)) (f_cell L xs (3 * k + 2)) = z at hzA hzr hP hD ⊢
  obtain ⟨z1, un2, sv2⟩ := z
  dsimp only at hP hD hzA hzr ⊢
  have hY : DY (dC, dI) (XW cI cZ cO A Qq fl un2 ut3 u0 u1 sv2 x r) (fun q => s.heap.size ≤ q) s H locs := ⟨hP, hD, hS⟩
  refine lv_istore (lv' := [(14, .int z1), (13, .int (f_order (f_letGoBy un (nI q1)).2)), (12, .int (f_letGoBy un (nI q1)).1), (11, .int (nI q1)), (10, .int (nI t)), (9, .int (s32 (un 2) n)), (8, .int (un 12 0)), (7, .int (un 11 0)), (6, .int (nI n)), (5, .int (nI sv.2.1)), (4, .int (nI k)), (3, .int (nI N3)), (2, .int (1 : Int32)), (1, .ref (A 0)), (0, .ref b)]) hx hb dL_law_148 hl (by decide) rfl (fun ls hl => ?_)
  refine lv_iload hx hb dL_law_150 (lv_at hl 0 rfl) ?_
  have hrun : 8 ≤ t → t ≤ 12 → z1 = (f_letGoBy un (nI q1)).1 ∧ un2 12 0 = un 12 0 + z1 ∧ f_order un2 = f_order (f_letGoBy un (nI q1)).2 ∧ un2 11 0 = un 11 0 + nI q1 ∧ GI n un2 ∧ s32 (un2 2) n = s32 (un 2) n - z1 := fun h1 h2 => by
    have h9 := hzr h1 h2
    rw [ej1', (A_run (fl := fl) (ut := ut3) (u0 := u0) (u1 := u1) (x := x) (r := r) hWI (by omega) hG (q := q1) (by omega) (by omega)).1] at h9
    obtain ⟨r1, r2, r3, r4, r5, r6, r7⟩ := hrn
    have a1 : z1 = (f_letGoBy un (nI q1)).1 := congrArg (fun z => z.1) h9
    have a2 : un2 = (f_letGoBy un (nI q1)).2 := congrArg (fun z => z.2.1) h9
    rw [a1, a2]
    exact ⟨rfl, r5, rfl, r4, r6, r7⟩
  have hWI2 : WI (k + 1) un2 sv2 := by
    rcases hzA with h1 | h1
    · exact h1.2
    · have a2 : un2 = un := congrArg (fun z => z.2.1) h1
      have a3 : sv2 = sv := congrArg (fun z => z.2.2) h1
      rw [a2, a3]
      exact WI_up hWI (by omega)
  obtain ⟨n2, hG2⟩ := hWI2.1.1
  refine lv_if_ge (tgt := 196) hx hb dL_law_152 (by decide) (fun h1 => ?_) (fun h1 => ?_)
  · refine lv_iconst (v := (1 : Int32)) hx hb dL_law_196 (by decide) ?_
    refine lv_goto (tgt := 201) hx hb dL_law_197 (by decide) ?_
    exact law_201 C hk hWI2 hG2 hC1 hS1 kk ht18 hrun (by omega) (by omega) hY (lv_sub hl [0, 1, 2, 3, 4, 5, 6, 7, 10, 11, 13, 14] rfl)
  · have hz3 : z1 = -3 ∧ un2 = un ∧ sv2 = sv := by
      rcases hzA with h9 | h9
      · exact absurd (ti_le.mpr (by have e0 : (0 : Int32).toInt = 0 := by decide
                                    have h8 : 0 ≤ z1.toInt := h9.1
                                    omega)) h1
      · exact ⟨congrArg (fun z => z.1) h9, congrArg (fun z => z.2.1) h9, congrArg (fun z => z.2.2) h9⟩
    obtain ⟨-, a2, a3⟩ := hz3
    have g11 : f_Xcount fl un2 ut3 u0 u1 sv2 x r (11 : Int32) = .ok (nI sv.2.1) := by rw [a2, a3, cou11]
    have g0 : f_Xcount fl un2 ut3 u0 u1 sv2 x r (0 : Int32) = .ok (nI n) := by rw [a2, a3, cou0, GI_5 hG]
    have g2 : f_Xcount fl un2 ut3 u0 u1 sv2 x r (2 : Int32) = .ok (un 11 0) := by rw [a2, a3, cou2]
    have g3 : f_Xcount fl un2 ut3 u0 u1 sv2 x r (3 : Int32) = .ok (un 12 0) := by rw [a2, a3, cou3]
    refine lv_aload_n hx hb dL_law_155 rfl (lv_at hl 13 rfl) ?_
    refine lv_bipush (v := (11 : Int32)) hx hb dL_law_156 (by decide) ?_
    refine rd_count (g11) gL_law_X4_count C hY hl.1 ⟨Nat.le_of_ble_eq_true rfl, Nat.le_of_ble_eq_true rfl⟩ ⟨by show _ ≤ (600130 : Nat); omega, by show _ ≤ (7301080 : Nat); omega⟩ (Nat.le_of_ble_eq_true rfl) dL_law_158 (fun H locs hY => ?_)
    refine lv_iload hx hb dL_law_161 (lv_at hl 9 rfl) ?_
    refine lv_icmp_ne (tgt := 200) hx hb dL_law_163 (by decide) (fun q => absurd (rfl) q) (fun _ => ?_)
    refine lv_aload_n hx hb dL_law_166 rfl (lv_at hl 13 rfl) ?_
    refine lv_iconst (v := (0 : Int32)) hx hb dL_law_167 (by decide) ?_
    refine rd_count (g0) gL_law_X4_count C hY hl.1 ⟨Nat.le_of_ble_eq_true rfl, Nat.le_of_ble_eq_true rfl⟩ ⟨by show _ ≤ (600130 : Nat); omega, by show _ ≤ (7301080 : Nat); omega⟩ (Nat.le_of_ble_eq_true rfl) dL_law_168 (fun H locs hY => ?_)
    refine lv_iload hx hb dL_law_171 (lv_at hl 8 rfl) ?_
    refine lv_icmp_ne (tgt := 200) hx hb dL_law_173 (by decide) (fun q => absurd (rfl) q) (fun _ => ?_)
    refine lv_aload_n hx hb dL_law_176 rfl (lv_at hl 13 rfl) ?_
    refine lv_iconst (v := (2 : Int32)) hx hb dL_law_177 (by decide) ?_
    refine rd_count (g2) gL_law_X4_count C hY hl.1 ⟨Nat.le_of_ble_eq_true rfl, Nat.le_of_ble_eq_true rfl⟩ ⟨by show _ ≤ (600130 : Nat); omega, by show _ ≤ (7301080 : Nat); omega⟩ (Nat.le_of_ble_eq_true rfl) dL_law_178 (fun H locs hY => ?_)
    refine lv_iload hx hb dL_law_181 (lv_at hl 7 rfl) ?_
    refine lv_icmp_ne (tgt := 200) hx hb dL_law_183 (by decide) (fun q => absurd (rfl) q) (fun _ => ?_)
    refine lv_aload_n hx hb dL_law_186 rfl (lv_at hl 13 rfl) ?_
    refine lv_iconst (v := (3 : Int32)) hx hb dL_law_187 (by decide) ?_
    refine rd_count (g3) gL_law_X4_count C hY hl.1 ⟨Nat.le_of_ble_eq_true rfl, Nat.le_of_ble_eq_true rfl⟩ ⟨by show _ ≤ (600130 : Nat); omega, by show _ ≤ (7301080 : Nat); omega⟩ (Nat.le_of_ble_eq_true rfl) dL_law_188 (fun H locs hY => ?_)
    refine lv_iload hx hb dL_law_191 (lv_at hl 6 rfl) ?_
    refine lv_icmp_ne (tgt := 200) hx hb dL_law_193 (by decide) (fun q => absurd (rfl) q) (fun _ => ?_)
    refine lv_iconst (v := (1 : Int32)) hx hb dL_law_196 (by decide) ?_
    refine lv_goto (tgt := 201) hx hb dL_law_197 (by decide) ?_
    exact law_201 C hk hWI2 hG2 hC1 hS1 kk ht18 hrun (by omega) (by omega) hY (lv_sub hl [0, 1, 2, 3, 4, 5, 6, 7, 10, 11, 13, 14] rfl)
set_option maxRecDepth 100000 in
theorem law_32 (C : RC p l m c cL_law 15 s #[Value.ref b] wsL_law (dC, dI) cI cZ cO (fun q => s.heap.size ≤ q)) {L : Nat} {xs : Nat → Int32} (hE : ScE b L xs s) (hL : L < 2 ^ 31) (hr : meth.sig.returnType = ret) (hlk : meth.locks = false) (hN : N3 ≤ 44) : ∀ (d k cells slots : Nat) (un ut : BS) (sv : SS) (H : Heap) (locs : List Loc) (ls : Array Slot), k + d = N3 → cells + 600 * d ≤ 600000 → slots + 3600 * d ≤ 7301000 → WI k un sv → DY (dC, dI) (XW cI cZ cO A Qq fl un ut u0 u1 sv x r) (fun q => s.heap.size ≤ q) s H locs → lv_has ls 15 [(4, .int (nI k)), (3, .int (nI N3)), (2, .int (1 : Int32)), (1, .ref (A 0)), (0, .ref b)] → W p l e room_1 s m #[Value.ref b] below meth c H locs cells slots (lw_Z below #[Value.ref b] s) (F0 m 32 ls [])
  | d, k, cells, slots, un, ut, sv, H, locs, ls => fun hd hc1 hc2 hWI hY hl => by
    obtain ⟨hx, hb, hml, hown, hts⟩ := id C.1
    refine lv_iload hx hb dL_law_32 (lv_at hl 0 rfl) ?_
    refine lv_iload_n hx hb dL_law_34 rfl (lv_at hl 1 rfl) ?_
    refine lv_icmp_ge (tgt := 295) hx hb dL_law_35 (by decide) (fun h1 => ?_) (fun h1 => ?_)
    · refine lv_iload_n hx hb dL_law_295 rfl (lv_at hl 2 rfl) ?_
      refine va_forget (fun q9 hq => hY.2.2.2.2 q9 hq) ?_
      refine W.widen (k := 600130) (n := 7301080) (by omega) (by omega) ?_
      refine W.base ?_
      exact lw_ret (Drawn.sameBut.refl s.drawn lw_cs) hx hb hr hlk dL_law_296
    · have hk : k < N3 := by
        rcases Nat.lt_or_ge k N3 with z | z
        · exact z
        · exact absurd (nI_le z (by omega)) h1
      refine lv_iload_n hx hb dL_law_38 rfl (lv_at hl 2 rfl) ?_
      refine lv_if_eq (tgt := 295) hx hb dL_law_39 (by decide) (fun q => absurd q (by decide)) (fun _ => ?_)
      obtain ⟨n, hG⟩ := hWI.1.1
      match d, hd, hc1, hc2 with
      | 0, hd, _, _ => omega
      | d + 1, hd, hc1, hc2 =>
        exact law_42 C (by omega) hWI hG hE hL (C1 := 600000 - 600 * d) (S1 := 7301000 - 3600 * d) (by omega) (by omega) (fun un ut sv cells slots H locs ls h1 h2 hWI hY hl => law_32 C hE hL hr hlk hN d (k + 1) cells slots un ut sv H locs ls (by omega) (by omega) (by omega) hWI hY hl) (by omega) (by omega) hY hl
termination_by d => d
end LAW

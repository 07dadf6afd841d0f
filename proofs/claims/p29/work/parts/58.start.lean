/-! the law's start -/
theorem fs0_X4 : ∀ j, j < 8 → defaultValue (tyX4 j) = vp_V [.null, .null, .null, .null, .null, .null, .null, .null] j := fun j hj => match j, hj with | 0, _ => rfl | 1, _ => rfl | 2, _ => rfl | 3, _ => rfl | 4, _ => rfl | 5, _ => rfl | 6, _ => rfl | 7, _ => rfl | j + 8, hj => absurd hj (by omega)
theorem GI_0s : GI 0 uB0 := by
  refine ⟨by omega, rfl, ⟨?_, ?_, ?_, ?_, fun k h => absurd h (by omega)⟩, ?_, fun k h => absurd h (by omega), fun k h => absurd h (by omega), ?_, ?_⟩
  · decide
  · decide
  · decide
  · decide
  · decide
  · decide
  · show (0 : Int) ≤ (uB0 12 0).toInt ∧ (uB0 12 0).toInt ≤ 6 * (uB0 11 0).toInt
    decide
theorem WI_0s : WI 0 uB0 (0, 0, fun _ => uB0) := by
  refine ⟨⟨⟨0, GI_0s⟩, ?_⟩, by decide, by decide, fun i h => absurd h (by simp)⟩
  show (uB0 11 0).toInt ≤ 60 * ((0 : Nat) : Int)
  decide
section KX4
variable {p : Program} {l : Launch} {e : Env} {R : Room} {s : State} {m : MethodId} {args : Array Value} {below : List Frame} {meth : Method} {c : Code} {H H0 : Heap} {locs : List Loc} {cells slots : Nat} {Q : State → Prop}
  {Ts wy : List Cond} {cc bytes : ByteArray} {nL maxL index mc ms : Nat} {own : String} {y : MethodName} {rm : Room} {rest st : List Value} {pc b : Nat} {ls : Array Slot} {D : va_G} {cl : List vw_C} {wc : va_W} {A0 : Nat → Prop} {Wq : (Nat → Nat) → (Nat → Nat → Nat) → va_W} {tys : List (ClassId × FieldType)} {Ex : State → Prop}
theorem kc_X4 (hEm : ∀ {u U : State}, u.vm.Alike U.vm → Ex u → Ex U) (hE : Ex s) (S : CallFix p m c cc nL s args Ts own) (hM : Met l y wy rm (va_Pc [.ref b] (fun U => U.heap.size = H.size ∧ va_P D cl wc U.heap ∧ va_K D cl tys U ∧ va_D (fun _ => True) wc ∧ Ex U)) (fun _ st o t => o = .returned none ∧ ∃ (A : Nat → Nat) (Q : Nat → Nat → Nat), A 0 = b ∧ va_P D cl (Wq A Q) t.heap ∧ va_D (va_A wc H.size) (Wq A Q) ∧ va_F (va_A wc H.size) st t) mc ms (va_A wc H.size)) (cw : CallB R s args own index y bytes maxL none wy rm mc ms 0 ∧ y.name = "<init>" ∧ (Cond.instanceMethod y).before args s = true)
    (hK : va_K D cl tys s) (hP : va_P D cl wc H) (hD : va_D A0 wc) (hS : va_S A0 H0 H locs) (hA : ∀ q, H0.size ≤ q → A0 q) (is : List Nat) (hC : is.map (fun i => wc[i]?) = wc.map some) (hnC : va_nd is = true)
    (hsz : ls.size = nL) (hW : (rest.map fun v => v.category).sum ≤ 8) (hdg : decode cc pc = .ok (.invokespecial index, 3)) (hf : cells + mc ≤ R.cells ∧ slots + ms ≤ R.slots)
    (kk : ∀ (A : Nat → Nat) (q : Nat → Nat → Nat) (H1 : Heap) (locs1 : List Loc), A 0 = b → va_P D cl (Wq A q) H1 → va_D A0 (Wq A q) → va_S A0 H0 H1 locs1 → W p l e R s m args below meth c H1 locs1 (cells + mc) (slots + ms) Q (F0 m (pc + 3) ls rest)) : W p l e R s m args below meth c H locs cells slots Q (F0 m pc ls (.ref b :: rest)) := by
  have hDc := (hD.sub (ws' := wc) is hnC hC).weaken (B := fun _ => True) (fun _ _ _ _ => trivial)
  have hr := va_runI (e := e) (R := R) (below := below) (meth := meth) (locs := locs) (cells := cells) (slots := slots) (g := F0 m pc ls (.ref b :: rest)) (As := []) (rest := rest) S hM cw ⟨fun a U g mk q => ⟨q.1, q.2.1, q.2.2.1, va_K.moved (u := U) (U := U.calling g mk a) (Vm.Alike.refl U.vm) q.2.2.2.1, q.2.2.2.2.1, hEm (u := U) (U := U.calling g mk a) (Vm.Alike.refl U.vm) q.2.2.2.2.2⟩, fun U hU hW => ⟨rfl, by rw [hU], by rw [hU]; exact hP, va_K.moved hW.alike hK, hDc, hEm hW.alike hE⟩⟩ rfl rfl hsz rfl (lv_room hW) hdg hf
  have hF := va_free (wc := wc) hD hS hA is hC
  intro T hT X
  obtain ⟨v', st₀, t, T', L, h0, X', hL, e1, e2, ⟨hv, A, q, hA9, hp, hd, hz, hk⟩, stp⟩ := hr T hT X
  cases hv
  rw [h0] at hz hk
  have hS1 : va_S A0 H0 T'.heap (locs ++ L) := ⟨Nat.le_trans hS.1 (by rw [e1]; exact hz), fun q h1 h2 => by rw [e1, hk q (Nat.lt_of_lt_of_le h1 hS.1) (fun z => h2 (hF q z))]; exact hS.2.1 q h1 h2, fun q hq => by
      rcases List.mem_append.mp hq with h | h
      · exact hS.2.2 q h
      · exact hF _ (hL q h)⟩
  obtain ⟨hP1, hD1⟩ := va_join (wr := []) (H1 := T'.heap) hP hD is [] hC rfl rfl (fun i h => absurd h List.not_mem_nil) (fun q h1 h2 => by rw [e1]; exact hk q h1 h2) hF (by rw [e1]; exact hp) hd
  obtain ⟨t2, a1, b1⟩ := kk A q T'.heap (locs ++ L) hA9 hP1 hD1 hS1 T' rfl X'
  exact ⟨t2, stp t2 a1, b1⟩
end KX4
set_option maxHeartbeats 4000000 in
set_option maxRecDepth 100000 in
/-- YOUR PART: from the entry, for every script of at most 260 ints, the law comes to its end with true -/
theorem whole_start {p : Program} {e : Env} {s : State} {m : MethodId} {below : List Frame} {meth : Method} {c : Code} (l : Launch) (hflags : l.flags = flags0) {b L : Nat} {xs : Nat → Int32} (hL : L ≤ 260) (C0 : lw_At p s m meth c b L xs) : W p l e room_1 s m #[Value.ref b] below meth c s.heap [] 0 0 (lw_Z below #[Value.ref b] s) (entryFrame m ([Value.ref b] : List Value).toArray 15) := by
  obtain ⟨hx, hb, hr, hml, hown, hts, hX, hbl, hlocks, hgv⟩ := id C0
  have hst : l.stackTraces = false := by
    unfold Launch.stackTraces
    rw [hflags]
    decide +kernel
  have hA1 : ∀ q : Nat, s.heap.size ≤ q → (fun q : Nat => s.heap.size ≤ q) q := fun _ h => h
  have hbA : ¬ (fun q : Nat => s.heap.size ≤ q) b := Nat.not_le.mpr hbl
  have hb : c.code = cL_law := hb
  have htw : ∀ w ∈ wsL_law, w.before #[Value.ref b] s = true := fun w h => hts w (wsL_law_in w h)
  have S : CallFix p m c cL_law 15 s #[Value.ref b] wsL_law RL := ⟨hx, hb, hml, hown, htw⟩
  obtain ⟨dC, dI, hKc⟩ := st_cls hts
  obtain ⟨cI, cZ, cO, hTy⟩ := st_arr hts
  have hXX := st_XTk hts hgv
  have hAO := st_AO hts
  have hS : va_S (fun q : Nat => s.heap.size ≤ q) s.heap s.heap [] := va_S.rf
  have hK : va_K (dC, dI) vwCl (TY cI cZ cO) s := ⟨hKc, hTy⟩
  have C : RC p l m c cL_law 15 s #[Value.ref b] wsL_law (dC, dI) cI cZ cO (fun q => s.heap.size ≤ q) := ⟨S, hst, hK, hXX, hA1⟩
  have hP : va_P (dC, dI) vwCl [] s.heap := fun k q h => by simp at h
  have hD : va_D (fun q : Nat => s.heap.size ≤ q) [] := ⟨fun i j p q h => by simp at h, fun k q h => by simp at h⟩
  have hl := lv_entry ([.ref b]) (n := 15) (Nat.le_of_ble_eq_true rfl)
  rw [lg_entry_eq]
  generalize (lg_sl ([.ref b]) ++ List.replicate (15 - (lg_sl ([.ref b])).length) Slot.unset).toArray = ls at hl ⊢
  have hl : lv_has ls 15 [(0, .ref b)] := hl
  refine va_new (ci := 4) (fs := [.null, .null, .null, .null, .null, .null, .null, .null]) (C := RX4) (T := TX4) (N := 8) hx hb hts inX4 tyX4 tyX4_ok hown (hts (.classLink R_law 10 RX4) (by decide +kernel)) (hts (.instantiable RX4 8) (by decide +kernel)) (hts (.initialized RX4) (by decide +kernel)) hK hP hD hS hA1 rfl fs0_X4 (Nat.le_of_ble_eq_true rfl) (Nat.le_of_ble_eq_true rfl) dL_law_0 (fun a0 H hP hD hS => ?_)
  refine lv_dup hx hb dL_law_3 rfl ?_
  refine kc_X4 (Ex := va_AO RX0) (fun h1 h2 => va_AO.moved h1 h2) hAO S (c_X4_init l dC dI cI cZ cO a0 H.size) (cwI 0 htw gL_law_X4_init rfl rfl rfl (hts (.initialized RX4) (by decide +kernel)) (hts (.methodLink RL 81 yX4_init) (by decide +kernel)) (hts (.instanceMethod yX4_init) (by decide +kernel)) rfl (by decide +kernel) ⟨Nat.le_of_ble_eq_true rfl, Nat.le_of_ble_eq_true rfl⟩) hK hP hD hS hA1 [0] rfl (by decide) hl.1 (Nat.le_of_ble_eq_true rfl) dL_law_4 ⟨Nat.le_of_ble_eq_true rfl, Nat.le_of_ble_eq_true rfl⟩ (fun A Q H locs h0 hP hD hS => ?_)
  have hY : DY (dC, dI) (XW cI cZ cO A Q (fun _ => 0) uB0 uB0 uB0 uB0 (0, 0, fun _ => uB0) uZ0 uZ0) (fun q => s.heap.size ≤ q) s H locs := ⟨hP, hD, hS⟩
  subst h0
  refine lv_astore_n (lv' := [(1, .ref (A 0)), (0, .ref b)]) hx hb dL_law_7 rfl hl (by decide) rfl (fun ls hl => ?_)
  refine lv_iconst (v := (1 : Int32)) hx hb dL_law_8 (by decide) ?_
  refine lv_istore_n (lv' := [(2, .int (1 : Int32)), (1, .ref (A 0)), (0, .ref b)]) hx hb dL_law_9 rfl hl (by decide) rfl (fun ls hl => ?_)
  have e3 : Int32.ofNat L / (3 : Int32) = nI (L / 3) := pk_div (a := L) (d := 3) (by omega) (by omega) (by omega)
  have fin : ∀ (N3 : Nat) (ls : Array Slot), N3 ≤ 44 → lv_has ls 15 [(2, .int (1 : Int32)), (1, .ref (A 0)), (0, .ref b)] → ∀ cells slots, cells ≤ 1000 → slots ≤ 1000 → W p l e room_1 s m #[Value.ref b] below meth c H locs cells slots (lw_Z below #[Value.ref b] s) (F0 m 28 ls [.int (nI N3)]) := by
    intro N3 ls hN hl cells slots h1 h2
    refine lv_istore_n (lv' := [(3, .int (nI N3)), (2, .int (1 : Int32)), (1, .ref (A 0)), (0, .ref b)]) hx hb dL_law_28 rfl hl (by decide) rfl (fun ls hl => ?_)
    refine lv_iconst (v := nI 0) hx hb dL_law_29 rfl ?_
    refine lv_istore (lv' := [(4, .int (nI 0)), (3, .int (nI N3)), (2, .int (1 : Int32)), (1, .ref (A 0)), (0, .ref b)]) hx hb dL_law_30 hl (by decide) rfl (fun ls hl => ?_)
    exact law_32 C (L := L) (xs := xs) ⟨hbl, hX⟩ (by omega) hr hlocks hN N3 0 _ _ uB0 uB0 (0, 0, fun _ => uB0) H locs ls (by omega) (by omega) (by omega) WI_0s hY hl
  refine lv_aload_n hx hb dL_law_10 rfl (lv_at hl 2 rfl) ?_
  refine va_slen hx hb hX hbl hbA hS dL_law_11 ?_
  refine lv_iconst (v := (3 : Int32)) hx hb dL_law_12 (by decide) ?_
  refine lv_idiv hx hb dL_law_13 (by decide) ?_
  rw [e3]
  refine lv_bipush (v := (44 : Int32)) hx hb dL_law_14 (by decide) ?_
  refine lv_icmp_le (tgt := 24) hx hb dL_law_16 (by decide) (fun h1 => ?_) (fun h1 => ?_)
  · refine lv_aload_n hx hb dL_law_24 rfl (lv_at hl 2 rfl) ?_
    refine va_slen hx hb hX hbl hbA hS dL_law_25 ?_
    refine lv_iconst (v := (3 : Int32)) hx hb dL_law_26 (by decide) ?_
    refine lv_idiv hx hb dL_law_27 (by decide) ?_
    rw [e3]
    refine fin (L / 3) ls ?_ hl _ _ (Nat.le_of_ble_eq_true rfl) (Nat.le_of_ble_eq_true rfl)
    rcases Nat.lt_or_ge 44 (L / 3) with z | z
    · exact absurd h1 (nI_ge z (by omega))
    · exact z
  · refine lv_bipush (v := nI 44) hx hb dL_law_19 rfl ?_
    refine lv_goto (tgt := 28) hx hb dL_law_21 (by decide) ?_
    exact fin 44 ls (Nat.le_refl _) hl _ _ (Nat.le_of_ble_eq_true rfl) (Nat.le_of_ble_eq_true rfl)

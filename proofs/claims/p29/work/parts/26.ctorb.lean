/-! a call of a constructor whose world grows -/
section KCN
variable {p : Program} {l : Launch} {e : Env} {R : Room} {s : State} {m : MethodId} {args : Array Value} {below : List Frame} {meth : Method} {c : Code} {H H0 : Heap} {locs : List Loc} {cells slots : Nat} {Q : State → Prop}
  {Ts wy : List Cond} {cc bytes : ByteArray} {nL maxL index mc ms : Nat} {own : String} {y : MethodName} {rm : Room} {rest st : List Value} {pc b : Nat} {ls : Array Slot} {D : va_G} {cl : List vw_C} {ws wc : va_W} {A0 : Nat → Prop} {Wq : (Nat → Nat) → va_W} {tys : List (ClassId × FieldType)} {a : Array Value}
theorem kQn_call (hr : va_Run p l e R s m args below meth c H locs cells slots mc ms (F0 m pc ls st) rest (kQn D cl Wq (va_A wc H.size) a) (va_A wc H.size)) (hP : va_P D cl (ws ++ wc) H) (hD : va_D A0 (ws ++ wc)) (hS : va_S A0 H0 H locs) (hA : ∀ q, H0.size ≤ q → A0 q)
    (isC isR : List Nat) (hC : isC.map (fun i => (ws ++ wc)[i]?) = wc.map some) (hR : isR.map (fun i => (ws ++ wc)[i]?) = ws.map some) (hn : va_nd isR = true) (hdis : ∀ i ∈ isR, i ∉ isC)
    (kk : ∀ (q : Nat → Nat) (H1 : Heap) (locs1 : List Loc), va_P D cl (ws ++ Wq q) H1 → va_D A0 (ws ++ Wq q) → va_S A0 H0 H1 locs1 → W p l e R s m args below meth c H1 locs1 (cells + mc) (slots + ms) Q (F0 m (pc + 3) ls rest)) : W p l e R s m args below meth c H locs cells slots Q (F0 m pc ls st) := by
  have hF := va_free (wc := wc) hD hS hA isC hC
  intro T hT X
  obtain ⟨v', st₀, t, T', L, h0, X', hL, e1, e2, ⟨hv, q, hp, hd, hz, hk⟩, stp⟩ := hr T hT X
  cases hv
  rw [h0] at hz hk
  have hS1 : va_S A0 H0 T'.heap (locs ++ L) := ⟨Nat.le_trans hS.1 (by rw [e1]; exact hz), fun q h1 h2 => by rw [e1, hk q (Nat.lt_of_lt_of_le h1 hS.1) (fun z => h2 (hF q z))]; exact hS.2.1 q h1 h2, fun q hq => by
      rcases List.mem_append.mp hq with h | h
      · exact hS.2.2 q h
      · exact hF _ (hL q h)⟩
  obtain ⟨hP1, hD1⟩ := va_join (H1 := T'.heap) hP hD isC isR hC hR hn hdis (fun q h1 h2 => by rw [e1]; exact hk q h1 h2) hF (by rw [e1]; exact hp) hd
  obtain ⟨t2, a1, b1⟩ := kk q T'.heap (locs ++ L) hP1 hD1 hS1 T' rfl X'
  exact ⟨t2, stp t2 a1, b1⟩
theorem kc_n (S : CallFix p m c cc nL s args Ts own) (hM : Met l y wy rm (va_Pc [.ref b] (fun U => U.heap.size = H.size ∧ va_P D cl wc U.heap ∧ va_K D cl tys U ∧ va_D (fun _ => True) wc)) (kQn D cl Wq (va_A wc H.size)) mc ms (va_A wc H.size)) (cw : CallB R s args own index y bytes maxL none wy rm mc ms 0 ∧ y.name = "<init>" ∧ (Cond.instanceMethod y).before args s = true)
    (hK : va_K D cl tys s) (hP : va_P D cl (ws ++ wc) H) (hD : va_D A0 (ws ++ wc)) (hS : va_S A0 H0 H locs) (hA : ∀ q, H0.size ≤ q → A0 q) (isC isR : List Nat) (hC : isC.map (fun i => (ws ++ wc)[i]?) = wc.map some) (hR : isR.map (fun i => (ws ++ wc)[i]?) = ws.map some) (hnC : va_nd isC = true) (hn : va_nd isR = true) (hdis : ∀ i ∈ isR, i ∉ isC)
    (hsz : ls.size = nL) (hW : (rest.map fun v => v.category).sum ≤ 8) (hdg : decode cc pc = .ok (.invokespecial index, 3)) (hf : cells + mc ≤ R.cells ∧ slots + ms ≤ R.slots)
    (kk : ∀ (q : Nat → Nat) (H1 : Heap) (locs1 : List Loc), va_P D cl (ws ++ Wq q) H1 → va_D A0 (ws ++ Wq q) → va_S A0 H0 H1 locs1 → W p l e R s m args below meth c H1 locs1 (cells + mc) (slots + ms) Q (F0 m (pc + 3) ls rest)) : W p l e R s m args below meth c H locs cells slots Q (F0 m pc ls (.ref b :: rest)) := by
  have hPc : va_P D cl wc H := fun k q hk => by
    have h4 : (isC.map (fun i => (ws ++ wc)[i]?))[k]? = some (some q) := by rw [hC, List.getElem?_map, hk]; rfl
    rw [List.getElem?_map] at h4
    cases hi : isC[k]? with
    | none => rw [hi] at h4; cases h4
    | some i => rw [hi] at h4; exact hP i q (Option.some.inj h4)
  have hDc := (hD.sub (ws' := wc) isC hnC hC).weaken (B := fun _ => True) (fun _ _ _ _ => trivial)
  exact kQn_call (va_runI (As := []) (rest := rest) S hM cw ⟨fun a U g mk q => ⟨q.1, q.2.1, q.2.2.1, va_K.moved (u := U) (U := U.calling g mk a) (Vm.Alike.refl U.vm) q.2.2.2.1, q.2.2.2.2⟩, fun U hU hW => ⟨rfl, by rw [hU], by rw [hU]; exact hPc, va_K.moved hW.alike hK, hDc⟩⟩ rfl rfl hsz rfl (lv_room hW) hdg hf) hP hD hS hA isC isR hC hR hn hdis kk
theorem kc_ne {Ex : State → Prop} (hEm : ∀ {u U : State}, u.vm.Alike U.vm → Ex u → Ex U) (hE : Ex s) (S : CallFix p m c cc nL s args Ts own) (hM : Met l y wy rm (va_Pc [.ref b] (fun U => U.heap.size = H.size ∧ va_P D cl wc U.heap ∧ va_K D cl tys U ∧ va_D (fun _ => True) wc ∧ Ex U)) (kQn D cl Wq (va_A wc H.size)) mc ms (va_A wc H.size)) (cw : CallB R s args own index y bytes maxL none wy rm mc ms 0 ∧ y.name = "<init>" ∧ (Cond.instanceMethod y).before args s = true)
    (hK : va_K D cl tys s) (hP : va_P D cl (ws ++ wc) H) (hD : va_D A0 (ws ++ wc)) (hS : va_S A0 H0 H locs) (hA : ∀ q, H0.size ≤ q → A0 q) (isC isR : List Nat) (hC : isC.map (fun i => (ws ++ wc)[i]?) = wc.map some) (hR : isR.map (fun i => (ws ++ wc)[i]?) = ws.map some) (hnC : va_nd isC = true) (hn : va_nd isR = true) (hdis : ∀ i ∈ isR, i ∉ isC)
    (hsz : ls.size = nL) (hW : (rest.map fun v => v.category).sum ≤ 8) (hdg : decode cc pc = .ok (.invokespecial index, 3)) (hf : cells + mc ≤ R.cells ∧ slots + ms ≤ R.slots)
    (kk : ∀ (q : Nat → Nat) (H1 : Heap) (locs1 : List Loc), va_P D cl (ws ++ Wq q) H1 → va_D A0 (ws ++ Wq q) → va_S A0 H0 H1 locs1 → W p l e R s m args below meth c H1 locs1 (cells + mc) (slots + ms) Q (F0 m (pc + 3) ls rest)) : W p l e R s m args below meth c H locs cells slots Q (F0 m pc ls (.ref b :: rest)) := by
  have hPc : va_P D cl wc H := fun k q hk => by
    have h4 : (isC.map (fun i => (ws ++ wc)[i]?))[k]? = some (some q) := by rw [hC, List.getElem?_map, hk]; rfl
    rw [List.getElem?_map] at h4
    cases hi : isC[k]? with
    | none => rw [hi] at h4; cases h4
    | some i => rw [hi] at h4; exact hP i q (Option.some.inj h4)
  have hDc := (hD.sub (ws' := wc) isC hnC hC).weaken (B := fun _ => True) (fun _ _ _ _ => trivial)
  exact kQn_call (va_runI (As := []) (rest := rest) S hM cw ⟨fun a U g mk q => ⟨q.1, q.2.1, q.2.2.1, va_K.moved (u := U) (U := U.calling g mk a) (Vm.Alike.refl U.vm) q.2.2.2.1, q.2.2.2.2.1, hEm (u := U) (U := U.calling g mk a) (Vm.Alike.refl U.vm) q.2.2.2.2.2⟩, fun U hU hW => ⟨rfl, by rw [hU], by rw [hU]; exact hPc, va_K.moved hW.alike hK, hDc, hEm hW.alike hE⟩⟩ rfl rfl hsz rfl (lv_room hW) hdg hf) hP hD hS hA isC isR hC hR hn hdis kk
end KCN
theorem kofWE {l : Launch} {y : MethodName} {wy wy' : List Cond} {rm : Room} {Qc : Array Value → State → Outcome → State → Prop} {cc : ByteArray} {maxL : Nat} {ret : Option FieldType} {av : List Value} {D : va_G} {cl : List vw_C} {wc : va_W} {tys : List (ClassId × FieldType)} {sz mc ms : Nat} {Ex : State → Prop}
    (hy : plainName y.cls = true) (hw : wy = Cond.code y cc maxL ret :: wy') (hlen : (lg_sl av).length ≤ maxL)
    (body : ∀ (p : Program) (e : Env) (s : State) (m : MethodId) (args : Array Value) (below : List Frame) (meth : Method) (c : Code) (ls : Array Slot), CallFix p m c cc maxL s args wy y.cls → meth.sig.returnType = ret → meth.locks = false → meth.name = y.name → s.heap.size = sz → va_P D cl wc s.heap → va_K D cl tys s → va_D (va_A wc sz) wc → va_S (va_A wc sz) s.heap s.heap [] → (∀ q : Nat, s.heap.size ≤ q → va_A wc sz q) → Ex s → lv_has ls maxL (lv_args 0 av) →
      W p l e rm s m args below meth c s.heap [] 0 0 (MQ below Qc args s mc ms (va_A wc sz)) (F0 m 0 ls [])) : Met l y wy rm (va_Pc av (fun U => U.heap.size = sz ∧ va_P D cl wc U.heap ∧ va_K D cl tys U ∧ va_D (fun _ => True) wc ∧ Ex U)) Qc mc ms (va_A wc sz) := by
  refine Met.ofW (cc := cc) (maxL := maxL) (ret := ret) hy hw ?_
  intro p e s m args below meth c s₁ B hml hv
  obtain ⟨rfl, hsz, hP, hK, hD0, hE⟩ := hv
  have hl := lv_entry av (n := maxL) hlen
  rw [lg_entry_eq]
  exact body p e s m _ below meth c _ ⟨B.exec, B.bytes, hml, findClass_of_methodNamed B.named, atoms_spec (ws := wy) B.pre⟩ B.returns B.notSynchronized (name_of_methodNamed B.named B.method).1 hsz hP hK (hD0.self (sz := sz)) va_S.rf (fun q h => Or.inr (by rw [← hsz]; exact h)) hE hl
theorem kn_cO {D : va_G} {cl : List vw_C} {cI cZ cO cA : ClassId} {s : State} (hK : va_K D cl (TY cI cZ cO ++ [(cA, .object "BoardMetronomes$Bench")]) s) : cA = cO := by
  have h1 := va_nmO (nm := "[LBoardMetronomes$Bench;") (hK.2 3 (cA, .object "BoardMetronomes$Bench") rfl).2 (by decide +kernel)
  have h2 := va_nmO (nm := "[LBoardMetronomes$Bench;") (hK.2 2 (cO, .object "BoardMetronomes$Bench") rfl).2 (by decide +kernel)
  exact Option.some.inj (h1.symm.trans h2)

/-! the law: what its calls ask for, its helpers' bodies, calls of what may throw -/
theorem nd_range : ∀ (n s : Nat), va_nd (List.range' s n) = true
  | 0, s => rfl
  | n + 1, s => by
    show va_nd (s :: List.range' (s + 1) n) = true
    simp only [va_nd, Bool.and_eq_true, decide_eq_true_eq]
    refine ⟨fun h => ?_, nd_range n (s + 1)⟩
    have := List.mem_range'_1.mp h
    omega
def XTk (A : Nat → Prop) (U : State) (H : Heap) : Prop := XTw U ∧ (∀ q ∈ xstrs, ∃ sa, vk_R RX4 q.1 q.2 sa U) ∧ XTz A U H
theorem XTk.at {A B : Nat → Prop} {s U : State} {H : Heap} (hW : s.WarmedH U.vm) (hU : U.heap = H) (hAB : ∀ q, B q → A q) (h : XTk A s H) : XT B U := by
  subst hU
  exact ⟨h.1.warm hW, fun q hq => (h.2.1 q hq).elim fun sa hs => ⟨sa, vk_R.warm hW hs⟩, vx_Zq.narrow (vx_Zq.moved hW.alike h.2.2.1) hAB, vx_Zq.narrow (vx_Zq.moved hW.alike h.2.2.2) hAB⟩
theorem XTk.kept {A : Nat → Prop} {s : State} {H H1 : Heap} (h : XTk A s H) (hq : ∀ a : Nat, a < H.size → ¬ A a → H1[a]? = H[a]?) : XTk A s H1 :=
  ⟨h.1, h.2.1, vx_Zq.kept h.2.2.1 hq, vx_Zq.kept h.2.2.2 hq⟩
section KLAW
variable {p : Program} {l : Launch} {e : Env} {R : Room} {s : State} {m : MethodId} {args : Array Value} {below : List Frame} {meth : Method} {c : Code} {H : Heap} {locs : List Loc} {cells slots : Nat} {Q : State → Prop}
  {Ts wy : List Cond} {cc bytes : ByteArray} {nL maxL index n mc ms : Nat} {own : String} {y : MethodName} {ret : Option FieldType} {rm : Room}
  {b : Addr} {As rest st : List Value} {pc : Nat} {ls : Array Slot} {D : va_G} {cl : List vw_C} {tys : List (ClassId × FieldType)} {ws wc w1 : va_W} {A0 : Nat → Prop} {H0 : Heap}
theorem kpc (is : List Nat) (hP : va_P D cl ws H) (hC : is.map (fun i => ws[i]?) = wc.map some) : va_P D cl wc H := fun k q hk => by
  have h4 : (is.map (fun i => ws[i]?))[k]? = some (some q) := by rw [hC, List.getElem?_map, hk]; rfl
  rw [List.getElem?_map] at h4
  cases hi : is[k]? with
  | none => rw [hi] at h4; cases h4
  | some i => rw [hi] at h4; exact hP i q (Option.some.inj h4)
/-- a call of a method of the class that answers or throws -/
theorem kx_v {α : Type} {F : Except (Nat × BS) α} {ans : α → Int32} {W1 : α → va_W} {Wf : BS → va_W} (S : CallFix p m c cc nL s args Ts own)
    (hM : vx_Met l y wy rm (va_Pc (.ref b :: As) (fun U => U.heap.size = H.size ∧ va_P D cl wc U.heap ∧ va_K D cl tys U ∧ va_D (fun _ => True) wc ∧ XT (va_A wc H.size) U)) (kQx F (fun z => kQw (some (.int (ans z))) D cl (W1 z) (va_A wc H.size))) (xC F D cl Wf (va_A wc H.size)) mc ms (va_A wc H.size))
    (hT : GoodIn Ts (wsV own index y.cls y wy)) (mi : kM y wy bytes maxL ret n) (hrm : rm.cells = mc ∧ rm.slots = ms) (hR : rm.frames + 1 ≤ R.frames ∧ 8 + (maxL + 11) + rm.locals ≤ R.locals)
    (hX : XTk A0 s H) (hK : va_K D cl tys s) (hP : va_P D cl ws H) (hD : va_D A0 ws) (hS : va_S A0 H0 H locs) (hA : ∀ q, H0.size ≤ q → A0 q) (is : List Nat) (hC : is.map (fun i => ws[i]?) = wc.map some) (h1 : ∀ z, (W1 z).map Prod.fst = wc.map Prod.fst) (h1x : ∀ r, (Wf r).map Prod.fst = wc.map Prod.fst) (hnd : va_nd is = true)
    (q0 : Nat) {ci N : Nat} {T : u_T} {fs : List Value} (he : wc[q0]? = some (b, .inr (ci, fs))) (hc : cl[ci]? = some (y.cls, T, N)) (hf : cells + mc ≤ R.cells ∧ slots + ms ≤ R.slots)
    (hdg : decode cc pc = .ok (.invokevirtual index, 3)) (hn : As.length = n) (hsz : ls.size = nL) (hst : st = As.reverse ++ .ref b :: rest) (hW : (rest.map fun v => v.category).sum ≤ 8)
    (kk : ∀ z, F = .ok z → ∀ (H1 : Heap) (locs1 : List Loc), va_P D cl (ksets ws is (W1 z)) H1 → va_D A0 (ksets ws is (W1 z)) → va_S A0 H0 H1 locs1 → W p l e R s m args below meth c H1 locs1 (cells + mc) (slots + ms) Q (F0 m (pc + 3) ls (.int (ans z) :: rest)))
    (kx : ∀ k r1, F = .error (k, r1) → ∀ (H1 : Heap) (locs1 : List Loc) (q9 : Addr) (ce : Cell), va_P D cl (ksets ws is (Wf r1)) H1 → va_D A0 (ksets ws is (Wf r1)) → va_S A0 H0 H1 locs1 → H1[q9]? = some ce → ce.vm = .none → s.vm.findClass (exN k) = some ce.cls → vx_W p l e R s m args below meth c H1 locs1 (cells + mc) (slots + ms) Q (F0 m pc ls rest) q9) :
    W p l e R s m args below meth c H locs cells slots Q (F0 m pc ls st) := by
  have hPc := kpc is hP hC
  have hDc := (hD.sub (ws' := wc) is hnd hC).weaken (B := fun _ => True) (fun _ _ _ _ => trivial)
  have hF := va_free (wc := wc) hD hS hA is hC
  have hr := vx_runV (e := e) (R := R) (below := below) (meth := meth) (locs := locs) (cells := cells) (slots := slots) (g := F0 m pc ls st) (As := As) (rest := rest) S hM (kcw S.2.2.2.2 hT mi hrm hR) ⟨fun a U g mk q => ⟨q.1, q.2.1, q.2.2.1, va_K.moved (u := U) (U := U.calling g mk a) (Vm.Alike.refl U.vm) q.2.2.2.1, q.2.2.2.2.1, q.2.2.2.2.2.calling⟩, va_recv hK hPc (ci := ci) (q0 := q0) hc he, fun U hU hW => ⟨rfl, by rw [hU], by rw [hU]; exact hPc, va_K.moved hW.alike hK, hDc, hX.at hW hU hF⟩⟩ rfl hn hsz hst (lv_room hW) hdg hf
  intro T hT X
  rcases hr T hT X with ⟨v', st₀, t, T', L, h0, X', hL, e1, e2, ⟨z, hz, hv, hp, hz2, hk⟩, stp⟩ | ⟨q9, st₀, t, T', L, E, ce, h0, X', hL, e1, e2, ⟨k, r1, hF1, hE, hp, hz2, hk⟩, hce, hcv, hcl, stp⟩
  · cases hv
    rw [h0] at hz2 hk
    have hS1 : va_S A0 H0 T'.heap (locs ++ L) := ⟨Nat.le_trans hS.1 (by rw [e1]; exact hz2), fun q h1 h2 => by rw [e1, hk q (Nat.lt_of_lt_of_le h1 hS.1) (fun z => h2 (hF q z))]; exact hS.2.1 q h1 h2, fun q hq => by
        rcases List.mem_append.mp hq with h | h
        · exact hS.2.2 q h
        · exact hF _ (hL q h)⟩
    obtain ⟨t2, a1, b1⟩ := kk z hz T'.heap (locs ++ L) (by rw [e1]; exact ksets_P is hP hD hC (h1 z) hk hp) (ksets_D is wc (W1 z) ws hC (h1 z) hnd hD) hS1 T' rfl X'
    exact ⟨t2, stp t2 a1, b1⟩
  · subst hE
    rw [h0] at hz2 hk
    have hS1 : va_S A0 H0 T'.heap (locs ++ L) := ⟨Nat.le_trans hS.1 (by rw [e1]; exact hz2), fun q h1 h2 => by rw [e1, hk q (Nat.lt_of_lt_of_le h1 hS.1) (fun z => h2 (hF q z))]; exact hS.2.1 q h1 h2, fun q hq => by
        rcases List.mem_append.mp hq with h | h
        · exact hS.2.2 q h
        · exact hF _ (hL q h)⟩
    obtain ⟨t2, a1, b1⟩ := kx k r1 hF1 T'.heap (locs ++ L) q9 ce (by rw [e1]; exact ksets_P is hP hD hC (h1x r1) hk hp) (ksets_D is wc (Wf r1) ws hC (h1x r1) hnd hD) hS1 (by rw [e1]; exact hce) hcv hcl T' rfl X'
    exact ⟨t2, stp.trans a1, b1⟩
/-- a call of a method of the class of which it is known that it answers, and what -/
theorem kx_k {is : List Nat} {α : Type} {F : Except (Nat × BS) α} {ans : α → Int32} {W1 : α → va_W} {Wf : BS → va_W} {z0 : α} {v : Int32} {w2 : va_W} (S : CallFix p m c cc nL s args Ts own)
    (hM : vx_Met l y wy rm (va_Pc (.ref b :: As) (fun U => U.heap.size = H.size ∧ va_P D cl wc U.heap ∧ va_K D cl tys U ∧ va_D (fun _ => True) wc ∧ XT (va_A wc H.size) U)) (kQx F (fun z => kQw (some (.int (ans z))) D cl (W1 z) (va_A wc H.size))) (xC F D cl Wf (va_A wc H.size)) mc ms (va_A wc H.size))
    (hF : F = .ok z0) (hv : ans z0 = v) (hw2 : ksets ws is (W1 z0) = w2)
    (hT : GoodIn Ts (wsV own index y.cls y wy)) (mi : kM y wy bytes maxL ret n) (hrm : rm.cells = mc ∧ rm.slots = ms) (hR : rm.frames + 1 ≤ R.frames ∧ 8 + (maxL + 11) + rm.locals ≤ R.locals)
    (hX : XTk A0 s H) (hK : va_K D cl tys s) (hP : va_P D cl ws H) (hD : va_D A0 ws) (hS : va_S A0 H0 H locs) (hA : ∀ q, H0.size ≤ q → A0 q) (hC : is.map (fun i => ws[i]?) = wc.map some) (h1 : ∀ z, (W1 z).map Prod.fst = wc.map Prod.fst) (h1x : ∀ r, (Wf r).map Prod.fst = wc.map Prod.fst) (hnd : va_nd is = true)
    (q0 : Nat) {ci N : Nat} {T : u_T} {fs : List Value} (he : wc[q0]? = some (b, .inr (ci, fs))) (hc : cl[ci]? = some (y.cls, T, N)) (hf : cells + mc ≤ R.cells ∧ slots + ms ≤ R.slots)
    (hdg : decode cc pc = .ok (.invokevirtual index, 3)) (hn : As.length = n) (hsz : ls.size = nL) (hst : st = As.reverse ++ .ref b :: rest) (hW : (rest.map fun v => v.category).sum ≤ 8)
    (kk : ∀ (H1 : Heap) (locs1 : List Loc), va_P D cl w2 H1 → va_D A0 w2 → va_S A0 H0 H1 locs1 → W p l e R s m args below meth c H1 locs1 (cells + mc) (slots + ms) Q (F0 m (pc + 3) ls (.int v :: rest))) :
    W p l e R s m args below meth c H locs cells slots Q (F0 m pc ls st) :=
  kx_v S hM hT mi hrm hR hX hK hP hD hS hA is hC h1 h1x hnd q0 he hc hf hdg hn hsz hst hW
    (fun z hz H1 locs1 hP1 hD1 hS1 => by
      obtain rfl : z0 = z := Except.ok.inj (hF.symm.trans hz)
      rw [hv]
      rw [hw2] at hP1 hD1
      exact kk H1 locs1 hP1 hD1 hS1)
    (fun k r1 he => by rw [hF] at he; cases he)
/-- a call of a helper of the law -/
theorem kc_swH {hh : List (Nat × Nat × Nat × Nat)} (S : CallFix p m c cc nL s args Ts own) {v : Option Value} (hM : Met l y wy rm (va_Pc As (fun U => U.heap.size = H.size ∧ va_P D cl wc U.heap ∧ va_K D cl tys U ∧ va_D (fun _ => True) wc ∧ XT (va_A wc H.size) U)) (kQw v D cl w1 (va_A wc H.size)) mc ms (va_A wc H.size)) (hT : GoodIn Ts (va_wsS own index y wy))
    (hw : ∃ ws', wy = Cond.codeWith y bytes maxL ret hh :: ws') (hd : y.cls ≠ "java/lang/invoke/MethodHandle" ∧ y.cls ≠ "java/lang/invoke/VarHandle" ∧ (parseMethodDescriptor y.desc).map (fun d => d.parameters.length) = some n) (hrm : rm.cells = mc ∧ rm.slots = ms) (hR : rm.frames + 1 ≤ R.frames ∧ 8 + (maxL + 11) + rm.locals ≤ R.locals)
    (hX : XTk A0 s H) (hK : va_K D cl tys s) (hP : va_P D cl ws H) (hD : va_D A0 ws) (hS : va_S A0 H0 H locs) (hA : ∀ q, H0.size ≤ q → A0 q) (is : List Nat) (hC : is.map (fun i => ws[i]?) = wc.map some) (h1 : w1.map Prod.fst = wc.map Prod.fst) (hnd : va_nd is = true)
    (hf : cells + mc ≤ R.cells ∧ slots + ms ≤ R.slots)
    (hdg : decode cc pc = .ok (.invokestatic index, 3)) (hn : As.length = n) (hsz : ls.size = nL) (hst : st = As.reverse ++ rest) (hW : (rest.map fun v => v.category).sum ≤ 8)
    (kk : ∀ (H1 : Heap) (locs1 : List Loc), va_P D cl (ksets ws is w1) H1 → va_D A0 (ksets ws is w1) → va_S A0 H0 H1 locs1 → W p l e R s m args below meth c H1 locs1 (cells + mc) (slots + ms) Q (F0 m (pc + 3) ls (v.toList ++ rest))) : W p l e R s m args below meth c H locs cells slots Q (F0 m pc ls st) := by
  have hPc := kpc is hP hC
  have hDc := (hD.sub (ws' := wc) is hnd hC).weaken (B := fun _ => True) (fun _ _ _ _ => trivial)
  have hF := va_free (wc := wc) hD hS hA is hC
  obtain ⟨ws', hw'⟩ := hw
  exact kQw_call (vx_runSW (As := As) (rest := rest) S hM (vx_cwSW n S.2.2.2.2 hT hw' hrm.1 hrm.2 hd hR) ⟨fun a U g mk q => ⟨q.1, q.2.1, q.2.2.1, va_K.moved (u := U) (U := U.calling g mk a) (Vm.Alike.refl U.vm) q.2.2.2.1, q.2.2.2.2.1, q.2.2.2.2.2.calling⟩, fun U hU hW => ⟨rfl, by rw [hU], by rw [hU]; exact hPc, va_K.moved hW.alike hK, hDc, hX.at hW hU hF⟩⟩ rfl hn hsz hst (lv_room hW) hdg hf) hP hD hS hA is hC h1 hnd kk
/-- caught at once: no row stands ahead -/
theorem kcatch1 {k : Nat} {ce : Cell} {q : Addr} {h1 e1 t1 : Nat} {suf : List (Nat × Nat × Nat × Nat)} (hown : s.vm.findClass own = some m.cls) (htab : c.exceptionTable.toList = tableOf ((0, e1, h1, t1) :: suf)) (hpc : pc < e1) (h0 : t1 ≠ 0)
    (hlink : (Cond.classLink own t1 (exN k)).before args s = true) (hX : XTw s) (hcell : H[q]? = some ce) (hv : ce.vm = .none) (hcl : s.vm.findClass (exN k) = some ce.cls)
    (kk : W p l e R s m args below meth c H locs cells slots Q (F0 m h1 ls [.ref q])) : vx_W p l e R s m args below meth c H locs cells slots Q (F0 m pc ls rest) q :=
  vx_catch (E := exN k) (name := exN k) hown [] ⟨0, e1, h1, t1⟩ (tableOf suf) (by rw [htab]; rfl) (fun z hz => absurd hz List.not_mem_nil) (by unfold covers; simp [hpc]) h0 hlink (va_Nw.use rfl (hX.2.2.2 k)) hcell hv hcl kk
/-- a call of a plain helper that asks for more of the state -/
theorem kc_swE {Ex : State → Prop} (hEc : ∀ (U : State) (g : JFrame) (mk : MethodId) (a : Array Value), Ex U → Ex (U.calling g mk a)) (hE : ∀ U : State, U.heap = H → s.WarmedH U.vm → Ex U) (hcls : y.cls = own) (S : CallFix p m c cc nL s args Ts own) {v : Option Value} (hM : Met l y wy rm (va_Pc As (fun U => U.heap.size = H.size ∧ va_P D cl wc U.heap ∧ va_K D cl tys U ∧ va_D (fun _ => True) wc ∧ Ex U)) (kQw v D cl w1 (va_A wc H.size)) mc ms (va_A wc H.size)) (hT : GoodIn Ts (va_wsS own index y wy)) (mi : kM y wy bytes maxL ret n) (hrm : rm.cells = mc ∧ rm.slots = ms) (hR : rm.frames + 1 ≤ R.frames ∧ 8 + (maxL + 11) + rm.locals ≤ R.locals)
    (hK : va_K D cl tys s) (hP : va_P D cl ws H) (hD : va_D A0 ws) (hS : va_S A0 H0 H locs) (hA : ∀ q, H0.size ≤ q → A0 q) (is : List Nat) (hC : is.map (fun i => ws[i]?) = wc.map some) (h1 : w1.map Prod.fst = wc.map Prod.fst) (hnd : va_nd is = true)
    (hf : cells + mc ≤ R.cells ∧ slots + ms ≤ R.slots)
    (hdg : decode cc pc = .ok (.invokestatic index, 3)) (hn : As.length = n) (hsz : ls.size = nL) (hst : st = As.reverse ++ rest) (hW : (rest.map fun v => v.category).sum ≤ 8)
    (kk : ∀ (H1 : Heap) (locs1 : List Loc), va_P D cl (ksets ws is w1) H1 → va_D A0 (ksets ws is w1) → va_S A0 H0 H1 locs1 → W p l e R s m args below meth c H1 locs1 (cells + mc) (slots + ms) Q (F0 m (pc + 3) ls (v.toList ++ rest))) : W p l e R s m args below meth c H locs cells slots Q (F0 m pc ls st) := by
  have hPc := kpc is hP hC
  have hDc := (hD.sub (ws' := wc) is hnd hC).weaken (B := fun _ => True) (fun _ _ _ _ => trivial)
  exact kQw_call (va_runS (As := As) (rest := rest) S hM (kcx S.2.2.2.2 hT mi hrm hR) ⟨fun a U g mk q => ⟨q.1, q.2.1, q.2.2.1, va_K.moved (u := U) (U := U.calling g mk a) (Vm.Alike.refl U.vm) q.2.2.2.1, q.2.2.2.2.1, hEc U g mk a q.2.2.2.2.2⟩, fun U hU hW => ⟨rfl, by rw [hU], by rw [hU]; exact hPc, va_K.moved hW.alike hK, hDc, hE U hU hW⟩⟩ rfl hn hsz hst (lv_room hW) hdg hf) hP hD hS hA is hC h1 hnd kk
/-- a call of a static method that only reads, and asks for something of the state -/
theorem kc_sE {Ex : State → Prop} (hEc : ∀ (U : State) (g : JFrame) (mk : MethodId) (a : Array Value), Ex U → Ex (U.calling g mk a)) (hE : ∀ U : State, U.heap = H → s.WarmedH U.vm → Ex U) (S : CallFix p m c cc nL s args Ts own) {v : Value} (hM : Met l y wy rm (va_Pc As Ex) (kQ (some v)) 0 0 (fun _ => False)) (hT : GoodIn Ts (va_wsS own index y wy)) (mi : kM y wy bytes maxL ret n) (hrm : rm.cells = 0 ∧ rm.slots = 0) (hR : rm.frames + 1 ≤ R.frames ∧ 8 + (maxL + 11) + rm.locals ≤ R.locals)
    (hf : cells ≤ R.cells ∧ slots ≤ R.slots)
    (hdg : decode cc pc = .ok (.invokestatic index, 3)) (hn : As.length = n) (hsz : ls.size = nL) (hst : st = As.reverse ++ rest) (hW : (rest.map fun v => v.category).sum ≤ 8)
    (kk : W p l e R s m args below meth c H locs cells slots Q (F0 m (pc + 3) ls (v :: rest))) : W p l e R s m args below meth c H locs cells slots Q (F0 m pc ls st) :=
  kQ_call (a := As.toArray) (W.runS (As := As) (rest := rest) S hM (kcx S.2.2.2.2 hT mi hrm hR) ⟨fun a U g mk q => ⟨q.1, hEc U g mk a q.2⟩, fun U hU hW => ⟨rfl, hE U hU hW⟩⟩ rfl hn hsz hst (lv_room hW) hdg hf) kk
end KLAW
theorem kofH {l : Launch} {y : MethodName} {wy wy' : List Cond} {rm : Room} {Qc : Array Value → State → Outcome → State → Prop} {cc : ByteArray} {maxL : Nat} {ret : Option FieldType} {hh : List (Nat × Nat × Nat × Nat)} {av : List Value} {D : va_G} {cl : List vw_C} {wc : va_W} {tys : List (ClassId × FieldType)} {sz mc ms : Nat}
    (hy : plainName y.cls = true) (hw : wy = Cond.codeWith y cc maxL ret hh :: wy') (hlen : (lg_sl av).length ≤ maxL)
    (body : ∀ (p : Program) (e : Env) (s : State) (m : MethodId) (args : Array Value) (below : List Frame) (meth : Method) (c : Code) (ls : Array Slot), CallFix p m c cc maxL s args wy y.cls → meth.sig.returnType = ret → meth.locks = false → s.heap.size = sz → va_P D cl wc s.heap → va_K D cl tys s → va_D (va_A wc sz) wc → va_S (va_A wc sz) s.heap s.heap [] → (∀ q : Nat, s.heap.size ≤ q → va_A wc sz q) → XTk (va_A wc sz) s s.heap → c.exceptionTable.toList = tableOf hh → lv_has ls maxL (lv_args 0 av) →
      W p l e rm s m args below meth c s.heap [] 0 0 (MQ below Qc args s mc ms (va_A wc sz)) (F0 m 0 ls [])) : Met l y wy rm (va_Pc av (fun U => U.heap.size = sz ∧ va_P D cl wc U.heap ∧ va_K D cl tys U ∧ va_D (fun _ => True) wc ∧ XT (va_A wc sz) U)) Qc mc ms (va_A wc sz) := by
  refine MetFree.of_bodyS (code := cc) (maxLocals := maxL) (ret := ret) hy ?_ ?_
  · intro args s m h hn
    obtain ⟨m9, meth, c, hn9, h1, h2, h3, h4, -, h5, h6, -⟩ := Cond.codeWith_spec (atoms_spec (ws := wy) h _ (by rw [hw]; exact List.mem_cons_self))
    cases hn.symm.trans hn9
    exact ⟨meth, c, h1, h2, h3, h4, h5, h6⟩
  · intro p e s m args below meth c s₁ B hml hv _
    have hh0 : s₁.heap = s.heap := by rw [B.state]; rfl
    obtain ⟨rfl, hsz, hP, hK, hD0, hX⟩ := hv
    have hl := lv_entry av (n := maxL) hlen
    have hts := atoms_spec (ws := wy) B.pre
    have key := body p e s m _ below meth c _ ⟨B.exec, B.bytes, hml, findClass_of_methodNamed B.named, hts⟩ B.returns B.notSynchronized hsz hP hK (hD0.self (sz := sz)) va_S.rf (fun q h => Or.inr (by rw [← hsz]; exact h)) hX (vx_table (x := y) B (hts _ (by rw [hw]; exact List.mem_cons_self))) hl
    rw [← lg_entry_eq] at key
    obtain ⟨t, a1, o, b1, b2, b3⟩ := key s₁ hh0 (Stand.of_body B)
    exact ⟨t, o, a1, b1, b2, ⟨b3.1, b3.2⟩⟩
/-- a static method that only reads, and asks for something of the state -/
theorem kofE {l : Launch} {y : MethodName} {wy wy' : List Cond} {rm : Room} {Qc : Array Value → State → Outcome → State → Prop} {cc : ByteArray} {maxL : Nat} {ret : Option FieldType} {av : List Value} {Ex : State → Prop}
    (hy : plainName y.cls = true) (hw : wy = Cond.code y cc maxL ret :: wy') (hlen : (lg_sl av).length ≤ maxL)
    (body : ∀ (p : Program) (e : Env) (s : State) (m : MethodId) (args : Array Value) (below : List Frame) (meth : Method) (c : Code) (ls : Array Slot), CallFix p m c cc maxL s args wy y.cls → meth.sig.returnType = ret → meth.locks = false → Ex s → lv_has ls maxL (lv_args 0 av) →
      W p l e rm s m args below meth c s.heap [] 0 0 (MQ below Qc args s 0 0 (fun _ => False)) (F0 m 0 ls [])) : Met l y wy rm (va_Pc av Ex) Qc 0 0 (fun _ => False) := by
  refine Met.ofW (cc := cc) (maxL := maxL) (ret := ret) hy hw ?_
  intro p e s m args below meth c s₁ B hml hv
  obtain ⟨rfl, hE⟩ := hv
  have hl := lv_entry av (n := maxL) hlen
  rw [lg_entry_eq]
  exact body p e s m _ below meth c _ ⟨B.exec, B.bytes, hml, findClass_of_methodNamed B.named, atoms_spec (ws := wy) B.pre⟩ B.returns B.notSynchronized hE hl
/-- the world as it stands in a method that runs since s -/
def DY (D : va_G) (X : va_W) (A0 : Nat → Prop) (s : State) (H : Heap) (locs : List Loc) : Prop := va_P D vwCl X H ∧ va_D A0 X ∧ va_S A0 s.heap H locs
/-- what stays the same in such a method -/
def RC (p : Program) (l : Launch) (m : MethodId) (c : Code) (cc : ByteArray) (nL : Nat) (s : State) (args : Array Value) (Ts : List Cond) (D : va_G) (cI cZ cO : ClassId) (A0 : Nat → Prop) : Prop := CallFix p m c cc nL s args Ts RL ∧ l.stackTraces = false ∧ va_K D vwCl (TY cI cZ cO) s ∧ XTk A0 s s.heap ∧ ∀ q : Nat, s.heap.size ≤ q → A0 q
section RDR
variable {p : Program} {l : Launch} {e : Env} {R : Room} {s : State} {m : MethodId} {args : Array Value} {below : List Frame} {meth : Method} {c : Code} {H : Heap} {locs : List Loc} {cells slots : Nat} {Q : State → Prop}
  {Ts : List Cond} {cc : ByteArray} {nL : Nat} {rest : List Value} {pc : Nat} {ls : Array Slot} {dC : Nat → ClassId} {dI : Nat → Nat → Nat} {A0 : Nat → Prop}
  {cI cZ cO : ClassId} {A : Nat → Nat} {Qq : Nat → Nat → Nat} {fl : Nat → Int32} {un ut u0 u1 : BS} {sv : SS} {x r : BS}
theorem RC.xt {D : va_G} {X : va_W} (C : RC p l m c cc nL s args Ts D cI cZ cO A0) (h : DY D X A0 s H locs) : XTk A0 s H := C.2.2.2.1.kept h.2.2.2.1
theorem rd_count {k : Int32} {v : Int32} (hF : f_Xcount fl un ut u0 u1 sv x r k = .ok v) (hT : GoodIn Ts (wsV RL 24 RX4 yX4_count wsX4_count)) (C : RC p l m c cc nL s args Ts (dC, dI) cI cZ cO A0) (hY : DY (dC, dI) (XW cI cZ cO A Qq fl un ut u0 u1 sv x r) A0 s H locs) (hsz : ls.size = nL) (hR : 7 ≤ R.frames ∧ 155 ≤ R.locals) (hf : cells + 1 ≤ R.cells ∧ slots + 6 ≤ R.slots) (hW : (rest.map fun v => v.category).sum ≤ 8) (hdg : decode cc pc = .ok (.invokevirtual 24, 3))
    (kk : ∀ (H : Heap) (locs : List Loc), DY (dC, dI) (XW cI cZ cO A Qq fl un ut u0 u1 sv x r) A0 s H locs → W p l e R s m args below meth c H locs (cells + 1) (slots + 6) Q (F0 m (pc + 3) ls (.int v :: rest))) : W p l e R s m args below meth c H locs cells slots Q (F0 m pc ls (.int k :: .ref (A 0) :: rest)) :=
  kx_k (F := f_Xcount fl un ut u0 u1 sv x r k) (ans := fun z => z) (W1 := fun _ => XW cI cZ cO A Qq fl un ut u0 u1 sv x r) (Wf := fun r1 => XW cI cZ cO A Qq fl un ut u0 u1 sv x r1) (wc := XW cI cZ cO A Qq fl un ut u0 u1 sv x r) (As := [.int k]) (rest := rest) C.1 (c_X4_count l C.2.1 dC dI cI cZ cO A Qq fl un ut u0 u1 sv x r k H.size) hF rfl XW_ks hT mi_X4_count ⟨rfl, rfl⟩ ⟨hR.1, Nat.le_trans (Nat.le_of_ble_eq_true rfl) hR.2⟩ (C.xt hY) C.2.2.1 hY.1 hY.2.1 hY.2.2 C.2.2.2.2 XW_all (fun _ => XW_fst) (fun _ => XW_fst) (by decide) 0 rfl rfl hf hdg rfl hsz rfl hW
    (fun H1 locs1 hP hD hS => kk H1 locs1 ⟨hP, hD, hS⟩)
theorem rd_arm {k : Int32} {w : Int32} {v : Int32} (hF : f_Xarm fl un ut u0 u1 sv x r k w = .ok v) (hT : GoodIn Ts (wsV RL 28 RX4 yX4_arm wsX4_arm)) (C : RC p l m c cc nL s args Ts (dC, dI) cI cZ cO A0) (hY : DY (dC, dI) (XW cI cZ cO A Qq fl un ut u0 u1 sv x r) A0 s H locs) (hsz : ls.size = nL) (hR : 7 ≤ R.frames ∧ 155 ≤ R.locals) (hf : cells + 1 ≤ R.cells ∧ slots + 6 ≤ R.slots) (hW : (rest.map fun v => v.category).sum ≤ 8) (hdg : decode cc pc = .ok (.invokevirtual 28, 3))
    (kk : ∀ (H : Heap) (locs : List Loc), DY (dC, dI) (XW cI cZ cO A Qq fl un ut u0 u1 sv x r) A0 s H locs → W p l e R s m args below meth c H locs (cells + 1) (slots + 6) Q (F0 m (pc + 3) ls (.int v :: rest))) : W p l e R s m args below meth c H locs cells slots Q (F0 m pc ls (.int w :: .int k :: .ref (A 0) :: rest)) :=
  kx_k (F := f_Xarm fl un ut u0 u1 sv x r k w) (ans := fun z => z) (W1 := fun _ => XW cI cZ cO A Qq fl un ut u0 u1 sv x r) (Wf := fun r1 => XW cI cZ cO A Qq fl un ut u0 u1 sv x r1) (wc := XW cI cZ cO A Qq fl un ut u0 u1 sv x r) (As := [.int k, .int w]) (rest := rest) C.1 (c_X4_arm l C.2.1 dC dI cI cZ cO A Qq fl un ut u0 u1 sv x r k w H.size) hF rfl XW_ks hT mi_X4_arm ⟨rfl, rfl⟩ ⟨hR.1, Nat.le_trans (Nat.le_of_ble_eq_true rfl) hR.2⟩ (C.xt hY) C.2.2.1 hY.1 hY.2.1 hY.2.2 C.2.2.2.2 XW_all (fun _ => XW_fst) (fun _ => XW_fst) (by decide) 0 rfl rfl hf hdg rfl hsz rfl hW
    (fun H1 locs1 hP hD hS => kk H1 locs1 ⟨hP, hD, hS⟩)
theorem rd_apart {k : Int32} {w : Int32} {v : Int32} (hF : f_Xapart fl un ut u0 u1 sv x r k w = .ok v) (hT : GoodIn Ts (wsV RL 32 RX4 yX4_apart wsX4_apart)) (C : RC p l m c cc nL s args Ts (dC, dI) cI cZ cO A0) (hY : DY (dC, dI) (XW cI cZ cO A Qq fl un ut u0 u1 sv x r) A0 s H locs) (hsz : ls.size = nL) (hR : 7 ≤ R.frames ∧ 155 ≤ R.locals) (hf : cells + 1 ≤ R.cells ∧ slots + 6 ≤ R.slots) (hW : (rest.map fun v => v.category).sum ≤ 8) (hdg : decode cc pc = .ok (.invokevirtual 32, 3))
    (kk : ∀ (H : Heap) (locs : List Loc), DY (dC, dI) (XW cI cZ cO A Qq fl un ut u0 u1 sv x r) A0 s H locs → W p l e R s m args below meth c H locs (cells + 1) (slots + 6) Q (F0 m (pc + 3) ls (.int v :: rest))) : W p l e R s m args below meth c H locs cells slots Q (F0 m pc ls (.int w :: .int k :: .ref (A 0) :: rest)) :=
  kx_k (F := f_Xapart fl un ut u0 u1 sv x r k w) (ans := fun z => z) (W1 := fun _ => XW cI cZ cO A Qq fl un ut u0 u1 sv x r) (Wf := fun r1 => XW cI cZ cO A Qq fl un ut u0 u1 sv x r1) (wc := XW cI cZ cO A Qq fl un ut u0 u1 sv x r) (As := [.int k, .int w]) (rest := rest) C.1 (c_X4_apart l C.2.1 dC dI cI cZ cO A Qq fl un ut u0 u1 sv x r k w H.size) hF rfl XW_ks hT mi_X4_apart ⟨rfl, rfl⟩ ⟨hR.1, Nat.le_trans (Nat.le_of_ble_eq_true rfl) hR.2⟩ (C.xt hY) C.2.2.1 hY.1 hY.2.1 hY.2.2 C.2.2.2.2 XW_all (fun _ => XW_fst) (fun _ => XW_fst) (by decide) 0 rfl rfl hf hdg rfl hsz rfl hW
    (fun H1 locs1 hP hD hS => kk H1 locs1 ⟨hP, hD, hS⟩)
theorem rd_setting {k : Int32} {v : Int32} (hF : f_Xsetting fl un ut u0 u1 sv x r k = .ok v) (hT : GoodIn Ts (wsV RL 39 RX4 yX4_setting wsX4_setting)) (C : RC p l m c cc nL s args Ts (dC, dI) cI cZ cO A0) (hY : DY (dC, dI) (XW cI cZ cO A Qq fl un ut u0 u1 sv x r) A0 s H locs) (hsz : ls.size = nL) (hR : 7 ≤ R.frames ∧ 155 ≤ R.locals) (hf : cells + 1 ≤ R.cells ∧ slots + 6 ≤ R.slots) (hW : (rest.map fun v => v.category).sum ≤ 8) (hdg : decode cc pc = .ok (.invokevirtual 39, 3))
    (kk : ∀ (H : Heap) (locs : List Loc), DY (dC, dI) (XW cI cZ cO A Qq fl un ut u0 u1 sv x r) A0 s H locs → W p l e R s m args below meth c H locs (cells + 1) (slots + 6) Q (F0 m (pc + 3) ls (.int v :: rest))) : W p l e R s m args below meth c H locs cells slots Q (F0 m pc ls (.int k :: .ref (A 0) :: rest)) :=
  kx_k (F := f_Xsetting fl un ut u0 u1 sv x r k) (ans := fun z => z) (W1 := fun _ => XW cI cZ cO A Qq fl un ut u0 u1 sv x r) (Wf := fun r1 => XW cI cZ cO A Qq fl un ut u0 u1 sv x r1) (wc := XW cI cZ cO A Qq fl un ut u0 u1 sv x r) (As := [.int k]) (rest := rest) C.1 (c_X4_setting l C.2.1 dC dI cI cZ cO A Qq fl un ut u0 u1 sv x r k H.size) hF rfl XW_ks hT mi_X4_setting ⟨rfl, rfl⟩ ⟨hR.1, Nat.le_trans (Nat.le_of_ble_eq_true rfl) hR.2⟩ (C.xt hY) C.2.2.1 hY.1 hY.2.1 hY.2.2 C.2.2.2.2 XW_all (fun _ => XW_fst) (fun _ => XW_fst) (by decide) 0 rfl rfl hf hdg rfl hsz rfl hW
    (fun H1 locs1 hP hD hS => kk H1 locs1 ⟨hP, hD, hS⟩)
theorem rd_ifRun {ut2 : BS} {k : Int32} {w : Int32} {y : Int32} {v : Int32} (hF : f_XifRun fl un ut u0 u1 sv x r k w y = .ok (v, ut2)) (hT : GoodIn Ts (wsV RL 85 RX4 yX4_ifRun wsX4_ifRun)) (C : RC p l m c cc nL s args Ts (dC, dI) cI cZ cO A0) (hY : DY (dC, dI) (XW cI cZ cO A Qq fl un ut u0 u1 sv x r) A0 s H locs) (hsz : ls.size = nL) (hR : 7 ≤ R.frames ∧ 155 ≤ R.locals) (hf : cells + 1 ≤ R.cells ∧ slots + 6 ≤ R.slots) (hW : (rest.map fun v => v.category).sum ≤ 8) (hdg : decode cc pc = .ok (.invokevirtual 85, 3))
    (kk : ∀ (H : Heap) (locs : List Loc), DY (dC, dI) (XW cI cZ cO A Qq fl un ut2 u0 u1 sv x r) A0 s H locs → W p l e R s m args below meth c H locs (cells + 1) (slots + 6) Q (F0 m (pc + 3) ls (.int v :: rest))) : W p l e R s m args below meth c H locs cells slots Q (F0 m pc ls (.int y :: .int w :: .int k :: .ref (A 0) :: rest)) :=
  kx_k (F := f_XifRun fl un ut u0 u1 sv x r k w y) (ans := fun z => z.1) (W1 := fun z => XW cI cZ cO A Qq fl un z.2 u0 u1 sv x r) (Wf := fun r1 => XW cI cZ cO A Qq fl un ut u0 u1 sv x r1) (wc := XW cI cZ cO A Qq fl un ut u0 u1 sv x r) (As := [.int k, .int w, .int y]) (rest := rest) C.1 (c_X4_ifRun l C.2.1 dC dI cI cZ cO A Qq fl un ut u0 u1 sv x r k w y H.size) hF rfl XW_ks hT mi_X4_ifRun ⟨rfl, rfl⟩ ⟨hR.1, Nat.le_trans (Nat.le_of_ble_eq_true rfl) hR.2⟩ (C.xt hY) C.2.2.1 hY.1 hY.2.1 hY.2.2 C.2.2.2.2 XW_all (fun _ => XW_fst) (fun _ => XW_fst) (by decide) 0 rfl rfl hf hdg rfl hsz rfl hW
    (fun H1 locs1 hP hD hS => kk H1 locs1 ⟨hP, hD, hS⟩)
theorem rd_far {b : Bool} (hT : GoodIn Ts (wsV RL 35 RX4 yX4_farthest wsX4_farthest)) (C : RC p l m c cc nL s args Ts (dC, dI) cI cZ cO A0) (hY : DY (dC, dI) (XW cI cZ cO A Qq fl un ut u0 u1 sv x r) A0 s H locs) (hsz : ls.size = nL) (hR : 7 ≤ R.frames ∧ 155 ≤ R.locals) (hf : cells ≤ R.cells ∧ slots ≤ R.slots) (hW : (rest.map fun v => v.category).sum ≤ 8) (hdg : decode cc pc = .ok (.invokevirtual 35, 3))
    (kk : W p l e R s m args below meth c H locs cells slots Q (F0 m (pc + 3) ls (.int (f_farthestOfGoing un b) :: rest))) : W p l e R s m args below meth c H locs cells slots Q (F0 m pc ls (.int (bI b) :: .ref (A 0) :: rest)) :=
  kc_v (As := [.int (bI b)]) C.1 (c_X4_farthest l dC dI cI cZ cO A Qq fl un ut u0 u1 sv x r b) hT mi_X4_farthest ⟨rfl, rfl⟩ ⟨Nat.le_trans (Nat.le_of_ble_eq_true rfl) hR.1, Nat.le_trans (Nat.le_of_ble_eq_true rfl) hR.2⟩ C.2.2.1 hY.1 0 rfl rfl hf hdg rfl hsz rfl hW kk
theorem rd_share (hT : GoodIn Ts (wsV RL 42 RX4 yX4_togetherShare wsX4_togetherShare)) (C : RC p l m c cc nL s args Ts (dC, dI) cI cZ cO A0) (hY : DY (dC, dI) (XW cI cZ cO A Qq fl un ut u0 u1 sv x r) A0 s H locs) (hsz : ls.size = nL) (hR : 7 ≤ R.frames ∧ 155 ≤ R.locals) (hf : cells ≤ R.cells ∧ slots ≤ R.slots) (hW : (rest.map fun v => v.category).sum ≤ 8) (hdg : decode cc pc = .ok (.invokevirtual 42, 3))
    (kk : W p l e R s m args below meth c H locs cells slots Q (F0 m (pc + 3) ls (.double (f_shareTogether un) :: rest))) : W p l e R s m args below meth c H locs cells slots Q (F0 m pc ls (.ref (A 0) :: rest)) :=
  kc_v (As := []) C.1 (c_X4_togetherShare l dC dI cI cZ cO A Qq fl un ut u0 u1 sv x r) hT mi_X4_togetherShare ⟨rfl, rfl⟩ ⟨Nat.le_trans (Nat.le_of_ble_eq_true rfl) hR.1, Nat.le_trans (Nat.le_of_ble_eq_true rfl) hR.2⟩ C.2.2.1 hY.1 0 rfl rfl hf hdg rfl hsz rfl hW kk
end RDR

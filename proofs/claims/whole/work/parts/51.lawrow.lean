/-! the law: what its calls ask for, its helpers' bodies, calls of what may throw -/
theorem nd_range : ∀ (n s : Nat), va_nd (List.range' s n) = true
  | 0, s => rfl
  | n + 1, s => by
    show va_nd (s :: List.range' (s + 1) n) = true
    simp only [va_nd, Bool.and_eq_true, decide_eq_true_eq]
    refine ⟨fun h => ?_, nd_range n (s + 1)⟩
    have := List.mem_range'_1.mp h
    omega
def XTk (A : Nat → Prop) (U : State) (H : Heap) : Prop := XTw U ∧ (∀ q ∈ xstrs, ∃ sa, vk_R RX4 q.1 q.2 sa U) ∧ XTz A U H
theorem XTk.at {A B : Nat → Prop} {s U : State} {H : Heap} (hW : s.WarmedH U.vm) (hU : U.heap = H) (hAB : ∀ q, B q → A q) (h : XTk A s H) : XT B U := by
  subst hU
  exact ⟨h.1.warm hW, fun q hq => (h.2.1 q hq).elim fun sa hs => ⟨sa, vk_R.warm hW hs⟩, vx_Zq.narrow (vx_Zq.moved hW.alike h.2.2.1) hAB, vx_Zq.narrow (vx_Zq.moved hW.alike h.2.2.2) hAB⟩
theorem XTk.kept {A : Nat → Prop} {s : State} {H H1 : Heap} (h : XTk A s H) (hq : ∀ a : Nat, a < H.size → ¬ A a → H1[a]? = H[a]?) : XTk A s H1 :=
  ⟨h.1, h.2.1, vx_Zq.kept h.2.2.1 hq, vx_Zq.kept h.2.2.2 hq⟩
/-- what a helper of the law asks for: what the throws ask for, and that the classes are told apart -/
def HX (A : Nat → Prop) (U : State) : Prop := XT A U ∧ va_Nc (exN 2) (exN 1) U ∧ va_Nc (exN 1) (exN 3) U
def HXk (A : Nat → Prop) (U : State) (H : Heap) : Prop := XTk A U H ∧ va_Nc (exN 2) (exN 1) U ∧ va_Nc (exN 1) (exN 3) U
theorem HXk.at {A B : Nat → Prop} {s U : State} {H : Heap} (hW : s.WarmedH U.vm) (hU : U.heap = H) (hAB : ∀ q, B q → A q) (h : HXk A s H) : HX B U :=
  ⟨h.1.at hW hU hAB, h.2.1.moved hW.alike, h.2.2.moved hW.alike⟩
theorem HXk.kept {A : Nat → Prop} {s : State} {H H1 : Heap} (h : HXk A s H) (hq : ∀ a : Nat, a < H.size → ¬ A a → H1[a]? = H[a]?) : HXk A s H1 := ⟨h.1.kept hq, h.2⟩
theorem HX.calling {A : Nat → Prop} {U : State} {g : JFrame} {mk : MethodId} {a : Array Value} (h : HX A U) : HX A (U.calling g mk a) :=
  ⟨h.1.calling, h.2.1.moved (Vm.Alike.refl U.vm), h.2.2.moved (Vm.Alike.refl U.vm)⟩
section KLAW
variable {p : Program} {l : Launch} {e : Env} {R : Room} {s : State} {m : MethodId} {args : Array Value} {below : List Frame} {meth : Method} {c : Code} {H : Heap} {locs : List Loc} {cells slots : Nat} {Q : State → Prop}
  {Ts wy : List Cond} {cc bytes : ByteArray} {nL maxL index n mc ms : Nat} {own : String} {y : MethodName} {ret : Option FieldType} {rm : Room}
  {b : Addr} {As rest st : List Value} {pc : Nat} {ls : Array Slot} {D : va_G} {cl : List vw_C} {tys : List (ClassId × FieldType)} {ws wc w1 : va_W} {A0 : Nat → Prop} {H0 : Heap}
theorem kpc (is : List Nat) (hP : va_P D cl ws H) (hC : is.map (fun i => ws[i]?) = wc.map some) : va_P D cl wc H := fun k q hk => by
  have h4 : (is.map (fun i => ws[i]?))[k]? = some (some q) := by rw [hC, List.getElem?_map, hk]; rfl
  rw [List.getElem?_map] at h4
  cases hi : is[k]? with
  | none => rw [hi] at h4; cases h4
  | some i => rw [hi] at h4; exact hP i q (Option.some.inj h4)
/-- a call of a method of the class that answers or throws -/
theorem kx_v {α : Type} {F : Except (Nat × BS) α} {ans : α → Int32} {W1 : α → va_W} {Wf : BS → va_W} (S : CallFix p m c cc nL s args Ts own)
    (hM : vx_Met l y wy rm (va_Pc (.ref b :: As) (fun U => U.heap.size = H.size ∧ va_P D cl wc U.heap ∧ va_K D cl tys U ∧ va_D (fun _ => True) wc ∧ XT (va_A wc H.size) U)) (kQx F (fun z => kQw (some (.int (ans z))) D cl (W1 z) (va_A wc H.size))) (xC F D cl Wf (va_A wc H.size)) mc ms (va_A wc H.size))
    (hT : GoodIn Ts (wsV own index y.cls y wy)) (mi : kM y wy bytes maxL ret n) (hrm : rm.cells = mc ∧ rm.slots = ms) (hR : rm.frames + 1 ≤ R.frames ∧ 8 + (maxL + 11) + rm.locals ≤ R.locals)
    (hX : XTk A0 s H) (hK : va_K D cl tys s) (hP : va_P D cl ws H) (hD : va_D A0 ws) (hS : va_S A0 H0 H locs) (hA : ∀ q, H0.size ≤ q → A0 q) (is : List Nat) (hC : is.map (fun i => ws[i]?) = wc.map some) (h1 : ∀ z, (W1 z).map Prod.fst = wc.map Prod.fst) (h1x : ∀ r, (Wf r).map Prod.fst = wc.map Prod.fst) (hnd : va_nd is = true)
    (q0 : Nat) {ci N : Nat} {T : u_T} {fs : List Value} (he : wc[q0]? = some (b, .inr (ci, fs))) (hc : cl[ci]? = some (y.cls, T, N)) (hf : cells + mc ≤ R.cells ∧ slots + ms ≤ R.slots)
    (hdg : decode cc pc = .ok (.invokevirtual index, 3)) (hn : As.length = n) (hsz : ls.size = nL) (hst : st = As.reverse ++ .ref b :: rest) (hW : (rest.map fun v => v.category).sum ≤ 8)
    (kk : ∀ z, F = .ok z → ∀ (H1 : Heap) (locs1 : List Loc), va_P D cl (ksets ws is (W1 z)) H1 → va_D A0 (ksets ws is (W1 z)) → va_S A0 H0 H1 locs1 → W p l e R s m args below meth c H1 locs1 (cells + mc) (slots + ms) Q (F0 m (pc + 3) ls (.int (ans z) :: rest)))
    (kx : ∀ k r1, F = .error (k, r1) → ∀ (H1 : Heap) (locs1 : List Loc) (q9 : Addr) (ce : Cell), va_P D cl (ksets ws is (Wf r1)) H1 → va_D A0 (ksets ws is (Wf r1)) → va_S A0 H0 H1 locs1 → H1[q9]? = some ce → ce.vm = .none → s.vm.findClass (exN k) = some ce.cls → vx_W p l e R s m args below meth c H1 locs1 (cells + mc) (slots + ms) Q (F0 m pc ls rest) q9) :
    W p l e R s m args below meth c H locs cells slots Q (F0 m pc ls st) := by
  have hPc := kpc is hP hC
  have hDc := (hD.sub (ws' := wc) is hnd hC).weaken (B := fun _ => True) (fun _ _ _ _ => trivial)
  have hF := va_free (wc := wc) hD hS hA is hC
  have hr := vx_runV (e := e) (R := R) (below := below) (meth := meth) (locs := locs) (cells := cells) (slots := slots) (g := F0 m pc ls st) (As := As) (rest := rest) S hM (kcw S.2.2.2.2 hT mi hrm hR) ⟨fun a U g mk q => ⟨q.1, q.2.1, q.2.2.1, va_K.moved (u := U) (U := U.calling g mk a) (Vm.Alike.refl U.vm) q.2.2.2.1, q.2.2.2.2.1, q.2.2.2.2.2.calling⟩, va_recv hK hPc (ci := ci) (q0 := q0) hc he, fun U hU hW => ⟨rfl, by rw [hU], by rw [hU]; exact hPc, va_K.moved hW.alike hK, hDc, hX.at hW hU hF⟩⟩ rfl hn hsz hst (lv_room hW) hdg hf
  intro T hT X
  rcases hr T hT X with ⟨v', st₀, t, T', L, h0, X', hL, e1, e2, ⟨z, hz, hv, hp, hz2, hk⟩, stp⟩ | ⟨q9, st₀, t, T', L, E, ce, h0, X', hL, e1, e2, ⟨k, r1, hF1, hE, hp, hz2, hk⟩, hce, hcv, hcl, stp⟩
  · cases hv
    rw [h0] at hz2 hk
    have hS1 : va_S A0 H0 T'.heap (locs ++ L) := ⟨Nat.le_trans hS.1 (by rw [e1]; exact hz2), fun q h1 h2 => by rw [e1, hk q (Nat.lt_of_lt_of_le h1 hS.1) (fun z => h2 (hF q z))]; exact hS.2.1 q h1 h2, fun q hq => by
        rcases List.mem_append.mp hq with h | h
        · exact hS.2.2 q h
        · exact hF _ (hL q h)⟩
    obtain ⟨t2, a1, b1⟩ := kk z hz T'.heap (locs ++ L) (by rw [e1]; exact ksets_P is hP hD hC (h1 z) hk hp) (ksets_D is wc (W1 z) ws hC (h1 z) hnd hD) hS1 T' rfl X'
    exact ⟨t2, stp t2 a1, b1⟩
  · subst hE
    rw [h0] at hz2 hk
    have hS1 : va_S A0 H0 T'.heap (locs ++ L) := ⟨Nat.le_trans hS.1 (by rw [e1]; exact hz2), fun q h1 h2 => by rw [e1, hk q (Nat.lt_of_lt_of_le h1 hS.1) (fun z => h2 (hF q z))]; exact hS.2.1 q h1 h2, fun q hq => by
        rcases List.mem_append.mp hq with h | h
        · exact hS.2.2 q h
        · exact hF _ (hL q h)⟩
    obtain ⟨t2, a1, b1⟩ := kx k r1 hF1 T'.heap (locs ++ L) q9 ce (by rw [e1]; exact ksets_P is hP hD hC (h1x r1) hk hp) (ksets_D is wc (Wf r1) ws hC (h1x r1) hnd hD) hS1 (by rw [e1]; exact hce) hcv hcl T' rfl X'
    exact ⟨t2, stp.trans a1, b1⟩
/-- a call of a helper of the law -/
theorem kc_swH {hh : List (Nat × Nat × Nat × Nat)} (S : CallFix p m c cc nL s args Ts own) {v : Option Value} (hM : Met l y wy rm (va_Pc As (fun U => U.heap.size = H.size ∧ va_P D cl wc U.heap ∧ va_K D cl tys U ∧ va_D (fun _ => True) wc ∧ HX (va_A wc H.size) U)) (kQw v D cl w1 (va_A wc H.size)) mc ms (va_A wc H.size)) (hT : GoodIn Ts (va_wsS own index y wy))
    (hw : ∃ ws', wy = Cond.codeWith y bytes maxL ret hh :: ws') (hd : y.cls ≠ "java/lang/invoke/MethodHandle" ∧ y.cls ≠ "java/lang/invoke/VarHandle" ∧ (parseMethodDescriptor y.desc).map (fun d => d.parameters.length) = some n) (hrm : rm.cells = mc ∧ rm.slots = ms) (hR : rm.frames + 1 ≤ R.frames ∧ 8 + (maxL + 11) + rm.locals ≤ R.locals)
    (hX : HXk A0 s H) (hK : va_K D cl tys s) (hP : va_P D cl ws H) (hD : va_D A0 ws) (hS : va_S A0 H0 H locs) (hA : ∀ q, H0.size ≤ q → A0 q) (is : List Nat) (hC : is.map (fun i => ws[i]?) = wc.map some) (h1 : w1.map Prod.fst = wc.map Prod.fst) (hnd : va_nd is = true)
    (hf : cells + mc ≤ R.cells ∧ slots + ms ≤ R.slots)
    (hdg : decode cc pc = .ok (.invokestatic index, 3)) (hn : As.length = n) (hsz : ls.size = nL) (hst : st = As.reverse ++ rest) (hW : (rest.map fun v => v.category).sum ≤ 8)
    (kk : ∀ (H1 : Heap) (locs1 : List Loc), va_P D cl (ksets ws is w1) H1 → va_D A0 (ksets ws is w1) → va_S A0 H0 H1 locs1 → W p l e R s m args below meth c H1 locs1 (cells + mc) (slots + ms) Q (F0 m (pc + 3) ls (v.toList ++ rest))) : W p l e R s m args below meth c H locs cells slots Q (F0 m pc ls st) := by
  have hPc := kpc is hP hC
  have hDc := (hD.sub (ws' := wc) is hnd hC).weaken (B := fun _ => True) (fun _ _ _ _ => trivial)
  have hF := va_free (wc := wc) hD hS hA is hC
  obtain ⟨ws', hw'⟩ := hw
  exact kQw_call (vx_runSW (As := As) (rest := rest) S hM (vx_cwSW n S.2.2.2.2 hT hw' hrm.1 hrm.2 hd hR) ⟨fun a U g mk q => ⟨q.1, q.2.1, q.2.2.1, va_K.moved (u := U) (U := U.calling g mk a) (Vm.Alike.refl U.vm) q.2.2.2.1, q.2.2.2.2.1, q.2.2.2.2.2.calling⟩, fun U hU hW => ⟨rfl, by rw [hU], by rw [hU]; exact hPc, va_K.moved hW.alike hK, hDc, hX.at hW hU hF⟩⟩ rfl hn hsz hst (lv_room hW) hdg hf) hP hD hS hA is hC h1 hnd kk
/-- caught at once: no row stands ahead -/
theorem kcatch1 {k : Nat} {ce : Cell} {q : Addr} {h1 e1 t1 : Nat} {suf : List (Nat × Nat × Nat × Nat)} (hown : s.vm.findClass own = some m.cls) (htab : c.exceptionTable.toList = tableOf ((0, e1, h1, t1) :: suf)) (hpc : pc < e1) (h0 : t1 ≠ 0)
    (hlink : (Cond.classLink own t1 (exN k)).before args s = true) (hX : XTw s) (hcell : H[q]? = some ce) (hv : ce.vm = .none) (hcl : s.vm.findClass (exN k) = some ce.cls)
    (kk : W p l e R s m args below meth c H locs cells slots Q (F0 m h1 ls [.ref q])) : vx_W p l e R s m args below meth c H locs cells slots Q (F0 m pc ls rest) q :=
  vx_catch (E := exN k) (name := exN k) hown [] ⟨0, e1, h1, t1⟩ (tableOf suf) (by rw [htab]; rfl) (fun z hz => absurd hz List.not_mem_nil) (by unfold covers; simp [hpc]) h0 hlink (va_Nw.use rfl (hX.2.2.2 k)) hcell hv hcl kk
/-- caught by the second row -/
theorem kcatch2 {k k1 : Nat} {ce : Cell} {q : Addr} {h1 e1 t1 h2 e2 t2 : Nat} (hown : s.vm.findClass own = some m.cls) (htab : c.exceptionTable.toList = tableOf [(0, e1, h1, t1), (0, e2, h2, t2)]) (hpc : pc < e2) (h01 : t1 ≠ 0) (h02 : t2 ≠ 0)
    (hlink1 : (Cond.classLink own t1 (exN k1)).before args s = true) (hN : va_Nc (exN k) (exN k1) s) (hlink : (Cond.classLink own t2 (exN k)).before args s = true) (hX : XTw s) (hcell : H[q]? = some ce) (hv : ce.vm = .none) (hcl : s.vm.findClass (exN k) = some ce.cls)
    (kk : W p l e R s m args below meth c H locs cells slots Q (F0 m h2 ls [.ref q])) : vx_W p l e R s m args below meth c H locs cells slots Q (F0 m pc ls rest) q :=
  vx_catch (E := exN k) (name := exN k) hown [⟨0, e1, h1, t1⟩] ⟨0, e2, h2, t2⟩ [] (by rw [htab]; rfl) (fun z hz => by
    obtain rfl := List.mem_singleton.mp hz
    exact Or.inr ⟨h01, exN k1, hlink1, hN⟩) (by unfold covers; simp [hpc]) h02 hlink (va_Nw.use rfl (hX.2.2.2 k)) hcell hv hcl kk
end KLAW
theorem kofH {l : Launch} {y : MethodName} {wy wy' : List Cond} {rm : Room} {Qc : Array Value → State → Outcome → State → Prop} {cc : ByteArray} {maxL : Nat} {ret : Option FieldType} {hh : List (Nat × Nat × Nat × Nat)} {av : List Value} {D : va_G} {cl : List vw_C} {wc : va_W} {tys : List (ClassId × FieldType)} {sz mc ms : Nat}
    (hy : plainName y.cls = true) (hw : wy = Cond.codeWith y cc maxL ret hh :: wy') (hlen : (lg_sl av).length ≤ maxL)
    (body : ∀ (p : Program) (e : Env) (s : State) (m : MethodId) (args : Array Value) (below : List Frame) (meth : Method) (c : Code) (ls : Array Slot), CallFix p m c cc maxL s args wy y.cls → meth.sig.returnType = ret → meth.locks = false → s.heap.size = sz → va_P D cl wc s.heap → va_K D cl tys s → va_D (va_A wc sz) wc → va_S (va_A wc sz) s.heap s.heap [] → (∀ q : Nat, s.heap.size ≤ q → va_A wc sz q) → HXk (va_A wc sz) s s.heap → c.exceptionTable.toList = tableOf hh → lv_has ls maxL (lv_args 0 av) →
      W p l e rm s m args below meth c s.heap [] 0 0 (MQ below Qc args s mc ms (va_A wc sz)) (F0 m 0 ls [])) : Met l y wy rm (va_Pc av (fun U => U.heap.size = sz ∧ va_P D cl wc U.heap ∧ va_K D cl tys U ∧ va_D (fun _ => True) wc ∧ HX (va_A wc sz) U)) Qc mc ms (va_A wc sz) := by
  refine MetFree.of_bodyS (code := cc) (maxLocals := maxL) (ret := ret) hy ?_ ?_
  · intro args s m h hn
    obtain ⟨m9, meth, c, hn9, h1, h2, h3, h4, -, h5, h6, -⟩ := Cond.codeWith_spec (atoms_spec (ws := wy) h _ (by rw [hw]; exact List.mem_cons_self))
    cases hn.symm.trans hn9
    exact ⟨meth, c, h1, h2, h3, h4, h5, h6⟩
  · intro p e s m args below meth c s₁ B hml hv _
    have hh0 : s₁.heap = s.heap := by rw [B.state]; rfl
    obtain ⟨rfl, hsz, hP, hK, hD0, hX⟩ := hv
    have hl := lv_entry av (n := maxL) hlen
    have hts := atoms_spec (ws := wy) B.pre
    have key := body p e s m _ below meth c _ ⟨B.exec, B.bytes, hml, findClass_of_methodNamed B.named, hts⟩ B.returns B.notSynchronized hsz hP hK (hD0.self (sz := sz)) va_S.rf (fun q h => Or.inr (by rw [← hsz]; exact h)) hX (vx_table (x := y) B (hts _ (by rw [hw]; exact List.mem_cons_self))) hl
    rw [← lg_entry_eq] at key
    obtain ⟨t, a1, o, b1, b2, b3⟩ := key s₁ hh0 (Stand.of_body B)
    exact ⟨t, o, a1, b1, b2, ⟨b3.1, b3.2⟩⟩
/-- the law's array of one long -/
def LW (cL : ClassId) (o : Nat) (f : Nat → Int64) : va_W := [(o, .inl (cL, 1, .inr (.inl f)))]
def hA {α : Type} (F : Except (Nat × BS) α) (cd : Nat → Int32) : Int32 := match F with
  | .ok _ => 0
  | .error e => cd e.1
def hWd {α : Type} (F : Except (Nat × BS) α) (W1 : α → va_W) (Wf : BS → va_W) (ans : α → Int32) (cL : ClassId) (o : Nat) (f : Nat → Int64) : va_W := match F with
  | .ok z => W1 z ++ LW cL o (vp_updL f 0 (ans z).toInt64)
  | .error e => Wf e.2 ++ LW cL o f
theorem LW_fst {cL : ClassId} {o : Nat} {f g : Nat → Int64} : (LW cL o f).map Prod.fst = (LW cL o g).map Prod.fst := rfl
theorem hWd_fst {α : Type} {F : Except (Nat × BS) α} {W1 : α → va_W} {Wf : BS → va_W} {ans : α → Int32} {cL : ClassId} {o : Nat} {f : Nat → Int64} {wc : va_W} (h1 : ∀ z, (W1 z).map Prod.fst = wc.map Prod.fst) (h2 : ∀ r, (Wf r).map Prod.fst = wc.map Prod.fst) : (hWd F W1 Wf ans cL o f).map Prod.fst = (wc ++ LW cL o f).map Prod.fst := by
  unfold hWd
  cases F with
  | ok z => dsimp only; rw [List.map_append, List.map_append, h1 z]; rfl
  | error e => dsimp only; rw [List.map_append, List.map_append, h2 e.2]
theorem pre_set (a : va_W) (c1 c2 : Nat × va_E) : (a ++ [c1]).set a.length c2 = a ++ [c2] := kset_pre a [] c2 c1

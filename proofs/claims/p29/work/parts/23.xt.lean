/-! the exceptions of the class: what a throw asks for, a method that returns or throws -/
def xstrs : List (Nat × String) := [(63, "beat, phase or spring is out of range"), (74, "there are 6 metronomes"), (90, "no such metronome"), (93, "beat is out of range"), (99, "spring is out of range"), (111, "there is no metronome"), (117, "steps is out of range"), (122, "there would be more than 99999 steps"), (133, "no such setting"), (138, "value is out of range"), (191, "there is no saved state"), (197, "what is not 0 to 8"), (202, "both are the same"), (207, "what is not 0 to 11"), (215, "an argument is out of range")]
def exN : Nat → String | 1 => "java/lang/IllegalArgumentException" | 2 => "java/lang/IllegalStateException" | _ => "java/lang/IndexOutOfBoundsException"
def exI : Nat → Nat | 1 => 65 | 2 => 76 | _ => 92
def XTw (U : State) : Prop := va_Nw (.declares (Bundle.initS "java/lang/RuntimeException")) U ∧ va_Nw (.declares (Bundle.initS "java/lang/Exception")) U ∧ va_Nw (.declares (Bundle.initS Bundle.tN)) U ∧ ∀ k : Nat, va_Nw (.castable (exN k) (exN k)) U
def XTz (A : Nat → Prop) (U : State) (H : Heap) : Prop := vx_Zq Bundle.tN "UNASSIGNED_STACK" Bundle.steD A U H ∧ vx_Zq Bundle.tN "SUPPRESSED_SENTINEL" Bundle.listD A U H
def XT (A : Nat → Prop) (U : State) : Prop := XTw U ∧ (∀ q ∈ xstrs, ∃ sa, vk_R RX4 q.1 q.2 sa U) ∧ XTz A U U.heap
theorem XTw.warm {s U : State} (hW : s.WarmedH U.vm) (h : XTw s) : XTw U := ⟨va_Nw.warmD hW h.1, va_Nw.warmD hW h.2.1, va_Nw.warmD hW h.2.2.1, fun k => va_Nw.warmC hW (h.2.2.2 k)⟩
theorem XTw.same {u U : State} (hv : u.vm = U.vm) (h : XTw u) : XTw U := ⟨va_Nw.same rfl hv h.1, va_Nw.same rfl hv h.2.1, va_Nw.same rfl hv h.2.2.1, fun k => va_Nw.same rfl hv (h.2.2.2 k)⟩
theorem XT.calling {A : Nat → Prop} {U : State} {g : JFrame} {mk : MethodId} {a : Array Value} (h : XT A U) : XT A (U.calling g mk a) :=
  ⟨h.1.same rfl, fun q hq => (h.2.1 q hq).elim fun sa hs => ⟨sa, vk_R.same rfl hs⟩, vx_Zq.moved (Vm.Alike.refl U.vm) h.2.2.1, vx_Zq.moved (Vm.Alike.refl U.vm) h.2.2.2⟩
def exAt (k : Nat) : List Cond := vx_atS RX4 (exI k) (exN k) ["java/lang/RuntimeException", "java/lang/Exception"]
theorem ex_ng : ∀ k ∈ [1, 2, 3], (exAt k).filter (fun w => !goodWord w) = [.declares (Bundle.initS "java/lang/RuntimeException"), .declares (Bundle.initS "java/lang/Exception"), .declares (Bundle.initS Bundle.tN), .castable (exN k) (exN k)] := by decide +kernel
theorem ex_ot : ∀ k ∈ [1, 2, 3], ∀ w ∈ exAt k, vx_ot w = true := by decide +kernel
def kQx {α : Type} (F : Except (Nat × BS) α) (K : α → Array Value → State → Outcome → State → Prop) : Array Value → State → Outcome → State → Prop := fun a st o t => ∃ x, F = .ok x ∧ K x a st o t
def xC {α : Type} (F : Except (Nat × BS) α) (D : va_G) (cl : List vw_C) (Wf : BS → va_W) (A : Nat → Prop) : String → State → State → Prop := fun E st t => ∃ (k : Nat) (r1 : BS), F = .error (k, r1) ∧ E = exN k ∧ va_P D cl (Wf r1) t.heap ∧ va_F A st t
section KX
variable {p : Program} {l : Launch} {e : Env} {R : Room} {s : State} {m : MethodId} {args : Array Value} {below : List Frame} {meth : Method} {c : Code} {H : Heap} {locs : List Loc} {cells slots : Nat} {cc : ByteArray} {pc mc ms : Nat} {ls : Array Slot} {rest : List Value}
theorem kx_ret {α : Type} {F : Except (Nat × BS) α} {K : α → Array Value → State → Outcome → State → Prop} {XC : String → State → State → Prop} {A0 : Nat → Prop} {x : α} {g : JFrame} (hF : F = .ok x) (k : W p l e R s m args below meth c H locs cells slots (MQ below (K x) args s cells slots A0) g) (hc : cells ≤ mc) (hs : slots ≤ ms) :
    W p l e R s m args below meth c H locs cells slots (vx_MQ below (kQx F K) XC args s mc ms A0) g := by
  intro T hT X
  obtain ⟨t, a1, o, b1, b2, b3, L, b4, b5⟩ := k T hT X
  exact ⟨t, a1, o, b1, b2, Or.inl ⟨⟨x, hF, b3⟩, L, ⟨b4.1, b4.2.1, b4.2.2.mono hc hs⟩, b5⟩⟩
theorem kx_thr {α : Type} {F : Except (Nat × BS) α} {Qc : Array Value → State → Outcome → State → Prop} {D : va_G} {cl : List vw_C} {Wf : BS → va_W} {A0 : Nat → Prop} {k : Nat} {r1 : BS} {W1 : va_W} {ik is : Nat} {text : String}
    (hexec : p.tables.exec = Jvm.exec) (hb : c.code = cc) (hl : l.stackTraces = false) (hown : s.vm.findClass RX4 = some m.cls) (hlk : meth.locks = false) (hml : c.maxLocals = ls.size) (htab : ∀ x ∈ c.exceptionTable.toList, False) (hk : k ∈ [1, 2, 3])
    (hcl : (Cond.classLink RX4 ik (exN k)).before args s = true) (hini : (Cond.initialized (exN k)).before args s = true) (hgw : ∀ w ∈ (exAt k).filter goodWord, w.before args s = true) (hX : XT A0 s) (hq : (is, text) ∈ xstrs)
    (hS : va_S A0 s.heap H locs) (hP : va_P D cl W1 H) (hW1 : W1 = Wf r1)
    (d0 : decode cc pc = .ok (.new ik, 3)) (d3 : decode cc (pc + 3) = .ok (.dup, 1)) (d4 : decode cc (pc + 4) = .ok (.ldc is, 2)) (d6 : decode cc (pc + 6) = .ok (.invokespecial (exI k), 3)) (d9 : decode cc (pc + 9) = .ok (.athrow, 1))
    (hRf : 5 < R.frames) (hRl : (rest.map fun v => v.category).sum + 82 ≤ R.locals) (hRc : cells + 1 ≤ R.cells) (hRs : slots + 6 ≤ R.slots) (hc : cells + 1 ≤ mc) (hs : slots + 6 ≤ ms)
    (hF : F = .error (k, r1)) : W p l e R s m args below meth c H locs cells slots (vx_MQ below Qc (xC F D cl Wf A0) args s mc ms A0) (F0 m pc ls rest) := by
  obtain ⟨sa, hsa⟩ := hX.2.1 _ hq
  have hat : ∀ w ∈ exAt k, w.before args s = true := by
    refine vx_hat (B := [.declares (Bundle.initS "java/lang/RuntimeException"), .declares (Bundle.initS "java/lang/Exception"), .declares (Bundle.initS Bundle.tN), .castable (exN k) (exN k)]) hgw (fun w hw => by rw [ex_ng k hk] at hw; exact hw) ?_
    exact vx_c (va_Nw.use rfl hX.1.1) (vx_c (va_Nw.use rfl hX.1.2.1) (vx_c (va_Nw.use rfl hX.1.2.2.1) (vx_c (va_Nw.use rfl (hX.1.2.2.2 k)) vx_n)))
  have hfit : Bundle.fit (exN k) = true := by
    match k, hk with
    | 1, _ => decide
    | 2, _ => decide
    | 3, _ => decide
    | 0, hk => exact absurd hk (by decide)
    | k + 4, hk => exact absurd hk (by simp)
  refine vx_throwS (own := RX4) (cls := exN k) (text := text) (names := ["java/lang/RuntimeException", "java/lang/Exception"]) (ik := ik) (is := is) (ic := exI k) (sa := sa) (A := A0) hexec hb hl hown hfit (by decide) hcl hini hsa hat ?_ hX.2.2.1 hX.2.2.2 hS hml.symm d0 d3 d4 d6 d9 (fun x hx => (htab x hx).elim) hRf hRl hRc hRs hlk ?_ hS.2.2 hc hs
  · intro w hw
    rcases List.mem_cons.mp hw with h | h
    · rw [h]; rfl
    · rcases List.mem_cons.mp h with h | h
      · rw [h]; rfl
      · exact ex_ot k hk w h
  · intro t hv hz hq
    refine ⟨k, r1, hF, rfl, ?_, Nat.le_trans hS.1 hz, fun q h1 h2 => (hq q (Nat.lt_of_lt_of_le h1 hS.1)).trans (hS.2.1 q h1 h2)⟩
    rw [← hW1]
    exact hP.kept fun i q hi => hq q.1 (vx_lt hP hi)
end KX
theorem kofX {l : Launch} {y : MethodName} {wy wy' : List Cond} {rm : Room} {Qc : Array Value → State → Outcome → State → Prop} {XC : String → State → State → Prop} {cc : ByteArray} {maxL : Nat} {ret : Option FieldType} {av : List Value} {D : va_G} {cl : List vw_C} {wc : va_W} {tys : List (ClassId × FieldType)} {sz mc ms : Nat}
    (hy : plainName y.cls = true) (hw : wy = Cond.code y cc maxL ret :: wy') (hlen : (lg_sl av).length ≤ maxL)
    (body : ∀ (p : Program) (e : Env) (s : State) (m : MethodId) (args : Array Value) (below : List Frame) (meth : Method) (c : Code) (ls : Array Slot), CallFix p m c cc maxL s args wy y.cls → meth.sig.returnType = ret → meth.locks = false → meth.name = y.name → s.heap.size = sz → va_P D cl wc s.heap → va_K D cl tys s → va_D (va_A wc sz) wc → va_S (va_A wc sz) s.heap s.heap [] → (∀ q : Nat, s.heap.size ≤ q → va_A wc sz q) → XT (va_A wc sz) s → (∀ x ∈ c.exceptionTable.toList, False) → lv_has ls maxL (lv_args 0 av) →
      W p l e rm s m args below meth c s.heap [] 0 0 (vx_MQ below Qc XC args s mc ms (va_A wc sz)) (F0 m 0 ls [])) : vx_Met l y wy rm (va_Pc av (fun U => U.heap.size = sz ∧ va_P D cl wc U.heap ∧ va_K D cl tys U ∧ va_D (fun _ => True) wc ∧ XT (va_A wc sz) U)) Qc XC mc ms (va_A wc sz) := by
  refine vx_ofW (cc := cc) (maxL := maxL) (ret := ret) hy hw ?_
  intro p e s m args below meth c s₁ B hml htab hv
  obtain ⟨rfl, hsz, hP, hK, hD0, hX⟩ := hv
  have hl := lv_entry av (n := maxL) hlen
  rw [lg_entry_eq]
  exact body p e s m _ below meth c _ ⟨B.exec, B.bytes, hml, findClass_of_methodNamed B.named, atoms_spec (ws := wy) B.pre⟩ B.returns B.notSynchronized (name_of_methodNamed B.named B.method).1 hsz hP hK (hD0.self (sz := sz)) va_S.rf (fun q h => Or.inr (by rw [← hsz]; exact h)) hX htab hl

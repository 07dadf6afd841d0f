/-! own rows, over the kit's: contracts whose answer and world are told by a value; calls and ends in one row each -/
/-- a boolean as the machine has it -/
def bI (b : Bool) : Int32 := if b = true then 1 else 0
theorem bI_t : bI true = 1 := rfl
theorem bI_f : bI false = 0 := rfl
theorem bI_eq0 {b : Bool} : bI b = 0 ↔ ¬ b = true := by cases b <;> simp [bI]
theorem bI_nar (b : Bool) : narrow .boolean (.int (bI b)) = .int (bI b) := by cases b <;> rfl
/-- a method that only reads: its answer -/
def kQ (v : Option Value) : Array Value → State → Outcome → State → Prop := fun _ st o t => o = .returned v ∧ t.heap = st.heap
/-- a method that writes: its answer, its world behind it, its frame -/
def kQw (v : Option Value) (D : va_G) (cl : List vw_C) (w1 : va_W) (A : Nat → Prop) : Array Value → State → Outcome → State → Prop := fun _ st o t => o = .returned v ∧ va_P D cl w1 t.heap ∧ va_F A st t
/-- what a callee is -/
def kM (y : MethodName) (ws : List Cond) (bytes : ByteArray) (maxL : Nat) (ret : Option FieldType) (n : Nat) : Prop :=
  (∃ ws', ws = Cond.code y bytes maxL ret :: ws') ∧ y.cls ≠ "java/lang/invoke/MethodHandle" ∧ y.cls ≠ "java/lang/invoke/VarHandle" ∧ (parseMethodDescriptor y.desc).map (fun d => d.parameters.length) = some n
/-- some cells of a list set anew, by their places -/
def ksets : va_W → List Nat → va_W → va_W
  | ws, i :: is, c :: cs => ksets (ws.set i c) is cs
  | ws, _, _ => ws
theorem ksets_at : ∀ (is : List Nat) (cs ws : va_W) (k : Nat) (q : Nat × va_E), is.length = cs.length → (ksets ws is cs)[k]? = some q → (∃ t : Nat, is[t]? = some k ∧ cs[t]? = some q) ∨ (k ∉ is ∧ ws[k]? = some q)
  | [], [], ws, k, q, _, h => Or.inr ⟨List.not_mem_nil, h⟩
  | [], c :: cs, ws, k, q, hl, _ => by simp at hl
  | i :: is, [], ws, k, q, hl, _ => by simp at hl
  | i :: is, c :: cs, ws, k, q, hl, h => by
    rcases ksets_at is cs (ws.set i c) k q (by simpa using hl) h with ⟨t, h1, h2⟩ | ⟨h1, h2⟩
    · exact Or.inl ⟨t + 1, by simpa using h1, by simpa using h2⟩
    · by_cases hk : k = i
      · subst hk
        have hlt : k < ws.length := by
          have := (List.getElem?_eq_some_iff.mp h2).1
          simpa using this
        rw [List.getElem?_set_self hlt] at h2
        exact Or.inl ⟨0, rfl, by simpa using h2⟩
      · rw [List.getElem?_set_ne (Ne.symm hk)] at h2
        exact Or.inr ⟨by simp [hk, h1], h2⟩
theorem ksets_D {A : Nat → Prop} : ∀ (is : List Nat) (wc cs ws : va_W), is.map (fun i => ws[i]?) = wc.map some → cs.map Prod.fst = wc.map Prod.fst → va_nd is = true → va_D A ws → va_D A (ksets ws is cs)
  | [], _, _, ws, _, _, _, h => by unfold ksets; exact h
  | i :: is, [], cs, ws, h1, _, _, _ => by simp at h1
  | i :: is, w :: wc, [], ws, _, h2, _, _ => by simp at h2
  | i :: is, w :: wc, c :: cs, ws, h1, h2, hn, h => by
    simp only [List.map_cons, List.cons.injEq] at h1 h2
    simp only [va_nd, Bool.and_eq_true, decide_eq_true_eq] at hn
    have hc : c = (w.1, c.2) := by rw [← h2.1]
    show va_D A (ksets (ws.set i c) is cs)
    refine ksets_D is wc cs (ws.set i c) ?_ h2.2 hn.2 ?_
    · rw [← h1.2]
      refine List.map_congr_left fun j hj => ?_
      exact List.getElem?_set_ne (fun e => hn.1 (by rw [e]; exact hj))
    · rw [hc]
      exact h.set (e0 := w.2) h1.1
theorem ksets_P {A0 : Nat → Prop} {D : va_G} {cl : List vw_C} {ws wc w1 : va_W} {H H1 : Heap} (is : List Nat) (hP : va_P D cl ws H) (hD : va_D A0 ws) (hC : is.map (fun i => ws[i]?) = wc.map some) (h1 : w1.map Prod.fst = wc.map Prod.fst)
    (hk : ∀ q : Nat, q < H.size → ¬ va_A wc H.size q → H1[q]? = H[q]?) (hP1 : va_P D cl w1 H1) : va_P D cl (ksets ws is w1) H1 := by
  have hl : is.length = w1.length := by
    have a := congrArg List.length hC
    have b := congrArg List.length h1
    simp at a b
    omega
  intro k q hq
  rcases ksets_at is w1 ws k q hl hq with ⟨t, -, h2⟩ | ⟨h2, h3⟩
  · exact hP1 t q h2
  · have hlt := (hP k q h3).lt
    refine (hP k q h3).kept (hk q.1 hlt fun h => ?_)
    rcases h with ⟨k2, e, h⟩ | h
    · have h4 : (is.map (fun i => ws[i]?))[k2]? = some (some (q.1, e)) := by rw [hC, List.getElem?_map, h]; rfl
      rw [List.getElem?_map] at h4
      cases hi : is[k2]? with
      | none => rw [hi] at h4; cases h4
      | some i =>
        rw [hi] at h4
        have h5 : ws[i]? = some (q.1, e) := Option.some.inj h4
        have hij := hD.1 k i q (q.1, e) h3 h5 rfl
        subst hij
        exact h2 (List.mem_of_getElem? hi)
    · omega
section KCORE
variable {p : Program} {l : Launch} {e : Env} {R : Room} {s : State} {m : MethodId} {args : Array Value} {below : List Frame} {meth : Method} {c : Code} {H : Heap} {locs : List Loc} {cells slots : Nat} {Q : State → Prop}
  {Ts wy : List Cond} {cc bytes : ByteArray} {nL maxL index n mc ms : Nat} {own C : String} {y : MethodName} {ret : Option FieldType} {rm : Room} {free : Addr → Prop}
  {b : Addr} {As rest st : List Value} {a : Array Value} {pc : Nat} {ls : Array Slot} {D : va_G} {cl : List vw_C} {tys : List (ClassId × FieldType)} {ws wc w1 : va_W} {A0 : Nat → Prop} {H0 : Heap}
theorem kQ_call {v : Value} (hr : CallRun p l e R s m args below meth c H locs cells slots 0 0 (F0 m pc ls st) rest (kQ (some v) a) (fun _ => False))
    (kk : W p l e R s m args below meth c H locs cells slots Q (F0 m (pc + 3) ls (v :: rest))) : W p l e R s m args below meth c H locs cells slots Q (F0 m pc ls st) := by
  intro T hT X
  obtain ⟨v', st₀, t, T', L, h0, X', hL, e1, ⟨hv, hh⟩, stp⟩ := hr T hT X
  cases hv
  obtain ⟨t2, a1, b1⟩ := kk T' (by rw [e1, hh, h0]) (Stand.forget X' (fun q h => (hL q h).elim))
  exact ⟨t2, stp t2 a1, b1⟩
theorem kQw_call {v : Option Value} (hr : va_Run p l e R s m args below meth c H locs cells slots mc ms (F0 m pc ls st) rest (kQw v D cl w1 (va_A wc H.size) a) (va_A wc H.size)) (hP : va_P D cl ws H) (hD : va_D A0 ws) (hS : va_S A0 H0 H locs) (hA : ∀ q, H0.size ≤ q → A0 q)
    (is : List Nat) (hC : is.map (fun i => ws[i]?) = wc.map some) (h1 : w1.map Prod.fst = wc.map Prod.fst) (hn : va_nd is = true)
    (kk : ∀ (H1 : Heap) (locs1 : List Loc), va_P D cl (ksets ws is w1) H1 → va_D A0 (ksets ws is w1) → va_S A0 H0 H1 locs1 → W p l e R s m args below meth c H1 locs1 (cells + mc) (slots + ms) Q (F0 m (pc + 3) ls (v.toList ++ rest))) : W p l e R s m args below meth c H locs cells slots Q (F0 m pc ls st) := by
  have hF := va_free (wc := wc) hD hS hA is hC
  intro T hT X
  obtain ⟨v', st₀, t, T', L, h0, X', hL, e1, e2, ⟨hv, hp, hz, hk⟩, stp⟩ := hr T hT X
  cases hv
  rw [h0] at hz hk
  have hS1 : va_S A0 H0 T'.heap (locs ++ L) := ⟨Nat.le_trans hS.1 (by rw [e1]; exact hz), fun q h1 h2 => by rw [e1, hk q (Nat.lt_of_lt_of_le h1 hS.1) (fun z => h2 (hF q z))]; exact hS.2.1 q h1 h2, fun q hq => by
      rcases List.mem_append.mp hq with h | h
      · exact hS.2.2 q h
      · exact hF _ (hL q h)⟩
  obtain ⟨t2, a1, b1⟩ := kk T'.heap (locs ++ L) (by rw [e1]; exact ksets_P is hP hD hC h1 hk hp) (ksets_D is wc w1 ws hC h1 hn hD) hS1 T' rfl X'
  exact ⟨t2, stp t2 a1, b1⟩
theorem kcw (ht : ∀ w ∈ Ts, w.before args s = true) (hT : GoodIn Ts (wsV own index y.cls y wy)) (mi : kM y wy bytes maxL ret n) (hrm : rm.cells = mc ∧ rm.slots = ms) (hR : rm.frames + 1 ≤ R.frames ∧ 8 + (maxL + 11) + rm.locals ≤ R.locals) :
    CallW R s args own y.cls index y bytes maxL ret wy rm mc ms n := by
  obtain ⟨⟨ws', hw⟩, h1, h2, h3⟩ := mi
  exact cwV n ht hT hw hrm.1 hrm.2 ⟨rfl, h1, h2, h3⟩ hR
theorem kcs (hcls : y.cls = own) (ht : ∀ w ∈ Ts, w.before args s = true) (hT : GoodIn Ts (wsS own index y wy)) (mi : kM y wy bytes maxL ret n) (hrm : rm.cells = mc ∧ rm.slots = ms) (hR : rm.frames + 1 ≤ R.frames ∧ 8 + (maxL + 11) + rm.locals ≤ R.locals) :
    CallB R s args own index y bytes maxL ret wy rm mc ms n ∧ (Cond.static y).before args s = true := by
  obtain ⟨⟨ws', hw⟩, h1, h2, h3⟩ := mi
  exact cwS n ht hT hw hrm.1 hrm.2 ⟨hcls, h1, h2, h3⟩ hR
/-- a call of a method that only reads its receiver's world -/
theorem kc_v (S : CallFix p m c cc nL s args Ts own) {v : Value} (hM : Met l y wy rm (va_Pc (.ref b :: As) (fun U => va_P D cl wc U.heap ∧ va_K D cl tys U)) (kQ (some v)) 0 0 (fun _ => False)) (hT : GoodIn Ts (wsV own index y.cls y wy)) (mi : kM y wy bytes maxL ret n) (hrm : rm.cells = 0 ∧ rm.slots = 0) (hR : rm.frames + 1 ≤ R.frames ∧ 8 + (maxL + 11) + rm.locals ≤ R.locals)
    (hK : va_K D cl tys s) (hP : va_P D cl wc H) (q0 : Nat) {ci N : Nat} {T : u_T} {fs : List Value} (he : wc[q0]? = some (b, .inr (ci, fs))) (hc : cl[ci]? = some (y.cls, T, N)) (hf : cells ≤ R.cells ∧ slots ≤ R.slots)
    (hdg : decode cc pc = .ok (.invokevirtual index, 3)) (hn : As.length = n) (hsz : ls.size = nL) (hst : st = As.reverse ++ .ref b :: rest) (hW : (rest.map fun v => v.category).sum ≤ 8)
    (kk : W p l e R s m args below meth c H locs cells slots Q (F0 m (pc + 3) ls (v :: rest))) : W p l e R s m args below meth c H locs cells slots Q (F0 m pc ls st) :=
  kQ_call (W.runV (As := As) (rest := rest) S hM (kcw S.2.2.2.2 hT mi hrm hR) ⟨fun a U g mk q => ⟨q.1, q.2.1, va_K.moved (u := U) (U := U.calling g mk a) (Vm.Alike.refl U.vm) q.2.2⟩, va_recv hK hP (ci := ci) (q0 := q0) hc he, fun U hU hW => ⟨rfl, by rw [hU]; exact hP, va_K.moved hW.alike hK⟩⟩ rfl hn hsz hst (lv_room hW) hdg hf) kk
/-- a call of a static method that only reads -/
theorem kc_s (hcls : y.cls = own) (S : CallFix p m c cc nL s args Ts own) {v : Value} (hM : Met l y wy rm (va_Pc As (fun U => va_P D cl wc U.heap ∧ va_K D cl tys U)) (kQ (some v)) 0 0 (fun _ => False)) (hT : GoodIn Ts (wsS own index y wy)) (mi : kM y wy bytes maxL ret n) (hrm : rm.cells = 0 ∧ rm.slots = 0) (hR : rm.frames + 1 ≤ R.frames ∧ 8 + (maxL + 11) + rm.locals ≤ R.locals)
    (hK : va_K D cl tys s) (hP : va_P D cl wc H) (hf : cells ≤ R.cells ∧ slots ≤ R.slots)
    (hdg : decode cc pc = .ok (.invokestatic index, 3)) (hn : As.length = n) (hsz : ls.size = nL) (hst : st = As.reverse ++ rest) (hW : (rest.map fun v => v.category).sum ≤ 8)
    (kk : W p l e R s m args below meth c H locs cells slots Q (F0 m (pc + 3) ls (v :: rest))) : W p l e R s m args below meth c H locs cells slots Q (F0 m pc ls st) :=
  kQ_call (W.runS (As := As) (rest := rest) S hM (kcs hcls S.2.2.2.2 hT mi hrm hR) ⟨fun a U g mk q => ⟨q.1, q.2.1, va_K.moved (u := U) (U := U.calling g mk a) (Vm.Alike.refl U.vm) q.2.2⟩, fun U hU hW => ⟨rfl, by rw [hU]; exact hP, va_K.moved hW.alike hK⟩⟩ rfl hn hsz hst (lv_room hW) hdg hf) kk
/-- a call of a static method of numbers alone -/
theorem kc_p (hcls : y.cls = own) (S : CallFix p m c cc nL s args Ts own) {v : Value} (hM : Met l y wy rm (va_Pc As (fun _ => True)) (kQ (some v)) 0 0 (fun _ => False)) (hT : GoodIn Ts (wsS own index y wy)) (mi : kM y wy bytes maxL ret n) (hrm : rm.cells = 0 ∧ rm.slots = 0) (hR : rm.frames + 1 ≤ R.frames ∧ 8 + (maxL + 11) + rm.locals ≤ R.locals)
    (hf : cells ≤ R.cells ∧ slots ≤ R.slots)
    (hdg : decode cc pc = .ok (.invokestatic index, 3)) (hn : As.length = n) (hsz : ls.size = nL) (hst : st = As.reverse ++ rest) (hW : (rest.map fun v => v.category).sum ≤ 8)
    (kk : W p l e R s m args below meth c H locs cells slots Q (F0 m (pc + 3) ls (v :: rest))) : W p l e R s m args below meth c H locs cells slots Q (F0 m pc ls st) :=
  kQ_call (W.runS (As := As) (rest := rest) S hM (kcs hcls S.2.2.2.2 hT mi hrm hR) ⟨fun a U g mk q => q, fun U hU hW => ⟨rfl, trivial⟩⟩ rfl hn hsz hst (lv_room hW) hdg hf) kk
/-- a call of a method that writes in its receiver's world -/
theorem kc_w (S : CallFix p m c cc nL s args Ts own) {v : Option Value} (hM : Met l y wy rm (va_Pc (.ref b :: As) (fun U => U.heap.size = H.size ∧ va_P D cl wc U.heap ∧ va_K D cl tys U ∧ va_D (fun _ => True) wc)) (kQw v D cl w1 (va_A wc H.size)) mc ms (va_A wc H.size)) (hT : GoodIn Ts (wsV own index y.cls y wy)) (mi : kM y wy bytes maxL ret n) (hrm : rm.cells = mc ∧ rm.slots = ms) (hR : rm.frames + 1 ≤ R.frames ∧ 8 + (maxL + 11) + rm.locals ≤ R.locals)
    (hK : va_K D cl tys s) (hP : va_P D cl ws H) (hD : va_D A0 ws) (hS : va_S A0 H0 H locs) (hA : ∀ q, H0.size ≤ q → A0 q) (is : List Nat) (hC : is.map (fun i => ws[i]?) = wc.map some) (h1 : w1.map Prod.fst = wc.map Prod.fst) (hnd : va_nd is = true)
    (q0 : Nat) {ci N : Nat} {T : u_T} {fs : List Value} (he : wc[q0]? = some (b, .inr (ci, fs))) (hc : cl[ci]? = some (y.cls, T, N)) (hf : cells + mc ≤ R.cells ∧ slots + ms ≤ R.slots)
    (hdg : decode cc pc = .ok (.invokevirtual index, 3)) (hn : As.length = n) (hsz : ls.size = nL) (hst : st = As.reverse ++ .ref b :: rest) (hW : (rest.map fun v => v.category).sum ≤ 8)
    (kk : ∀ (H1 : Heap) (locs1 : List Loc), va_P D cl (ksets ws is w1) H1 → va_D A0 (ksets ws is w1) → va_S A0 H0 H1 locs1 → W p l e R s m args below meth c H1 locs1 (cells + mc) (slots + ms) Q (F0 m (pc + 3) ls (v.toList ++ rest))) : W p l e R s m args below meth c H locs cells slots Q (F0 m pc ls st) := by
  have hPc : va_P D cl wc H := fun k q hk => by
    have h4 : (is.map (fun i => ws[i]?))[k]? = some (some q) := by rw [hC, List.getElem?_map, hk]; rfl
    rw [List.getElem?_map] at h4
    cases hi : is[k]? with
    | none => rw [hi] at h4; cases h4
    | some i => rw [hi] at h4; exact hP i q (Option.some.inj h4)
  have hDc := (hD.sub (ws' := wc) is hnd hC).weaken (B := fun _ => True) (fun _ _ _ _ => trivial)
  exact kQw_call (va_runV (As := As) (rest := rest) S hM (kcw S.2.2.2.2 hT mi hrm hR) ⟨fun a U g mk q => ⟨q.1, q.2.1, q.2.2.1, va_K.moved (u := U) (U := U.calling g mk a) (Vm.Alike.refl U.vm) q.2.2.2.1, q.2.2.2.2⟩, va_recv hK hPc (ci := ci) (q0 := q0) hc he, fun U hU hW => ⟨rfl, by rw [hU], by rw [hU]; exact hPc, va_K.moved hW.alike hK, hDc⟩⟩ rfl hn hsz hst (lv_room hW) hdg hf) hP hD hS hA is hC h1 hnd kk
/-- a call of a static method that writes in a world -/
theorem kc_sw (hcls : y.cls = own) (S : CallFix p m c cc nL s args Ts own) {v : Option Value} (hM : Met l y wy rm (va_Pc As (fun U => U.heap.size = H.size ∧ va_P D cl wc U.heap ∧ va_K D cl tys U ∧ va_D (fun _ => True) wc)) (kQw v D cl w1 (va_A wc H.size)) mc ms (va_A wc H.size)) (hT : GoodIn Ts (wsS own index y wy)) (mi : kM y wy bytes maxL ret n) (hrm : rm.cells = mc ∧ rm.slots = ms) (hR : rm.frames + 1 ≤ R.frames ∧ 8 + (maxL + 11) + rm.locals ≤ R.locals)
    (hK : va_K D cl tys s) (hP : va_P D cl ws H) (hD : va_D A0 ws) (hS : va_S A0 H0 H locs) (hA : ∀ q, H0.size ≤ q → A0 q) (is : List Nat) (hC : is.map (fun i => ws[i]?) = wc.map some) (h1 : w1.map Prod.fst = wc.map Prod.fst) (hnd : va_nd is = true)
    (hf : cells + mc ≤ R.cells ∧ slots + ms ≤ R.slots)
    (hdg : decode cc pc = .ok (.invokestatic index, 3)) (hn : As.length = n) (hsz : ls.size = nL) (hst : st = As.reverse ++ rest) (hW : (rest.map fun v => v.category).sum ≤ 8)
    (kk : ∀ (H1 : Heap) (locs1 : List Loc), va_P D cl (ksets ws is w1) H1 → va_D A0 (ksets ws is w1) → va_S A0 H0 H1 locs1 → W p l e R s m args below meth c H1 locs1 (cells + mc) (slots + ms) Q (F0 m (pc + 3) ls (v.toList ++ rest))) : W p l e R s m args below meth c H locs cells slots Q (F0 m pc ls st) := by
  have hPc : va_P D cl wc H := fun k q hk => by
    have h4 : (is.map (fun i => ws[i]?))[k]? = some (some q) := by rw [hC, List.getElem?_map, hk]; rfl
    rw [List.getElem?_map] at h4
    cases hi : is[k]? with
    | none => rw [hi] at h4; cases h4
    | some i => rw [hi] at h4; exact hP i q (Option.some.inj h4)
  have hDc := (hD.sub (ws' := wc) is hnd hC).weaken (B := fun _ => True) (fun _ _ _ _ => trivial)
  exact kQw_call (va_runS (As := As) (rest := rest) S hM (kcs hcls S.2.2.2.2 hT mi hrm hR) ⟨fun a U g mk q => ⟨q.1, q.2.1, q.2.2.1, va_K.moved (u := U) (U := U.calling g mk a) (Vm.Alike.refl U.vm) q.2.2.2.1, q.2.2.2.2⟩, fun U hU hW => ⟨rfl, by rw [hU], by rw [hU]; exact hPc, va_K.moved hW.alike hK, hDc⟩⟩ rfl hn hsz hst (lv_room hW) hdg hf) hP hD hS hA is hC h1 hnd kk
/-- branches over a boolean -/
theorem kb_eq (hexec : p.tables.exec = Jvm.exec) (hb : c.code = cc) {x : Bool} {off : Int} {tgt : Nat} (hdg : decode cc pc = .ok (.ifCond .eq off, 3)) (ht : (pc : Int) + off = (tgt : Int))
    (kt : ¬ x = true → W p l e R s m args below meth c H locs cells slots Q (F0 m tgt ls rest)) (kf : x = true → W p l e R s m args below meth c H locs cells slots Q (F0 m (pc + 3) ls rest)) : W p l e R s m args below meth c H locs cells slots Q (F0 m pc ls (.int (bI x) :: rest)) :=
  lv_if_eq hexec hb hdg ht (fun h => kt (bI_eq0.mp h)) (fun h => kf (by by_cases hx : x = true; exact hx; exact absurd (bI_eq0.mpr hx) h))
theorem kb_ne (hexec : p.tables.exec = Jvm.exec) (hb : c.code = cc) {x : Bool} {off : Int} {tgt : Nat} (hdg : decode cc pc = .ok (.ifCond .ne off, 3)) (ht : (pc : Int) + off = (tgt : Int))
    (kt : x = true → W p l e R s m args below meth c H locs cells slots Q (F0 m tgt ls rest)) (kf : ¬ x = true → W p l e R s m args below meth c H locs cells slots Q (F0 m (pc + 3) ls rest)) : W p l e R s m args below meth c H locs cells slots Q (F0 m pc ls (.int (bI x) :: rest)) :=
  lv_if_ne hexec hb hdg ht (fun h => kt (by by_cases hx : x = true; exact hx; exact absurd (bI_eq0.mpr hx) h)) (fun h => kf (bI_eq0.mp h))
/-- ends of a method that only reads -/
theorem kr_i {v r : Int32} (hexec : p.tables.exec = Jvm.exec) (hb : c.code = cc) (hr : meth.sig.returnType = some .int) (hlocks : meth.locks = false) (hdg : decode cc pc = .ok (.ireturn, 1)) (hv : v = r) :
    W p l e R s m args below meth c s.heap [] 0 0 (MQ below (kQ (some (.int r))) args s 0 0 (fun _ => False)) (F0 m pc ls [.int v]) :=
  W.iret hexec hb hr (fun t ht _ => ⟨by rw [hv], ht⟩) (fun q h => by cases h) hdg hlocks
theorem kr_z {v : Int32} {r x : Bool} (hexec : p.tables.exec = Jvm.exec) (hb : c.code = cc) (hr : meth.sig.returnType = some .boolean) (hlocks : meth.locks = false) (hdg : decode cc pc = .ok (.ireturn, 1)) (hvx : v = bI x) (hrx : r = x) :
    W p l e R s m args below meth c s.heap [] 0 0 (MQ below (kQ (some (.int (bI r)))) args s 0 0 (fun _ => False)) (F0 m pc ls [.int v]) :=
  W.zret hexec hb hr (by rw [hvx]; exact bI_nar x) (fun t ht _ => ⟨by rw [hvx, hrx], ht⟩) (fun q h => by cases h) hdg hlocks
/-- ends of a method that writes -/
theorem kw_i {v : Int32} {r : Int32} (hexec : p.tables.exec = Jvm.exec) (hb : c.code = cc) (hr : meth.sig.returnType = some .int) (hlocks : meth.locks = false) (hP : va_P D cl ws H) (hS : va_S A0 s.heap H locs) (hdg : decode cc pc = .ok (.ireturn, 1)) (hv : v = r) (hw : ws = w1) :
    W p l e R s m args below meth c H locs cells slots (MQ below (kQw (some (.int r)) D cl w1 A0) args s cells slots A0) (F0 m pc ls [.int v]) :=
  W.iret hexec hb hr (fun t ht _ => ⟨by rw [hv], by rw [ht, ← hw]; exact hP, hS.F ht⟩) hS.2.2 hdg hlocks
theorem kw_z {v : Int32} {r x : Bool} (hexec : p.tables.exec = Jvm.exec) (hb : c.code = cc) (hr : meth.sig.returnType = some .boolean) (hlocks : meth.locks = false) (hP : va_P D cl ws H) (hS : va_S A0 s.heap H locs) (hdg : decode cc pc = .ok (.ireturn, 1)) (hvx : v = bI x) (hrx : r = x) (hw : ws = w1) :
    W p l e R s m args below meth c H locs cells slots (MQ below (kQw (some (.int (bI r))) D cl w1 A0) args s cells slots A0) (F0 m pc ls [.int v]) :=
  W.zret hexec hb hr (by rw [hvx]; exact bI_nar x) (fun t ht _ => ⟨by rw [hvx, hrx], by rw [ht, ← hw]; exact hP, hS.F ht⟩) hS.2.2 hdg hlocks
theorem kw_v (hexec : p.tables.exec = Jvm.exec) (hb : c.code = cc) (hr : meth.sig.returnType = none) (hlocks : meth.locks = false) (hP : va_P D cl ws H) (hS : va_S A0 s.heap H locs) (hdg : decode cc pc = .ok (.return_, 1)) (hw : ws = w1) :
    W p l e R s m args below meth c H locs cells slots (MQ below (kQw none D cl w1 A0) args s cells slots A0) (F0 m pc ls []) :=
  W.vret hexec hb hr (fun t ht _ => ⟨rfl, by rw [ht, ← hw]; exact hP, hS.F ht⟩) hS.2.2 hdg hlocks
end KCORE
/-- a method that only reads, from its entry -/
theorem kofR {l : Launch} {y : MethodName} {wy wy' : List Cond} {rm : Room} {Qc : Array Value → State → Outcome → State → Prop} {cc : ByteArray} {maxL : Nat} {ret : Option FieldType} {av : List Value} {D : va_G} {cl : List vw_C} {wc : va_W} {tys : List (ClassId × FieldType)}
    (hy : plainName y.cls = true) (hw : wy = Cond.code y cc maxL ret :: wy') (hlen : (lg_sl av).length ≤ maxL)
    (body : ∀ (p : Program) (e : Env) (s : State) (m : MethodId) (args : Array Value) (below : List Frame) (meth : Method) (c : Code) (ls : Array Slot), CallFix p m c cc maxL s args wy y.cls → meth.sig.returnType = ret → meth.locks = false → va_P D cl wc s.heap → va_K D cl tys s → lv_has ls maxL (lv_args 0 av) →
      W p l e rm s m args below meth c s.heap [] 0 0 (MQ below Qc args s 0 0 (fun _ => False)) (F0 m 0 ls [])) : Met l y wy rm (va_Pc av (fun U => va_P D cl wc U.heap ∧ va_K D cl tys U)) Qc 0 0 (fun _ => False) := by
  refine Met.ofW (cc := cc) (maxL := maxL) (ret := ret) hy hw ?_
  intro p e s m args below meth c s₁ B hml hv
  obtain ⟨rfl, hP, hK⟩ := hv
  have hl := lv_entry av (n := maxL) hlen
  rw [lg_entry_eq]
  exact body p e s m _ below meth c _ ⟨B.exec, B.bytes, hml, findClass_of_methodNamed B.named, atoms_spec (ws := wy) B.pre⟩ B.returns B.notSynchronized hP hK hl
/-- a static method of numbers -/
theorem kofP {l : Launch} {y : MethodName} {wy wy' : List Cond} {rm : Room} {Qc : Array Value → State → Outcome → State → Prop} {cc : ByteArray} {maxL : Nat} {ret : Option FieldType} {av : List Value}
    (hy : plainName y.cls = true) (hw : wy = Cond.code y cc maxL ret :: wy') (hlen : (lg_sl av).length ≤ maxL)
    (body : ∀ (p : Program) (e : Env) (s : State) (m : MethodId) (args : Array Value) (below : List Frame) (meth : Method) (c : Code) (ls : Array Slot), CallFix p m c cc maxL s args wy y.cls → meth.sig.returnType = ret → meth.locks = false → lv_has ls maxL (lv_args 0 av) →
      W p l e rm s m args below meth c s.heap [] 0 0 (MQ below Qc args s 0 0 (fun _ => False)) (F0 m 0 ls [])) : Met l y wy rm (va_Pc av (fun _ => True)) Qc 0 0 (fun _ => False) := by
  refine Met.ofW (cc := cc) (maxL := maxL) (ret := ret) hy hw ?_
  intro p e s m args below meth c s₁ B hml hv
  obtain ⟨rfl, -⟩ := hv
  have hl := lv_entry av (n := maxL) hlen
  rw [lg_entry_eq]
  exact body p e s m _ below meth c _ ⟨B.exec, B.bytes, hml, findClass_of_methodNamed B.named, atoms_spec (ws := wy) B.pre⟩ B.returns B.notSynchronized hl
/-- a method that writes, from its entry -/
theorem kofW {l : Launch} {y : MethodName} {wy wy' : List Cond} {rm : Room} {Qc : Array Value → State → Outcome → State → Prop} {cc : ByteArray} {maxL : Nat} {ret : Option FieldType} {av : List Value} {D : va_G} {cl : List vw_C} {wc : va_W} {tys : List (ClassId × FieldType)} {sz mc ms : Nat}
    (hy : plainName y.cls = true) (hw : wy = Cond.code y cc maxL ret :: wy') (hlen : (lg_sl av).length ≤ maxL)
    (body : ∀ (p : Program) (e : Env) (s : State) (m : MethodId) (args : Array Value) (below : List Frame) (meth : Method) (c : Code) (ls : Array Slot), CallFix p m c cc maxL s args wy y.cls → meth.sig.returnType = ret → meth.locks = false → meth.name = y.name → s.heap.size = sz → va_P D cl wc s.heap → va_K D cl tys s → va_D (va_A wc sz) wc → va_S (va_A wc sz) s.heap s.heap [] → (∀ q : Nat, s.heap.size ≤ q → va_A wc sz q) → lv_has ls maxL (lv_args 0 av) →
      W p l e rm s m args below meth c s.heap [] 0 0 (MQ below Qc args s mc ms (va_A wc sz)) (F0 m 0 ls [])) : Met l y wy rm (va_Pc av (fun U => U.heap.size = sz ∧ va_P D cl wc U.heap ∧ va_K D cl tys U ∧ va_D (fun _ => True) wc)) Qc mc ms (va_A wc sz) := by
  refine Met.ofW (cc := cc) (maxL := maxL) (ret := ret) hy hw ?_
  intro p e s m args below meth c s₁ B hml hv
  obtain ⟨rfl, hsz, hP, hK, hD0⟩ := hv
  have hl := lv_entry av (n := maxL) hlen
  rw [lg_entry_eq]
  exact body p e s m _ below meth c _ ⟨B.exec, B.bytes, hml, findClass_of_methodNamed B.named, atoms_spec (ws := wy) B.pre⟩ B.returns B.notSynchronized (name_of_methodNamed B.named B.method).1 hsz hP hK (hD0.self (sz := sz)) va_S.rf (fun q h => Or.inr (by rw [← hsz]; exact h)) hl

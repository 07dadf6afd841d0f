/-! longs and doubles: ends, calls -/
section KLD
variable {p : Program} {l : Launch} {e : Env} {R : Room} {s : State} {m : MethodId} {args : Array Value} {below : List Frame} {meth : Method} {c : Code} {H : Heap} {locs : List Loc} {cells slots : Nat} {Q : State → Prop}
  {Ts wy : List Cond} {cc bytes : ByteArray} {nL maxL index n mc ms : Nat} {own : String} {y : MethodName} {ret : Option FieldType} {rm : Room} {As rest st : List Value} {pc : Nat} {ls : Array Slot} {D : va_G} {cl : List vw_C} {ws w1 : va_W} {A0 : Nat → Prop}
theorem kr_l {v r : Int64} (hexec : p.tables.exec = Jvm.exec) (hb : c.code = cc) (hr : meth.sig.returnType = some .long) (hlocks : meth.locks = false) (hdg : decode cc pc = .ok (.lreturn, 1)) (hv : v = r) :
    W p l e R s m args below meth c s.heap [] 0 0 (MQ below (kQ (some (.long r))) args s 0 0 (fun _ => False)) (F0 m pc ls [.long v]) :=
  W.lret hexec hb hr (fun t ht _ => ⟨by rw [hv], ht⟩) (fun q h => by cases h) hdg hlocks
theorem kr_d {v r : UInt64} (hexec : p.tables.exec = Jvm.exec) (hb : c.code = cc) (hr : meth.sig.returnType = some .double) (hlocks : meth.locks = false) (hdg : decode cc pc = .ok (.dreturn, 1)) (hv : v = r) :
    W p l e R s m args below meth c s.heap [] 0 0 (MQ below (kQ (some (.double r))) args s 0 0 (fun _ => False)) (F0 m pc ls [.double v]) :=
  W.dret hexec hb hr (fun t ht _ => ⟨by rw [hv], ht⟩) (fun q h => by cases h) hdg hlocks
theorem kw_l {v r : Int64} (hexec : p.tables.exec = Jvm.exec) (hb : c.code = cc) (hr : meth.sig.returnType = some .long) (hlocks : meth.locks = false) (hP : va_P D cl ws H) (hS : va_S A0 s.heap H locs) (hdg : decode cc pc = .ok (.lreturn, 1)) (hv : v = r) (hw : ws = w1) :
    W p l e R s m args below meth c H locs cells slots (MQ below (kQw (some (.long r)) D cl w1 A0) args s cells slots A0) (F0 m pc ls [.long v]) :=
  W.lret hexec hb hr (fun t ht _ => ⟨by rw [hv], by rw [ht, ← hw]; exact hP, hS.F ht⟩) hS.2.2 hdg hlocks
theorem kw_d {v r : UInt64} (hexec : p.tables.exec = Jvm.exec) (hb : c.code = cc) (hr : meth.sig.returnType = some .double) (hlocks : meth.locks = false) (hP : va_P D cl ws H) (hS : va_S A0 s.heap H locs) (hdg : decode cc pc = .ok (.dreturn, 1)) (hv : v = r) (hw : ws = w1) :
    W p l e R s m args below meth c H locs cells slots (MQ below (kQw (some (.double r)) D cl w1 A0) args s cells slots A0) (F0 m pc ls [.double v]) :=
  W.dret hexec hb hr (fun t ht _ => ⟨by rw [hv], by rw [ht, ← hw]; exact hP, hS.F ht⟩) hS.2.2 hdg hlocks
theorem kcx (ht : ∀ w ∈ Ts, w.before args s = true) (hT : GoodIn Ts (va_wsS own index y wy)) (mi : kM y wy bytes maxL ret n) (hrm : rm.cells = mc ∧ rm.slots = ms) (hR : rm.frames + 1 ≤ R.frames ∧ 8 + (maxL + 11) + rm.locals ≤ R.locals) :
    CallB R s args own index y bytes maxL ret wy rm mc ms n ∧ (Cond.static y).before args s = true := by
  obtain ⟨⟨ws', hw⟩, h1, h2, h3⟩ := mi
  have ok : ∀ w ∈ va_wsS own index y wy, w.before args s = true := fun w h => ht w (hT w h).1
  exact ⟨callB_of n ht (fun w h => hT w (by unfold va_wsS; exact List.mem_append_right _ h)) hw hrm.1 hrm.2 (ok _ (by simp [va_wsS])) (ok _ (by simp [va_wsS])) ⟨h1, h2, h3⟩ hR, ok _ (by simp [va_wsS])⟩
/-- a call of a static method of numbers in another class -/
theorem kc_px (S : CallFix p m c cc nL s args Ts own) {v : Value} (hM : Met l y wy rm (va_Pc As (fun _ => True)) (kQ (some v)) 0 0 (fun _ => False)) (hT : GoodIn Ts (va_wsS own index y wy)) (mi : kM y wy bytes maxL ret n) (hrm : rm.cells = 0 ∧ rm.slots = 0) (hR : rm.frames + 1 ≤ R.frames ∧ 8 + (maxL + 11) + rm.locals ≤ R.locals)
    (hf : cells ≤ R.cells ∧ slots ≤ R.slots)
    (hdg : decode cc pc = .ok (.invokestatic index, 3)) (hn : As.length = n) (hsz : ls.size = nL) (hst : st = As.reverse ++ rest) (hW : (rest.map fun v => v.category).sum ≤ 8)
    (kk : W p l e R s m args below meth c H locs cells slots Q (F0 m (pc + 3) ls (v :: rest))) : W p l e R s m args below meth c H locs cells slots Q (F0 m pc ls st) :=
  kQ_call (a := As.toArray) (W.runS (As := As) (rest := rest) S hM (kcx S.2.2.2.2 hT mi hrm hR) ⟨fun a U g mk q => q, fun U hU hW => ⟨rfl, trivial⟩⟩ rfl hn hsz hst (lv_room hW) hdg hf) kk
end KLD

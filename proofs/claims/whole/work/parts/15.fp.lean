/-! doubles: a share of two ints is no NaN -/
theorem n64_of {a : UInt64} (h : Jvm.FP.Core.val64 a ≠ .nan) : vf_n64 a := by
  unfold vf_n64
  rw [UInt64.le_iff_toNat_le]
  rcases Nat.lt_or_ge (0x7ff0000000000000 : UInt64).toNat (a &&& 0x7fffffffffffffff).toNat with q | q
  · exfalso
    apply h
    rw [UInt64.toNat_and, show (0x7fffffffffffffff : UInt64).toNat = 2 ^ 63 - 1 from rfl, Nat.and_two_pow_sub_one_eq_mod, show (0x7ff0000000000000 : UInt64).toNat = 2047 * 4503599627370496 from rfl] at q
    have hT : Jvm.FP.Core.fieldT Jvm.FP.Core.b64 a.toNat = a.toNat % 4503599627370496 := rfl
    have hE : Jvm.FP.Core.fieldE Jvm.FP.Core.b64 a.toNat = a.toNat / 4503599627370496 % 2048 := rfl
    show Jvm.FP.Core.decode Jvm.FP.Core.b64 a.toNat = .nan
    unfold Jvm.FP.Core.decode
    rw [hT, hE, show Jvm.FP.Core.b64.exps - 1 = 2047 from rfl, if_pos (by omega), if_neg (by omega)]
  · exact q
theorem rr_fin {s : Bool} {c : Nat} {d : Nat} {e : Int} : Jvm.FP.Core.roundRatio Jvm.FP.Core.b64 s c d e ≠ .nan := by
  unfold Jvm.FP.Core.roundRatio
  split
  · exact fun h => by cases h
  · unfold Jvm.FP.Core.roundAt Jvm.FP.Core.settle Jvm.FP.Core.bound
    repeat' split
    all_goals exact fun h => by cases h
/-- an int as a double: a number, not zero where the int isn't -/
theorem i2d_shape (x : Int32) : ∃ (s : Bool) (c : Nat) (q : Int), Jvm.FP.Core.val64 (FP.i2d x) = .fin s c q ∧ (¬ x = 0 → c ≠ 0) := by
  have h : Jvm.FP.Core.val64 (FP.i2d x) = Jvm.FP.Core.val64 (FP.l2d x.toInt64) := congrArg _ (Jvm.FP.Core.i2d_l2d x)
  obtain ⟨c, q, h2⟩ := Jvm.FP.Core.l2d_shape x.toInt64
  have hs : Jvm.FP.Core.Small53 x.toInt64 := by
    have h1 := Int32.toInt_lt x
    have h2 := Int32.le_toInt x
    unfold Jvm.FP.Core.Small53
    rw [Int32.toInt_toInt64]
    omega
  refine ⟨_, c, q, h.trans h2, fun hx hc => ?_⟩
  have hw := Jvm.FP.Core.l2d_whole hs
  rw [h2, hc] at hw
  unfold Jvm.FP.Core.Whole at hw
  dsimp only at hw
  rw [Nat.zero_mul, Jvm.FP.Core.signed_zero] at hw
  have h3 : x.toInt64.toInt ≠ 0 := by
    rw [Int32.toInt_toInt64]
    exact fun z => hx (Int32.toInt_inj.mp (by rw [z]; decide))
  have h4 : ((2 ^ (-q).toNat : Nat) : Int) ≠ 0 := by
    have := Nat.two_pow_pos (-q).toNat
    omega
  exact (Int.mul_ne_zero h3 h4) hw.symm
theorem fp_share {x y : Int32} (hy : ¬ y = 0) : vf_n64 (FP.ddiv (FP.i2d x) (FP.i2d y)) := by
  apply n64_of
  obtain ⟨s, c, q, h1, -⟩ := i2d_shape x
  obtain ⟨t, d, r, h2, h3⟩ := i2d_shape y
  rw [show Jvm.FP.Core.val64 (FP.ddiv (FP.i2d x) (FP.i2d y)) = _ from Jvm.FP.Core.val64_ddiv _ _, h1, h2]
  unfold Jvm.FP.Core.quotient
  dsimp only
  rw [if_neg (h3 hy)]
  exact rr_fin
section KLD
variable {p : Program} {l : Launch} {e : Env} {R : Room} {s : State} {m : MethodId} {args : Array Value} {below : List Frame} {meth : Method} {c : Code} {H : Heap} {locs : List Loc} {cells slots : Nat} {Q : State → Prop}
  {Ts wy : List Cond} {cc bytes : ByteArray} {nL maxL index n mc ms : Nat} {own : String} {y : MethodName} {ret : Option FieldType} {rm : Room} {As rest st : List Value} {pc : Nat} {ls : Array Slot} {D : va_G} {cl : List vw_C} {ws w1 : va_W} {A0 : Nat → Prop}
theorem kr_l {v r : Int64} (hexec : p.tables.exec = Jvm.exec) (hb : c.code = cc) (hr : meth.sig.returnType = some .long) (hlocks : meth.locks = false) (hdg : decode cc pc = .ok (.lreturn, 1)) (hv : v = r) :
    W p l e R s m args below meth c s.heap [] 0 0 (MQ below (kQ (some (.long r))) args s 0 0 (fun _ => False)) (F0 m pc ls [.long v]) :=
  W.lret hexec hb hr (fun t ht _ => ⟨by rw [hv], ht⟩) (fun q h => by cases h) hdg hlocks
theorem kr_d {v r : UInt64} (hexec : p.tables.exec = Jvm.exec) (hb : c.code = cc) (hr : meth.sig.returnType = some .double) (hlocks : meth.locks = false) (hdg : decode cc pc = .ok (.dreturn, 1)) (hv : v = r) :
    W p l e R s m args below meth c s.heap [] 0 0 (MQ below (kQ (some (.double r))) args s 0 0 (fun _ => False)) (F0 m pc ls [.double v]) :=
  W.dret hexec hb hr (fun t ht _ => ⟨by rw [hv], ht⟩) (fun q h => by cases h) hdg hlocks
theorem kw_l {v r : Int64} (hexec : p.tables.exec = Jvm.exec) (hb : c.code = cc) (hr : meth.sig.returnType = some .long) (hlocks : meth.locks = false) (hP : va_P D cl ws H) (hS : va_S A0 s.heap H locs) (hdg : decode cc pc = .ok (.lreturn, 1)) (hv : v = r) (hw : ws = w1) :
    W p l e R s m args below meth c H locs cells slots (MQ below (kQw (some (.long r)) D cl w1 A0) args s cells slots A0) (F0 m pc ls [.long v]) :=
  W.lret hexec hb hr (fun t ht _ => ⟨by rw [hv], by rw [ht, ← hw]; exact hP, hS.F ht⟩) hS.2.2 hdg hlocks
theorem kw_d {v r : UInt64} (hexec : p.tables.exec = Jvm.exec) (hb : c.code = cc) (hr : meth.sig.returnType = some .double) (hlocks : meth.locks = false) (hP : va_P D cl ws H) (hS : va_S A0 s.heap H locs) (hdg : decode cc pc = .ok (.dreturn, 1)) (hv : v = r) (hw : ws = w1) :
    W p l e R s m args below meth c H locs cells slots (MQ below (kQw (some (.double r)) D cl w1 A0) args s cells slots A0) (F0 m pc ls [.double v]) :=
  W.dret hexec hb hr (fun t ht _ => ⟨by rw [hv], by rw [ht, ← hw]; exact hP, hS.F ht⟩) hS.2.2 hdg hlocks
theorem kcx (ht : ∀ w ∈ Ts, w.before args s = true) (hT : GoodIn Ts (va_wsS own index y wy)) (mi : kM y wy bytes maxL ret n) (hrm : rm.cells = mc ∧ rm.slots = ms) (hR : rm.frames + 1 ≤ R.frames ∧ 8 + (maxL + 11) + rm.locals ≤ R.locals) :
    CallB R s args own index y bytes maxL ret wy rm mc ms n ∧ (Cond.static y).before args s = true := by
  obtain ⟨⟨ws', hw⟩, h1, h2, h3⟩ := mi
  have ok : ∀ w ∈ va_wsS own index y wy, w.before args s = true := fun w h => ht w (hT w h).1
  exact ⟨callB_of n ht (fun w h => hT w (by unfold va_wsS; exact List.mem_append_right _ h)) hw hrm.1 hrm.2 (ok _ (by simp [va_wsS])) (ok _ (by simp [va_wsS])) ⟨h1, h2, h3⟩ hR, ok _ (by simp [va_wsS])⟩
/-- a call of a static method of numbers in another class -/
theorem kc_px (S : CallFix p m c cc nL s args Ts own) {v : Value} (hM : Met l y wy rm (va_Pc As (fun _ => True)) (kQ (some v)) 0 0 (fun _ => False)) (hT : GoodIn Ts (va_wsS own index y wy)) (mi : kM y wy bytes maxL ret n) (hrm : rm.cells = 0 ∧ rm.slots = 0) (hR : rm.frames + 1 ≤ R.frames ∧ 8 + (maxL + 11) + rm.locals ≤ R.locals)
    (hf : cells ≤ R.cells ∧ slots ≤ R.slots)
    (hdg : decode cc pc = .ok (.invokestatic index, 3)) (hn : As.length = n) (hsz : ls.size = nL) (hst : st = As.reverse ++ rest) (hW : (rest.map fun v => v.category).sum ≤ 8)
    (kk : W p l e R s m args below meth c H locs cells slots Q (F0 m (pc + 3) ls (v :: rest))) : W p l e R s m args below meth c H locs cells slots Q (F0 m pc ls st) :=
  kQ_call (a := As.toArray) (W.runS (As := As) (rest := rest) S hM (kcx S.2.2.2.2 hT mi hrm hR) ⟨fun a U g mk q => q, fun U hU hW => ⟨rfl, trivial⟩⟩ rfl hn hsz hst (lv_room hW) hdg hf) kk
end KLD

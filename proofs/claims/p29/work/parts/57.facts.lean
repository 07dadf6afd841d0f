/-! the law's start: what the tables and the Statement give of the classes -/
theorem n3 {P : Nat → Prop} (h1 : P 1) (h2 : P 2) (h3 : ∀ k, k ≠ 1 → k ≠ 2 → P k) : ∀ k, P k := fun k => by
  by_cases e1 : k = 1
  · rw [e1]; exact h1
  by_cases e2 : k = 2
  · rw [e2]; exact h2
  exact h3 k e1 e2
theorem exN_cast : ∀ k : Nat, Cond.castable (exN k) (exN k) ∈ lw_tbl := by
  refine n3 (by decide +kernel) (by decide +kernel) (fun k h1 h2 => ?_)
  have e : exN k = "java/lang/IndexOutOfBoundsException" := by
    unfold exN
    split
    · exact absurd rfl h1
    · exact absurd rfl h2
    · rfl
  rw [e]
  decide +kernel
theorem str_tbl : ∀ q ∈ xstrs, Cond.stringRef RX4 q.1 q.2 ∈ lw_tbl := by decide +kernel
section FACTS
variable {s : State} {b : Nat}
theorem st_XTw (hts : ∀ w ∈ lw_tbl, w.before #[Value.ref b] s = true) : XTw s :=
  ⟨va_Nw.of rfl (hts (.declares (Bundle.initS "java/lang/RuntimeException")) (by decide +kernel)), va_Nw.of rfl (hts (.declares (Bundle.initS "java/lang/Exception")) (by decide +kernel)), va_Nw.of rfl (hts (.declares (Bundle.initS Bundle.tN)) (by decide +kernel)), fun k => va_Nw.of rfl (hts _ (exN_cast k))⟩
set_option maxRecDepth 100000 in
theorem str_giv (hgv : (Jvm.Cond.and given_1 narrow_1).before #[Value.ref b] s = true) : ∀ q ∈ xstrs, ∃ sa, (Term.string RX4 q.1).eval #[Value.ref b] s none [] s = some (.ref sa) := by
  have key : ∀ w : Cond, ∀ q : Nat, w.before #[Value.ref b] s = true → w = Cond.exactly (Term.string RX4 q) "java/lang/String" → ∃ sa, (Term.string RX4 q).eval #[Value.ref b] s none [] s = some (.ref sa) := by
    intro w q h e
    rw [e] at h
    obtain ⟨a, c, cell, k, h1, -⟩ := Cond.exactly_spec h
    exact ⟨a, h1⟩
  intro q hq
  refine key (Cond.exactly (Term.string RX4 q.1) "java/lang/String") q.1 (flat_of_before _ hgv _ ?_) rfl
  revert q
  decide +kernel
theorem st_str (hts : ∀ w ∈ lw_tbl, w.before #[Value.ref b] s = true) (hgv : (Jvm.Cond.and given_1 narrow_1).before #[Value.ref b] s = true) : ∀ q ∈ xstrs, ∃ sa, vk_R RX4 q.1 q.2 sa s := fun q hq => by
  obtain ⟨sa, h⟩ := str_giv hgv q hq
  exact ⟨sa, vk_R.of (A := #[Value.ref b]) (hts _ (str_tbl q hq)) h⟩
theorem st_XTz (hts : ∀ w ∈ lw_tbl, w.before #[Value.ref b] s = true) (hgv : (Jvm.Cond.and given_1 narrow_1).before #[Value.ref b] s = true) : XTz (fun z => s.heap.size ≤ z) s s.heap :=
  ⟨vx_Zqof (args := #[Value.ref b]) (hts (.laysStatic Bundle.tN "UNASSIGNED_STACK" Bundle.steD) (by decide +kernel)) (hts (.initialized Bundle.tN) (by decide +kernel)) (flat_of_before _ hgv (.isRef (.static Bundle.tN "UNASSIGNED_STACK" Bundle.steD)) (by decide +kernel)) (fun a h => Nat.not_le.mpr h),
   vx_Zqof (args := #[Value.ref b]) (hts (.laysStatic Bundle.tN "SUPPRESSED_SENTINEL" Bundle.listD) (by decide +kernel)) (hts (.initialized Bundle.tN) (by decide +kernel)) (flat_of_before _ hgv (.isRef (.static Bundle.tN "SUPPRESSED_SENTINEL" Bundle.listD)) (by decide +kernel)) (fun a h => Nat.not_le.mpr h)⟩
theorem st_XTk (hts : ∀ w ∈ lw_tbl, w.before #[Value.ref b] s = true) (hgv : (Jvm.Cond.and given_1 narrow_1).before #[Value.ref b] s = true) : XTk (fun z => s.heap.size ≤ z) s s.heap :=
  ⟨st_XTw hts, st_str hts hgv, st_XTz hts hgv⟩
theorem st_cls (hts : ∀ w ∈ lw_tbl, w.before #[Value.ref b] s = true) : ∃ (dC : Nat → ClassId) (dI : Nat → Nat → Nat), ∀ (k : Nat) (q : vw_C), vwCl[k]? = some q → u_Kn s q.1 q.2.1 q.2.2 (dC k) (dI k) := by
  obtain ⟨c0, i0, h0⟩ := u_known (C := RX0) (T := TX0) (N := 14) (n := 14) hts inX0 (hts (.instantiable RX0 14) (by decide +kernel))
  obtain ⟨c1, i1, h1⟩ := u_known (C := RX1) (T := TX1) (N := 10) (n := 10) hts inX1 (hts (.instantiable RX1 10) (by decide +kernel))
  obtain ⟨c2, i2, h2⟩ := u_known (C := RX2) (T := TX2) (N := 2) (n := 2) hts inX2 (hts (.instantiable RX2 2) (by decide +kernel))
  obtain ⟨c3, i3, h3⟩ := u_known (C := RX3) (T := TX3) (N := 2) (n := 2) hts inX3 (hts (.instantiable RX3 2) (by decide +kernel))
  obtain ⟨c4, i4, h4⟩ := u_known (C := RX4) (T := TX4) (N := 8) (n := 8) hts inX4 (hts (.instantiable RX4 8) (by decide +kernel))
  refine ⟨fun k => match k with | 0 => c0 | 1 => c1 | 2 => c2 | 3 => c3 | _ => c4, fun k => match k with | 0 => i0 | 1 => i1 | 2 => i2 | 3 => i3 | _ => i4, ?_⟩
  intro k q hq
  match k, hq with
  | 0, hq => cases hq; exact h0
  | 1, hq => cases hq; exact h1
  | 2, hq => cases hq; exact h2
  | 3, hq => cases hq; exact h3
  | 4, hq => cases hq; exact h4
  | k + 5, hq => simp [vwCl] at hq
theorem st_arr (hts : ∀ w ∈ lw_tbl, w.before #[Value.ref b] s = true) : ∃ cI cZ cO : ClassId, ∀ (k : Nat) (q : ClassId × FieldType), (TY cI cZ cO)[k]? = some q → ArrOfT s q.1 q.2 ∧ va_RA s q.1 q.2 := by
  obtain ⟨cI, kI, pI, a1, a2, a3⟩ := Cond.arrayClass_spec (hts (.arrayClass .int) (by decide +kernel))
  obtain ⟨cZ, kZ, pZ, b1, b2, b3⟩ := Cond.arrayClass_spec (hts (.arrayClass .boolean) (by decide +kernel))
  obtain ⟨pO, cO, kO, o1, o2, o3, o4, o5⟩ := Cond.arrayOver_spec (hts (.arrayOver (.object RX0)) (by decide +kernel))
  refine ⟨cI, cZ, cO, ?_⟩
  intro k q hq
  match k, hq with
  | 0, hq => cases hq; exact ⟨fun n z => ⟨(fun k h => by cases h), kI, a2, pI, a3⟩, a1⟩
  | 1, hq => cases hq; exact ⟨fun n z => ⟨(fun k h => by cases h), kZ, b2, pZ, b3⟩, b1⟩
  | 2, hq => cases hq; exact ⟨fun n z => ⟨(fun k h => by cases h), kO, o3, pO, o4⟩, kO, pO, o3, o4, o1, o5⟩
  | k + 3, hq => simp at hq
theorem st_AO (hts : ∀ w ∈ lw_tbl, w.before #[Value.ref b] s = true) : va_AO RX0 s := va_AO.of (C := RX0) (A := #[Value.ref b]) (hts (.arrayOver (.object RX0)) (by decide +kernel))
end FACTS

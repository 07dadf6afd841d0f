/-! the law: its cases -/
theorem exc_or {α : Type} (F : Except (Nat × BS) α) : (∃ z, F = .ok z) ∨ (∃ e, F = .error e) := by
  cases F with
  | ok z => exact .inl ⟨z, rfl⟩
  | error e => exact .inr ⟨e, rfl⟩
theorem lg_self (x : Int64) : lg_cmp x x = 0 := by
  unfold lg_cmp
  simp
section SIMV
variable {fl : Nat → Int32} {un u0 u1 : BS} {sv : SS} {x : BS} {u : BS}
theorem Sim_hs (h : Sim fl un u0 u1 sv x u) : vp_in (u 0 3) 7 := by
  obtain ⟨n, h1, -⟩ := h.1
  have hn := BR_n h1
  rw [h1.2.2.1]
  exact vp_in_nI (by omega) (by omega)
theorem Sim_hk (h : Sim fl un u0 u1 sv x u) : vp_in (u 3 0) 7 := by
  have h2 := h.2.1
  have := h2.2.1
  rw [h2.2.2.1]
  exact vp_in_nI (by omega) (by omega)
theorem Sim_ht (h : Sim fl un u0 u1 sv x u) : vp_in (u 7 0) 61 := by
  obtain ⟨t, ht, e1, e2, -⟩ := h.2.2.2.2.2
  rw [e2]
  exact vp_in_nI (by omega) (by omega)
theorem Sim_xs (h : Sim fl un u0 u1 sv x u) : vp_in (f_Tsize x) 61 := by
  obtain ⟨t, ht, e1, e2, -⟩ := h.2.2.2.2.2
  unfold f_Tsize
  rw [e1]
  exact vp_in_nI (by omega) (by omega)
theorem Sim_S1 (h : Sim fl un u0 u1 sv x u) : sv.1 < 6 := h.2.1.1
theorem Sim_S2 (h : Sim fl un u0 u1 sv x u) : sv.2.1 ≤ 6 := h.2.1.2.1
end SIMV
section LAWW
variable {cI cZ cO cL : ClassId} {A : Nat → Nat} {Q : Nat → Nat → Nat} {fl fl1 : Nat → Int32} {un ut u0 u1 un1 ut1 u01 u11 : BS} {S S1 : SS} {x r x1 r1 : BS} {w : va_W} {o hm : Nat} {q : Nat → Nat} {f f1 : Nat → Int64} {u v : BS}
theorem HL_all : (List.range' 0 68).map (fun i => (XW cI cZ cO A Q fl un ut u0 u1 S x r ++ (LW cL o f ++ w))[i]?) = (XW cI cZ cO A Q fl un ut u0 u1 S x r ++ LW cL o f).map some := by
  rw [← List.append_assoc]
  exact kget_mid (XW cI cZ cO A Q fl un ut u0 u1 S x r ++ LW cL o f) [] w
theorem HL_ks : ksets (XW cI cZ cO A Q fl un ut u0 u1 S x r ++ (LW cL o f ++ w)) (List.range' 0 68) (XW cI cZ cO A Q fl1 un1 ut1 u01 u11 S1 x1 r1 ++ LW cL o f1) = XW cI cZ cO A Q fl1 un1 ut1 u01 u11 S1 x1 r1 ++ (LW cL o f1 ++ w) := by
  rw [← List.append_assoc, ← List.append_assoc]
  exact kset_mid (XW cI cZ cO A Q fl un ut u0 u1 S x r ++ LW cL o f) (XW cI cZ cO A Q fl1 un1 ut1 u01 u11 S1 x1 r1 ++ LW cL o f1) [] w rfl
theorem ML_all : (List.range' 68 8).map (fun i => (XW cI cZ cO A Q fl un ut u0 u1 S x r ++ (LW cL o f ++ MW cI cZ hm q u))[i]?) = (MW cI cZ hm q u).map some := by
  have h := kget_mid (MW cI cZ hm q u) (XW cI cZ cO A Q fl un ut u0 u1 S x r ++ LW cL o f) []
  rw [List.append_nil, List.append_assoc] at h
  exact h
theorem ML_ks : ksets (XW cI cZ cO A Q fl un ut u0 u1 S x r ++ (LW cL o f ++ MW cI cZ hm q u)) (List.range' 68 8) (MW cI cZ hm q v) = XW cI cZ cO A Q fl un ut u0 u1 S x r ++ (LW cL o f ++ MW cI cZ hm q v) := by
  have h := kset_mid (MW cI cZ hm q u) (MW cI cZ hm q v) (XW cI cZ cO A Q fl un ut u0 u1 S x r ++ LW cL o f) [] rfl
  rw [List.append_nil, List.append_nil, List.append_assoc, List.append_assoc] at h
  exact h
theorem GL2 : (XW cI cZ cO A Q fl un ut u0 u1 S x r ++ (LW cL o f ++ w))[67]? = some (o, .inl (cL, 1, .inr (.inl f))) := kget_pre (XW cI cZ cO A Q fl un ut u0 u1 S x r) w _
end LAWW
/-- the law stands at pc, its two worlds linked -/
def LwK (p : Program) (l : Launch) (e : Env) (s : State) (m : MethodId) (below : List Frame) (meth : Method) (c : Code) (b : Nat) (dC : Nat → ClassId) (dI : Nat → Nat → Nat) (cI cZ cO cL : ClassId) (A : Nat → Nat) (Q : Nat → Nat → Nat) (hm o : Nat) (q : Nat → Nat) (i : Nat) (cells slots pc : Nat) : Prop :=
  ∀ (fl : Nat → Int32) (un ut u0 u1 : BS) (sv : SS) (x r : BS) (f : Nat → Int64) (u : BS) (H : Heap) (locs : List Loc) (ls : Array Slot), Sim fl un u0 u1 sv x u → va_P (dC, dI) vwCl (XW cI cZ cO A Q fl un ut u0 u1 sv x r ++ (LW cL o f ++ MW cI cZ hm q u)) H → va_D (fun z => s.heap.size ≤ z) (XW cI cZ cO A Q fl un ut u0 u1 sv x r ++ (LW cL o f ++ MW cI cZ hm q u)) → va_S (fun z => s.heap.size ≤ z) s.heap H locs → lv_has ls 9 [(0, .ref b), (1, .ref (A 0)), (2, .ref hm), (3, .ref o), (4, .int (nI i))] → W p l e room_1 s m #[Value.ref b] below meth c H locs cells slots (lw_Z below #[Value.ref b] s) (F0 m pc ls [])
section LAWC
variable {p : Program} {l : Launch} {e : Env} {s : State} {m : MethodId} {below : List Frame} {meth : Method} {c : Code} {b L : Nat} {xs : Nat → Int32} {dC : Nat → ClassId} {dI : Nat → Nat → Nat} {cI cZ cO cL : ClassId} {A : Nat → Nat} {Q : Nat → Nat → Nat} {hm o : Nat} {q : Nat → Nat} {i : Nat} {cells slots : Nat}
set_option maxRecDepth 100000 in
/-- both have been asked: what was thrown, and the answers, are alike -/
theorem law_tail (t : Nat) (go : Int) (hgo : ((t + 28 : Nat) : Int) + go = ((1440 : Nat) : Int)) (d0 : decode cL_law t = .ok (.aload_n 2, 1)) (d1 : decode cL_law (t + 1) = .ok (.invokevirtual 86, 3)) (d4 : decode cL_law (t + 4) = .ok (.iload 5, 2)) (d6 : decode cL_law (t + 6) = .ok (.if_icmp .eq 5, 3)) (d11 : decode cL_law (t + 11) = .ok (.iload 5, 2)) (d13 : decode cL_law (t + 13) = .ok (.ifCond .ne 15, 3)) (d16 : decode cL_law (t + 16) = .ok (.aload_n 3, 1)) (d17 : decode cL_law (t + 17) = .ok (.iconst 0, 1)) (d18 : decode cL_law (t + 18) = .ok (.laload, 1)) (d19 : decode cL_law (t + 19) = .ok (.iload 6, 2)) (d21 : decode cL_law (t + 21) = .ok (.i2l, 1)) (d22 : decode cL_law (t + 22) = .ok (.lcmp, 1)) (d23 : decode cL_law (t + 23) = .ok (.ifCond .eq 5, 3)) (d28 : decode cL_law (t + 28) = .ok (.goto go, 3))
    (S : CallFix p m c cL_law 9 s #[Value.ref b] wsL_law RL) (hK : va_K (dC, dI) vwCl (TY cI cZ cO ++ [(cL, .long)]) s) (hc1 : cells ≤ 626727) (hc2 : slots ≤ 7215922) (hk : LwK p l e s m below meth c b dC dI cI cZ cO cL A Q hm o q i cells slots 1440)
    {fl : Nat → Int32} {un ut u0 u1 : BS} {sv : SS} {x r : BS} {f : Nat → Int64} {u : BS} {H : Heap} {locs : List Loc} {ls : Array Slot} (hSim : Sim fl un u0 u1 sv x u) (hP : va_P (dC, dI) vwCl (XW cI cZ cO A Q fl un ut u0 u1 sv x r ++ (LW cL o f ++ MW cI cZ hm q u)) H) (hD : va_D (fun z => s.heap.size ≤ z) (XW cI cZ cO A Q fl un ut u0 u1 sv x r ++ (LW cL o f ++ MW cI cZ hm q u))) (hS : va_S (fun z => s.heap.size ≤ z) s.heap H locs) {k bM : Int32} (hl : lv_has ls 9 [(6, .int bM), (5, .int k), (0, .ref b), (1, .ref (A 0)), (2, .ref hm), (3, .ref o), (4, .int (nI i))]) (hk1 : u 8 0 = k) (hk2 : k = 0 → f 0 = bM.toInt64) :
    W p l e room_1 s m #[Value.ref b] below meth c H locs cells slots (lw_Z below #[Value.ref b] s) (F0 m t ls []) := by
  obtain ⟨hx, hb, hml, hown, hts⟩ := id S
  have fin : W p l e room_1 s m #[Value.ref b] below meth c H locs cells slots (lw_Z below #[Value.ref b] s) (F0 m (t + 28) ls []) := by
    refine lv_goto (tgt := 1440) hx hb d28 hgo ?_
    exact hk fl un ut u0 u1 sv x r f u H locs ls hSim hP hD hS (lv_sub hl [2, 3, 4, 5, 6] rfl)
  refine lv_aload_n hx hb d0 rfl (lv_at hl 4 rfl) ?_
  refine kc_v (As := []) (rest := []) S (v := .int (f_Mthrown u)) (c_X5_thrown l dC dI cI cZ cO hm q u) gL_law_X5_thrown mi_X5_thrown ⟨rfl, rfl⟩ ⟨Nat.le_of_ble_eq_true rfl, Nat.le_of_ble_eq_true rfl⟩ (hK.sub [0, 1, 2] rfl) (kpc (List.range' 68 8) hP ML_all) 0 rfl rfl ⟨hc1, hc2⟩ d1 rfl hl.1 rfl (Nat.le_of_ble_eq_true rfl) ?_
  refine lv_iload hx hb d4 (lv_at hl 1 rfl) ?_
  refine lv_icmp_eq (tgt := t + 11) hx hb d6 (by omega) (fun _ => ?_) (fun q1 => absurd hk1 q1)
  refine lv_iload hx hb d11 (lv_at hl 1 rfl) ?_
  refine lv_if_ne (tgt := t + 28) hx hb d13 (by omega) (fun _ => fin) (fun q1 => ?_)
  refine lv_aload_n hx hb d16 rfl (lv_at hl 5 rfl) ?_
  refine lv_iconst (v := (0 : Int32)) hx hb d17 (by decide) ?_
  refine va_lald hx hb hK hP 67 3 GL2 rfl (i := (0 : Int32)) (vp_in_nI (n := 0) (N := 1) (by omega) (by omega)) d18 ?_
  refine lv_iload hx hb d19 (lv_at hl 0 rfl) ?_
  refine lv_i2l hx hb d21 rfl ?_
  refine W.lcmp hx hb d22 ?_
  refine lv_if_eq (tgt := t + 28) hx hb d23 (by omega) (fun _ => fin) (fun q2 => ?_)
  refine absurd ?_ q2
  rw [show f (0 : Int32).toNatClampNeg = bM.toInt64 from hk2 q1]
  exact lg_self _
theorem share_eq {u : BS} {g : Nat → Int32} (h : BZ u g) : FP.dcmp (f_shareTogether u) (f_shareTogether u) = some .eq := by
  obtain ⟨n, h1, h2, b1, b2, b3⟩ := h
  refine Jvm.FP.Core.dcmp_self (a := f_shareTogether u) ?_
  unfold f_shareTogether
  by_cases c : u 11 0 ≤ 0
  · rw [if_pos c]
    exact fun h => by
      rw [show Jvm.FP.Core.val64 FP.dconst0 = _ from Jvm.FP.Core.val64_dconst0] at h
      cases h
  · rw [if_neg c]
    obtain ⟨t, et, -⟩ := ti_of (a := u 13 0) b1
    obtain ⟨s, es, -⟩ := ti_of (a := u 11 0) (by omega)
    have hs : 0 < s := by
      rcases Nat.eq_zero_or_pos s with z | z
      · exfalso
        apply c
        rw [ti_le, es, z]
        decide
      · exact z
    rw [sh_div et es hs]
    exact Jvm.FP.Core.roundRatio_ne_nan _ _ _ _ _

set_option maxHeartbeats 2000000 in
set_option maxRecDepth 100000 in
theorem law_c0 (hst : l.stackTraces = false) (S : CallFix p m c cL_law 9 s #[Value.ref b] wsL_law RL) (hX : va_X b L xs s s.heap) (hbl : b < s.heap.size) (hK : va_K (dC, dI) vwCl (TY cI cZ cO ++ [(cL, .long)]) s) (hXX : HXk (fun z => s.heap.size ≤ z) s s.heap) (hin : ∀ j, j < 4 → vp_in (nI i + nI j) L) (hc1 : cells + 1 ≤ 626727) (hc2 : slots + 6 ≤ 7215922) (hk : LwK p l e s m below meth c b dC dI cI cZ cO cL A Q hm o q i (cells + 1) (slots + 6) 1440) : LwK p l e s m below meth c b dC dI cI cZ cO cL A Q hm o q i cells slots 156 := by
  intro fl un ut u0 u1 sv x r f u H locs ls hSim hP hD hS hl
  obtain ⟨hx, hb, hml, hown, hts⟩ := id S
  have hA1 : ∀ z : Nat, s.heap.size ≤ z → (fun z => s.heap.size ≤ z) z := fun _ h => h
  have hbA : ¬ (fun z : Nat => s.heap.size ≤ z) b := Nat.not_le.mpr hbl
  have hsx := S_metronome (ut := ut) (r := r) hSim (xs (nI i + (1 : Int32)).toNatClampNeg) (xs (nI i + (2 : Int32)).toNatClampNeg) (xs (nI i + (3 : Int32)).toNatClampNeg)
  refine lv_aload_n hx hb dL_law_156 rfl (lv_at hl 1 rfl) ?_
  refine lv_aload_n hx hb dL_law_157 rfl (lv_at hl 0 rfl) ?_
  refine lv_iload hx hb dL_law_158 (lv_at hl 4 rfl) ?_
  refine lv_iconst (v := (1 : Int32)) hx hb dL_law_160 (by decide) ?_
  refine lv_iadd hx hb dL_law_161 ?_
  refine va_sld hx hb hX hbl hbA hS (hin 1 (by omega)) dL_law_162 ?_
  refine lv_aload_n hx hb dL_law_163 rfl (lv_at hl 0 rfl) ?_
  refine lv_iload hx hb dL_law_164 (lv_at hl 4 rfl) ?_
  refine lv_iconst (v := (2 : Int32)) hx hb dL_law_166 (by decide) ?_
  refine lv_iadd hx hb dL_law_167 ?_
  refine va_sld hx hb hX hbl hbA hS (hin 2 (by omega)) dL_law_168 ?_
  refine lv_aload_n hx hb dL_law_169 rfl (lv_at hl 0 rfl) ?_
  refine lv_iload hx hb dL_law_170 (lv_at hl 4 rfl) ?_
  refine lv_iconst (v := (3 : Int32)) hx hb dL_law_172 (by decide) ?_
  refine lv_iadd hx hb dL_law_173 ?_
  refine va_sld hx hb hX hbl hbA hS (hin 3 (by omega)) dL_law_174 ?_
  refine lv_aload_n hx hb dL_law_175 rfl (lv_at hl 3 rfl) ?_
  have rest : ∀ (fl1 : Nat → Int32) (un1 ut1 u01 u11 : BS) (sv1 : SS) (x1 r1 : BS) (f1 : Nat → Int64) (H : Heap) (locs : List Loc) (k : Int32), Sim fl1 un1 u01 u11 sv1 x1 (f_Mmetronome u (xs (nI i + (1 : Int32)).toNatClampNeg) (xs (nI i + (2 : Int32)).toNatClampNeg) (xs (nI i + (3 : Int32)).toNatClampNeg)).2 → (f_Mmetronome u (xs (nI i + (1 : Int32)).toNatClampNeg) (xs (nI i + (2 : Int32)).toNatClampNeg) (xs (nI i + (3 : Int32)).toNatClampNeg)).2 8 0 = k → (k = 0 → f1 0 = (f_Mmetronome u (xs (nI i + (1 : Int32)).toNatClampNeg) (xs (nI i + (2 : Int32)).toNatClampNeg) (xs (nI i + (3 : Int32)).toNatClampNeg)).1.toInt64) → va_P (dC, dI) vwCl (XW cI cZ cO A Q fl1 un1 ut1 u01 u11 sv1 x1 r1 ++ (LW cL o f1 ++ MW cI cZ hm q u)) H → va_D (fun z => s.heap.size ≤ z) (XW cI cZ cO A Q fl1 un1 ut1 u01 u11 sv1 x1 r1 ++ (LW cL o f1 ++ MW cI cZ hm q u)) → va_S (fun z => s.heap.size ≤ z) s.heap H locs → W p l e room_1 s m #[Value.ref b] below meth c H locs (cells + 1) (slots + 6) (lw_Z below #[Value.ref b] s) (F0 m 179 ls [.int k]) := by
    intro fl1 un1 ut1 u01 u11 sv1 x1 r1 f1 H locs k hSim1 hk1 hk2 hP hD hS
    refine lv_istore (lv' := [(5, .int k), (0, .ref b), (1, .ref (A 0)), (2, .ref hm), (3, .ref o), (4, .int (nI i))]) hx hb dL_law_179 hl (by decide) rfl (fun ls hl => ?_)
    refine lv_aload_n hx hb dL_law_181 rfl (lv_at hl 3 rfl) ?_
    refine lv_aload_n hx hb dL_law_182 rfl (lv_at hl 1 rfl) ?_
    refine lv_iload hx hb dL_law_183 (lv_at hl 5 rfl) ?_
    refine lv_iconst (v := (1 : Int32)) hx hb dL_law_185 (by decide) ?_
    refine lv_iadd hx hb dL_law_186 ?_
    refine va_sld hx hb hX hbl hbA hS (hin 1 (by omega)) dL_law_187 ?_
    refine lv_aload_n hx hb dL_law_188 rfl (lv_at hl 1 rfl) ?_
    refine lv_iload hx hb dL_law_189 (lv_at hl 5 rfl) ?_
    refine lv_iconst (v := (2 : Int32)) hx hb dL_law_191 (by decide) ?_
    refine lv_iadd hx hb dL_law_192 ?_
    refine va_sld hx hb hX hbl hbA hS (hin 2 (by omega)) dL_law_193 ?_
    refine lv_aload_n hx hb dL_law_194 rfl (lv_at hl 1 rfl) ?_
    refine lv_iload hx hb dL_law_195 (lv_at hl 5 rfl) ?_
    refine lv_iconst (v := (3 : Int32)) hx hb dL_law_197 (by decide) ?_
    refine lv_iadd hx hb dL_law_198 ?_
    refine va_sld hx hb hX hbl hbA hS (hin 3 (by omega)) dL_law_199 ?_
    refine kc_w (As := [.int (xs (nI i + (1 : Int32)).toNatClampNeg), .int (xs (nI i + (2 : Int32)).toNatClampNeg), .int (xs (nI i + (3 : Int32)).toNatClampNeg)]) (rest := []) S (v := some (.int (f_Mmetronome u (xs (nI i + (1 : Int32)).toNatClampNeg) (xs (nI i + (2 : Int32)).toNatClampNeg) (xs (nI i + (3 : Int32)).toNatClampNeg)).1)) (c_X5_metronome l dC dI cI cZ cO hm q u (xs (nI i + (1 : Int32)).toNatClampNeg) (xs (nI i + (2 : Int32)).toNatClampNeg) (xs (nI i + (3 : Int32)).toNatClampNeg) H.size (Sim_hk hSim) (Sim_hs hSim)) gL_law_X5_metronome mi_X5_metronome ⟨rfl, rfl⟩ ⟨Nat.le_of_ble_eq_true rfl, Nat.le_of_ble_eq_true rfl⟩ (hK.sub [0, 1, 2] rfl) hP hD hS hA1 (List.range' 68 8) ML_all MW_fst (nd_range 8 68) 0 rfl rfl ⟨hc1, hc2⟩ dL_law_200 rfl hl.1 rfl (Nat.le_of_ble_eq_true rfl) (fun H locs hP hD hS => ?_)
    have hP := Eq.mp (congrArg (fun w => va_P (dC, dI) vwCl w H) ML_ks) hP
    have hD := Eq.mp (congrArg (fun w => va_D (fun z => s.heap.size ≤ z) w) ML_ks) hD
    refine lv_istore (lv' := [(6, .int (f_Mmetronome u (xs (nI i + (1 : Int32)).toNatClampNeg) (xs (nI i + (2 : Int32)).toNatClampNeg) (xs (nI i + (3 : Int32)).toNatClampNeg)).1), (5, .int k), (0, .ref b), (1, .ref (A 0)), (2, .ref hm), (3, .ref o), (4, .int (nI i))]) hx hb dL_law_203 hl (by decide) rfl (fun ls hl => ?_)
    exact law_tail 205 (1207) (by decide) dL_law_205 dL_law_206 dL_law_209 dL_law_211 dL_law_216 dL_law_218 dL_law_221 dL_law_222 dL_law_223 dL_law_224 dL_law_226 dL_law_227 dL_law_228 dL_law_233 S hK hc1 hc2 hk hSim1 hP hD hS hl hk1 hk2
  refine kc_swH (n := 5) (As := [.ref (A 0), .int (xs (nI i + (1 : Int32)).toNatClampNeg), .int (xs (nI i + (2 : Int32)).toNatClampNeg), .int (xs (nI i + (3 : Int32)).toNatClampNeg), .ref o]) (rest := []) S (v := some (.int (hA (f_Xmetronome fl un ut u0 u1 sv x r (xs (nI i + (1 : Int32)).toNatClampNeg) (xs (nI i + (2 : Int32)).toNatClampNeg) (xs (nI i + (3 : Int32)).toNatClampNeg)) cdAS))) (c_L_metronome l hst dC dI cI cZ cO cL A Q fl un ut u0 u1 sv x r (xs (nI i + (1 : Int32)).toNatClampNeg) (xs (nI i + (2 : Int32)).toNatClampNeg) (xs (nI i + (3 : Int32)).toNatClampNeg) o f H.size (Sim_S1 hSim) (Sim_S2 hSim) (fun e he => (hsx.2 e he).2.1)) gL_law_L_metronome ⟨_, rfl⟩ ⟨by decide, by decide, by decide +kernel⟩ ⟨rfl, rfl⟩ ⟨Nat.le_of_ble_eq_true rfl, Nat.le_of_ble_eq_true rfl⟩ (hXX.kept hS.2.1) hK hP hD hS hA1 (List.range' 0 68) HL_all (hWd_fst (fun z => XW_fst) (fun r => XW_fst)) (nd_range 68 0) ⟨hc1, hc2⟩ dL_law_176 rfl hl.1 rfl (Nat.le_of_ble_eq_true rfl) (fun H locs hP hD hS => ?_)
  rcases exc_or (f_Xmetronome fl un ut u0 u1 sv x r (xs (nI i + (1 : Int32)).toNatClampNeg) (xs (nI i + (2 : Int32)).toNatClampNeg) (xs (nI i + (3 : Int32)).toNatClampNeg)) with ⟨z, hz⟩ | ⟨e9, hz⟩
  · obtain ⟨y1, y2, y3⟩ := hsx.1 z hz
    rw [hz] at hP hD ⊢
    have hP := Eq.mp (congrArg (fun w => va_P (dC, dI) vwCl w H) HL_ks) hP
    have hD := Eq.mp (congrArg (fun w => va_D (fun z => s.heap.size ≤ z) w) HL_ks) hD
    exact rest _ _ _ _ _ _ _ _ _ H locs 0 y3 y2 (fun _ => by rw [y1]; rfl) hP hD hS
  · obtain ⟨y1, y2, y3⟩ := hsx.2 e9 hz
    rw [hz] at hP hD ⊢
    have hP := Eq.mp (congrArg (fun w => va_P (dC, dI) vwCl w H) HL_ks) hP
    have hD := Eq.mp (congrArg (fun w => va_D (fun z => s.heap.size ≤ z) w) HL_ks) hD
    exact rest _ _ _ _ _ _ _ _ _ H locs _ y3 y1 (fun q9 => absurd q9 y2) hP hD hS
set_option maxHeartbeats 2000000 in
set_option maxRecDepth 100000 in
theorem law_c1 (hst : l.stackTraces = false) (S : CallFix p m c cL_law 9 s #[Value.ref b] wsL_law RL) (hX : va_X b L xs s s.heap) (hbl : b < s.heap.size) (hK : va_K (dC, dI) vwCl (TY cI cZ cO ++ [(cL, .long)]) s) (hXX : HXk (fun z => s.heap.size ≤ z) s s.heap) (hin : ∀ j, j < 4 → vp_in (nI i + nI j) L) (hc1 : cells + 1 ≤ 626727) (hc2 : slots + 6 ≤ 7215922) (hk : LwK p l e s m below meth c b dC dI cI cZ cO cL A Q hm o q i (cells + 1) (slots + 6) 1440) : LwK p l e s m below meth c b dC dI cI cZ cO cL A Q hm o q i cells slots 236 := by
  intro fl un ut u0 u1 sv x r f u H locs ls hSim hP hD hS hl
  obtain ⟨hx, hb, hml, hown, hts⟩ := id S
  have hA1 : ∀ z : Nat, s.heap.size ≤ z → (fun z => s.heap.size ≤ z) z := fun _ h => h
  have hbA : ¬ (fun z : Nat => s.heap.size ≤ z) b := Nat.not_le.mpr hbl
  have hsx := S_weigh (ut := ut) (r := r) hSim (xs (nI i + (1 : Int32)).toNatClampNeg) (xs (nI i + (2 : Int32)).toNatClampNeg)
  refine lv_aload_n hx hb dL_law_236 rfl (lv_at hl 1 rfl) ?_
  refine lv_aload_n hx hb dL_law_237 rfl (lv_at hl 0 rfl) ?_
  refine lv_iload hx hb dL_law_238 (lv_at hl 4 rfl) ?_
  refine lv_iconst (v := (1 : Int32)) hx hb dL_law_240 (by decide) ?_
  refine lv_iadd hx hb dL_law_241 ?_
  refine va_sld hx hb hX hbl hbA hS (hin 1 (by omega)) dL_law_242 ?_
  refine lv_aload_n hx hb dL_law_243 rfl (lv_at hl 0 rfl) ?_
  refine lv_iload hx hb dL_law_244 (lv_at hl 4 rfl) ?_
  refine lv_iconst (v := (2 : Int32)) hx hb dL_law_246 (by decide) ?_
  refine lv_iadd hx hb dL_law_247 ?_
  refine va_sld hx hb hX hbl hbA hS (hin 2 (by omega)) dL_law_248 ?_
  refine lv_aload_n hx hb dL_law_249 rfl (lv_at hl 3 rfl) ?_
  have rest : ∀ (fl1 : Nat → Int32) (un1 ut1 u01 u11 : BS) (sv1 : SS) (x1 r1 : BS) (f1 : Nat → Int64) (H : Heap) (locs : List Loc) (k : Int32), Sim fl1 un1 u01 u11 sv1 x1 (f_Mweigh u (xs (nI i + (1 : Int32)).toNatClampNeg) (xs (nI i + (2 : Int32)).toNatClampNeg)).2 → (f_Mweigh u (xs (nI i + (1 : Int32)).toNatClampNeg) (xs (nI i + (2 : Int32)).toNatClampNeg)).2 8 0 = k → (k = 0 → f1 0 = (f_Mweigh u (xs (nI i + (1 : Int32)).toNatClampNeg) (xs (nI i + (2 : Int32)).toNatClampNeg)).1.toInt64) → va_P (dC, dI) vwCl (XW cI cZ cO A Q fl1 un1 ut1 u01 u11 sv1 x1 r1 ++ (LW cL o f1 ++ MW cI cZ hm q u)) H → va_D (fun z => s.heap.size ≤ z) (XW cI cZ cO A Q fl1 un1 ut1 u01 u11 sv1 x1 r1 ++ (LW cL o f1 ++ MW cI cZ hm q u)) → va_S (fun z => s.heap.size ≤ z) s.heap H locs → W p l e room_1 s m #[Value.ref b] below meth c H locs (cells + 1) (slots + 6) (lw_Z below #[Value.ref b] s) (F0 m 253 ls [.int k]) := by
    intro fl1 un1 ut1 u01 u11 sv1 x1 r1 f1 H locs k hSim1 hk1 hk2 hP hD hS
    refine lv_istore (lv' := [(5, .int k), (0, .ref b), (1, .ref (A 0)), (2, .ref hm), (3, .ref o), (4, .int (nI i))]) hx hb dL_law_253 hl (by decide) rfl (fun ls hl => ?_)
    refine lv_aload_n hx hb dL_law_255 rfl (lv_at hl 3 rfl) ?_
    refine lv_aload_n hx hb dL_law_256 rfl (lv_at hl 1 rfl) ?_
    refine lv_iload hx hb dL_law_257 (lv_at hl 5 rfl) ?_
    refine lv_iconst (v := (1 : Int32)) hx hb dL_law_259 (by decide) ?_
    refine lv_iadd hx hb dL_law_260 ?_
    refine va_sld hx hb hX hbl hbA hS (hin 1 (by omega)) dL_law_261 ?_
    refine lv_aload_n hx hb dL_law_262 rfl (lv_at hl 1 rfl) ?_
    refine lv_iload hx hb dL_law_263 (lv_at hl 5 rfl) ?_
    refine lv_iconst (v := (2 : Int32)) hx hb dL_law_265 (by decide) ?_
    refine lv_iadd hx hb dL_law_266 ?_
    refine va_sld hx hb hX hbl hbA hS (hin 2 (by omega)) dL_law_267 ?_
    refine kc_w (As := [.int (xs (nI i + (1 : Int32)).toNatClampNeg), .int (xs (nI i + (2 : Int32)).toNatClampNeg)]) (rest := []) S (v := some (.int (f_Mweigh u (xs (nI i + (1 : Int32)).toNatClampNeg) (xs (nI i + (2 : Int32)).toNatClampNeg)).1)) (c_X5_weigh l dC dI cI cZ cO hm q u (xs (nI i + (1 : Int32)).toNatClampNeg) (xs (nI i + (2 : Int32)).toNatClampNeg) H.size (Sim_hk hSim) (Sim_hs hSim)) gL_law_X5_weigh mi_X5_weigh ⟨rfl, rfl⟩ ⟨Nat.le_of_ble_eq_true rfl, Nat.le_of_ble_eq_true rfl⟩ (hK.sub [0, 1, 2] rfl) hP hD hS hA1 (List.range' 68 8) ML_all MW_fst (nd_range 8 68) 0 rfl rfl ⟨hc1, hc2⟩ dL_law_268 rfl hl.1 rfl (Nat.le_of_ble_eq_true rfl) (fun H locs hP hD hS => ?_)
    have hP := Eq.mp (congrArg (fun w => va_P (dC, dI) vwCl w H) ML_ks) hP
    have hD := Eq.mp (congrArg (fun w => va_D (fun z => s.heap.size ≤ z) w) ML_ks) hD
    refine lv_istore (lv' := [(6, .int (f_Mweigh u (xs (nI i + (1 : Int32)).toNatClampNeg) (xs (nI i + (2 : Int32)).toNatClampNeg)).1), (5, .int k), (0, .ref b), (1, .ref (A 0)), (2, .ref hm), (3, .ref o), (4, .int (nI i))]) hx hb dL_law_271 hl (by decide) rfl (fun ls hl => ?_)
    exact law_tail 273 (1139) (by decide) dL_law_273 dL_law_274 dL_law_277 dL_law_279 dL_law_284 dL_law_286 dL_law_289 dL_law_290 dL_law_291 dL_law_292 dL_law_294 dL_law_295 dL_law_296 dL_law_301 S hK hc1 hc2 hk hSim1 hP hD hS hl hk1 hk2
  refine kc_swH (n := 4) (As := [.ref (A 0), .int (xs (nI i + (1 : Int32)).toNatClampNeg), .int (xs (nI i + (2 : Int32)).toNatClampNeg), .ref o]) (rest := []) S (v := some (.int (hA (f_Xweigh fl un ut u0 u1 sv x r (xs (nI i + (1 : Int32)).toNatClampNeg) (xs (nI i + (2 : Int32)).toNatClampNeg)) cdIA))) (c_L_weigh l hst dC dI cI cZ cO cL A Q fl un ut u0 u1 sv x r (xs (nI i + (1 : Int32)).toNatClampNeg) (xs (nI i + (2 : Int32)).toNatClampNeg) o f H.size (Sim_S1 hSim) (Sim_S2 hSim) (fun e he => (hsx.2 e he).2.1)) gL_law_L_weigh ⟨_, rfl⟩ ⟨by decide, by decide, by decide +kernel⟩ ⟨rfl, rfl⟩ ⟨Nat.le_of_ble_eq_true rfl, Nat.le_of_ble_eq_true rfl⟩ (hXX.kept hS.2.1) hK hP hD hS hA1 (List.range' 0 68) HL_all (hWd_fst (fun z => XW_fst) (fun r => XW_fst)) (nd_range 68 0) ⟨hc1, hc2⟩ dL_law_250 rfl hl.1 rfl (Nat.le_of_ble_eq_true rfl) (fun H locs hP hD hS => ?_)
  rcases exc_or (f_Xweigh fl un ut u0 u1 sv x r (xs (nI i + (1 : Int32)).toNatClampNeg) (xs (nI i + (2 : Int32)).toNatClampNeg)) with ⟨z, hz⟩ | ⟨e9, hz⟩
  · obtain ⟨y1, y2, y3⟩ := hsx.1 z hz
    rw [hz] at hP hD ⊢
    have hP := Eq.mp (congrArg (fun w => va_P (dC, dI) vwCl w H) HL_ks) hP
    have hD := Eq.mp (congrArg (fun w => va_D (fun z => s.heap.size ≤ z) w) HL_ks) hD
    exact rest _ _ _ _ _ _ _ _ _ H locs 0 y3 y2 (fun _ => by rw [y1]; rfl) hP hD hS
  · obtain ⟨y1, y2, y3⟩ := hsx.2 e9 hz
    rw [hz] at hP hD ⊢
    have hP := Eq.mp (congrArg (fun w => va_P (dC, dI) vwCl w H) HL_ks) hP
    have hD := Eq.mp (congrArg (fun w => va_D (fun z => s.heap.size ≤ z) w) HL_ks) hD
    exact rest _ _ _ _ _ _ _ _ _ H locs _ y3 y1 (fun q9 => absurd q9 y2) hP hD hS
set_option maxHeartbeats 2000000 in
set_option maxRecDepth 100000 in
theorem law_c2 (hst : l.stackTraces = false) (S : CallFix p m c cL_law 9 s #[Value.ref b] wsL_law RL) (hX : va_X b L xs s s.heap) (hbl : b < s.heap.size) (hK : va_K (dC, dI) vwCl (TY cI cZ cO ++ [(cL, .long)]) s) (hXX : HXk (fun z => s.heap.size ≤ z) s s.heap) (hin : ∀ j, j < 4 → vp_in (nI i + nI j) L) (hc1 : cells + 1 ≤ 626727) (hc2 : slots + 6 ≤ 7215922) (hk : LwK p l e s m below meth c b dC dI cI cZ cO cL A Q hm o q i (cells + 1) (slots + 6) 1440) : LwK p l e s m below meth c b dC dI cI cZ cO cL A Q hm o q i cells slots 304 := by
  intro fl un ut u0 u1 sv x r f u H locs ls hSim hP hD hS hl
  obtain ⟨hx, hb, hml, hown, hts⟩ := id S
  have hA1 : ∀ z : Nat, s.heap.size ≤ z → (fun z => s.heap.size ≤ z) z := fun _ h => h
  have hbA : ¬ (fun z : Nat => s.heap.size ≤ z) b := Nat.not_le.mpr hbl
  have hsx := S_wind (ut := ut) (r := r) hSim (xs (nI i + (1 : Int32)).toNatClampNeg) (xs (nI i + (2 : Int32)).toNatClampNeg)
  refine lv_aload_n hx hb dL_law_304 rfl (lv_at hl 1 rfl) ?_
  refine lv_aload_n hx hb dL_law_305 rfl (lv_at hl 0 rfl) ?_
  refine lv_iload hx hb dL_law_306 (lv_at hl 4 rfl) ?_
  refine lv_iconst (v := (1 : Int32)) hx hb dL_law_308 (by decide) ?_
  refine lv_iadd hx hb dL_law_309 ?_
  refine va_sld hx hb hX hbl hbA hS (hin 1 (by omega)) dL_law_310 ?_
  refine lv_aload_n hx hb dL_law_311 rfl (lv_at hl 0 rfl) ?_
  refine lv_iload hx hb dL_law_312 (lv_at hl 4 rfl) ?_
  refine lv_iconst (v := (2 : Int32)) hx hb dL_law_314 (by decide) ?_
  refine lv_iadd hx hb dL_law_315 ?_
  refine va_sld hx hb hX hbl hbA hS (hin 2 (by omega)) dL_law_316 ?_
  refine lv_aload_n hx hb dL_law_317 rfl (lv_at hl 3 rfl) ?_
  have rest : ∀ (fl1 : Nat → Int32) (un1 ut1 u01 u11 : BS) (sv1 : SS) (x1 r1 : BS) (f1 : Nat → Int64) (H : Heap) (locs : List Loc) (k : Int32), Sim fl1 un1 u01 u11 sv1 x1 (f_Mwind u (xs (nI i + (1 : Int32)).toNatClampNeg) (xs (nI i + (2 : Int32)).toNatClampNeg)).2 → (f_Mwind u (xs (nI i + (1 : Int32)).toNatClampNeg) (xs (nI i + (2 : Int32)).toNatClampNeg)).2 8 0 = k → (k = 0 → f1 0 = (f_Mwind u (xs (nI i + (1 : Int32)).toNatClampNeg) (xs (nI i + (2 : Int32)).toNatClampNeg)).1.toInt64) → va_P (dC, dI) vwCl (XW cI cZ cO A Q fl1 un1 ut1 u01 u11 sv1 x1 r1 ++ (LW cL o f1 ++ MW cI cZ hm q u)) H → va_D (fun z => s.heap.size ≤ z) (XW cI cZ cO A Q fl1 un1 ut1 u01 u11 sv1 x1 r1 ++ (LW cL o f1 ++ MW cI cZ hm q u)) → va_S (fun z => s.heap.size ≤ z) s.heap H locs → W p l e room_1 s m #[Value.ref b] below meth c H locs (cells + 1) (slots + 6) (lw_Z below #[Value.ref b] s) (F0 m 321 ls [.int k]) := by
    intro fl1 un1 ut1 u01 u11 sv1 x1 r1 f1 H locs k hSim1 hk1 hk2 hP hD hS
    refine lv_istore (lv' := [(5, .int k), (0, .ref b), (1, .ref (A 0)), (2, .ref hm), (3, .ref o), (4, .int (nI i))]) hx hb dL_law_321 hl (by decide) rfl (fun ls hl => ?_)
    refine lv_aload_n hx hb dL_law_323 rfl (lv_at hl 3 rfl) ?_
    refine lv_aload_n hx hb dL_law_324 rfl (lv_at hl 1 rfl) ?_
    refine lv_iload hx hb dL_law_325 (lv_at hl 5 rfl) ?_
    refine lv_iconst (v := (1 : Int32)) hx hb dL_law_327 (by decide) ?_
    refine lv_iadd hx hb dL_law_328 ?_
    refine va_sld hx hb hX hbl hbA hS (hin 1 (by omega)) dL_law_329 ?_
    refine lv_aload_n hx hb dL_law_330 rfl (lv_at hl 1 rfl) ?_
    refine lv_iload hx hb dL_law_331 (lv_at hl 5 rfl) ?_
    refine lv_iconst (v := (2 : Int32)) hx hb dL_law_333 (by decide) ?_
    refine lv_iadd hx hb dL_law_334 ?_
    refine va_sld hx hb hX hbl hbA hS (hin 2 (by omega)) dL_law_335 ?_
    refine kc_w (As := [.int (xs (nI i + (1 : Int32)).toNatClampNeg), .int (xs (nI i + (2 : Int32)).toNatClampNeg)]) (rest := []) S (v := some (.int (f_Mwind u (xs (nI i + (1 : Int32)).toNatClampNeg) (xs (nI i + (2 : Int32)).toNatClampNeg)).1)) (c_X5_wind l dC dI cI cZ cO hm q u (xs (nI i + (1 : Int32)).toNatClampNeg) (xs (nI i + (2 : Int32)).toNatClampNeg) H.size (Sim_hk hSim) (Sim_hs hSim)) gL_law_X5_wind mi_X5_wind ⟨rfl, rfl⟩ ⟨Nat.le_of_ble_eq_true rfl, Nat.le_of_ble_eq_true rfl⟩ (hK.sub [0, 1, 2] rfl) hP hD hS hA1 (List.range' 68 8) ML_all MW_fst (nd_range 8 68) 0 rfl rfl ⟨hc1, hc2⟩ dL_law_336 rfl hl.1 rfl (Nat.le_of_ble_eq_true rfl) (fun H locs hP hD hS => ?_)
    have hP := Eq.mp (congrArg (fun w => va_P (dC, dI) vwCl w H) ML_ks) hP
    have hD := Eq.mp (congrArg (fun w => va_D (fun z => s.heap.size ≤ z) w) ML_ks) hD
    refine lv_istore (lv' := [(6, .int (f_Mwind u (xs (nI i + (1 : Int32)).toNatClampNeg) (xs (nI i + (2 : Int32)).toNatClampNeg)).1), (5, .int k), (0, .ref b), (1, .ref (A 0)), (2, .ref hm), (3, .ref o), (4, .int (nI i))]) hx hb dL_law_339 hl (by decide) rfl (fun ls hl => ?_)
    exact law_tail 341 (1071) (by decide) dL_law_341 dL_law_342 dL_law_345 dL_law_347 dL_law_352 dL_law_354 dL_law_357 dL_law_358 dL_law_359 dL_law_360 dL_law_362 dL_law_363 dL_law_364 dL_law_369 S hK hc1 hc2 hk hSim1 hP hD hS hl hk1 hk2
  refine kc_swH (n := 4) (As := [.ref (A 0), .int (xs (nI i + (1 : Int32)).toNatClampNeg), .int (xs (nI i + (2 : Int32)).toNatClampNeg), .ref o]) (rest := []) S (v := some (.int (hA (f_Xwind fl un ut u0 u1 sv x r (xs (nI i + (1 : Int32)).toNatClampNeg) (xs (nI i + (2 : Int32)).toNatClampNeg)) cdIA))) (c_L_wind l hst dC dI cI cZ cO cL A Q fl un ut u0 u1 sv x r (xs (nI i + (1 : Int32)).toNatClampNeg) (xs (nI i + (2 : Int32)).toNatClampNeg) o f H.size (Sim_S1 hSim) (Sim_S2 hSim) (fun e he => (hsx.2 e he).2.1)) gL_law_L_wind ⟨_, rfl⟩ ⟨by decide, by decide, by decide +kernel⟩ ⟨rfl, rfl⟩ ⟨Nat.le_of_ble_eq_true rfl, Nat.le_of_ble_eq_true rfl⟩ (hXX.kept hS.2.1) hK hP hD hS hA1 (List.range' 0 68) HL_all (hWd_fst (fun z => XW_fst) (fun r => XW_fst)) (nd_range 68 0) ⟨hc1, hc2⟩ dL_law_318 rfl hl.1 rfl (Nat.le_of_ble_eq_true rfl) (fun H locs hP hD hS => ?_)
  rcases exc_or (f_Xwind fl un ut u0 u1 sv x r (xs (nI i + (1 : Int32)).toNatClampNeg) (xs (nI i + (2 : Int32)).toNatClampNeg)) with ⟨z, hz⟩ | ⟨e9, hz⟩
  · obtain ⟨y1, y2, y3⟩ := hsx.1 z hz
    rw [hz] at hP hD ⊢
    have hP := Eq.mp (congrArg (fun w => va_P (dC, dI) vwCl w H) HL_ks) hP
    have hD := Eq.mp (congrArg (fun w => va_D (fun z => s.heap.size ≤ z) w) HL_ks) hD
    exact rest _ _ _ _ _ _ _ _ _ H locs 0 y3 y2 (fun _ => by rw [y1]; rfl) hP hD hS
  · obtain ⟨y1, y2, y3⟩ := hsx.2 e9 hz
    rw [hz] at hP hD ⊢
    have hP := Eq.mp (congrArg (fun w => va_P (dC, dI) vwCl w H) HL_ks) hP
    have hD := Eq.mp (congrArg (fun w => va_D (fun z => s.heap.size ≤ z) w) HL_ks) hD
    exact rest _ _ _ _ _ _ _ _ _ H locs _ y3 y1 (fun q9 => absurd q9 y2) hP hD hS
set_option maxHeartbeats 2000000 in
set_option maxRecDepth 100000 in
theorem law_c3 (hst : l.stackTraces = false) (S : CallFix p m c cL_law 9 s #[Value.ref b] wsL_law RL) (hX : va_X b L xs s s.heap) (hbl : b < s.heap.size) (hK : va_K (dC, dI) vwCl (TY cI cZ cO ++ [(cL, .long)]) s) (hXX : HXk (fun z => s.heap.size ≤ z) s s.heap) (hin : ∀ j, j < 4 → vp_in (nI i + nI j) L) (hc1 : cells + 1 ≤ 626727) (hc2 : slots + 6 ≤ 7215922) (hk : LwK p l e s m below meth c b dC dI cI cZ cO cL A Q hm o q i (cells + 1) (slots + 6) 1440) : LwK p l e s m below meth c b dC dI cI cZ cO cL A Q hm o q i cells slots 372 := by
  intro fl un ut u0 u1 sv x r f u H locs ls hSim hP hD hS hl
  obtain ⟨hx, hb, hml, hown, hts⟩ := id S
  have hA1 : ∀ z : Nat, s.heap.size ≤ z → (fun z => s.heap.size ≤ z) z := fun _ h => h
  have hbA : ¬ (fun z : Nat => s.heap.size ≤ z) b := Nat.not_le.mpr hbl
  have hsx := S_hold (ut := ut) (r := r) hSim (xs (nI i + (1 : Int32)).toNatClampNeg)
  refine lv_aload_n hx hb dL_law_372 rfl (lv_at hl 1 rfl) ?_
  refine lv_aload_n hx hb dL_law_373 rfl (lv_at hl 0 rfl) ?_
  refine lv_iload hx hb dL_law_374 (lv_at hl 4 rfl) ?_
  refine lv_iconst (v := (1 : Int32)) hx hb dL_law_376 (by decide) ?_
  refine lv_iadd hx hb dL_law_377 ?_
  refine va_sld hx hb hX hbl hbA hS (hin 1 (by omega)) dL_law_378 ?_
  refine lv_aload_n hx hb dL_law_379 rfl (lv_at hl 3 rfl) ?_
  have rest : ∀ (fl1 : Nat → Int32) (un1 ut1 u01 u11 : BS) (sv1 : SS) (x1 r1 : BS) (f1 : Nat → Int64) (H : Heap) (locs : List Loc) (k : Int32), Sim fl1 un1 u01 u11 sv1 x1 (f_Mhold u (xs (nI i + (1 : Int32)).toNatClampNeg)).2 → (f_Mhold u (xs (nI i + (1 : Int32)).toNatClampNeg)).2 8 0 = k → (k = 0 → f1 0 = (f_Mhold u (xs (nI i + (1 : Int32)).toNatClampNeg)).1.toInt64) → va_P (dC, dI) vwCl (XW cI cZ cO A Q fl1 un1 ut1 u01 u11 sv1 x1 r1 ++ (LW cL o f1 ++ MW cI cZ hm q u)) H → va_D (fun z => s.heap.size ≤ z) (XW cI cZ cO A Q fl1 un1 ut1 u01 u11 sv1 x1 r1 ++ (LW cL o f1 ++ MW cI cZ hm q u)) → va_S (fun z => s.heap.size ≤ z) s.heap H locs → W p l e room_1 s m #[Value.ref b] below meth c H locs (cells + 1) (slots + 6) (lw_Z below #[Value.ref b] s) (F0 m 383 ls [.int k]) := by
    intro fl1 un1 ut1 u01 u11 sv1 x1 r1 f1 H locs k hSim1 hk1 hk2 hP hD hS
    refine lv_istore (lv' := [(5, .int k), (0, .ref b), (1, .ref (A 0)), (2, .ref hm), (3, .ref o), (4, .int (nI i))]) hx hb dL_law_383 hl (by decide) rfl (fun ls hl => ?_)
    refine lv_aload_n hx hb dL_law_385 rfl (lv_at hl 3 rfl) ?_
    refine lv_aload_n hx hb dL_law_386 rfl (lv_at hl 1 rfl) ?_
    refine lv_iload hx hb dL_law_387 (lv_at hl 5 rfl) ?_
    refine lv_iconst (v := (1 : Int32)) hx hb dL_law_389 (by decide) ?_
    refine lv_iadd hx hb dL_law_390 ?_
    refine va_sld hx hb hX hbl hbA hS (hin 1 (by omega)) dL_law_391 ?_
    refine kc_w (As := [.int (xs (nI i + (1 : Int32)).toNatClampNeg)]) (rest := []) S (v := some (.int (f_Mhold u (xs (nI i + (1 : Int32)).toNatClampNeg)).1)) (c_X5_hold l dC dI cI cZ cO hm q u (xs (nI i + (1 : Int32)).toNatClampNeg) H.size (Sim_hk hSim) (Sim_hs hSim)) gL_law_X5_hold mi_X5_hold ⟨rfl, rfl⟩ ⟨Nat.le_of_ble_eq_true rfl, Nat.le_of_ble_eq_true rfl⟩ (hK.sub [0, 1, 2] rfl) hP hD hS hA1 (List.range' 68 8) ML_all MW_fst (nd_range 8 68) 0 rfl rfl ⟨hc1, hc2⟩ dL_law_392 rfl hl.1 rfl (Nat.le_of_ble_eq_true rfl) (fun H locs hP hD hS => ?_)
    have hP := Eq.mp (congrArg (fun w => va_P (dC, dI) vwCl w H) ML_ks) hP
    have hD := Eq.mp (congrArg (fun w => va_D (fun z => s.heap.size ≤ z) w) ML_ks) hD
    refine lv_istore (lv' := [(6, .int (f_Mhold u (xs (nI i + (1 : Int32)).toNatClampNeg)).1), (5, .int k), (0, .ref b), (1, .ref (A 0)), (2, .ref hm), (3, .ref o), (4, .int (nI i))]) hx hb dL_law_395 hl (by decide) rfl (fun ls hl => ?_)
    exact law_tail 397 (1015) (by decide) dL_law_397 dL_law_398 dL_law_401 dL_law_403 dL_law_408 dL_law_410 dL_law_413 dL_law_414 dL_law_415 dL_law_416 dL_law_418 dL_law_419 dL_law_420 dL_law_425 S hK hc1 hc2 hk hSim1 hP hD hS hl hk1 hk2
  refine kc_swH (n := 3) (As := [.ref (A 0), .int (xs (nI i + (1 : Int32)).toNatClampNeg), .ref o]) (rest := []) S (v := some (.int (hA (f_Xhold fl un ut u0 u1 sv x r (xs (nI i + (1 : Int32)).toNatClampNeg)) cdI))) (c_L_hold l hst dC dI cI cZ cO cL A Q fl un ut u0 u1 sv x r (xs (nI i + (1 : Int32)).toNatClampNeg) o f H.size (Sim_S1 hSim) (Sim_S2 hSim) (fun e he => (hsx.2 e he).2.1)) gL_law_L_hold ⟨_, rfl⟩ ⟨by decide, by decide, by decide +kernel⟩ ⟨rfl, rfl⟩ ⟨Nat.le_of_ble_eq_true rfl, Nat.le_of_ble_eq_true rfl⟩ (hXX.kept hS.2.1) hK hP hD hS hA1 (List.range' 0 68) HL_all (hWd_fst (fun z => XW_fst) (fun r => XW_fst)) (nd_range 68 0) ⟨hc1, hc2⟩ dL_law_380 rfl hl.1 rfl (Nat.le_of_ble_eq_true rfl) (fun H locs hP hD hS => ?_)
  rcases exc_or (f_Xhold fl un ut u0 u1 sv x r (xs (nI i + (1 : Int32)).toNatClampNeg)) with ⟨z, hz⟩ | ⟨e9, hz⟩
  · obtain ⟨y1, y2, y3⟩ := hsx.1 z hz
    rw [hz] at hP hD ⊢
    have hP := Eq.mp (congrArg (fun w => va_P (dC, dI) vwCl w H) HL_ks) hP
    have hD := Eq.mp (congrArg (fun w => va_D (fun z => s.heap.size ≤ z) w) HL_ks) hD
    exact rest _ _ _ _ _ _ _ _ _ H locs 0 y3 y2 (fun _ => by rw [y1]; rfl) hP hD hS
  · obtain ⟨y1, y2, y3⟩ := hsx.2 e9 hz
    rw [hz] at hP hD ⊢
    have hP := Eq.mp (congrArg (fun w => va_P (dC, dI) vwCl w H) HL_ks) hP
    have hD := Eq.mp (congrArg (fun w => va_D (fun z => s.heap.size ≤ z) w) HL_ks) hD
    exact rest _ _ _ _ _ _ _ _ _ H locs _ y3 y1 (fun q9 => absurd q9 y2) hP hD hS
set_option maxHeartbeats 2000000 in
set_option maxRecDepth 100000 in
theorem law_c4 (hst : l.stackTraces = false) (S : CallFix p m c cL_law 9 s #[Value.ref b] wsL_law RL) (hX : va_X b L xs s s.heap) (hbl : b < s.heap.size) (hK : va_K (dC, dI) vwCl (TY cI cZ cO ++ [(cL, .long)]) s) (hXX : HXk (fun z => s.heap.size ≤ z) s s.heap) (hin : ∀ j, j < 4 → vp_in (nI i + nI j) L) (hc1 : cells + 1 ≤ 626727) (hc2 : slots + 6 ≤ 7215922) (hk : LwK p l e s m below meth c b dC dI cI cZ cO cL A Q hm o q i (cells + 1) (slots + 6) 1440) : LwK p l e s m below meth c b dC dI cI cZ cO cL A Q hm o q i cells slots 428 := by
  intro fl un ut u0 u1 sv x r f u H locs ls hSim hP hD hS hl
  obtain ⟨hx, hb, hml, hown, hts⟩ := id S
  have hA1 : ∀ z : Nat, s.heap.size ≤ z → (fun z => s.heap.size ≤ z) z := fun _ h => h
  have hbA : ¬ (fun z : Nat => s.heap.size ≤ z) b := Nat.not_le.mpr hbl
  have hsx := S_take (ut := ut) (r := r) hSim
  refine lv_aload_n hx hb dL_law_428 rfl (lv_at hl 1 rfl) ?_
  refine lv_aload_n hx hb dL_law_429 rfl (lv_at hl 3 rfl) ?_
  have rest : ∀ (fl1 : Nat → Int32) (un1 ut1 u01 u11 : BS) (sv1 : SS) (x1 r1 : BS) (f1 : Nat → Int64) (H : Heap) (locs : List Loc) (k : Int32), Sim fl1 un1 u01 u11 sv1 x1 (f_Mtake u).2 → (f_Mtake u).2 8 0 = k → (k = 0 → f1 0 = (f_Mtake u).1.toInt64) → va_P (dC, dI) vwCl (XW cI cZ cO A Q fl1 un1 ut1 u01 u11 sv1 x1 r1 ++ (LW cL o f1 ++ MW cI cZ hm q u)) H → va_D (fun z => s.heap.size ≤ z) (XW cI cZ cO A Q fl1 un1 ut1 u01 u11 sv1 x1 r1 ++ (LW cL o f1 ++ MW cI cZ hm q u)) → va_S (fun z => s.heap.size ≤ z) s.heap H locs → W p l e room_1 s m #[Value.ref b] below meth c H locs (cells + 1) (slots + 6) (lw_Z below #[Value.ref b] s) (F0 m 433 ls [.int k]) := by
    intro fl1 un1 ut1 u01 u11 sv1 x1 r1 f1 H locs k hSim1 hk1 hk2 hP hD hS
    refine lv_istore (lv' := [(5, .int k), (0, .ref b), (1, .ref (A 0)), (2, .ref hm), (3, .ref o), (4, .int (nI i))]) hx hb dL_law_433 hl (by decide) rfl (fun ls hl => ?_)
    refine lv_aload_n hx hb dL_law_435 rfl (lv_at hl 3 rfl) ?_
    refine kc_w (As := []) (rest := []) S (v := some (.int (f_Mtake u).1)) (c_X5_take l dC dI cI cZ cO hm q u H.size (Sim_hk hSim) (Sim_hs hSim)) gL_law_X5_take mi_X5_take ⟨rfl, rfl⟩ ⟨Nat.le_of_ble_eq_true rfl, Nat.le_of_ble_eq_true rfl⟩ (hK.sub [0, 1, 2] rfl) hP hD hS hA1 (List.range' 68 8) ML_all MW_fst (nd_range 8 68) 0 rfl rfl ⟨hc1, hc2⟩ dL_law_436 rfl hl.1 rfl (Nat.le_of_ble_eq_true rfl) (fun H locs hP hD hS => ?_)
    have hP := Eq.mp (congrArg (fun w => va_P (dC, dI) vwCl w H) ML_ks) hP
    have hD := Eq.mp (congrArg (fun w => va_D (fun z => s.heap.size ≤ z) w) ML_ks) hD
    refine lv_istore (lv' := [(6, .int (f_Mtake u).1), (5, .int k), (0, .ref b), (1, .ref (A 0)), (2, .ref hm), (3, .ref o), (4, .int (nI i))]) hx hb dL_law_439 hl (by decide) rfl (fun ls hl => ?_)
    exact law_tail 441 (971) (by decide) dL_law_441 dL_law_442 dL_law_445 dL_law_447 dL_law_452 dL_law_454 dL_law_457 dL_law_458 dL_law_459 dL_law_460 dL_law_462 dL_law_463 dL_law_464 dL_law_469 S hK hc1 hc2 hk hSim1 hP hD hS hl hk1 hk2
  refine kc_swH (n := 2) (As := [.ref (A 0), .ref o]) (rest := []) S (v := some (.int (hA (f_Xtake fl un ut u0 u1 sv x r) cdS))) (c_L_take l hst dC dI cI cZ cO cL A Q fl un ut u0 u1 sv x r o f H.size (Sim_S1 hSim) (Sim_S2 hSim) (fun e he => (hsx.2 e he).2.1)) gL_law_L_take ⟨_, rfl⟩ ⟨by decide, by decide, by decide +kernel⟩ ⟨rfl, rfl⟩ ⟨Nat.le_of_ble_eq_true rfl, Nat.le_of_ble_eq_true rfl⟩ (hXX.kept hS.2.1) hK hP hD hS hA1 (List.range' 0 68) HL_all (hWd_fst (fun z => XW_fst) (fun r => XW_fst)) (nd_range 68 0) ⟨hc1, hc2⟩ dL_law_430 rfl hl.1 rfl (Nat.le_of_ble_eq_true rfl) (fun H locs hP hD hS => ?_)
  rcases exc_or (f_Xtake fl un ut u0 u1 sv x r) with ⟨z, hz⟩ | ⟨e9, hz⟩
  · obtain ⟨y1, y2, y3⟩ := hsx.1 z hz
    rw [hz] at hP hD ⊢
    have hP := Eq.mp (congrArg (fun w => va_P (dC, dI) vwCl w H) HL_ks) hP
    have hD := Eq.mp (congrArg (fun w => va_D (fun z => s.heap.size ≤ z) w) HL_ks) hD
    exact rest _ _ _ _ _ _ _ _ _ H locs 0 y3 y2 (fun _ => by rw [y1]; rfl) hP hD hS
  · obtain ⟨y1, y2, y3⟩ := hsx.2 e9 hz
    rw [hz] at hP hD ⊢
    have hP := Eq.mp (congrArg (fun w => va_P (dC, dI) vwCl w H) HL_ks) hP
    have hD := Eq.mp (congrArg (fun w => va_D (fun z => s.heap.size ≤ z) w) HL_ks) hD
    exact rest _ _ _ _ _ _ _ _ _ H locs _ y3 y1 (fun q9 => absurd q9 y2) hP hD hS
set_option maxHeartbeats 2000000 in
set_option maxRecDepth 100000 in
theorem law_c5 (hst : l.stackTraces = false) (S : CallFix p m c cL_law 9 s #[Value.ref b] wsL_law RL) (hX : va_X b L xs s s.heap) (hbl : b < s.heap.size) (hK : va_K (dC, dI) vwCl (TY cI cZ cO ++ [(cL, .long)]) s) (hXX : HXk (fun z => s.heap.size ≤ z) s s.heap) (hin : ∀ j, j < 4 → vp_in (nI i + nI j) L) (hc1 : cells + 1 ≤ 626727) (hc2 : slots + 6 ≤ 7215922) (hk : LwK p l e s m below meth c b dC dI cI cZ cO cL A Q hm o q i (cells + 1) (slots + 6) 1440) : LwK p l e s m below meth c b dC dI cI cZ cO cL A Q hm o q i cells slots 472 := by
  intro fl un ut u0 u1 sv x r f u H locs ls hSim hP hD hS hl
  obtain ⟨hx, hb, hml, hown, hts⟩ := id S
  have hA1 : ∀ z : Nat, s.heap.size ≤ z → (fun z => s.heap.size ≤ z) z := fun _ h => h
  have hbA : ¬ (fun z : Nat => s.heap.size ≤ z) b := Nat.not_le.mpr hbl
  have hsx := S_run (ut := ut) (r := r) hSim (xs (nI i + (1 : Int32)).toNatClampNeg)
  refine lv_aload_n hx hb dL_law_472 rfl (lv_at hl 1 rfl) ?_
  refine lv_aload_n hx hb dL_law_473 rfl (lv_at hl 0 rfl) ?_
  refine lv_iload hx hb dL_law_474 (lv_at hl 4 rfl) ?_
  refine lv_iconst (v := (1 : Int32)) hx hb dL_law_476 (by decide) ?_
  refine lv_iadd hx hb dL_law_477 ?_
  refine va_sld hx hb hX hbl hbA hS (hin 1 (by omega)) dL_law_478 ?_
  refine lv_aload_n hx hb dL_law_479 rfl (lv_at hl 3 rfl) ?_
  have rest : ∀ (fl1 : Nat → Int32) (un1 ut1 u01 u11 : BS) (sv1 : SS) (x1 r1 : BS) (f1 : Nat → Int64) (H : Heap) (locs : List Loc) (k : Int32), Sim fl1 un1 u01 u11 sv1 x1 (f_Mrun u (xs (nI i + (1 : Int32)).toNatClampNeg)).2 → (f_Mrun u (xs (nI i + (1 : Int32)).toNatClampNeg)).2 8 0 = k → (k = 0 → f1 0 = (f_Mrun u (xs (nI i + (1 : Int32)).toNatClampNeg)).1.toInt64) → va_P (dC, dI) vwCl (XW cI cZ cO A Q fl1 un1 ut1 u01 u11 sv1 x1 r1 ++ (LW cL o f1 ++ MW cI cZ hm q u)) H → va_D (fun z => s.heap.size ≤ z) (XW cI cZ cO A Q fl1 un1 ut1 u01 u11 sv1 x1 r1 ++ (LW cL o f1 ++ MW cI cZ hm q u)) → va_S (fun z => s.heap.size ≤ z) s.heap H locs → W p l e room_1 s m #[Value.ref b] below meth c H locs (cells + 1) (slots + 6) (lw_Z below #[Value.ref b] s) (F0 m 483 ls [.int k]) := by
    intro fl1 un1 ut1 u01 u11 sv1 x1 r1 f1 H locs k hSim1 hk1 hk2 hP hD hS
    refine lv_istore (lv' := [(5, .int k), (0, .ref b), (1, .ref (A 0)), (2, .ref hm), (3, .ref o), (4, .int (nI i))]) hx hb dL_law_483 hl (by decide) rfl (fun ls hl => ?_)
    refine lv_aload_n hx hb dL_law_485 rfl (lv_at hl 3 rfl) ?_
    refine lv_aload_n hx hb dL_law_486 rfl (lv_at hl 1 rfl) ?_
    refine lv_iload hx hb dL_law_487 (lv_at hl 5 rfl) ?_
    refine lv_iconst (v := (1 : Int32)) hx hb dL_law_489 (by decide) ?_
    refine lv_iadd hx hb dL_law_490 ?_
    refine va_sld hx hb hX hbl hbA hS (hin 1 (by omega)) dL_law_491 ?_
    refine kc_w (As := [.int (xs (nI i + (1 : Int32)).toNatClampNeg)]) (rest := []) S (v := some (.int (f_Mrun u (xs (nI i + (1 : Int32)).toNatClampNeg)).1)) (c_X5_run l dC dI cI cZ cO hm q u (xs (nI i + (1 : Int32)).toNatClampNeg) H.size (Sim_hk hSim) (Sim_hs hSim)) gL_law_X5_run mi_X5_run ⟨rfl, rfl⟩ ⟨Nat.le_of_ble_eq_true rfl, Nat.le_of_ble_eq_true rfl⟩ (hK.sub [0, 1, 2] rfl) hP hD hS hA1 (List.range' 68 8) ML_all MW_fst (nd_range 8 68) 0 rfl rfl ⟨hc1, hc2⟩ dL_law_492 rfl hl.1 rfl (Nat.le_of_ble_eq_true rfl) (fun H locs hP hD hS => ?_)
    have hP := Eq.mp (congrArg (fun w => va_P (dC, dI) vwCl w H) ML_ks) hP
    have hD := Eq.mp (congrArg (fun w => va_D (fun z => s.heap.size ≤ z) w) ML_ks) hD
    refine lv_istore (lv' := [(6, .int (f_Mrun u (xs (nI i + (1 : Int32)).toNatClampNeg)).1), (5, .int k), (0, .ref b), (1, .ref (A 0)), (2, .ref hm), (3, .ref o), (4, .int (nI i))]) hx hb dL_law_495 hl (by decide) rfl (fun ls hl => ?_)
    exact law_tail 497 (915) (by decide) dL_law_497 dL_law_498 dL_law_501 dL_law_503 dL_law_508 dL_law_510 dL_law_513 dL_law_514 dL_law_515 dL_law_516 dL_law_518 dL_law_519 dL_law_520 dL_law_525 S hK hc1 hc2 hk hSim1 hP hD hS hl hk1 hk2
  refine kc_swH (n := 3) (As := [.ref (A 0), .int (xs (nI i + (1 : Int32)).toNatClampNeg), .ref o]) (rest := []) S (v := some (.int (hA (f_Xrun fl un ut u0 u1 sv x r (xs (nI i + (1 : Int32)).toNatClampNeg)) cdAS))) (c_L_run l hst dC dI cI cZ cO cL A Q fl un ut u0 u1 sv x r (xs (nI i + (1 : Int32)).toNatClampNeg) o f H.size (Sim_S1 hSim) (Sim_S2 hSim) (fun e he => (hsx.2 e he).2.1)) gL_law_L_run ⟨_, rfl⟩ ⟨by decide, by decide, by decide +kernel⟩ ⟨rfl, rfl⟩ ⟨Nat.le_of_ble_eq_true rfl, Nat.le_of_ble_eq_true rfl⟩ (hXX.kept hS.2.1) hK hP hD hS hA1 (List.range' 0 68) HL_all (hWd_fst (fun z => XW_fst) (fun r => XW_fst)) (nd_range 68 0) ⟨hc1, hc2⟩ dL_law_480 rfl hl.1 rfl (Nat.le_of_ble_eq_true rfl) (fun H locs hP hD hS => ?_)
  rcases exc_or (f_Xrun fl un ut u0 u1 sv x r (xs (nI i + (1 : Int32)).toNatClampNeg)) with ⟨z, hz⟩ | ⟨e9, hz⟩
  · obtain ⟨y1, y2, y3⟩ := hsx.1 z hz
    rw [hz] at hP hD ⊢
    have hP := Eq.mp (congrArg (fun w => va_P (dC, dI) vwCl w H) HL_ks) hP
    have hD := Eq.mp (congrArg (fun w => va_D (fun z => s.heap.size ≤ z) w) HL_ks) hD
    exact rest _ _ _ _ _ _ _ _ _ H locs 0 y3 y2 (fun _ => by rw [y1]; rfl) hP hD hS
  · obtain ⟨y1, y2, y3⟩ := hsx.2 e9 hz
    rw [hz] at hP hD ⊢
    have hP := Eq.mp (congrArg (fun w => va_P (dC, dI) vwCl w H) HL_ks) hP
    have hD := Eq.mp (congrArg (fun w => va_D (fun z => s.heap.size ≤ z) w) HL_ks) hD
    exact rest _ _ _ _ _ _ _ _ _ H locs _ y3 y1 (fun q9 => absurd q9 y2) hP hD hS
set_option maxHeartbeats 2000000 in
set_option maxRecDepth 100000 in
theorem law_c6 (hst : l.stackTraces = false) (S : CallFix p m c cL_law 9 s #[Value.ref b] wsL_law RL) (hX : va_X b L xs s s.heap) (hbl : b < s.heap.size) (hK : va_K (dC, dI) vwCl (TY cI cZ cO ++ [(cL, .long)]) s) (hXX : HXk (fun z => s.heap.size ≤ z) s s.heap) (hin : ∀ j, j < 4 → vp_in (nI i + nI j) L) (hc1 : cells + 1 ≤ 626727) (hc2 : slots + 6 ≤ 7215922) (hk : LwK p l e s m below meth c b dC dI cI cZ cO cL A Q hm o q i (cells + 1) (slots + 6) 1440) : LwK p l e s m below meth c b dC dI cI cZ cO cL A Q hm o q i cells slots 528 := by
  intro fl un ut u0 u1 sv x r f u H locs ls hSim hP hD hS hl
  obtain ⟨hx, hb, hml, hown, hts⟩ := id S
  have hA1 : ∀ z : Nat, s.heap.size ≤ z → (fun z => s.heap.size ≤ z) z := fun _ h => h
  have hbA : ¬ (fun z : Nat => s.heap.size ≤ z) b := Nat.not_le.mpr hbl
  obtain ⟨y1, y2⟩ := S_stop (ut := ut) (r := r) hSim
  refine W.widen (k := cells + 1) (n := slots + 6) (Nat.le_succ _) (Nat.le_add_right _ _) ?_
  refine lv_aload_n hx hb dL_law_528 rfl (lv_at hl 1 rfl) ?_
  refine kc_w (As := []) (rest := []) S (v := some (.int (f_Xstop fl un ut u0 u1 sv x r).1)) (c_X4_stop l dC dI cI cZ cO A Q fl un ut u0 u1 sv x r H.size (Sim_S1 hSim) (Sim_S2 hSim)) gL_law_X4_stop mi_X4_stop ⟨rfl, rfl⟩ ⟨Nat.le_of_ble_eq_true rfl, Nat.le_of_ble_eq_true rfl⟩ (hK.sub [0, 1, 2] rfl) hP hD hS hA1 (List.range' 0 67) XW_allT XW_fst (nd_range 67 0) 0 rfl rfl ⟨hc1, hc2⟩ dL_law_529 rfl hl.1 rfl (Nat.le_of_ble_eq_true rfl) (fun H locs hP hD hS => ?_)
  have hP := Eq.mp (congrArg (fun w => va_P (dC, dI) vwCl w H) XW_ksT) hP
  have hD := Eq.mp (congrArg (fun w => va_D (fun z => s.heap.size ≤ z) w) XW_ksT) hD
  refine lv_aload_n hx hb dL_law_532 rfl (lv_at hl 2 rfl) ?_
  refine kc_w (As := []) (rest := [.int (f_Xstop fl un ut u0 u1 sv x r).1]) S (v := some (.int (f_Mstop u).1)) (c_X5_stop l dC dI cI cZ cO hm q u H.size (Sim_hk hSim)) gL_law_X5_stop mi_X5_stop ⟨rfl, rfl⟩ ⟨Nat.le_of_ble_eq_true rfl, Nat.le_of_ble_eq_true rfl⟩ (hK.sub [0, 1, 2] rfl) hP hD hS hA1 (List.range' 68 8) ML_all MW_fst (nd_range 8 68) 0 rfl rfl ⟨hc1, hc2⟩ dL_law_533 rfl hl.1 rfl (Nat.le_of_ble_eq_true rfl) (fun H locs hP hD hS => ?_)
  have hP := Eq.mp (congrArg (fun w => va_P (dC, dI) vwCl w H) ML_ks) hP
  have hD := Eq.mp (congrArg (fun w => va_D (fun z => s.heap.size ≤ z) w) ML_ks) hD
  refine lv_icmp_eq (tgt := 1440) hx hb dL_law_536 (by decide) (fun _ => ?_) (fun q9 => absurd y1.symm q9)
  exact hk _ _ _ _ _ _ _ _ _ _ H locs ls y2 hP hD hS hl
set_option maxHeartbeats 2000000 in
set_option maxRecDepth 100000 in
theorem law_c7 (hst : l.stackTraces = false) (S : CallFix p m c cL_law 9 s #[Value.ref b] wsL_law RL) (hX : va_X b L xs s s.heap) (hbl : b < s.heap.size) (hK : va_K (dC, dI) vwCl (TY cI cZ cO ++ [(cL, .long)]) s) (hXX : HXk (fun z => s.heap.size ≤ z) s s.heap) (hin : ∀ j, j < 4 → vp_in (nI i + nI j) L) (hc1 : cells + 1 ≤ 626727) (hc2 : slots + 6 ≤ 7215922) (hk : LwK p l e s m below meth c b dC dI cI cZ cO cL A Q hm o q i (cells + 1) (slots + 6) 1440) : LwK p l e s m below meth c b dC dI cI cZ cO cL A Q hm o q i cells slots 541 := by
  intro fl un ut u0 u1 sv x r f u H locs ls hSim hP hD hS hl
  obtain ⟨hx, hb, hml, hown, hts⟩ := id S
  have hA1 : ∀ z : Nat, s.heap.size ≤ z → (fun z => s.heap.size ≤ z) z := fun _ h => h
  have hbA : ¬ (fun z : Nat => s.heap.size ≤ z) b := Nat.not_le.mpr hbl
  have hsx := S_set (ut := ut) (r := r) hSim (xs (nI i + (1 : Int32)).toNatClampNeg) (xs (nI i + (2 : Int32)).toNatClampNeg)
  refine lv_aload_n hx hb dL_law_541 rfl (lv_at hl 1 rfl) ?_
  refine lv_aload_n hx hb dL_law_542 rfl (lv_at hl 0 rfl) ?_
  refine lv_iload hx hb dL_law_543 (lv_at hl 4 rfl) ?_
  refine lv_iconst (v := (1 : Int32)) hx hb dL_law_545 (by decide) ?_
  refine lv_iadd hx hb dL_law_546 ?_
  refine va_sld hx hb hX hbl hbA hS (hin 1 (by omega)) dL_law_547 ?_
  refine lv_aload_n hx hb dL_law_548 rfl (lv_at hl 0 rfl) ?_
  refine lv_iload hx hb dL_law_549 (lv_at hl 4 rfl) ?_
  refine lv_iconst (v := (2 : Int32)) hx hb dL_law_551 (by decide) ?_
  refine lv_iadd hx hb dL_law_552 ?_
  refine va_sld hx hb hX hbl hbA hS (hin 2 (by omega)) dL_law_553 ?_
  refine lv_aload_n hx hb dL_law_554 rfl (lv_at hl 3 rfl) ?_
  have rest : ∀ (fl1 : Nat → Int32) (un1 ut1 u01 u11 : BS) (sv1 : SS) (x1 r1 : BS) (f1 : Nat → Int64) (H : Heap) (locs : List Loc) (k : Int32), Sim fl1 un1 u01 u11 sv1 x1 (f_Mset u (xs (nI i + (1 : Int32)).toNatClampNeg) (xs (nI i + (2 : Int32)).toNatClampNeg)).2 → (f_Mset u (xs (nI i + (1 : Int32)).toNatClampNeg) (xs (nI i + (2 : Int32)).toNatClampNeg)).2 8 0 = k → (k = 0 → f1 0 = (f_Mset u (xs (nI i + (1 : Int32)).toNatClampNeg) (xs (nI i + (2 : Int32)).toNatClampNeg)).1.toInt64) → va_P (dC, dI) vwCl (XW cI cZ cO A Q fl1 un1 ut1 u01 u11 sv1 x1 r1 ++ (LW cL o f1 ++ MW cI cZ hm q u)) H → va_D (fun z => s.heap.size ≤ z) (XW cI cZ cO A Q fl1 un1 ut1 u01 u11 sv1 x1 r1 ++ (LW cL o f1 ++ MW cI cZ hm q u)) → va_S (fun z => s.heap.size ≤ z) s.heap H locs → W p l e room_1 s m #[Value.ref b] below meth c H locs (cells + 1) (slots + 6) (lw_Z below #[Value.ref b] s) (F0 m 558 ls [.int k]) := by
    intro fl1 un1 ut1 u01 u11 sv1 x1 r1 f1 H locs k hSim1 hk1 hk2 hP hD hS
    refine lv_istore (lv' := [(5, .int k), (0, .ref b), (1, .ref (A 0)), (2, .ref hm), (3, .ref o), (4, .int (nI i))]) hx hb dL_law_558 hl (by decide) rfl (fun ls hl => ?_)
    refine lv_aload_n hx hb dL_law_560 rfl (lv_at hl 3 rfl) ?_
    refine lv_aload_n hx hb dL_law_561 rfl (lv_at hl 1 rfl) ?_
    refine lv_iload hx hb dL_law_562 (lv_at hl 5 rfl) ?_
    refine lv_iconst (v := (1 : Int32)) hx hb dL_law_564 (by decide) ?_
    refine lv_iadd hx hb dL_law_565 ?_
    refine va_sld hx hb hX hbl hbA hS (hin 1 (by omega)) dL_law_566 ?_
    refine lv_aload_n hx hb dL_law_567 rfl (lv_at hl 1 rfl) ?_
    refine lv_iload hx hb dL_law_568 (lv_at hl 5 rfl) ?_
    refine lv_iconst (v := (2 : Int32)) hx hb dL_law_570 (by decide) ?_
    refine lv_iadd hx hb dL_law_571 ?_
    refine va_sld hx hb hX hbl hbA hS (hin 2 (by omega)) dL_law_572 ?_
    refine kc_w (As := [.int (xs (nI i + (1 : Int32)).toNatClampNeg), .int (xs (nI i + (2 : Int32)).toNatClampNeg)]) (rest := []) S (v := some (.int (f_Mset u (xs (nI i + (1 : Int32)).toNatClampNeg) (xs (nI i + (2 : Int32)).toNatClampNeg)).1)) (c_X5_set l dC dI cI cZ cO hm q u (xs (nI i + (1 : Int32)).toNatClampNeg) (xs (nI i + (2 : Int32)).toNatClampNeg) H.size (Sim_hk hSim)) gL_law_X5_set mi_X5_set ⟨rfl, rfl⟩ ⟨Nat.le_of_ble_eq_true rfl, Nat.le_of_ble_eq_true rfl⟩ (hK.sub [0, 1, 2] rfl) hP hD hS hA1 (List.range' 68 8) ML_all MW_fst (nd_range 8 68) 0 rfl rfl ⟨hc1, hc2⟩ dL_law_573 rfl hl.1 rfl (Nat.le_of_ble_eq_true rfl) (fun H locs hP hD hS => ?_)
    have hP := Eq.mp (congrArg (fun w => va_P (dC, dI) vwCl w H) ML_ks) hP
    have hD := Eq.mp (congrArg (fun w => va_D (fun z => s.heap.size ≤ z) w) ML_ks) hD
    refine lv_istore (lv' := [(6, .int (f_Mset u (xs (nI i + (1 : Int32)).toNatClampNeg) (xs (nI i + (2 : Int32)).toNatClampNeg)).1), (5, .int k), (0, .ref b), (1, .ref (A 0)), (2, .ref hm), (3, .ref o), (4, .int (nI i))]) hx hb dL_law_576 hl (by decide) rfl (fun ls hl => ?_)
    exact law_tail 578 (834) (by decide) dL_law_578 dL_law_579 dL_law_582 dL_law_584 dL_law_589 dL_law_591 dL_law_594 dL_law_595 dL_law_596 dL_law_597 dL_law_599 dL_law_600 dL_law_601 dL_law_606 S hK hc1 hc2 hk hSim1 hP hD hS hl hk1 hk2
  refine kc_swH (n := 4) (As := [.ref (A 0), .int (xs (nI i + (1 : Int32)).toNatClampNeg), .int (xs (nI i + (2 : Int32)).toNatClampNeg), .ref o]) (rest := []) S (v := some (.int (hA (f_Xset fl un ut u0 u1 sv x r (xs (nI i + (1 : Int32)).toNatClampNeg) (xs (nI i + (2 : Int32)).toNatClampNeg)) cdIA))) (c_L_set l hst dC dI cI cZ cO cL A Q fl un ut u0 u1 sv x r (xs (nI i + (1 : Int32)).toNatClampNeg) (xs (nI i + (2 : Int32)).toNatClampNeg) o f H.size (Sim_S1 hSim) (Sim_S2 hSim) (fun e he => (hsx.2 e he).2.1)) gL_law_L_set ⟨_, rfl⟩ ⟨by decide, by decide, by decide +kernel⟩ ⟨rfl, rfl⟩ ⟨Nat.le_of_ble_eq_true rfl, Nat.le_of_ble_eq_true rfl⟩ (hXX.kept hS.2.1) hK hP hD hS hA1 (List.range' 0 68) HL_all (hWd_fst (fun z => XW_fst) (fun r => XW_fst)) (nd_range 68 0) ⟨hc1, hc2⟩ dL_law_555 rfl hl.1 rfl (Nat.le_of_ble_eq_true rfl) (fun H locs hP hD hS => ?_)
  rcases exc_or (f_Xset fl un ut u0 u1 sv x r (xs (nI i + (1 : Int32)).toNatClampNeg) (xs (nI i + (2 : Int32)).toNatClampNeg)) with ⟨z, hz⟩ | ⟨e9, hz⟩
  · obtain ⟨y1, y2, y3⟩ := hsx.1 z hz
    rw [hz] at hP hD ⊢
    have hP := Eq.mp (congrArg (fun w => va_P (dC, dI) vwCl w H) HL_ks) hP
    have hD := Eq.mp (congrArg (fun w => va_D (fun z => s.heap.size ≤ z) w) HL_ks) hD
    exact rest _ _ _ _ _ _ _ _ _ H locs 0 y3 y2 (fun _ => by rw [y1]; rfl) hP hD hS
  · obtain ⟨y1, y2, y3⟩ := hsx.2 e9 hz
    rw [hz] at hP hD ⊢
    have hP := Eq.mp (congrArg (fun w => va_P (dC, dI) vwCl w H) HL_ks) hP
    have hD := Eq.mp (congrArg (fun w => va_D (fun z => s.heap.size ≤ z) w) HL_ks) hD
    exact rest _ _ _ _ _ _ _ _ _ H locs _ y3 y1 (fun q9 => absurd q9 y2) hP hD hS
set_option maxHeartbeats 2000000 in
set_option maxRecDepth 100000 in
theorem law_c8 (hst : l.stackTraces = false) (S : CallFix p m c cL_law 9 s #[Value.ref b] wsL_law RL) (hX : va_X b L xs s s.heap) (hbl : b < s.heap.size) (hK : va_K (dC, dI) vwCl (TY cI cZ cO ++ [(cL, .long)]) s) (hXX : HXk (fun z => s.heap.size ≤ z) s s.heap) (hin : ∀ j, j < 4 → vp_in (nI i + nI j) L) (hc1 : cells + 1 ≤ 626727) (hc2 : slots + 6 ≤ 7215922) (hk : LwK p l e s m below meth c b dC dI cI cZ cO cL A Q hm o q i (cells + 1) (slots + 6) 1440) : LwK p l e s m below meth c b dC dI cI cZ cO cL A Q hm o q i cells slots 609 := by
  intro fl un ut u0 u1 sv x r f u H locs ls hSim hP hD hS hl
  obtain ⟨hx, hb, hml, hown, hts⟩ := id S
  have hA1 : ∀ z : Nat, s.heap.size ≤ z → (fun z => s.heap.size ≤ z) z := fun _ h => h
  have hbA : ¬ (fun z : Nat => s.heap.size ≤ z) b := Nat.not_le.mpr hbl
  have hsx := S_append (ut := ut) (r := r) hSim (xs (nI i + (1 : Int32)).toNatClampNeg)
  refine lv_aload_n hx hb dL_law_609 rfl (lv_at hl 1 rfl) ?_
  refine lv_aload_n hx hb dL_law_610 rfl (lv_at hl 0 rfl) ?_
  refine lv_iload hx hb dL_law_611 (lv_at hl 4 rfl) ?_
  refine lv_iconst (v := (1 : Int32)) hx hb dL_law_613 (by decide) ?_
  refine lv_iadd hx hb dL_law_614 ?_
  refine va_sld hx hb hX hbl hbA hS (hin 1 (by omega)) dL_law_615 ?_
  refine lv_aload_n hx hb dL_law_616 rfl (lv_at hl 3 rfl) ?_
  have rest : ∀ (fl1 : Nat → Int32) (un1 ut1 u01 u11 : BS) (sv1 : SS) (x1 r1 : BS) (f1 : Nat → Int64) (H : Heap) (locs : List Loc) (k : Int32), Sim fl1 un1 u01 u11 sv1 x1 (f_Mappend u (xs (nI i + (1 : Int32)).toNatClampNeg)).2 → (f_Mappend u (xs (nI i + (1 : Int32)).toNatClampNeg)).2 8 0 = k → (k = 0 → f1 0 = (f_Mappend u (xs (nI i + (1 : Int32)).toNatClampNeg)).1.toInt64) → va_P (dC, dI) vwCl (XW cI cZ cO A Q fl1 un1 ut1 u01 u11 sv1 x1 r1 ++ (LW cL o f1 ++ MW cI cZ hm q u)) H → va_D (fun z => s.heap.size ≤ z) (XW cI cZ cO A Q fl1 un1 ut1 u01 u11 sv1 x1 r1 ++ (LW cL o f1 ++ MW cI cZ hm q u)) → va_S (fun z => s.heap.size ≤ z) s.heap H locs → W p l e room_1 s m #[Value.ref b] below meth c H locs (cells + 1) (slots + 6) (lw_Z below #[Value.ref b] s) (F0 m 620 ls [.int k]) := by
    intro fl1 un1 ut1 u01 u11 sv1 x1 r1 f1 H locs k hSim1 hk1 hk2 hP hD hS
    refine lv_istore (lv' := [(5, .int k), (0, .ref b), (1, .ref (A 0)), (2, .ref hm), (3, .ref o), (4, .int (nI i))]) hx hb dL_law_620 hl (by decide) rfl (fun ls hl => ?_)
    refine lv_aload_n hx hb dL_law_622 rfl (lv_at hl 3 rfl) ?_
    refine lv_aload_n hx hb dL_law_623 rfl (lv_at hl 1 rfl) ?_
    refine lv_iload hx hb dL_law_624 (lv_at hl 5 rfl) ?_
    refine lv_iconst (v := (1 : Int32)) hx hb dL_law_626 (by decide) ?_
    refine lv_iadd hx hb dL_law_627 ?_
    refine va_sld hx hb hX hbl hbA hS (hin 1 (by omega)) dL_law_628 ?_
    refine kc_w (As := [.int (xs (nI i + (1 : Int32)).toNatClampNeg)]) (rest := []) S (v := some (.int (f_Mappend u (xs (nI i + (1 : Int32)).toNatClampNeg)).1)) (c_X5_append l dC dI cI cZ cO hm q u (xs (nI i + (1 : Int32)).toNatClampNeg) H.size (Sim_ht hSim)) gL_law_X5_append mi_X5_append ⟨rfl, rfl⟩ ⟨Nat.le_of_ble_eq_true rfl, Nat.le_of_ble_eq_true rfl⟩ (hK.sub [0, 1, 2] rfl) hP hD hS hA1 (List.range' 68 8) ML_all MW_fst (nd_range 8 68) 0 rfl rfl ⟨hc1, hc2⟩ dL_law_629 rfl hl.1 rfl (Nat.le_of_ble_eq_true rfl) (fun H locs hP hD hS => ?_)
    have hP := Eq.mp (congrArg (fun w => va_P (dC, dI) vwCl w H) ML_ks) hP
    have hD := Eq.mp (congrArg (fun w => va_D (fun z => s.heap.size ≤ z) w) ML_ks) hD
    refine lv_istore (lv' := [(6, .int (f_Mappend u (xs (nI i + (1 : Int32)).toNatClampNeg)).1), (5, .int k), (0, .ref b), (1, .ref (A 0)), (2, .ref hm), (3, .ref o), (4, .int (nI i))]) hx hb dL_law_632 hl (by decide) rfl (fun ls hl => ?_)
    exact law_tail 634 (778) (by decide) dL_law_634 dL_law_635 dL_law_638 dL_law_640 dL_law_645 dL_law_647 dL_law_650 dL_law_651 dL_law_652 dL_law_653 dL_law_655 dL_law_656 dL_law_657 dL_law_662 S hK hc1 hc2 hk hSim1 hP hD hS hl hk1 hk2
  refine kc_swH (n := 3) (As := [.ref (A 0), .int (xs (nI i + (1 : Int32)).toNatClampNeg), .ref o]) (rest := []) S (v := some (.int (hA (f_Xappend fl un ut u0 u1 sv x r (xs (nI i + (1 : Int32)).toNatClampNeg)) cdAS))) (c_L_append l hst dC dI cI cZ cO cL A Q fl un ut u0 u1 sv x r (xs (nI i + (1 : Int32)).toNatClampNeg) o f H.size (fun e he => (hsx.2 e he).2.1)) gL_law_L_append ⟨_, rfl⟩ ⟨by decide, by decide, by decide +kernel⟩ ⟨rfl, rfl⟩ ⟨Nat.le_of_ble_eq_true rfl, Nat.le_of_ble_eq_true rfl⟩ (hXX.kept hS.2.1) hK hP hD hS hA1 (List.range' 0 68) HL_all (hWd_fst (fun z => XW_fst) (fun r => XW_fst)) (nd_range 68 0) ⟨hc1, hc2⟩ dL_law_617 rfl hl.1 rfl (Nat.le_of_ble_eq_true rfl) (fun H locs hP hD hS => ?_)
  rcases exc_or (f_Xappend fl un ut u0 u1 sv x r (xs (nI i + (1 : Int32)).toNatClampNeg)) with ⟨z, hz⟩ | ⟨e9, hz⟩
  · obtain ⟨y1, y2, y3⟩ := hsx.1 z hz
    rw [hz] at hP hD ⊢
    have hP := Eq.mp (congrArg (fun w => va_P (dC, dI) vwCl w H) HL_ks) hP
    have hD := Eq.mp (congrArg (fun w => va_D (fun z => s.heap.size ≤ z) w) HL_ks) hD
    exact rest _ _ _ _ _ _ _ _ _ H locs 0 y3 y2 (fun _ => by rw [y1]; rfl) hP hD hS
  · obtain ⟨y1, y2, y3⟩ := hsx.2 e9 hz
    rw [hz] at hP hD ⊢
    have hP := Eq.mp (congrArg (fun w => va_P (dC, dI) vwCl w H) HL_ks) hP
    have hD := Eq.mp (congrArg (fun w => va_D (fun z => s.heap.size ≤ z) w) HL_ks) hD
    exact rest _ _ _ _ _ _ _ _ _ H locs _ y3 y1 (fun q9 => absurd q9 y2) hP hD hS
set_option maxHeartbeats 2000000 in
set_option maxRecDepth 100000 in
theorem law_c9 (hst : l.stackTraces = false) (S : CallFix p m c cL_law 9 s #[Value.ref b] wsL_law RL) (hX : va_X b L xs s s.heap) (hbl : b < s.heap.size) (hK : va_K (dC, dI) vwCl (TY cI cZ cO ++ [(cL, .long)]) s) (hXX : HXk (fun z => s.heap.size ≤ z) s s.heap) (hin : ∀ j, j < 4 → vp_in (nI i + nI j) L) (hc1 : cells + 1 ≤ 626727) (hc2 : slots + 6 ≤ 7215922) (hk : LwK p l e s m below meth c b dC dI cI cZ cO cL A Q hm o q i (cells + 1) (slots + 6) 1440) : LwK p l e s m below meth c b dC dI cI cZ cO cL A Q hm o q i cells slots 665 := by
  intro fl un ut u0 u1 sv x r f u H locs ls hSim hP hD hS hl
  obtain ⟨hx, hb, hml, hown, hts⟩ := id S
  have hA1 : ∀ z : Nat, s.heap.size ≤ z → (fun z => s.heap.size ≤ z) z := fun _ h => h
  have hbA : ¬ (fun z : Nat => s.heap.size ≤ z) b := Nat.not_le.mpr hbl
  obtain ⟨y1, y2⟩ := S_clear hSim
  refine W.widen (k := cells + 1) (n := slots + 6) (Nat.le_succ _) (Nat.le_add_right _ _) ?_
  refine lv_aload_n hx hb dL_law_665 rfl (lv_at hl 1 rfl) ?_
  refine kc_w (As := []) (rest := []) S (v := some (.int (f_Tempty x).1)) (c_X4_clearBuffer l dC dI cI cZ cO A Q fl un ut u0 u1 sv x r H.size) gL_law_X4_clearBuffer mi_X4_clearBuffer ⟨rfl, rfl⟩ ⟨Nat.le_of_ble_eq_true rfl, Nat.le_of_ble_eq_true rfl⟩ (hK.sub [0, 1, 2] rfl) hP hD hS hA1 (List.range' 0 67) XW_allT XW_fst (nd_range 67 0) 0 rfl rfl ⟨hc1, hc2⟩ dL_law_666 rfl hl.1 rfl (Nat.le_of_ble_eq_true rfl) (fun H locs hP hD hS => ?_)
  have hP := Eq.mp (congrArg (fun w => va_P (dC, dI) vwCl w H) XW_ksT) hP
  have hD := Eq.mp (congrArg (fun w => va_D (fun z => s.heap.size ≤ z) w) XW_ksT) hD
  refine lv_aload_n hx hb dL_law_669 rfl (lv_at hl 2 rfl) ?_
  refine kc_w (As := []) (rest := [.int (f_Tempty x).1]) S (v := some (.int (f_MclearBuffer u).1)) (c_X5_clearBuffer l dC dI cI cZ cO hm q u H.size) gL_law_X5_clearBuffer mi_X5_clearBuffer ⟨rfl, rfl⟩ ⟨Nat.le_of_ble_eq_true rfl, Nat.le_of_ble_eq_true rfl⟩ (hK.sub [0, 1, 2] rfl) hP hD hS hA1 (List.range' 68 8) ML_all MW_fst (nd_range 8 68) 0 rfl rfl ⟨hc1, hc2⟩ dL_law_670 rfl hl.1 rfl (Nat.le_of_ble_eq_true rfl) (fun H locs hP hD hS => ?_)
  have hP := Eq.mp (congrArg (fun w => va_P (dC, dI) vwCl w H) ML_ks) hP
  have hD := Eq.mp (congrArg (fun w => va_D (fun z => s.heap.size ≤ z) w) ML_ks) hD
  refine lv_icmp_eq (tgt := 1440) hx hb dL_law_673 (by decide) (fun _ => ?_) (fun q9 => absurd y1.symm q9)
  exact hk _ _ _ _ _ _ _ _ _ _ H locs ls y2 hP hD hS hl
set_option maxHeartbeats 2000000 in
set_option maxRecDepth 100000 in
theorem law_c10 (hst : l.stackTraces = false) (S : CallFix p m c cL_law 9 s #[Value.ref b] wsL_law RL) (hX : va_X b L xs s s.heap) (hbl : b < s.heap.size) (hK : va_K (dC, dI) vwCl (TY cI cZ cO ++ [(cL, .long)]) s) (hXX : HXk (fun z => s.heap.size ≤ z) s s.heap) (hin : ∀ j, j < 4 → vp_in (nI i + nI j) L) (hc1 : cells + 1 ≤ 626727) (hc2 : slots + 6 ≤ 7215922) (hk : LwK p l e s m below meth c b dC dI cI cZ cO cL A Q hm o q i (cells + 1) (slots + 6) 1440) : LwK p l e s m below meth c b dC dI cI cZ cO cL A Q hm o q i cells slots 678 := by
  intro fl un ut u0 u1 sv x r f u H locs ls hSim hP hD hS hl
  obtain ⟨hx, hb, hml, hown, hts⟩ := id S
  have hA1 : ∀ z : Nat, s.heap.size ≤ z → (fun z => s.heap.size ≤ z) z := fun _ h => h
  have hbA : ¬ (fun z : Nat => s.heap.size ≤ z) b := Nat.not_le.mpr hbl
  obtain ⟨y1, y2⟩ := S_first (ut := ut) (r0 := r) hSim
  refine W.widen (k := cells + 1) (n := slots + 6) (Nat.le_succ _) (Nat.le_add_right _ _) ?_
  refine lv_aload_n hx hb dL_law_678 rfl (lv_at hl 1 rfl) ?_
  refine kc_w (As := []) (rest := []) S (v := some (.int (f_XreadText fl un ut u0 u1 sv x r).1)) (c_X4_firstError l dC dI cI cZ cO A Q fl un ut u0 u1 sv x r H.size) gL_law_X4_firstError mi_X4_firstError ⟨rfl, rfl⟩ ⟨Nat.le_of_ble_eq_true rfl, Nat.le_of_ble_eq_true rfl⟩ (hK.sub [0, 1, 2] rfl) hP hD hS hA1 (List.range' 0 67) XW_allT XW_fst (nd_range 67 0) 0 rfl rfl ⟨hc1, hc2⟩ dL_law_679 rfl hl.1 rfl (Nat.le_of_ble_eq_true rfl) (fun H locs hP hD hS => ?_)
  have hP := Eq.mp (congrArg (fun w => va_P (dC, dI) vwCl w H) XW_ksT) hP
  have hD := Eq.mp (congrArg (fun w => va_D (fun z => s.heap.size ≤ z) w) XW_ksT) hD
  refine lv_aload_n hx hb dL_law_682 rfl (lv_at hl 2 rfl) ?_
  refine kc_w (As := []) (rest := [.int (f_XreadText fl un ut u0 u1 sv x r).1]) S (v := some (.int (f_MfirstError u).1)) (c_X5_firstError l dC dI cI cZ cO hm q u H.size (Sim_ht hSim)) gL_law_X5_firstError mi_X5_firstError ⟨rfl, rfl⟩ ⟨Nat.le_of_ble_eq_true rfl, Nat.le_of_ble_eq_true rfl⟩ (hK.sub [0, 1, 2] rfl) hP hD hS hA1 (List.range' 68 8) ML_all MW_fst (nd_range 8 68) 0 rfl rfl ⟨hc1, hc2⟩ dL_law_683 rfl hl.1 rfl (Nat.le_of_ble_eq_true rfl) (fun H locs hP hD hS => ?_)
  have hP := Eq.mp (congrArg (fun w => va_P (dC, dI) vwCl w H) ML_ks) hP
  have hD := Eq.mp (congrArg (fun w => va_D (fun z => s.heap.size ≤ z) w) ML_ks) hD
  refine lv_icmp_eq (tgt := 1440) hx hb dL_law_686 (by decide) (fun _ => ?_) (fun q9 => absurd y1.symm q9)
  exact hk _ _ _ _ _ _ _ _ _ _ H locs ls y2 hP hD hS hl
set_option maxHeartbeats 2000000 in
set_option maxRecDepth 100000 in
theorem law_c11 (hst : l.stackTraces = false) (S : CallFix p m c cL_law 9 s #[Value.ref b] wsL_law RL) (hX : va_X b L xs s s.heap) (hbl : b < s.heap.size) (hK : va_K (dC, dI) vwCl (TY cI cZ cO ++ [(cL, .long)]) s) (hXX : HXk (fun z => s.heap.size ≤ z) s s.heap) (hin : ∀ j, j < 4 → vp_in (nI i + nI j) L) (hc1 : cells + 1 ≤ 626727) (hc2 : slots + 6 ≤ 7215922) (hk : LwK p l e s m below meth c b dC dI cI cZ cO cL A Q hm o q i (cells + 1) (slots + 6) 1440) : LwK p l e s m below meth c b dC dI cI cZ cO cL A Q hm o q i cells slots 691 := by
  intro fl un ut u0 u1 sv x r f u H locs ls hSim hP hD hS hl
  obtain ⟨hx, hb, hml, hown, hts⟩ := id S
  have hA1 : ∀ z : Nat, s.heap.size ≤ z → (fun z => s.heap.size ≤ z) z := fun _ h => h
  have hbA : ¬ (fun z : Nat => s.heap.size ≤ z) b := Nat.not_le.mpr hbl
  have hsx := S_play (ut := ut) (r0 := r) hSim
  refine lv_aload_n hx hb dL_law_691 rfl (lv_at hl 1 rfl) ?_
  refine lv_aload_n hx hb dL_law_692 rfl (lv_at hl 3 rfl) ?_
  have rest : ∀ (fl1 : Nat → Int32) (un1 ut1 u01 u11 : BS) (sv1 : SS) (x1 r1 : BS) (f1 : Nat → Int64) (H : Heap) (locs : List Loc) (k : Int32), Sim fl1 un1 u01 u11 sv1 x1 (f_Mplay u).2 → (f_Mplay u).2 8 0 = k → (k = 0 → f1 0 = (f_Mplay u).1.toInt64) → va_P (dC, dI) vwCl (XW cI cZ cO A Q fl1 un1 ut1 u01 u11 sv1 x1 r1 ++ (LW cL o f1 ++ MW cI cZ hm q u)) H → va_D (fun z => s.heap.size ≤ z) (XW cI cZ cO A Q fl1 un1 ut1 u01 u11 sv1 x1 r1 ++ (LW cL o f1 ++ MW cI cZ hm q u)) → va_S (fun z => s.heap.size ≤ z) s.heap H locs → W p l e room_1 s m #[Value.ref b] below meth c H locs (cells + 1) (slots + 6) (lw_Z below #[Value.ref b] s) (F0 m 696 ls [.int k]) := by
    intro fl1 un1 ut1 u01 u11 sv1 x1 r1 f1 H locs k hSim1 hk1 hk2 hP hD hS
    refine lv_istore (lv' := [(5, .int k), (0, .ref b), (1, .ref (A 0)), (2, .ref hm), (3, .ref o), (4, .int (nI i))]) hx hb dL_law_696 hl (by decide) rfl (fun ls hl => ?_)
    refine lv_aload_n hx hb dL_law_698 rfl (lv_at hl 3 rfl) ?_
    refine kc_w (As := []) (rest := []) S (v := some (.int (f_Mplay u).1)) (c_X5_play l dC dI cI cZ cO hm q u H.size (Sim_hk hSim) (Sim_hs hSim) (Sim_ht hSim)) gL_law_X5_play mi_X5_play ⟨rfl, rfl⟩ ⟨Nat.le_of_ble_eq_true rfl, Nat.le_of_ble_eq_true rfl⟩ (hK.sub [0, 1, 2] rfl) hP hD hS hA1 (List.range' 68 8) ML_all MW_fst (nd_range 8 68) 0 rfl rfl ⟨hc1, hc2⟩ dL_law_699 rfl hl.1 rfl (Nat.le_of_ble_eq_true rfl) (fun H locs hP hD hS => ?_)
    have hP := Eq.mp (congrArg (fun w => va_P (dC, dI) vwCl w H) ML_ks) hP
    have hD := Eq.mp (congrArg (fun w => va_D (fun z => s.heap.size ≤ z) w) ML_ks) hD
    refine lv_istore (lv' := [(6, .int (f_Mplay u).1), (5, .int k), (0, .ref b), (1, .ref (A 0)), (2, .ref hm), (3, .ref o), (4, .int (nI i))]) hx hb dL_law_702 hl (by decide) rfl (fun ls hl => ?_)
    exact law_tail 704 (708) (by decide) dL_law_704 dL_law_705 dL_law_708 dL_law_710 dL_law_715 dL_law_717 dL_law_720 dL_law_721 dL_law_722 dL_law_723 dL_law_725 dL_law_726 dL_law_727 dL_law_732 S hK hc1 hc2 hk hSim1 hP hD hS hl hk1 hk2
  refine kc_swH (n := 2) (As := [.ref (A 0), .ref o]) (rest := []) S (v := some (.int (hA (f_Xplay fl un ut u0 u1 sv x r) cdA))) (c_L_play l hst dC dI cI cZ cO cL A Q fl un ut u0 u1 sv x r o f H.size (Sim_S1 hSim) (Sim_S2 hSim) (Sim_xs hSim) (fun e he => (hsx.2 e he).2.1)) gL_law_L_play ⟨_, rfl⟩ ⟨by decide, by decide, by decide +kernel⟩ ⟨rfl, rfl⟩ ⟨Nat.le_of_ble_eq_true rfl, Nat.le_of_ble_eq_true rfl⟩ (hXX.kept hS.2.1) hK hP hD hS hA1 (List.range' 0 68) HL_all (hWd_fst (fun z => XW_fst) (fun r => XW_fst)) (nd_range 68 0) ⟨hc1, hc2⟩ dL_law_693 rfl hl.1 rfl (Nat.le_of_ble_eq_true rfl) (fun H locs hP hD hS => ?_)
  rcases exc_or (f_Xplay fl un ut u0 u1 sv x r) with ⟨z, hz⟩ | ⟨e9, hz⟩
  · obtain ⟨y1, y2, y3⟩ := hsx.1 z hz
    rw [hz] at hP hD ⊢
    have hP := Eq.mp (congrArg (fun w => va_P (dC, dI) vwCl w H) HL_ks) hP
    have hD := Eq.mp (congrArg (fun w => va_D (fun z => s.heap.size ≤ z) w) HL_ks) hD
    exact rest _ _ _ _ _ _ _ _ _ H locs 0 y3 y2 (fun _ => by rw [y1]; rfl) hP hD hS
  · obtain ⟨y1, y2, y3⟩ := hsx.2 e9 hz
    rw [hz] at hP hD ⊢
    have hP := Eq.mp (congrArg (fun w => va_P (dC, dI) vwCl w H) HL_ks) hP
    have hD := Eq.mp (congrArg (fun w => va_D (fun z => s.heap.size ≤ z) w) HL_ks) hD
    exact rest _ _ _ _ _ _ _ _ _ H locs _ y3 y1 (fun q9 => absurd q9 y2) hP hD hS
set_option maxHeartbeats 2000000 in
set_option maxRecDepth 100000 in
theorem law_c12 (hst : l.stackTraces = false) (S : CallFix p m c cL_law 9 s #[Value.ref b] wsL_law RL) (hX : va_X b L xs s s.heap) (hbl : b < s.heap.size) (hK : va_K (dC, dI) vwCl (TY cI cZ cO ++ [(cL, .long)]) s) (hXX : HXk (fun z => s.heap.size ≤ z) s s.heap) (hin : ∀ j, j < 4 → vp_in (nI i + nI j) L) (hc1 : cells + 1 ≤ 626727) (hc2 : slots + 6 ≤ 7215922) (hk : LwK p l e s m below meth c b dC dI cI cZ cO cL A Q hm o q i (cells + 1) (slots + 6) 1440) : LwK p l e s m below meth c b dC dI cI cZ cO cL A Q hm o q i cells slots 735 := by
  intro fl un ut u0 u1 sv x r f u H locs ls hSim hP hD hS hl
  obtain ⟨hx, hb, hml, hown, hts⟩ := id S
  have hA1 : ∀ z : Nat, s.heap.size ≤ z → (fun z => s.heap.size ≤ z) z := fun _ h => h
  have hbA : ¬ (fun z : Nat => s.heap.size ≤ z) b := Nat.not_le.mpr hbl
  have hsx := S_keep (ut := ut) (r := r) hSim (xs (nI i + (1 : Int32)).toNatClampNeg)
  refine lv_aload_n hx hb dL_law_735 rfl (lv_at hl 1 rfl) ?_
  refine lv_aload_n hx hb dL_law_736 rfl (lv_at hl 0 rfl) ?_
  refine lv_iload hx hb dL_law_737 (lv_at hl 4 rfl) ?_
  refine lv_iconst (v := (1 : Int32)) hx hb dL_law_739 (by decide) ?_
  refine lv_iadd hx hb dL_law_740 ?_
  refine va_sld hx hb hX hbl hbA hS (hin 1 (by omega)) dL_law_741 ?_
  refine lv_aload_n hx hb dL_law_742 rfl (lv_at hl 3 rfl) ?_
  have rest : ∀ (fl1 : Nat → Int32) (un1 ut1 u01 u11 : BS) (sv1 : SS) (x1 r1 : BS) (f1 : Nat → Int64) (H : Heap) (locs : List Loc) (k : Int32), Sim fl1 un1 u01 u11 sv1 x1 (f_Mkeep u (xs (nI i + (1 : Int32)).toNatClampNeg)).2 → (f_Mkeep u (xs (nI i + (1 : Int32)).toNatClampNeg)).2 8 0 = k → (k = 0 → f1 0 = (f_Mkeep u (xs (nI i + (1 : Int32)).toNatClampNeg)).1.toInt64) → va_P (dC, dI) vwCl (XW cI cZ cO A Q fl1 un1 ut1 u01 u11 sv1 x1 r1 ++ (LW cL o f1 ++ MW cI cZ hm q u)) H → va_D (fun z => s.heap.size ≤ z) (XW cI cZ cO A Q fl1 un1 ut1 u01 u11 sv1 x1 r1 ++ (LW cL o f1 ++ MW cI cZ hm q u)) → va_S (fun z => s.heap.size ≤ z) s.heap H locs → W p l e room_1 s m #[Value.ref b] below meth c H locs (cells + 1) (slots + 6) (lw_Z below #[Value.ref b] s) (F0 m 746 ls [.int k]) := by
    intro fl1 un1 ut1 u01 u11 sv1 x1 r1 f1 H locs k hSim1 hk1 hk2 hP hD hS
    refine lv_istore (lv' := [(5, .int k), (0, .ref b), (1, .ref (A 0)), (2, .ref hm), (3, .ref o), (4, .int (nI i))]) hx hb dL_law_746 hl (by decide) rfl (fun ls hl => ?_)
    refine lv_aload_n hx hb dL_law_748 rfl (lv_at hl 3 rfl) ?_
    refine lv_aload_n hx hb dL_law_749 rfl (lv_at hl 1 rfl) ?_
    refine lv_iload hx hb dL_law_750 (lv_at hl 5 rfl) ?_
    refine lv_iconst (v := (1 : Int32)) hx hb dL_law_752 (by decide) ?_
    refine lv_iadd hx hb dL_law_753 ?_
    refine va_sld hx hb hX hbl hbA hS (hin 1 (by omega)) dL_law_754 ?_
    refine kc_w (As := [.int (xs (nI i + (1 : Int32)).toNatClampNeg)]) (rest := []) S (v := some (.int (f_Mkeep u (xs (nI i + (1 : Int32)).toNatClampNeg)).1)) (c_X5_keep l dC dI cI cZ cO hm q u (xs (nI i + (1 : Int32)).toNatClampNeg) H.size) gL_law_X5_keep mi_X5_keep ⟨rfl, rfl⟩ ⟨Nat.le_of_ble_eq_true rfl, Nat.le_of_ble_eq_true rfl⟩ (hK.sub [0, 1, 2] rfl) hP hD hS hA1 (List.range' 68 8) ML_all MW_fst (nd_range 8 68) 0 rfl rfl ⟨hc1, hc2⟩ dL_law_755 rfl hl.1 rfl (Nat.le_of_ble_eq_true rfl) (fun H locs hP hD hS => ?_)
    have hP := Eq.mp (congrArg (fun w => va_P (dC, dI) vwCl w H) ML_ks) hP
    have hD := Eq.mp (congrArg (fun w => va_D (fun z => s.heap.size ≤ z) w) ML_ks) hD
    refine lv_istore (lv' := [(6, .int (f_Mkeep u (xs (nI i + (1 : Int32)).toNatClampNeg)).1), (5, .int k), (0, .ref b), (1, .ref (A 0)), (2, .ref hm), (3, .ref o), (4, .int (nI i))]) hx hb dL_law_758 hl (by decide) rfl (fun ls hl => ?_)
    exact law_tail 760 (652) (by decide) dL_law_760 dL_law_761 dL_law_764 dL_law_766 dL_law_771 dL_law_773 dL_law_776 dL_law_777 dL_law_778 dL_law_779 dL_law_781 dL_law_782 dL_law_783 dL_law_788 S hK hc1 hc2 hk hSim1 hP hD hS hl hk1 hk2
  refine kc_swH (n := 3) (As := [.ref (A 0), .int (xs (nI i + (1 : Int32)).toNatClampNeg), .ref o]) (rest := []) S (v := some (.int (hA (f_Xkeep fl un ut u0 u1 sv x r (xs (nI i + (1 : Int32)).toNatClampNeg)) cdA))) (c_L_keep l hst dC dI cI cZ cO cL A Q fl un ut u0 u1 sv x r (xs (nI i + (1 : Int32)).toNatClampNeg) o f H.size (fun e he => (hsx.2 e he).2.1)) gL_law_L_keep ⟨_, rfl⟩ ⟨by decide, by decide, by decide +kernel⟩ ⟨rfl, rfl⟩ ⟨Nat.le_of_ble_eq_true rfl, Nat.le_of_ble_eq_true rfl⟩ (hXX.kept hS.2.1) hK hP hD hS hA1 (List.range' 0 68) HL_all (hWd_fst (fun z => XW_fst) (fun r => XW_fst)) (nd_range 68 0) ⟨hc1, hc2⟩ dL_law_743 rfl hl.1 rfl (Nat.le_of_ble_eq_true rfl) (fun H locs hP hD hS => ?_)
  rcases exc_or (f_Xkeep fl un ut u0 u1 sv x r (xs (nI i + (1 : Int32)).toNatClampNeg)) with ⟨z, hz⟩ | ⟨e9, hz⟩
  · obtain ⟨y1, y2, y3⟩ := hsx.1 z hz
    rw [hz] at hP hD ⊢
    have hP := Eq.mp (congrArg (fun w => va_P (dC, dI) vwCl w H) HL_ks) hP
    have hD := Eq.mp (congrArg (fun w => va_D (fun z => s.heap.size ≤ z) w) HL_ks) hD
    exact rest _ _ _ _ _ _ _ _ _ H locs 0 y3 y2 (fun _ => by rw [y1]; rfl) hP hD hS
  · obtain ⟨y1, y2, y3⟩ := hsx.2 e9 hz
    rw [hz] at hP hD ⊢
    have hP := Eq.mp (congrArg (fun w => va_P (dC, dI) vwCl w H) HL_ks) hP
    have hD := Eq.mp (congrArg (fun w => va_D (fun z => s.heap.size ≤ z) w) HL_ks) hD
    exact rest _ _ _ _ _ _ _ _ _ H locs _ y3 y1 (fun q9 => absurd q9 y2) hP hD hS
set_option maxHeartbeats 2000000 in
set_option maxRecDepth 100000 in
theorem law_c13 (hst : l.stackTraces = false) (S : CallFix p m c cL_law 9 s #[Value.ref b] wsL_law RL) (hX : va_X b L xs s s.heap) (hbl : b < s.heap.size) (hK : va_K (dC, dI) vwCl (TY cI cZ cO ++ [(cL, .long)]) s) (hXX : HXk (fun z => s.heap.size ≤ z) s s.heap) (hin : ∀ j, j < 4 → vp_in (nI i + nI j) L) (hc1 : cells + 1 ≤ 626727) (hc2 : slots + 6 ≤ 7215922) (hk : LwK p l e s m below meth c b dC dI cI cZ cO cL A Q hm o q i (cells + 1) (slots + 6) 1440) : LwK p l e s m below meth c b dC dI cI cZ cO cL A Q hm o q i cells slots 791 := by
  intro fl un ut u0 u1 sv x r f u H locs ls hSim hP hD hS hl
  obtain ⟨hx, hb, hml, hown, hts⟩ := id S
  have hA1 : ∀ z : Nat, s.heap.size ≤ z → (fun z => s.heap.size ≤ z) z := fun _ h => h
  have hbA : ¬ (fun z : Nat => s.heap.size ≤ z) b := Nat.not_le.mpr hbl
  have hsx := S_goBack (ut := ut) (r := r) hSim (xs (nI i + (1 : Int32)).toNatClampNeg)
  refine lv_aload_n hx hb dL_law_791 rfl (lv_at hl 1 rfl) ?_
  refine lv_aload_n hx hb dL_law_792 rfl (lv_at hl 0 rfl) ?_
  refine lv_iload hx hb dL_law_793 (lv_at hl 4 rfl) ?_
  refine lv_iconst (v := (1 : Int32)) hx hb dL_law_795 (by decide) ?_
  refine lv_iadd hx hb dL_law_796 ?_
  refine va_sld hx hb hX hbl hbA hS (hin 1 (by omega)) dL_law_797 ?_
  refine lv_aload_n hx hb dL_law_798 rfl (lv_at hl 3 rfl) ?_
  have rest : ∀ (fl1 : Nat → Int32) (un1 ut1 u01 u11 : BS) (sv1 : SS) (x1 r1 : BS) (f1 : Nat → Int64) (H : Heap) (locs : List Loc) (k : Int32), Sim fl1 un1 u01 u11 sv1 x1 (f_MgoBack u (xs (nI i + (1 : Int32)).toNatClampNeg)).2 → (f_MgoBack u (xs (nI i + (1 : Int32)).toNatClampNeg)).2 8 0 = k → (k = 0 → f1 0 = (f_MgoBack u (xs (nI i + (1 : Int32)).toNatClampNeg)).1.toInt64) → va_P (dC, dI) vwCl (XW cI cZ cO A Q fl1 un1 ut1 u01 u11 sv1 x1 r1 ++ (LW cL o f1 ++ MW cI cZ hm q u)) H → va_D (fun z => s.heap.size ≤ z) (XW cI cZ cO A Q fl1 un1 ut1 u01 u11 sv1 x1 r1 ++ (LW cL o f1 ++ MW cI cZ hm q u)) → va_S (fun z => s.heap.size ≤ z) s.heap H locs → W p l e room_1 s m #[Value.ref b] below meth c H locs (cells + 1) (slots + 6) (lw_Z below #[Value.ref b] s) (F0 m 802 ls [.int k]) := by
    intro fl1 un1 ut1 u01 u11 sv1 x1 r1 f1 H locs k hSim1 hk1 hk2 hP hD hS
    refine lv_istore (lv' := [(5, .int k), (0, .ref b), (1, .ref (A 0)), (2, .ref hm), (3, .ref o), (4, .int (nI i))]) hx hb dL_law_802 hl (by decide) rfl (fun ls hl => ?_)
    refine lv_aload_n hx hb dL_law_804 rfl (lv_at hl 3 rfl) ?_
    refine lv_aload_n hx hb dL_law_805 rfl (lv_at hl 1 rfl) ?_
    refine lv_iload hx hb dL_law_806 (lv_at hl 5 rfl) ?_
    refine lv_iconst (v := (1 : Int32)) hx hb dL_law_808 (by decide) ?_
    refine lv_iadd hx hb dL_law_809 ?_
    refine va_sld hx hb hX hbl hbA hS (hin 1 (by omega)) dL_law_810 ?_
    refine kc_w (As := [.int (xs (nI i + (1 : Int32)).toNatClampNeg)]) (rest := []) S (v := some (.int (f_MgoBack u (xs (nI i + (1 : Int32)).toNatClampNeg)).1)) (c_X5_goBack l dC dI cI cZ cO hm q u (xs (nI i + (1 : Int32)).toNatClampNeg) H.size (Sim_hk hSim)) gL_law_X5_goBack mi_X5_goBack ⟨rfl, rfl⟩ ⟨Nat.le_of_ble_eq_true rfl, Nat.le_of_ble_eq_true rfl⟩ (hK.sub [0, 1, 2] rfl) hP hD hS hA1 (List.range' 68 8) ML_all MW_fst (nd_range 8 68) 0 rfl rfl ⟨hc1, hc2⟩ dL_law_811 rfl hl.1 rfl (Nat.le_of_ble_eq_true rfl) (fun H locs hP hD hS => ?_)
    have hP := Eq.mp (congrArg (fun w => va_P (dC, dI) vwCl w H) ML_ks) hP
    have hD := Eq.mp (congrArg (fun w => va_D (fun z => s.heap.size ≤ z) w) ML_ks) hD
    refine lv_istore (lv' := [(6, .int (f_MgoBack u (xs (nI i + (1 : Int32)).toNatClampNeg)).1), (5, .int k), (0, .ref b), (1, .ref (A 0)), (2, .ref hm), (3, .ref o), (4, .int (nI i))]) hx hb dL_law_814 hl (by decide) rfl (fun ls hl => ?_)
    exact law_tail 816 (596) (by decide) dL_law_816 dL_law_817 dL_law_820 dL_law_822 dL_law_827 dL_law_829 dL_law_832 dL_law_833 dL_law_834 dL_law_835 dL_law_837 dL_law_838 dL_law_839 dL_law_844 S hK hc1 hc2 hk hSim1 hP hD hS hl hk1 hk2
  refine kc_swH (n := 3) (As := [.ref (A 0), .int (xs (nI i + (1 : Int32)).toNatClampNeg), .ref o]) (rest := []) S (v := some (.int (hA (f_XgoBack fl un ut u0 u1 sv x r (xs (nI i + (1 : Int32)).toNatClampNeg)) cdAS))) (c_L_goBack l hst dC dI cI cZ cO cL A Q fl un ut u0 u1 sv x r (xs (nI i + (1 : Int32)).toNatClampNeg) o f H.size (Sim_S1 hSim) (Sim_S2 hSim) (fun e he => (hsx.2 e he).2.1)) gL_law_L_goBack ⟨_, rfl⟩ ⟨by decide, by decide, by decide +kernel⟩ ⟨rfl, rfl⟩ ⟨Nat.le_of_ble_eq_true rfl, Nat.le_of_ble_eq_true rfl⟩ (hXX.kept hS.2.1) hK hP hD hS hA1 (List.range' 0 68) HL_all (hWd_fst (fun z => XW_fst) (fun r => XW_fst)) (nd_range 68 0) ⟨hc1, hc2⟩ dL_law_799 rfl hl.1 rfl (Nat.le_of_ble_eq_true rfl) (fun H locs hP hD hS => ?_)
  rcases exc_or (f_XgoBack fl un ut u0 u1 sv x r (xs (nI i + (1 : Int32)).toNatClampNeg)) with ⟨z, hz⟩ | ⟨e9, hz⟩
  · obtain ⟨y1, y2, y3⟩ := hsx.1 z hz
    rw [hz] at hP hD ⊢
    have hP := Eq.mp (congrArg (fun w => va_P (dC, dI) vwCl w H) HL_ks) hP
    have hD := Eq.mp (congrArg (fun w => va_D (fun z => s.heap.size ≤ z) w) HL_ks) hD
    exact rest _ _ _ _ _ _ _ _ _ H locs 0 y3 y2 (fun _ => by rw [y1]; rfl) hP hD hS
  · obtain ⟨y1, y2, y3⟩ := hsx.2 e9 hz
    rw [hz] at hP hD ⊢
    have hP := Eq.mp (congrArg (fun w => va_P (dC, dI) vwCl w H) HL_ks) hP
    have hD := Eq.mp (congrArg (fun w => va_D (fun z => s.heap.size ≤ z) w) HL_ks) hD
    exact rest _ _ _ _ _ _ _ _ _ H locs _ y3 y1 (fun q9 => absurd q9 y2) hP hD hS
set_option maxHeartbeats 2000000 in
set_option maxRecDepth 100000 in
theorem law_c14 (hst : l.stackTraces = false) (S : CallFix p m c cL_law 9 s #[Value.ref b] wsL_law RL) (hX : va_X b L xs s s.heap) (hbl : b < s.heap.size) (hK : va_K (dC, dI) vwCl (TY cI cZ cO ++ [(cL, .long)]) s) (hXX : HXk (fun z => s.heap.size ≤ z) s s.heap) (hin : ∀ j, j < 4 → vp_in (nI i + nI j) L) (hc1 : cells + 1 ≤ 626727) (hc2 : slots + 6 ≤ 7215922) (hk : LwK p l e s m below meth c b dC dI cI cZ cO cL A Q hm o q i (cells + 1) (slots + 6) 1440) : LwK p l e s m below meth c b dC dI cI cZ cO cL A Q hm o q i cells slots 847 := by
  intro fl un ut u0 u1 sv x r f u H locs ls hSim hP hD hS hl
  obtain ⟨hx, hb, hml, hown, hts⟩ := id S
  have hA1 : ∀ z : Nat, s.heap.size ≤ z → (fun z => s.heap.size ≤ z) z := fun _ h => h
  have hbA : ¬ (fun z : Nat => s.heap.size ≤ z) b := Nat.not_le.mpr hbl
  have hsx := S_undo (ut := ut) (r := r) hSim
  refine lv_aload_n hx hb dL_law_847 rfl (lv_at hl 1 rfl) ?_
  refine lv_aload_n hx hb dL_law_848 rfl (lv_at hl 3 rfl) ?_
  have rest : ∀ (fl1 : Nat → Int32) (un1 ut1 u01 u11 : BS) (sv1 : SS) (x1 r1 : BS) (f1 : Nat → Int64) (H : Heap) (locs : List Loc) (k : Int32), Sim fl1 un1 u01 u11 sv1 x1 (f_Mundo u).2 → (f_Mundo u).2 8 0 = k → (k = 0 → f1 0 = (f_Mundo u).1.toInt64) → va_P (dC, dI) vwCl (XW cI cZ cO A Q fl1 un1 ut1 u01 u11 sv1 x1 r1 ++ (LW cL o f1 ++ MW cI cZ hm q u)) H → va_D (fun z => s.heap.size ≤ z) (XW cI cZ cO A Q fl1 un1 ut1 u01 u11 sv1 x1 r1 ++ (LW cL o f1 ++ MW cI cZ hm q u)) → va_S (fun z => s.heap.size ≤ z) s.heap H locs → W p l e room_1 s m #[Value.ref b] below meth c H locs (cells + 1) (slots + 6) (lw_Z below #[Value.ref b] s) (F0 m 852 ls [.int k]) := by
    intro fl1 un1 ut1 u01 u11 sv1 x1 r1 f1 H locs k hSim1 hk1 hk2 hP hD hS
    refine lv_istore (lv' := [(5, .int k), (0, .ref b), (1, .ref (A 0)), (2, .ref hm), (3, .ref o), (4, .int (nI i))]) hx hb dL_law_852 hl (by decide) rfl (fun ls hl => ?_)
    refine lv_aload_n hx hb dL_law_854 rfl (lv_at hl 3 rfl) ?_
    refine kc_w (As := []) (rest := []) S (v := some (.int (f_Mundo u).1)) (c_X5_undo l dC dI cI cZ cO hm q u H.size (Sim_hk hSim)) gL_law_X5_undo mi_X5_undo ⟨rfl, rfl⟩ ⟨Nat.le_of_ble_eq_true rfl, Nat.le_of_ble_eq_true rfl⟩ (hK.sub [0, 1, 2] rfl) hP hD hS hA1 (List.range' 68 8) ML_all MW_fst (nd_range 8 68) 0 rfl rfl ⟨hc1, hc2⟩ dL_law_855 rfl hl.1 rfl (Nat.le_of_ble_eq_true rfl) (fun H locs hP hD hS => ?_)
    have hP := Eq.mp (congrArg (fun w => va_P (dC, dI) vwCl w H) ML_ks) hP
    have hD := Eq.mp (congrArg (fun w => va_D (fun z => s.heap.size ≤ z) w) ML_ks) hD
    refine lv_istore (lv' := [(6, .int (f_Mundo u).1), (5, .int k), (0, .ref b), (1, .ref (A 0)), (2, .ref hm), (3, .ref o), (4, .int (nI i))]) hx hb dL_law_858 hl (by decide) rfl (fun ls hl => ?_)
    exact law_tail 860 (552) (by decide) dL_law_860 dL_law_861 dL_law_864 dL_law_866 dL_law_871 dL_law_873 dL_law_876 dL_law_877 dL_law_878 dL_law_879 dL_law_881 dL_law_882 dL_law_883 dL_law_888 S hK hc1 hc2 hk hSim1 hP hD hS hl hk1 hk2
  refine kc_swH (n := 2) (As := [.ref (A 0), .ref o]) (rest := []) S (v := some (.int (hA (f_Xundo fl un ut u0 u1 sv x r) cdS))) (c_L_undo l hst dC dI cI cZ cO cL A Q fl un ut u0 u1 sv x r o f H.size (Sim_S1 hSim) (Sim_S2 hSim) (fun e he => (hsx.2 e he).2.1)) gL_law_L_undo ⟨_, rfl⟩ ⟨by decide, by decide, by decide +kernel⟩ ⟨rfl, rfl⟩ ⟨Nat.le_of_ble_eq_true rfl, Nat.le_of_ble_eq_true rfl⟩ (hXX.kept hS.2.1) hK hP hD hS hA1 (List.range' 0 68) HL_all (hWd_fst (fun z => XW_fst) (fun r => XW_fst)) (nd_range 68 0) ⟨hc1, hc2⟩ dL_law_849 rfl hl.1 rfl (Nat.le_of_ble_eq_true rfl) (fun H locs hP hD hS => ?_)
  rcases exc_or (f_Xundo fl un ut u0 u1 sv x r) with ⟨z, hz⟩ | ⟨e9, hz⟩
  · obtain ⟨y1, y2, y3⟩ := hsx.1 z hz
    rw [hz] at hP hD ⊢
    have hP := Eq.mp (congrArg (fun w => va_P (dC, dI) vwCl w H) HL_ks) hP
    have hD := Eq.mp (congrArg (fun w => va_D (fun z => s.heap.size ≤ z) w) HL_ks) hD
    exact rest _ _ _ _ _ _ _ _ _ H locs 0 y3 y2 (fun _ => by rw [y1]; rfl) hP hD hS
  · obtain ⟨y1, y2, y3⟩ := hsx.2 e9 hz
    rw [hz] at hP hD ⊢
    have hP := Eq.mp (congrArg (fun w => va_P (dC, dI) vwCl w H) HL_ks) hP
    have hD := Eq.mp (congrArg (fun w => va_D (fun z => s.heap.size ≤ z) w) HL_ks) hD
    exact rest _ _ _ _ _ _ _ _ _ H locs _ y3 y1 (fun q9 => absurd q9 y2) hP hD hS
set_option maxHeartbeats 2000000 in
set_option maxRecDepth 100000 in
theorem law_c15 (hst : l.stackTraces = false) (S : CallFix p m c cL_law 9 s #[Value.ref b] wsL_law RL) (hX : va_X b L xs s s.heap) (hbl : b < s.heap.size) (hK : va_K (dC, dI) vwCl (TY cI cZ cO ++ [(cL, .long)]) s) (hXX : HXk (fun z => s.heap.size ≤ z) s s.heap) (hin : ∀ j, j < 4 → vp_in (nI i + nI j) L) (hc1 : cells + 1 ≤ 626727) (hc2 : slots + 6 ≤ 7215922) (hk : LwK p l e s m below meth c b dC dI cI cZ cO cL A Q hm o q i (cells + 1) (slots + 6) 1440) : LwK p l e s m below meth c b dC dI cI cZ cO cL A Q hm o q i cells slots 891 := by
  intro fl un ut u0 u1 sv x r f u H locs ls hSim hP hD hS hl
  obtain ⟨hx, hb, hml, hown, hts⟩ := id S
  have hA1 : ∀ z : Nat, s.heap.size ≤ z → (fun z => s.heap.size ≤ z) z := fun _ h => h
  have hbA : ¬ (fun z : Nat => s.heap.size ≤ z) b := Nat.not_le.mpr hbl
  have hsx := S_arm (ut := ut) (r := r) hSim (xs (nI i + (1 : Int32)).toNatClampNeg) (xs (nI i + (2 : Int32)).toNatClampNeg)
  refine lv_aload_n hx hb dL_law_891 rfl (lv_at hl 1 rfl) ?_
  refine lv_aload_n hx hb dL_law_892 rfl (lv_at hl 0 rfl) ?_
  refine lv_iload hx hb dL_law_893 (lv_at hl 4 rfl) ?_
  refine lv_iconst (v := (1 : Int32)) hx hb dL_law_895 (by decide) ?_
  refine lv_iadd hx hb dL_law_896 ?_
  refine va_sld hx hb hX hbl hbA hS (hin 1 (by omega)) dL_law_897 ?_
  refine lv_aload_n hx hb dL_law_898 rfl (lv_at hl 0 rfl) ?_
  refine lv_iload hx hb dL_law_899 (lv_at hl 4 rfl) ?_
  refine lv_iconst (v := (2 : Int32)) hx hb dL_law_901 (by decide) ?_
  refine lv_iadd hx hb dL_law_902 ?_
  refine va_sld hx hb hX hbl hbA hS (hin 2 (by omega)) dL_law_903 ?_
  refine lv_aload_n hx hb dL_law_904 rfl (lv_at hl 3 rfl) ?_
  have rest : ∀ (fl1 : Nat → Int32) (un1 ut1 u01 u11 : BS) (sv1 : SS) (x1 r1 : BS) (f1 : Nat → Int64) (H : Heap) (locs : List Loc) (k : Int32), Sim fl1 un1 u01 u11 sv1 x1 (f_Marm u (xs (nI i + (1 : Int32)).toNatClampNeg) (xs (nI i + (2 : Int32)).toNatClampNeg)).2 → (f_Marm u (xs (nI i + (1 : Int32)).toNatClampNeg) (xs (nI i + (2 : Int32)).toNatClampNeg)).2 8 0 = k → (k = 0 → f1 0 = (f_Marm u (xs (nI i + (1 : Int32)).toNatClampNeg) (xs (nI i + (2 : Int32)).toNatClampNeg)).1.toInt64) → va_P (dC, dI) vwCl (XW cI cZ cO A Q fl1 un1 ut1 u01 u11 sv1 x1 r1 ++ (LW cL o f1 ++ MW cI cZ hm q u)) H → va_D (fun z => s.heap.size ≤ z) (XW cI cZ cO A Q fl1 un1 ut1 u01 u11 sv1 x1 r1 ++ (LW cL o f1 ++ MW cI cZ hm q u)) → va_S (fun z => s.heap.size ≤ z) s.heap H locs → W p l e room_1 s m #[Value.ref b] below meth c H locs (cells + 1) (slots + 6) (lw_Z below #[Value.ref b] s) (F0 m 908 ls [.int k]) := by
    intro fl1 un1 ut1 u01 u11 sv1 x1 r1 f1 H locs k hSim1 hk1 hk2 hP hD hS
    refine lv_istore (lv' := [(5, .int k), (0, .ref b), (1, .ref (A 0)), (2, .ref hm), (3, .ref o), (4, .int (nI i))]) hx hb dL_law_908 hl (by decide) rfl (fun ls hl => ?_)
    refine lv_aload_n hx hb dL_law_910 rfl (lv_at hl 3 rfl) ?_
    refine lv_aload_n hx hb dL_law_911 rfl (lv_at hl 1 rfl) ?_
    refine lv_iload hx hb dL_law_912 (lv_at hl 5 rfl) ?_
    refine lv_iconst (v := (1 : Int32)) hx hb dL_law_914 (by decide) ?_
    refine lv_iadd hx hb dL_law_915 ?_
    refine va_sld hx hb hX hbl hbA hS (hin 1 (by omega)) dL_law_916 ?_
    refine lv_aload_n hx hb dL_law_917 rfl (lv_at hl 1 rfl) ?_
    refine lv_iload hx hb dL_law_918 (lv_at hl 5 rfl) ?_
    refine lv_iconst (v := (2 : Int32)) hx hb dL_law_920 (by decide) ?_
    refine lv_iadd hx hb dL_law_921 ?_
    refine va_sld hx hb hX hbl hbA hS (hin 2 (by omega)) dL_law_922 ?_
    refine kc_w (As := [.int (xs (nI i + (1 : Int32)).toNatClampNeg), .int (xs (nI i + (2 : Int32)).toNatClampNeg)]) (rest := []) S (v := some (.int (f_Marm u (xs (nI i + (1 : Int32)).toNatClampNeg) (xs (nI i + (2 : Int32)).toNatClampNeg)).1)) (c_X5_arm l dC dI cI cZ cO hm q u (xs (nI i + (1 : Int32)).toNatClampNeg) (xs (nI i + (2 : Int32)).toNatClampNeg) H.size (Sim_hs hSim)) gL_law_X5_arm mi_X5_arm ⟨rfl, rfl⟩ ⟨Nat.le_of_ble_eq_true rfl, Nat.le_of_ble_eq_true rfl⟩ (hK.sub [0, 1, 2] rfl) hP hD hS hA1 (List.range' 68 8) ML_all MW_fst (nd_range 8 68) 0 rfl rfl ⟨hc1, hc2⟩ dL_law_923 rfl hl.1 rfl (Nat.le_of_ble_eq_true rfl) (fun H locs hP hD hS => ?_)
    have hP := Eq.mp (congrArg (fun w => va_P (dC, dI) vwCl w H) ML_ks) hP
    have hD := Eq.mp (congrArg (fun w => va_D (fun z => s.heap.size ≤ z) w) ML_ks) hD
    refine lv_istore (lv' := [(6, .int (f_Marm u (xs (nI i + (1 : Int32)).toNatClampNeg) (xs (nI i + (2 : Int32)).toNatClampNeg)).1), (5, .int k), (0, .ref b), (1, .ref (A 0)), (2, .ref hm), (3, .ref o), (4, .int (nI i))]) hx hb dL_law_926 hl (by decide) rfl (fun ls hl => ?_)
    exact law_tail 928 (484) (by decide) dL_law_928 dL_law_929 dL_law_932 dL_law_934 dL_law_939 dL_law_941 dL_law_944 dL_law_945 dL_law_946 dL_law_947 dL_law_949 dL_law_950 dL_law_951 dL_law_956 S hK hc1 hc2 hk hSim1 hP hD hS hl hk1 hk2
  refine kc_swH (n := 4) (As := [.ref (A 0), .int (xs (nI i + (1 : Int32)).toNatClampNeg), .int (xs (nI i + (2 : Int32)).toNatClampNeg), .ref o]) (rest := []) S (v := some (.int (hA (f_Xarm fl un ut u0 u1 sv x r (xs (nI i + (1 : Int32)).toNatClampNeg) (xs (nI i + (2 : Int32)).toNatClampNeg)) cdIA))) (c_L_arm l hst dC dI cI cZ cO cL A Q fl un ut u0 u1 sv x r (xs (nI i + (1 : Int32)).toNatClampNeg) (xs (nI i + (2 : Int32)).toNatClampNeg) o f H.size (fun e he => (hsx.2 e he).2.1)) gL_law_L_arm ⟨_, rfl⟩ ⟨by decide, by decide, by decide +kernel⟩ ⟨rfl, rfl⟩ ⟨Nat.le_of_ble_eq_true rfl, Nat.le_of_ble_eq_true rfl⟩ (hXX.kept hS.2.1) hK hP hD hS hA1 (List.range' 0 68) HL_all (hWd_fst (fun z => XW_fst) (fun r => XW_fst)) (nd_range 68 0) ⟨hc1, hc2⟩ dL_law_905 rfl hl.1 rfl (Nat.le_of_ble_eq_true rfl) (fun H locs hP hD hS => ?_)
  rcases exc_or (f_Xarm fl un ut u0 u1 sv x r (xs (nI i + (1 : Int32)).toNatClampNeg) (xs (nI i + (2 : Int32)).toNatClampNeg)) with ⟨z, hz⟩ | ⟨e9, hz⟩
  · obtain ⟨y1, y2, y3⟩ := hsx.1 z hz
    rw [hz] at hP hD ⊢
    have hP := Eq.mp (congrArg (fun w => va_P (dC, dI) vwCl w H) HL_ks) hP
    have hD := Eq.mp (congrArg (fun w => va_D (fun z => s.heap.size ≤ z) w) HL_ks) hD
    exact rest _ _ _ _ _ _ _ _ _ H locs 0 y3 y2 (fun _ => by rw [y1]; rfl) hP hD hS
  · obtain ⟨y1, y2, y3⟩ := hsx.2 e9 hz
    rw [hz] at hP hD ⊢
    have hP := Eq.mp (congrArg (fun w => va_P (dC, dI) vwCl w H) HL_ks) hP
    have hD := Eq.mp (congrArg (fun w => va_D (fun z => s.heap.size ≤ z) w) HL_ks) hD
    exact rest _ _ _ _ _ _ _ _ _ H locs _ y3 y1 (fun q9 => absurd q9 y2) hP hD hS
set_option maxHeartbeats 2000000 in
set_option maxRecDepth 100000 in
theorem law_c16 (hst : l.stackTraces = false) (S : CallFix p m c cL_law 9 s #[Value.ref b] wsL_law RL) (hX : va_X b L xs s s.heap) (hbl : b < s.heap.size) (hK : va_K (dC, dI) vwCl (TY cI cZ cO ++ [(cL, .long)]) s) (hXX : HXk (fun z => s.heap.size ≤ z) s s.heap) (hin : ∀ j, j < 4 → vp_in (nI i + nI j) L) (hc1 : cells + 1 ≤ 626727) (hc2 : slots + 6 ≤ 7215922) (hk : LwK p l e s m below meth c b dC dI cI cZ cO cL A Q hm o q i (cells + 1) (slots + 6) 1440) : LwK p l e s m below meth c b dC dI cI cZ cO cL A Q hm o q i cells slots 959 := by
  intro fl un ut u0 u1 sv x r f u H locs ls hSim hP hD hS hl
  obtain ⟨hx, hb, hml, hown, hts⟩ := id S
  have hA1 : ∀ z : Nat, s.heap.size ≤ z → (fun z => s.heap.size ≤ z) z := fun _ h => h
  have hbA : ¬ (fun z : Nat => s.heap.size ≤ z) b := Nat.not_le.mpr hbl
  have hsx := S_apart (ut := ut) (r := r) hSim (xs (nI i + (1 : Int32)).toNatClampNeg) (xs (nI i + (2 : Int32)).toNatClampNeg)
  refine lv_aload_n hx hb dL_law_959 rfl (lv_at hl 1 rfl) ?_
  refine lv_aload_n hx hb dL_law_960 rfl (lv_at hl 0 rfl) ?_
  refine lv_iload hx hb dL_law_961 (lv_at hl 4 rfl) ?_
  refine lv_iconst (v := (1 : Int32)) hx hb dL_law_963 (by decide) ?_
  refine lv_iadd hx hb dL_law_964 ?_
  refine va_sld hx hb hX hbl hbA hS (hin 1 (by omega)) dL_law_965 ?_
  refine lv_aload_n hx hb dL_law_966 rfl (lv_at hl 0 rfl) ?_
  refine lv_iload hx hb dL_law_967 (lv_at hl 4 rfl) ?_
  refine lv_iconst (v := (2 : Int32)) hx hb dL_law_969 (by decide) ?_
  refine lv_iadd hx hb dL_law_970 ?_
  refine va_sld hx hb hX hbl hbA hS (hin 2 (by omega)) dL_law_971 ?_
  refine lv_aload_n hx hb dL_law_972 rfl (lv_at hl 3 rfl) ?_
  have rest : ∀ (fl1 : Nat → Int32) (un1 ut1 u01 u11 : BS) (sv1 : SS) (x1 r1 : BS) (f1 : Nat → Int64) (H : Heap) (locs : List Loc) (k : Int32), Sim fl1 un1 u01 u11 sv1 x1 (f_Mapart u (xs (nI i + (1 : Int32)).toNatClampNeg) (xs (nI i + (2 : Int32)).toNatClampNeg)).2 → (f_Mapart u (xs (nI i + (1 : Int32)).toNatClampNeg) (xs (nI i + (2 : Int32)).toNatClampNeg)).2 8 0 = k → (k = 0 → f1 0 = (f_Mapart u (xs (nI i + (1 : Int32)).toNatClampNeg) (xs (nI i + (2 : Int32)).toNatClampNeg)).1.toInt64) → va_P (dC, dI) vwCl (XW cI cZ cO A Q fl1 un1 ut1 u01 u11 sv1 x1 r1 ++ (LW cL o f1 ++ MW cI cZ hm q u)) H → va_D (fun z => s.heap.size ≤ z) (XW cI cZ cO A Q fl1 un1 ut1 u01 u11 sv1 x1 r1 ++ (LW cL o f1 ++ MW cI cZ hm q u)) → va_S (fun z => s.heap.size ≤ z) s.heap H locs → W p l e room_1 s m #[Value.ref b] below meth c H locs (cells + 1) (slots + 6) (lw_Z below #[Value.ref b] s) (F0 m 976 ls [.int k]) := by
    intro fl1 un1 ut1 u01 u11 sv1 x1 r1 f1 H locs k hSim1 hk1 hk2 hP hD hS
    refine lv_istore (lv' := [(5, .int k), (0, .ref b), (1, .ref (A 0)), (2, .ref hm), (3, .ref o), (4, .int (nI i))]) hx hb dL_law_976 hl (by decide) rfl (fun ls hl => ?_)
    refine lv_aload_n hx hb dL_law_978 rfl (lv_at hl 3 rfl) ?_
    refine lv_aload_n hx hb dL_law_979 rfl (lv_at hl 1 rfl) ?_
    refine lv_iload hx hb dL_law_980 (lv_at hl 5 rfl) ?_
    refine lv_iconst (v := (1 : Int32)) hx hb dL_law_982 (by decide) ?_
    refine lv_iadd hx hb dL_law_983 ?_
    refine va_sld hx hb hX hbl hbA hS (hin 1 (by omega)) dL_law_984 ?_
    refine lv_aload_n hx hb dL_law_985 rfl (lv_at hl 1 rfl) ?_
    refine lv_iload hx hb dL_law_986 (lv_at hl 5 rfl) ?_
    refine lv_iconst (v := (2 : Int32)) hx hb dL_law_988 (by decide) ?_
    refine lv_iadd hx hb dL_law_989 ?_
    refine va_sld hx hb hX hbl hbA hS (hin 2 (by omega)) dL_law_990 ?_
    refine kc_w (As := [.int (xs (nI i + (1 : Int32)).toNatClampNeg), .int (xs (nI i + (2 : Int32)).toNatClampNeg)]) (rest := []) S (v := some (.int (f_Mapart u (xs (nI i + (1 : Int32)).toNatClampNeg) (xs (nI i + (2 : Int32)).toNatClampNeg)).1)) (c_X5_apart l dC dI cI cZ cO hm q u (xs (nI i + (1 : Int32)).toNatClampNeg) (xs (nI i + (2 : Int32)).toNatClampNeg) H.size (Sim_hs hSim)) gL_law_X5_apart mi_X5_apart ⟨rfl, rfl⟩ ⟨Nat.le_of_ble_eq_true rfl, Nat.le_of_ble_eq_true rfl⟩ (hK.sub [0, 1, 2] rfl) hP hD hS hA1 (List.range' 68 8) ML_all MW_fst (nd_range 8 68) 0 rfl rfl ⟨hc1, hc2⟩ dL_law_991 rfl hl.1 rfl (Nat.le_of_ble_eq_true rfl) (fun H locs hP hD hS => ?_)
    have hP := Eq.mp (congrArg (fun w => va_P (dC, dI) vwCl w H) ML_ks) hP
    have hD := Eq.mp (congrArg (fun w => va_D (fun z => s.heap.size ≤ z) w) ML_ks) hD
    refine lv_istore (lv' := [(6, .int (f_Mapart u (xs (nI i + (1 : Int32)).toNatClampNeg) (xs (nI i + (2 : Int32)).toNatClampNeg)).1), (5, .int k), (0, .ref b), (1, .ref (A 0)), (2, .ref hm), (3, .ref o), (4, .int (nI i))]) hx hb dL_law_994 hl (by decide) rfl (fun ls hl => ?_)
    exact law_tail 996 (416) (by decide) dL_law_996 dL_law_997 dL_law_1000 dL_law_1002 dL_law_1007 dL_law_1009 dL_law_1012 dL_law_1013 dL_law_1014 dL_law_1015 dL_law_1017 dL_law_1018 dL_law_1019 dL_law_1024 S hK hc1 hc2 hk hSim1 hP hD hS hl hk1 hk2
  refine kc_swH (n := 4) (As := [.ref (A 0), .int (xs (nI i + (1 : Int32)).toNatClampNeg), .int (xs (nI i + (2 : Int32)).toNatClampNeg), .ref o]) (rest := []) S (v := some (.int (hA (f_Xapart fl un ut u0 u1 sv x r (xs (nI i + (1 : Int32)).toNatClampNeg) (xs (nI i + (2 : Int32)).toNatClampNeg)) cdIA))) (c_L_apart l hst dC dI cI cZ cO cL A Q fl un ut u0 u1 sv x r (xs (nI i + (1 : Int32)).toNatClampNeg) (xs (nI i + (2 : Int32)).toNatClampNeg) o f H.size (fun e he => (hsx.2 e he).2.1)) gL_law_L_apart ⟨_, rfl⟩ ⟨by decide, by decide, by decide +kernel⟩ ⟨rfl, rfl⟩ ⟨Nat.le_of_ble_eq_true rfl, Nat.le_of_ble_eq_true rfl⟩ (hXX.kept hS.2.1) hK hP hD hS hA1 (List.range' 0 68) HL_all (hWd_fst (fun z => XW_fst) (fun r => XW_fst)) (nd_range 68 0) ⟨hc1, hc2⟩ dL_law_973 rfl hl.1 rfl (Nat.le_of_ble_eq_true rfl) (fun H locs hP hD hS => ?_)
  rcases exc_or (f_Xapart fl un ut u0 u1 sv x r (xs (nI i + (1 : Int32)).toNatClampNeg) (xs (nI i + (2 : Int32)).toNatClampNeg)) with ⟨z, hz⟩ | ⟨e9, hz⟩
  · obtain ⟨y1, y2, y3⟩ := hsx.1 z hz
    rw [hz] at hP hD ⊢
    have hP := Eq.mp (congrArg (fun w => va_P (dC, dI) vwCl w H) HL_ks) hP
    have hD := Eq.mp (congrArg (fun w => va_D (fun z => s.heap.size ≤ z) w) HL_ks) hD
    exact rest _ _ _ _ _ _ _ _ _ H locs 0 y3 y2 (fun _ => by rw [y1]; rfl) hP hD hS
  · obtain ⟨y1, y2, y3⟩ := hsx.2 e9 hz
    rw [hz] at hP hD ⊢
    have hP := Eq.mp (congrArg (fun w => va_P (dC, dI) vwCl w H) HL_ks) hP
    have hD := Eq.mp (congrArg (fun w => va_D (fun z => s.heap.size ≤ z) w) HL_ks) hD
    exact rest _ _ _ _ _ _ _ _ _ H locs _ y3 y1 (fun q9 => absurd q9 y2) hP hD hS
set_option maxHeartbeats 2000000 in
set_option maxRecDepth 100000 in
theorem law_c17 (hst : l.stackTraces = false) (S : CallFix p m c cL_law 9 s #[Value.ref b] wsL_law RL) (hX : va_X b L xs s s.heap) (hbl : b < s.heap.size) (hK : va_K (dC, dI) vwCl (TY cI cZ cO ++ [(cL, .long)]) s) (hXX : HXk (fun z => s.heap.size ≤ z) s s.heap) (hin : ∀ j, j < 4 → vp_in (nI i + nI j) L) (hc1 : cells + 1 ≤ 626727) (hc2 : slots + 6 ≤ 7215922) (hk : LwK p l e s m below meth c b dC dI cI cZ cO cL A Q hm o q i (cells + 1) (slots + 6) 1440) : LwK p l e s m below meth c b dC dI cI cZ cO cL A Q hm o q i cells slots 1027 := by
  intro fl un ut u0 u1 sv x r f u H locs ls hSim hP hD hS hl
  obtain ⟨hx, hb, hml, hown, hts⟩ := id S
  have hA1 : ∀ z : Nat, s.heap.size ≤ z → (fun z => s.heap.size ≤ z) z := fun _ h => h
  have hbA : ¬ (fun z : Nat => s.heap.size ≤ z) b := Nat.not_le.mpr hbl
  have hsx := S_count (ut := ut) (r := r) hSim (xs (nI i + (1 : Int32)).toNatClampNeg)
  refine lv_aload_n hx hb dL_law_1027 rfl (lv_at hl 1 rfl) ?_
  refine lv_aload_n hx hb dL_law_1028 rfl (lv_at hl 0 rfl) ?_
  refine lv_iload hx hb dL_law_1029 (lv_at hl 4 rfl) ?_
  refine lv_iconst (v := (1 : Int32)) hx hb dL_law_1031 (by decide) ?_
  refine lv_iadd hx hb dL_law_1032 ?_
  refine va_sld hx hb hX hbl hbA hS (hin 1 (by omega)) dL_law_1033 ?_
  refine lv_aload_n hx hb dL_law_1034 rfl (lv_at hl 3 rfl) ?_
  have rest : ∀ (fl1 : Nat → Int32) (un1 ut1 u01 u11 : BS) (sv1 : SS) (x1 r1 : BS) (f1 : Nat → Int64) (H : Heap) (locs : List Loc) (k : Int32), Sim fl1 un1 u01 u11 sv1 x1 (f_Mcount u (xs (nI i + (1 : Int32)).toNatClampNeg)).2 → (f_Mcount u (xs (nI i + (1 : Int32)).toNatClampNeg)).2 8 0 = k → (k = 0 → f1 0 = (f_Mcount u (xs (nI i + (1 : Int32)).toNatClampNeg)).1.toInt64) → va_P (dC, dI) vwCl (XW cI cZ cO A Q fl1 un1 ut1 u01 u11 sv1 x1 r1 ++ (LW cL o f1 ++ MW cI cZ hm q u)) H → va_D (fun z => s.heap.size ≤ z) (XW cI cZ cO A Q fl1 un1 ut1 u01 u11 sv1 x1 r1 ++ (LW cL o f1 ++ MW cI cZ hm q u)) → va_S (fun z => s.heap.size ≤ z) s.heap H locs → W p l e room_1 s m #[Value.ref b] below meth c H locs (cells + 1) (slots + 6) (lw_Z below #[Value.ref b] s) (F0 m 1038 ls [.int k]) := by
    intro fl1 un1 ut1 u01 u11 sv1 x1 r1 f1 H locs k hSim1 hk1 hk2 hP hD hS
    refine lv_istore (lv' := [(5, .int k), (0, .ref b), (1, .ref (A 0)), (2, .ref hm), (3, .ref o), (4, .int (nI i))]) hx hb dL_law_1038 hl (by decide) rfl (fun ls hl => ?_)
    refine lv_aload_n hx hb dL_law_1040 rfl (lv_at hl 3 rfl) ?_
    refine lv_aload_n hx hb dL_law_1041 rfl (lv_at hl 1 rfl) ?_
    refine lv_iload hx hb dL_law_1042 (lv_at hl 5 rfl) ?_
    refine lv_iconst (v := (1 : Int32)) hx hb dL_law_1044 (by decide) ?_
    refine lv_iadd hx hb dL_law_1045 ?_
    refine va_sld hx hb hX hbl hbA hS (hin 1 (by omega)) dL_law_1046 ?_
    refine kc_w (As := [.int (xs (nI i + (1 : Int32)).toNatClampNeg)]) (rest := []) S (v := some (.int (f_Mcount u (xs (nI i + (1 : Int32)).toNatClampNeg)).1)) (c_X5_count l dC dI cI cZ cO hm q u (xs (nI i + (1 : Int32)).toNatClampNeg) H.size (Sim_hs hSim)) gL_law_X5_count mi_X5_count ⟨rfl, rfl⟩ ⟨Nat.le_of_ble_eq_true rfl, Nat.le_of_ble_eq_true rfl⟩ (hK.sub [0, 1, 2] rfl) hP hD hS hA1 (List.range' 68 8) ML_all MW_fst (nd_range 8 68) 0 rfl rfl ⟨hc1, hc2⟩ dL_law_1047 rfl hl.1 rfl (Nat.le_of_ble_eq_true rfl) (fun H locs hP hD hS => ?_)
    have hP := Eq.mp (congrArg (fun w => va_P (dC, dI) vwCl w H) ML_ks) hP
    have hD := Eq.mp (congrArg (fun w => va_D (fun z => s.heap.size ≤ z) w) ML_ks) hD
    refine lv_istore (lv' := [(6, .int (f_Mcount u (xs (nI i + (1 : Int32)).toNatClampNeg)).1), (5, .int k), (0, .ref b), (1, .ref (A 0)), (2, .ref hm), (3, .ref o), (4, .int (nI i))]) hx hb dL_law_1050 hl (by decide) rfl (fun ls hl => ?_)
    exact law_tail 1052 (360) (by decide) dL_law_1052 dL_law_1053 dL_law_1056 dL_law_1058 dL_law_1063 dL_law_1065 dL_law_1068 dL_law_1069 dL_law_1070 dL_law_1071 dL_law_1073 dL_law_1074 dL_law_1075 dL_law_1080 S hK hc1 hc2 hk hSim1 hP hD hS hl hk1 hk2
  refine kc_swH (n := 3) (As := [.ref (A 0), .int (xs (nI i + (1 : Int32)).toNatClampNeg), .ref o]) (rest := []) S (v := some (.int (hA (f_Xcount fl un ut u0 u1 sv x r (xs (nI i + (1 : Int32)).toNatClampNeg)) cdA))) (c_L_count l hst dC dI cI cZ cO cL A Q fl un ut u0 u1 sv x r (xs (nI i + (1 : Int32)).toNatClampNeg) o f H.size (fun e he => (hsx.2 e he).2.1)) gL_law_L_count ⟨_, rfl⟩ ⟨by decide, by decide, by decide +kernel⟩ ⟨rfl, rfl⟩ ⟨Nat.le_of_ble_eq_true rfl, Nat.le_of_ble_eq_true rfl⟩ (hXX.kept hS.2.1) hK hP hD hS hA1 (List.range' 0 68) HL_all (hWd_fst (fun z => XW_fst) (fun r => XW_fst)) (nd_range 68 0) ⟨hc1, hc2⟩ dL_law_1035 rfl hl.1 rfl (Nat.le_of_ble_eq_true rfl) (fun H locs hP hD hS => ?_)
  rcases exc_or (f_Xcount fl un ut u0 u1 sv x r (xs (nI i + (1 : Int32)).toNatClampNeg)) with ⟨z, hz⟩ | ⟨e9, hz⟩
  · obtain ⟨y1, y2, y3⟩ := hsx.1 z hz
    rw [hz] at hP hD ⊢
    have hP := Eq.mp (congrArg (fun w => va_P (dC, dI) vwCl w H) HL_ks) hP
    have hD := Eq.mp (congrArg (fun w => va_D (fun z => s.heap.size ≤ z) w) HL_ks) hD
    exact rest _ _ _ _ _ _ _ _ _ H locs 0 y3 y2 (fun _ => by rw [y1]; rfl) hP hD hS
  · obtain ⟨y1, y2, y3⟩ := hsx.2 e9 hz
    rw [hz] at hP hD ⊢
    have hP := Eq.mp (congrArg (fun w => va_P (dC, dI) vwCl w H) HL_ks) hP
    have hD := Eq.mp (congrArg (fun w => va_D (fun z => s.heap.size ≤ z) w) HL_ks) hD
    exact rest _ _ _ _ _ _ _ _ _ H locs _ y3 y1 (fun q9 => absurd q9 y2) hP hD hS
set_option maxHeartbeats 2000000 in
set_option maxRecDepth 100000 in
theorem law_c18 (hst : l.stackTraces = false) (S : CallFix p m c cL_law 9 s #[Value.ref b] wsL_law RL) (hX : va_X b L xs s s.heap) (hbl : b < s.heap.size) (hK : va_K (dC, dI) vwCl (TY cI cZ cO ++ [(cL, .long)]) s) (hXX : HXk (fun z => s.heap.size ≤ z) s s.heap) (hin : ∀ j, j < 4 → vp_in (nI i + nI j) L) (hc1 : cells + 1 ≤ 626727) (hc2 : slots + 6 ≤ 7215922) (hk : LwK p l e s m below meth c b dC dI cI cZ cO cL A Q hm o q i (cells + 1) (slots + 6) 1440) : LwK p l e s m below meth c b dC dI cI cZ cO cL A Q hm o q i cells slots 1083 := by
  intro fl un ut u0 u1 sv x r f u H locs ls hSim hP hD hS hl
  obtain ⟨hx, hb, hml, hown, hts⟩ := id S
  have hA1 : ∀ z : Nat, s.heap.size ≤ z → (fun z => s.heap.size ≤ z) z := fun _ h => h
  have hbA : ¬ (fun z : Nat => s.heap.size ≤ z) b := Nat.not_le.mpr hbl
  have hsx := S_setting (ut := ut) (r := r) hSim (xs (nI i + (1 : Int32)).toNatClampNeg)
  refine lv_aload_n hx hb dL_law_1083 rfl (lv_at hl 1 rfl) ?_
  refine lv_aload_n hx hb dL_law_1084 rfl (lv_at hl 0 rfl) ?_
  refine lv_iload hx hb dL_law_1085 (lv_at hl 4 rfl) ?_
  refine lv_iconst (v := (1 : Int32)) hx hb dL_law_1087 (by decide) ?_
  refine lv_iadd hx hb dL_law_1088 ?_
  refine va_sld hx hb hX hbl hbA hS (hin 1 (by omega)) dL_law_1089 ?_
  refine lv_aload_n hx hb dL_law_1090 rfl (lv_at hl 3 rfl) ?_
  have rest : ∀ (fl1 : Nat → Int32) (un1 ut1 u01 u11 : BS) (sv1 : SS) (x1 r1 : BS) (f1 : Nat → Int64) (H : Heap) (locs : List Loc) (k : Int32), Sim fl1 un1 u01 u11 sv1 x1 (f_Msetting u (xs (nI i + (1 : Int32)).toNatClampNeg)).2 → (f_Msetting u (xs (nI i + (1 : Int32)).toNatClampNeg)).2 8 0 = k → (k = 0 → f1 0 = (f_Msetting u (xs (nI i + (1 : Int32)).toNatClampNeg)).1.toInt64) → va_P (dC, dI) vwCl (XW cI cZ cO A Q fl1 un1 ut1 u01 u11 sv1 x1 r1 ++ (LW cL o f1 ++ MW cI cZ hm q u)) H → va_D (fun z => s.heap.size ≤ z) (XW cI cZ cO A Q fl1 un1 ut1 u01 u11 sv1 x1 r1 ++ (LW cL o f1 ++ MW cI cZ hm q u)) → va_S (fun z => s.heap.size ≤ z) s.heap H locs → W p l e room_1 s m #[Value.ref b] below meth c H locs (cells + 1) (slots + 6) (lw_Z below #[Value.ref b] s) (F0 m 1094 ls [.int k]) := by
    intro fl1 un1 ut1 u01 u11 sv1 x1 r1 f1 H locs k hSim1 hk1 hk2 hP hD hS
    refine lv_istore (lv' := [(5, .int k), (0, .ref b), (1, .ref (A 0)), (2, .ref hm), (3, .ref o), (4, .int (nI i))]) hx hb dL_law_1094 hl (by decide) rfl (fun ls hl => ?_)
    refine lv_aload_n hx hb dL_law_1096 rfl (lv_at hl 3 rfl) ?_
    refine lv_aload_n hx hb dL_law_1097 rfl (lv_at hl 1 rfl) ?_
    refine lv_iload hx hb dL_law_1098 (lv_at hl 5 rfl) ?_
    refine lv_iconst (v := (1 : Int32)) hx hb dL_law_1100 (by decide) ?_
    refine lv_iadd hx hb dL_law_1101 ?_
    refine va_sld hx hb hX hbl hbA hS (hin 1 (by omega)) dL_law_1102 ?_
    refine kc_w (As := [.int (xs (nI i + (1 : Int32)).toNatClampNeg)]) (rest := []) S (v := some (.int (f_Msetting u (xs (nI i + (1 : Int32)).toNatClampNeg)).1)) (c_X5_setting l dC dI cI cZ cO hm q u (xs (nI i + (1 : Int32)).toNatClampNeg) H.size) gL_law_X5_setting mi_X5_setting ⟨rfl, rfl⟩ ⟨Nat.le_of_ble_eq_true rfl, Nat.le_of_ble_eq_true rfl⟩ (hK.sub [0, 1, 2] rfl) hP hD hS hA1 (List.range' 68 8) ML_all MW_fst (nd_range 8 68) 0 rfl rfl ⟨hc1, hc2⟩ dL_law_1103 rfl hl.1 rfl (Nat.le_of_ble_eq_true rfl) (fun H locs hP hD hS => ?_)
    have hP := Eq.mp (congrArg (fun w => va_P (dC, dI) vwCl w H) ML_ks) hP
    have hD := Eq.mp (congrArg (fun w => va_D (fun z => s.heap.size ≤ z) w) ML_ks) hD
    refine lv_istore (lv' := [(6, .int (f_Msetting u (xs (nI i + (1 : Int32)).toNatClampNeg)).1), (5, .int k), (0, .ref b), (1, .ref (A 0)), (2, .ref hm), (3, .ref o), (4, .int (nI i))]) hx hb dL_law_1106 hl (by decide) rfl (fun ls hl => ?_)
    exact law_tail 1108 (304) (by decide) dL_law_1108 dL_law_1109 dL_law_1112 dL_law_1114 dL_law_1119 dL_law_1121 dL_law_1124 dL_law_1125 dL_law_1126 dL_law_1127 dL_law_1129 dL_law_1130 dL_law_1131 dL_law_1136 S hK hc1 hc2 hk hSim1 hP hD hS hl hk1 hk2
  refine kc_swH (n := 3) (As := [.ref (A 0), .int (xs (nI i + (1 : Int32)).toNatClampNeg), .ref o]) (rest := []) S (v := some (.int (hA (f_Xsetting fl un ut u0 u1 sv x r (xs (nI i + (1 : Int32)).toNatClampNeg)) cdI))) (c_L_setting l hst dC dI cI cZ cO cL A Q fl un ut u0 u1 sv x r (xs (nI i + (1 : Int32)).toNatClampNeg) o f H.size (fun e he => (hsx.2 e he).2.1)) gL_law_L_setting ⟨_, rfl⟩ ⟨by decide, by decide, by decide +kernel⟩ ⟨rfl, rfl⟩ ⟨Nat.le_of_ble_eq_true rfl, Nat.le_of_ble_eq_true rfl⟩ (hXX.kept hS.2.1) hK hP hD hS hA1 (List.range' 0 68) HL_all (hWd_fst (fun z => XW_fst) (fun r => XW_fst)) (nd_range 68 0) ⟨hc1, hc2⟩ dL_law_1091 rfl hl.1 rfl (Nat.le_of_ble_eq_true rfl) (fun H locs hP hD hS => ?_)
  rcases exc_or (f_Xsetting fl un ut u0 u1 sv x r (xs (nI i + (1 : Int32)).toNatClampNeg)) with ⟨z, hz⟩ | ⟨e9, hz⟩
  · obtain ⟨y1, y2, y3⟩ := hsx.1 z hz
    rw [hz] at hP hD ⊢
    have hP := Eq.mp (congrArg (fun w => va_P (dC, dI) vwCl w H) HL_ks) hP
    have hD := Eq.mp (congrArg (fun w => va_D (fun z => s.heap.size ≤ z) w) HL_ks) hD
    exact rest _ _ _ _ _ _ _ _ _ H locs 0 y3 y2 (fun _ => by rw [y1]; rfl) hP hD hS
  · obtain ⟨y1, y2, y3⟩ := hsx.2 e9 hz
    rw [hz] at hP hD ⊢
    have hP := Eq.mp (congrArg (fun w => va_P (dC, dI) vwCl w H) HL_ks) hP
    have hD := Eq.mp (congrArg (fun w => va_D (fun z => s.heap.size ≤ z) w) HL_ks) hD
    exact rest _ _ _ _ _ _ _ _ _ H locs _ y3 y1 (fun q9 => absurd q9 y2) hP hD hS
set_option maxHeartbeats 2000000 in
set_option maxRecDepth 100000 in
theorem law_c19 (hst : l.stackTraces = false) (S : CallFix p m c cL_law 9 s #[Value.ref b] wsL_law RL) (hX : va_X b L xs s s.heap) (hbl : b < s.heap.size) (hK : va_K (dC, dI) vwCl (TY cI cZ cO ++ [(cL, .long)]) s) (hXX : HXk (fun z => s.heap.size ≤ z) s s.heap) (hin : ∀ j, j < 4 → vp_in (nI i + nI j) L) (hc1 : cells + 1 ≤ 626727) (hc2 : slots + 6 ≤ 7215922) (hk : LwK p l e s m below meth c b dC dI cI cZ cO cL A Q hm o q i (cells + 1) (slots + 6) 1440) : LwK p l e s m below meth c b dC dI cI cZ cO cL A Q hm o q i cells slots 1139 := by
  intro fl un ut u0 u1 sv x r f u H locs ls hSim hP hD hS hl
  obtain ⟨hx, hb, hml, hown, hts⟩ := id S
  have hA1 : ∀ z : Nat, s.heap.size ≤ z → (fun z => s.heap.size ≤ z) z := fun _ h => h
  have hbA : ¬ (fun z : Nat => s.heap.size ≤ z) b := Nat.not_le.mpr hbl
  have hsx := S_ifRun (ut := ut) (r := r) hSim (xs (nI i + (1 : Int32)).toNatClampNeg) (xs (nI i + (2 : Int32)).toNatClampNeg) (xs (nI i + (3 : Int32)).toNatClampNeg)
  refine lv_aload_n hx hb dL_law_1139 rfl (lv_at hl 1 rfl) ?_
  refine lv_aload_n hx hb dL_law_1140 rfl (lv_at hl 0 rfl) ?_
  refine lv_iload hx hb dL_law_1141 (lv_at hl 4 rfl) ?_
  refine lv_iconst (v := (1 : Int32)) hx hb dL_law_1143 (by decide) ?_
  refine lv_iadd hx hb dL_law_1144 ?_
  refine va_sld hx hb hX hbl hbA hS (hin 1 (by omega)) dL_law_1145 ?_
  refine lv_aload_n hx hb dL_law_1146 rfl (lv_at hl 0 rfl) ?_
  refine lv_iload hx hb dL_law_1147 (lv_at hl 4 rfl) ?_
  refine lv_iconst (v := (2 : Int32)) hx hb dL_law_1149 (by decide) ?_
  refine lv_iadd hx hb dL_law_1150 ?_
  refine va_sld hx hb hX hbl hbA hS (hin 2 (by omega)) dL_law_1151 ?_
  refine lv_aload_n hx hb dL_law_1152 rfl (lv_at hl 0 rfl) ?_
  refine lv_iload hx hb dL_law_1153 (lv_at hl 4 rfl) ?_
  refine lv_iconst (v := (3 : Int32)) hx hb dL_law_1155 (by decide) ?_
  refine lv_iadd hx hb dL_law_1156 ?_
  refine va_sld hx hb hX hbl hbA hS (hin 3 (by omega)) dL_law_1157 ?_
  refine lv_aload_n hx hb dL_law_1158 rfl (lv_at hl 3 rfl) ?_
  have rest : ∀ (fl1 : Nat → Int32) (un1 ut1 u01 u11 : BS) (sv1 : SS) (x1 r1 : BS) (f1 : Nat → Int64) (H : Heap) (locs : List Loc) (k : Int32), Sim fl1 un1 u01 u11 sv1 x1 (f_MifRun u (xs (nI i + (1 : Int32)).toNatClampNeg) (xs (nI i + (2 : Int32)).toNatClampNeg) (xs (nI i + (3 : Int32)).toNatClampNeg)).2 → (f_MifRun u (xs (nI i + (1 : Int32)).toNatClampNeg) (xs (nI i + (2 : Int32)).toNatClampNeg) (xs (nI i + (3 : Int32)).toNatClampNeg)).2 8 0 = k → (k = 0 → f1 0 = (f_MifRun u (xs (nI i + (1 : Int32)).toNatClampNeg) (xs (nI i + (2 : Int32)).toNatClampNeg) (xs (nI i + (3 : Int32)).toNatClampNeg)).1.toInt64) → va_P (dC, dI) vwCl (XW cI cZ cO A Q fl1 un1 ut1 u01 u11 sv1 x1 r1 ++ (LW cL o f1 ++ MW cI cZ hm q u)) H → va_D (fun z => s.heap.size ≤ z) (XW cI cZ cO A Q fl1 un1 ut1 u01 u11 sv1 x1 r1 ++ (LW cL o f1 ++ MW cI cZ hm q u)) → va_S (fun z => s.heap.size ≤ z) s.heap H locs → W p l e room_1 s m #[Value.ref b] below meth c H locs (cells + 1) (slots + 6) (lw_Z below #[Value.ref b] s) (F0 m 1162 ls [.int k]) := by
    intro fl1 un1 ut1 u01 u11 sv1 x1 r1 f1 H locs k hSim1 hk1 hk2 hP hD hS
    refine lv_istore (lv' := [(5, .int k), (0, .ref b), (1, .ref (A 0)), (2, .ref hm), (3, .ref o), (4, .int (nI i))]) hx hb dL_law_1162 hl (by decide) rfl (fun ls hl => ?_)
    refine lv_aload_n hx hb dL_law_1164 rfl (lv_at hl 3 rfl) ?_
    refine lv_aload_n hx hb dL_law_1165 rfl (lv_at hl 1 rfl) ?_
    refine lv_iload hx hb dL_law_1166 (lv_at hl 5 rfl) ?_
    refine lv_iconst (v := (1 : Int32)) hx hb dL_law_1168 (by decide) ?_
    refine lv_iadd hx hb dL_law_1169 ?_
    refine va_sld hx hb hX hbl hbA hS (hin 1 (by omega)) dL_law_1170 ?_
    refine lv_aload_n hx hb dL_law_1171 rfl (lv_at hl 1 rfl) ?_
    refine lv_iload hx hb dL_law_1172 (lv_at hl 5 rfl) ?_
    refine lv_iconst (v := (2 : Int32)) hx hb dL_law_1174 (by decide) ?_
    refine lv_iadd hx hb dL_law_1175 ?_
    refine va_sld hx hb hX hbl hbA hS (hin 2 (by omega)) dL_law_1176 ?_
    refine lv_aload_n hx hb dL_law_1177 rfl (lv_at hl 1 rfl) ?_
    refine lv_iload hx hb dL_law_1178 (lv_at hl 5 rfl) ?_
    refine lv_iconst (v := (3 : Int32)) hx hb dL_law_1180 (by decide) ?_
    refine lv_iadd hx hb dL_law_1181 ?_
    refine va_sld hx hb hX hbl hbA hS (hin 3 (by omega)) dL_law_1182 ?_
    refine kc_w (As := [.int (xs (nI i + (1 : Int32)).toNatClampNeg), .int (xs (nI i + (2 : Int32)).toNatClampNeg), .int (xs (nI i + (3 : Int32)).toNatClampNeg)]) (rest := []) S (v := some (.int (f_MifRun u (xs (nI i + (1 : Int32)).toNatClampNeg) (xs (nI i + (2 : Int32)).toNatClampNeg) (xs (nI i + (3 : Int32)).toNatClampNeg)).1)) (c_X5_ifRun l dC dI cI cZ cO hm q u (xs (nI i + (1 : Int32)).toNatClampNeg) (xs (nI i + (2 : Int32)).toNatClampNeg) (xs (nI i + (3 : Int32)).toNatClampNeg) H.size (Sim_hs hSim)) gL_law_X5_ifRun mi_X5_ifRun ⟨rfl, rfl⟩ ⟨Nat.le_of_ble_eq_true rfl, Nat.le_of_ble_eq_true rfl⟩ (hK.sub [0, 1, 2] rfl) hP hD hS hA1 (List.range' 68 8) ML_all MW_fst (nd_range 8 68) 0 rfl rfl ⟨hc1, hc2⟩ dL_law_1183 rfl hl.1 rfl (Nat.le_of_ble_eq_true rfl) (fun H locs hP hD hS => ?_)
    have hP := Eq.mp (congrArg (fun w => va_P (dC, dI) vwCl w H) ML_ks) hP
    have hD := Eq.mp (congrArg (fun w => va_D (fun z => s.heap.size ≤ z) w) ML_ks) hD
    refine lv_istore (lv' := [(6, .int (f_MifRun u (xs (nI i + (1 : Int32)).toNatClampNeg) (xs (nI i + (2 : Int32)).toNatClampNeg) (xs (nI i + (3 : Int32)).toNatClampNeg)).1), (5, .int k), (0, .ref b), (1, .ref (A 0)), (2, .ref hm), (3, .ref o), (4, .int (nI i))]) hx hb dL_law_1186 hl (by decide) rfl (fun ls hl => ?_)
    exact law_tail 1188 (224) (by decide) dL_law_1188 dL_law_1189 dL_law_1192 dL_law_1194 dL_law_1199 dL_law_1201 dL_law_1204 dL_law_1205 dL_law_1206 dL_law_1207 dL_law_1209 dL_law_1210 dL_law_1211 dL_law_1216 S hK hc1 hc2 hk hSim1 hP hD hS hl hk1 hk2
  refine kc_swH (n := 5) (As := [.ref (A 0), .int (xs (nI i + (1 : Int32)).toNatClampNeg), .int (xs (nI i + (2 : Int32)).toNatClampNeg), .int (xs (nI i + (3 : Int32)).toNatClampNeg), .ref o]) (rest := []) S (v := some (.int (hA (f_XifRun fl un ut u0 u1 sv x r (xs (nI i + (1 : Int32)).toNatClampNeg) (xs (nI i + (2 : Int32)).toNatClampNeg) (xs (nI i + (3 : Int32)).toNatClampNeg)) cdA))) (c_L_ifRun l hst dC dI cI cZ cO cL A Q fl un ut u0 u1 sv x r (xs (nI i + (1 : Int32)).toNatClampNeg) (xs (nI i + (2 : Int32)).toNatClampNeg) (xs (nI i + (3 : Int32)).toNatClampNeg) o f H.size (fun e he => (hsx.2 e he).2.1)) gL_law_L_ifRun ⟨_, rfl⟩ ⟨by decide, by decide, by decide +kernel⟩ ⟨rfl, rfl⟩ ⟨Nat.le_of_ble_eq_true rfl, Nat.le_of_ble_eq_true rfl⟩ (hXX.kept hS.2.1) hK hP hD hS hA1 (List.range' 0 68) HL_all (hWd_fst (fun z => XW_fst) (fun r => XW_fst)) (nd_range 68 0) ⟨hc1, hc2⟩ dL_law_1159 rfl hl.1 rfl (Nat.le_of_ble_eq_true rfl) (fun H locs hP hD hS => ?_)
  rcases exc_or (f_XifRun fl un ut u0 u1 sv x r (xs (nI i + (1 : Int32)).toNatClampNeg) (xs (nI i + (2 : Int32)).toNatClampNeg) (xs (nI i + (3 : Int32)).toNatClampNeg)) with ⟨z, hz⟩ | ⟨e9, hz⟩
  · obtain ⟨y1, y2, y3⟩ := hsx.1 z hz
    rw [hz] at hP hD ⊢
    have hP := Eq.mp (congrArg (fun w => va_P (dC, dI) vwCl w H) HL_ks) hP
    have hD := Eq.mp (congrArg (fun w => va_D (fun z => s.heap.size ≤ z) w) HL_ks) hD
    exact rest _ _ _ _ _ _ _ _ _ H locs 0 y3 y2 (fun _ => by rw [y1]; rfl) hP hD hS
  · obtain ⟨y1, y2, y3⟩ := hsx.2 e9 hz
    rw [hz] at hP hD ⊢
    have hP := Eq.mp (congrArg (fun w => va_P (dC, dI) vwCl w H) HL_ks) hP
    have hD := Eq.mp (congrArg (fun w => va_D (fun z => s.heap.size ≤ z) w) HL_ks) hD
    exact rest _ _ _ _ _ _ _ _ _ H locs _ y3 y1 (fun q9 => absurd q9 y2) hP hD hS
set_option maxHeartbeats 2000000 in
set_option maxRecDepth 100000 in
theorem law_c20 (hst : l.stackTraces = false) (S : CallFix p m c cL_law 9 s #[Value.ref b] wsL_law RL) (hX : va_X b L xs s s.heap) (hbl : b < s.heap.size) (hK : va_K (dC, dI) vwCl (TY cI cZ cO ++ [(cL, .long)]) s) (hXX : HXk (fun z => s.heap.size ≤ z) s s.heap) (hin : ∀ j, j < 4 → vp_in (nI i + nI j) L) (hc1 : cells + 1 ≤ 626727) (hc2 : slots + 6 ≤ 7215922) (hk : LwK p l e s m below meth c b dC dI cI cZ cO cL A Q hm o q i (cells + 1) (slots + 6) 1440) : LwK p l e s m below meth c b dC dI cI cZ cO cL A Q hm o q i cells slots 1219 := by
  intro fl un ut u0 u1 sv x r f u H locs ls hSim hP hD hS hl
  obtain ⟨hx, hb, hml, hown, hts⟩ := id S
  have hA1 : ∀ z : Nat, s.heap.size ≤ z → (fun z => s.heap.size ≤ z) z := fun _ h => h
  have hbA : ¬ (fun z : Nat => s.heap.size ≤ z) b := Nat.not_le.mpr hbl
  obtain ⟨y1, y2⟩ := S_until (ut := ut) (r := r) hSim
  refine W.widen (k := cells + 1) (n := slots + 6) (Nat.le_succ _) (Nat.le_add_right _ _) ?_
  refine lv_aload_n hx hb dL_law_1219 rfl (lv_at hl 1 rfl) ?_
  refine kc_w (As := []) (rest := []) S (v := some (.int (f_XuntilStep fl un ut u0 u1 sv x r).1)) (c_X4_untilStep l dC dI cI cZ cO A Q fl un ut u0 u1 sv x r H.size) gL_law_X4_untilStep mi_X4_untilStep ⟨rfl, rfl⟩ ⟨Nat.le_of_ble_eq_true rfl, Nat.le_of_ble_eq_true rfl⟩ (hK.sub [0, 1, 2] rfl) hP hD hS hA1 (List.range' 0 67) XW_allT XW_fst (nd_range 67 0) 0 rfl rfl ⟨hc1, hc2⟩ dL_law_1220 rfl hl.1 rfl (Nat.le_of_ble_eq_true rfl) (fun H locs hP hD hS => ?_)
  have hP := Eq.mp (congrArg (fun w => va_P (dC, dI) vwCl w H) XW_ksT) hP
  have hD := Eq.mp (congrArg (fun w => va_D (fun z => s.heap.size ≤ z) w) XW_ksT) hD
  refine lv_aload_n hx hb dL_law_1223 rfl (lv_at hl 2 rfl) ?_
  refine kc_w (As := []) (rest := [.int (f_XuntilStep fl un ut u0 u1 sv x r).1]) S (v := some (.int (f_MuntilStep u).1)) (c_X5_untilStep l dC dI cI cZ cO hm q u H.size (Sim_hs hSim)) gL_law_X5_untilStep mi_X5_untilStep ⟨rfl, rfl⟩ ⟨Nat.le_of_ble_eq_true rfl, Nat.le_of_ble_eq_true rfl⟩ (hK.sub [0, 1, 2] rfl) hP hD hS hA1 (List.range' 68 8) ML_all MW_fst (nd_range 8 68) 0 rfl rfl ⟨hc1, hc2⟩ dL_law_1224 rfl hl.1 rfl (Nat.le_of_ble_eq_true rfl) (fun H locs hP hD hS => ?_)
  have hP := Eq.mp (congrArg (fun w => va_P (dC, dI) vwCl w H) ML_ks) hP
  have hD := Eq.mp (congrArg (fun w => va_D (fun z => s.heap.size ≤ z) w) ML_ks) hD
  refine lv_icmp_eq (tgt := 1440) hx hb dL_law_1227 (by decide) (fun _ => ?_) (fun q9 => absurd y1.symm q9)
  exact hk _ _ _ _ _ _ _ _ _ _ H locs ls y2 hP hD hS hl
set_option maxHeartbeats 2000000 in
set_option maxRecDepth 100000 in
theorem law_c21 (hst : l.stackTraces = false) (S : CallFix p m c cL_law 9 s #[Value.ref b] wsL_law RL) (hX : va_X b L xs s s.heap) (hbl : b < s.heap.size) (hK : va_K (dC, dI) vwCl (TY cI cZ cO ++ [(cL, .long)]) s) (hXX : HXk (fun z => s.heap.size ≤ z) s s.heap) (hin : ∀ j, j < 4 → vp_in (nI i + nI j) L) (hc1 : cells + 1 ≤ 626727) (hc2 : slots + 6 ≤ 7215922) (hk : LwK p l e s m below meth c b dC dI cI cZ cO cL A Q hm o q i (cells + 1) (slots + 6) 1440) : LwK p l e s m below meth c b dC dI cI cZ cO cL A Q hm o q i cells slots 1232 := by
  intro fl un ut u0 u1 sv x r f u H locs ls hSim hP hD hS hl
  obtain ⟨hx, hb, hml, hown, hts⟩ := id S
  have hA1 : ∀ z : Nat, s.heap.size ≤ z → (fun z => s.heap.size ≤ z) z := fun _ h => h
  have hbA : ¬ (fun z : Nat => s.heap.size ≤ z) b := Nat.not_le.mpr hbl
  have hsx := S_best (ut := ut) (r := r) hSim (xs (nI i + (1 : Int32)).toNatClampNeg)
  refine lv_aload_n hx hb dL_law_1232 rfl (lv_at hl 1 rfl) ?_
  refine lv_aload_n hx hb dL_law_1233 rfl (lv_at hl 0 rfl) ?_
  refine lv_iload hx hb dL_law_1234 (lv_at hl 4 rfl) ?_
  refine lv_iconst (v := (1 : Int32)) hx hb dL_law_1236 (by decide) ?_
  refine lv_iadd hx hb dL_law_1237 ?_
  refine va_sld hx hb hX hbl hbA hS (hin 1 (by omega)) dL_law_1238 ?_
  refine lv_aload_n hx hb dL_law_1239 rfl (lv_at hl 3 rfl) ?_
  have rest : ∀ (fl1 : Nat → Int32) (un1 ut1 u01 u11 : BS) (sv1 : SS) (x1 r1 : BS) (f1 : Nat → Int64) (H : Heap) (locs : List Loc) (k : Int32), Sim fl1 un1 u01 u11 sv1 x1 (f_MbestStrength u (xs (nI i + (1 : Int32)).toNatClampNeg)).2 → (f_MbestStrength u (xs (nI i + (1 : Int32)).toNatClampNeg)).2 8 0 = k → (k = 0 → f1 0 = (f_MbestStrength u (xs (nI i + (1 : Int32)).toNatClampNeg)).1.toInt64) → va_P (dC, dI) vwCl (XW cI cZ cO A Q fl1 un1 ut1 u01 u11 sv1 x1 r1 ++ (LW cL o f1 ++ MW cI cZ hm q u)) H → va_D (fun z => s.heap.size ≤ z) (XW cI cZ cO A Q fl1 un1 ut1 u01 u11 sv1 x1 r1 ++ (LW cL o f1 ++ MW cI cZ hm q u)) → va_S (fun z => s.heap.size ≤ z) s.heap H locs → W p l e room_1 s m #[Value.ref b] below meth c H locs (cells + 1) (slots + 6) (lw_Z below #[Value.ref b] s) (F0 m 1243 ls [.int k]) := by
    intro fl1 un1 ut1 u01 u11 sv1 x1 r1 f1 H locs k hSim1 hk1 hk2 hP hD hS
    refine lv_istore (lv' := [(5, .int k), (0, .ref b), (1, .ref (A 0)), (2, .ref hm), (3, .ref o), (4, .int (nI i))]) hx hb dL_law_1243 hl (by decide) rfl (fun ls hl => ?_)
    refine lv_aload_n hx hb dL_law_1245 rfl (lv_at hl 3 rfl) ?_
    refine lv_aload_n hx hb dL_law_1246 rfl (lv_at hl 1 rfl) ?_
    refine lv_iload hx hb dL_law_1247 (lv_at hl 5 rfl) ?_
    refine lv_iconst (v := (1 : Int32)) hx hb dL_law_1249 (by decide) ?_
    refine lv_iadd hx hb dL_law_1250 ?_
    refine va_sld hx hb hX hbl hbA hS (hin 1 (by omega)) dL_law_1251 ?_
    refine kc_w (As := [.int (xs (nI i + (1 : Int32)).toNatClampNeg)]) (rest := []) S (v := some (.int (f_MbestStrength u (xs (nI i + (1 : Int32)).toNatClampNeg)).1)) (c_X5_bestStrength l dC dI cI cZ cO hm q u (xs (nI i + (1 : Int32)).toNatClampNeg) H.size (Sim_hs hSim)) gL_law_X5_bestStrength mi_X5_bestStrength ⟨rfl, rfl⟩ ⟨Nat.le_of_ble_eq_true rfl, Nat.le_of_ble_eq_true rfl⟩ (hK.sub [0, 1, 2] rfl) hP hD hS hA1 (List.range' 68 8) ML_all MW_fst (nd_range 8 68) 0 rfl rfl ⟨hc1, hc2⟩ dL_law_1252 rfl hl.1 rfl (Nat.le_of_ble_eq_true rfl) (fun H locs hP hD hS => ?_)
    have hP := Eq.mp (congrArg (fun w => va_P (dC, dI) vwCl w H) ML_ks) hP
    have hD := Eq.mp (congrArg (fun w => va_D (fun z => s.heap.size ≤ z) w) ML_ks) hD
    refine lv_istore (lv' := [(6, .int (f_MbestStrength u (xs (nI i + (1 : Int32)).toNatClampNeg)).1), (5, .int k), (0, .ref b), (1, .ref (A 0)), (2, .ref hm), (3, .ref o), (4, .int (nI i))]) hx hb dL_law_1255 hl (by decide) rfl (fun ls hl => ?_)
    exact law_tail 1257 (155) (by decide) dL_law_1257 dL_law_1258 dL_law_1261 dL_law_1263 dL_law_1268 dL_law_1270 dL_law_1273 dL_law_1274 dL_law_1275 dL_law_1276 dL_law_1278 dL_law_1279 dL_law_1280 dL_law_1285 S hK hc1 hc2 hk hSim1 hP hD hS hl hk1 hk2
  refine kc_swH (n := 3) (As := [.ref (A 0), .int (xs (nI i + (1 : Int32)).toNatClampNeg), .ref o]) (rest := []) S (v := some (.int (hA (f_XbestStrength fl un ut u0 u1 sv x r (xs (nI i + (1 : Int32)).toNatClampNeg)) cdA))) (c_L_bestStrength l hst dC dI cI cZ cO cL A Q fl un ut u0 u1 sv x r (xs (nI i + (1 : Int32)).toNatClampNeg) o f H.size (fun e he => (hsx.2 e he).2.1)) gL_law_L_bestStrength ⟨_, rfl⟩ ⟨by decide, by decide, by decide +kernel⟩ ⟨rfl, rfl⟩ ⟨Nat.le_of_ble_eq_true rfl, Nat.le_of_ble_eq_true rfl⟩ (hXX.kept hS.2.1) hK hP hD hS hA1 (List.range' 0 68) HL_all (hWd_fst (fun z => XW_fst) (fun r => XW_fst)) (nd_range 68 0) ⟨hc1, hc2⟩ dL_law_1240 rfl hl.1 rfl (Nat.le_of_ble_eq_true rfl) (fun H locs hP hD hS => ?_)
  rcases exc_or (f_XbestStrength fl un ut u0 u1 sv x r (xs (nI i + (1 : Int32)).toNatClampNeg)) with ⟨z, hz⟩ | ⟨e9, hz⟩
  · obtain ⟨y1, y2, y3⟩ := hsx.1 z hz
    rw [hz] at hP hD ⊢
    have hP := Eq.mp (congrArg (fun w => va_P (dC, dI) vwCl w H) HL_ks) hP
    have hD := Eq.mp (congrArg (fun w => va_D (fun z => s.heap.size ≤ z) w) HL_ks) hD
    exact rest _ _ _ _ _ _ _ _ _ H locs 0 y3 y2 (fun _ => by rw [y1]; rfl) hP hD hS
  · obtain ⟨y1, y2, y3⟩ := hsx.2 e9 hz
    rw [hz] at hP hD ⊢
    have hP := Eq.mp (congrArg (fun w => va_P (dC, dI) vwCl w H) HL_ks) hP
    have hD := Eq.mp (congrArg (fun w => va_D (fun z => s.heap.size ≤ z) w) HL_ks) hD
    exact rest _ _ _ _ _ _ _ _ _ H locs _ y3 y1 (fun q9 => absurd q9 y2) hP hD hS
set_option maxHeartbeats 2000000 in
set_option maxRecDepth 100000 in
theorem law_c22 (hst : l.stackTraces = false) (S : CallFix p m c cL_law 9 s #[Value.ref b] wsL_law RL) (hX : va_X b L xs s s.heap) (hbl : b < s.heap.size) (hK : va_K (dC, dI) vwCl (TY cI cZ cO ++ [(cL, .long)]) s) (hXX : HXk (fun z => s.heap.size ≤ z) s s.heap) (hin : ∀ j, j < 4 → vp_in (nI i + nI j) L) (hc1 : cells + 1 ≤ 626727) (hc2 : slots + 6 ≤ 7215922) (hk : LwK p l e s m below meth c b dC dI cI cZ cO cL A Q hm o q i (cells + 1) (slots + 6) 1440) : LwK p l e s m below meth c b dC dI cI cZ cO cL A Q hm o q i cells slots 1288 := by
  intro fl un ut u0 u1 sv x r f u H locs ls hSim hP hD hS hl
  obtain ⟨hx, hb, hml, hown, hts⟩ := id S
  have hA1 : ∀ z : Nat, s.heap.size ≤ z → (fun z => s.heap.size ≤ z) z := fun _ h => h
  have hbA : ¬ (fun z : Nat => s.heap.size ≤ z) b := Nat.not_le.mpr hbl
  have hsx := S_stopsIn (ut := ut) (r := r) hSim (xs (nI i + (1 : Int32)).toNatClampNeg)
  refine lv_aload_n hx hb dL_law_1288 rfl (lv_at hl 1 rfl) ?_
  refine lv_aload_n hx hb dL_law_1289 rfl (lv_at hl 0 rfl) ?_
  refine lv_iload hx hb dL_law_1290 (lv_at hl 4 rfl) ?_
  refine lv_iconst (v := (1 : Int32)) hx hb dL_law_1292 (by decide) ?_
  refine lv_iadd hx hb dL_law_1293 ?_
  refine va_sld hx hb hX hbl hbA hS (hin 1 (by omega)) dL_law_1294 ?_
  refine lv_aload_n hx hb dL_law_1295 rfl (lv_at hl 3 rfl) ?_
  have rest : ∀ (fl1 : Nat → Int32) (un1 ut1 u01 u11 : BS) (sv1 : SS) (x1 r1 : BS) (f1 : Nat → Int64) (H : Heap) (locs : List Loc) (k : Int32), Sim fl1 un1 u01 u11 sv1 x1 (f_MstopsIn u (xs (nI i + (1 : Int32)).toNatClampNeg)).2 → (f_MstopsIn u (xs (nI i + (1 : Int32)).toNatClampNeg)).2 8 0 = k → (k = 0 → f1 0 = (f_MstopsIn u (xs (nI i + (1 : Int32)).toNatClampNeg)).1.toInt64) → va_P (dC, dI) vwCl (XW cI cZ cO A Q fl1 un1 ut1 u01 u11 sv1 x1 r1 ++ (LW cL o f1 ++ MW cI cZ hm q u)) H → va_D (fun z => s.heap.size ≤ z) (XW cI cZ cO A Q fl1 un1 ut1 u01 u11 sv1 x1 r1 ++ (LW cL o f1 ++ MW cI cZ hm q u)) → va_S (fun z => s.heap.size ≤ z) s.heap H locs → W p l e room_1 s m #[Value.ref b] below meth c H locs (cells + 1) (slots + 6) (lw_Z below #[Value.ref b] s) (F0 m 1299 ls [.int k]) := by
    intro fl1 un1 ut1 u01 u11 sv1 x1 r1 f1 H locs k hSim1 hk1 hk2 hP hD hS
    refine lv_istore (lv' := [(5, .int k), (0, .ref b), (1, .ref (A 0)), (2, .ref hm), (3, .ref o), (4, .int (nI i))]) hx hb dL_law_1299 hl (by decide) rfl (fun ls hl => ?_)
    refine lv_aload_n hx hb dL_law_1301 rfl (lv_at hl 3 rfl) ?_
    refine lv_aload_n hx hb dL_law_1302 rfl (lv_at hl 1 rfl) ?_
    refine lv_iload hx hb dL_law_1303 (lv_at hl 5 rfl) ?_
    refine lv_iconst (v := (1 : Int32)) hx hb dL_law_1305 (by decide) ?_
    refine lv_iadd hx hb dL_law_1306 ?_
    refine va_sld hx hb hX hbl hbA hS (hin 1 (by omega)) dL_law_1307 ?_
    refine kc_w (As := [.int (xs (nI i + (1 : Int32)).toNatClampNeg)]) (rest := []) S (v := some (.int (f_MstopsIn u (xs (nI i + (1 : Int32)).toNatClampNeg)).1)) (c_X5_stopsIn l dC dI cI cZ cO hm q u (xs (nI i + (1 : Int32)).toNatClampNeg) H.size (Sim_hs hSim)) gL_law_X5_stopsIn mi_X5_stopsIn ⟨rfl, rfl⟩ ⟨Nat.le_of_ble_eq_true rfl, Nat.le_of_ble_eq_true rfl⟩ (hK.sub [0, 1, 2] rfl) hP hD hS hA1 (List.range' 68 8) ML_all MW_fst (nd_range 8 68) 0 rfl rfl ⟨hc1, hc2⟩ dL_law_1308 rfl hl.1 rfl (Nat.le_of_ble_eq_true rfl) (fun H locs hP hD hS => ?_)
    have hP := Eq.mp (congrArg (fun w => va_P (dC, dI) vwCl w H) ML_ks) hP
    have hD := Eq.mp (congrArg (fun w => va_D (fun z => s.heap.size ≤ z) w) ML_ks) hD
    refine lv_istore (lv' := [(6, .int (f_MstopsIn u (xs (nI i + (1 : Int32)).toNatClampNeg)).1), (5, .int k), (0, .ref b), (1, .ref (A 0)), (2, .ref hm), (3, .ref o), (4, .int (nI i))]) hx hb dL_law_1311 hl (by decide) rfl (fun ls hl => ?_)
    exact law_tail 1313 (99) (by decide) dL_law_1313 dL_law_1314 dL_law_1317 dL_law_1319 dL_law_1324 dL_law_1326 dL_law_1329 dL_law_1330 dL_law_1331 dL_law_1332 dL_law_1334 dL_law_1335 dL_law_1336 dL_law_1341 S hK hc1 hc2 hk hSim1 hP hD hS hl hk1 hk2
  refine kc_swH (n := 3) (As := [.ref (A 0), .int (xs (nI i + (1 : Int32)).toNatClampNeg), .ref o]) (rest := []) S (v := some (.int (hA (f_XstopsIn fl un ut u0 u1 sv x r (xs (nI i + (1 : Int32)).toNatClampNeg)) cdI))) (c_L_stopsIn l hst dC dI cI cZ cO cL A Q fl un ut u0 u1 sv x r (xs (nI i + (1 : Int32)).toNatClampNeg) o f H.size (fun e he => (hsx.2 e he).2.1)) gL_law_L_stopsIn ⟨_, rfl⟩ ⟨by decide, by decide, by decide +kernel⟩ ⟨rfl, rfl⟩ ⟨Nat.le_of_ble_eq_true rfl, Nat.le_of_ble_eq_true rfl⟩ (hXX.kept hS.2.1) hK hP hD hS hA1 (List.range' 0 68) HL_all (hWd_fst (fun z => XW_fst) (fun r => XW_fst)) (nd_range 68 0) ⟨hc1, hc2⟩ dL_law_1296 rfl hl.1 rfl (Nat.le_of_ble_eq_true rfl) (fun H locs hP hD hS => ?_)
  rcases exc_or (f_XstopsIn fl un ut u0 u1 sv x r (xs (nI i + (1 : Int32)).toNatClampNeg)) with ⟨z, hz⟩ | ⟨e9, hz⟩
  · obtain ⟨y1, y2, y3⟩ := hsx.1 z hz
    rw [hz] at hP hD ⊢
    have hP := Eq.mp (congrArg (fun w => va_P (dC, dI) vwCl w H) HL_ks) hP
    have hD := Eq.mp (congrArg (fun w => va_D (fun z => s.heap.size ≤ z) w) HL_ks) hD
    exact rest _ _ _ _ _ _ _ _ _ H locs 0 y3 y2 (fun _ => by rw [y1]; rfl) hP hD hS
  · obtain ⟨y1, y2, y3⟩ := hsx.2 e9 hz
    rw [hz] at hP hD ⊢
    have hP := Eq.mp (congrArg (fun w => va_P (dC, dI) vwCl w H) HL_ks) hP
    have hD := Eq.mp (congrArg (fun w => va_D (fun z => s.heap.size ≤ z) w) HL_ks) hD
    exact rest _ _ _ _ _ _ _ _ _ H locs _ y3 y1 (fun q9 => absurd q9 y2) hP hD hS
set_option maxHeartbeats 2000000 in
set_option maxRecDepth 100000 in
theorem law_c23 (hst : l.stackTraces = false) (S : CallFix p m c cL_law 9 s #[Value.ref b] wsL_law RL) (hX : va_X b L xs s s.heap) (hbl : b < s.heap.size) (hK : va_K (dC, dI) vwCl (TY cI cZ cO ++ [(cL, .long)]) s) (hXX : HXk (fun z => s.heap.size ≤ z) s s.heap) (hin : ∀ j, j < 4 → vp_in (nI i + nI j) L) (hc1 : cells + 1 ≤ 626727) (hc2 : slots + 6 ≤ 7215922) (hk : LwK p l e s m below meth c b dC dI cI cZ cO cL A Q hm o q i (cells + 1) (slots + 6) 1440) : LwK p l e s m below meth c b dC dI cI cZ cO cL A Q hm o q i cells slots 1344 := by
  intro fl un ut u0 u1 sv x r f u H locs ls hSim hP hD hS hl
  obtain ⟨hx, hb, hml, hown, hts⟩ := id S
  have hA1 : ∀ z : Nat, s.heap.size ≤ z → (fun z => s.heap.size ≤ z) z := fun _ h => h
  have hbA : ¬ (fun z : Nat => s.heap.size ≤ z) b := Nat.not_le.mpr hbl
  refine W.widen (k := cells + 1) (n := slots + 6) (Nat.le_succ _) (Nat.le_add_right _ _) ?_
  obtain ⟨y1, y2⟩ := S_far (ut := ut) (r := r) hSim (!decide (xs (nI i + (1 : Int32)).toNatClampNeg = 0))
  refine lv_aload_n hx hb dL_law_1344 rfl (lv_at hl 1 rfl) ?_
  refine lv_aload_n hx hb dL_law_1345 rfl (lv_at hl 0 rfl) ?_
  refine lv_iload hx hb dL_law_1346 (lv_at hl 4 rfl) ?_
  refine lv_iconst (v := (1 : Int32)) hx hb dL_law_1348 (by decide) ?_
  refine lv_iadd hx hb dL_law_1349 ?_
  refine va_sld hx hb hX hbl hbA hS (hin 1 (by omega)) dL_law_1350 ?_
  have rest : ∀ (v : Int32), v = bI (!decide (xs (nI i + (1 : Int32)).toNatClampNeg = 0)) → W p l e room_1 s m #[Value.ref b] below meth c H locs (cells + 1) (slots + 6) (lw_Z below #[Value.ref b] s) (F0 m 1359 ls [.int v, .ref (A 0)]) := by
    rintro v rfl
    refine kc_v (As := [.int (bI (!decide (xs (nI i + (1 : Int32)).toNatClampNeg = 0)))]) (rest := []) S (v := .int (f_Xfarthest fl un ut u0 u1 sv x r (!decide (xs (nI i + (1 : Int32)).toNatClampNeg = 0)))) (c_X4_farthest l dC dI cI cZ cO A Q fl un ut u0 u1 sv x r (!decide (xs (nI i + (1 : Int32)).toNatClampNeg = 0))) gL_law_X4_farthest mi_X4_farthest ⟨rfl, rfl⟩ ⟨Nat.le_of_ble_eq_true rfl, Nat.le_of_ble_eq_true rfl⟩ (hK.sub [0, 1, 2] rfl) (kpc (List.range' 0 67) hP XW_allT) 0 rfl rfl ⟨hc1, hc2⟩ dL_law_1359 rfl hl.1 rfl (Nat.le_of_ble_eq_true rfl) ?_
    refine lv_aload_n hx hb dL_law_1362 rfl (lv_at hl 2 rfl) ?_
    refine lv_aload_n hx hb dL_law_1363 rfl (lv_at hl 0 rfl) ?_
    refine lv_iload hx hb dL_law_1364 (lv_at hl 4 rfl) ?_
    refine lv_iconst (v := (1 : Int32)) hx hb dL_law_1366 (by decide) ?_
    refine lv_iadd hx hb dL_law_1367 ?_
    refine va_sld hx hb hX hbl hbA hS (hin 1 (by omega)) dL_law_1368 ?_
    have rest2 : ∀ (v : Int32), v = bI (!decide (xs (nI i + (1 : Int32)).toNatClampNeg = 0)) → W p l e room_1 s m #[Value.ref b] below meth c H locs (cells + 1) (slots + 6) (lw_Z below #[Value.ref b] s) (F0 m 1377 ls [.int v, .ref hm, .int (f_Xfarthest fl un ut u0 u1 sv x r (!decide (xs (nI i + (1 : Int32)).toNatClampNeg = 0)))]) := by
      rintro v rfl
      refine kc_w (As := [.int (bI (!decide (xs (nI i + (1 : Int32)).toNatClampNeg = 0)))]) (rest := [.int (f_Xfarthest fl un ut u0 u1 sv x r (!decide (xs (nI i + (1 : Int32)).toNatClampNeg = 0)))]) S (v := some (.int (f_Mfarthest u (!decide (xs (nI i + (1 : Int32)).toNatClampNeg = 0))).1)) (c_X5_farthest l dC dI cI cZ cO hm q u (!decide (xs (nI i + (1 : Int32)).toNatClampNeg = 0)) H.size) gL_law_X5_farthest mi_X5_farthest ⟨rfl, rfl⟩ ⟨Nat.le_of_ble_eq_true rfl, Nat.le_of_ble_eq_true rfl⟩ (hK.sub [0, 1, 2] rfl) hP hD hS hA1 (List.range' 68 8) ML_all MW_fst (nd_range 8 68) 0 rfl rfl ⟨hc1, hc2⟩ dL_law_1377 rfl hl.1 rfl (Nat.le_of_ble_eq_true rfl) (fun H locs hP hD hS => ?_)
      have hP := Eq.mp (congrArg (fun w => va_P (dC, dI) vwCl w H) ML_ks) hP
      have hD := Eq.mp (congrArg (fun w => va_D (fun z => s.heap.size ≤ z) w) ML_ks) hD
      refine lv_icmp_eq (tgt := 1440) hx hb dL_law_1380 (by decide) (fun _ => ?_) (fun q9 => absurd y1.symm q9)
      exact hk _ _ _ _ _ _ _ _ _ _ H locs ls y2 hP hD hS hl
    refine lv_if_eq (tgt := 1376) hx hb dL_law_1369 (by decide) (fun q9 => ?_) (fun q9 => ?_)
    · refine lv_iconst (v := (0 : Int32)) hx hb dL_law_1376 (by decide) ?_
      exact rest2 0 (by rw [q9]; rfl)
    · refine lv_iconst (v := (1 : Int32)) hx hb dL_law_1372 (by decide) ?_
      refine lv_goto (tgt := 1377) hx hb dL_law_1373 (by decide) ?_
      exact rest2 1 (by rw [decide_eq_false q9]; rfl)
  refine lv_if_eq (tgt := 1358) hx hb dL_law_1351 (by decide) (fun q9 => ?_) (fun q9 => ?_)
  · refine lv_iconst (v := (0 : Int32)) hx hb dL_law_1358 (by decide) ?_
    exact rest 0 (by rw [q9]; rfl)
  · refine lv_iconst (v := (1 : Int32)) hx hb dL_law_1354 (by decide) ?_
    refine lv_goto (tgt := 1359) hx hb dL_law_1355 (by decide) ?_
    exact rest 1 (by rw [decide_eq_false q9]; rfl)
set_option maxHeartbeats 2000000 in
set_option maxRecDepth 100000 in
theorem law_c24 (hst : l.stackTraces = false) (S : CallFix p m c cL_law 9 s #[Value.ref b] wsL_law RL) (hX : va_X b L xs s s.heap) (hbl : b < s.heap.size) (hK : va_K (dC, dI) vwCl (TY cI cZ cO ++ [(cL, .long)]) s) (hXX : HXk (fun z => s.heap.size ≤ z) s s.heap) (hin : ∀ j, j < 4 → vp_in (nI i + nI j) L) (hc1 : cells + 1 ≤ 626727) (hc2 : slots + 6 ≤ 7215922) (hk : LwK p l e s m below meth c b dC dI cI cZ cO cL A Q hm o q i (cells + 1) (slots + 6) 1440) : LwK p l e s m below meth c b dC dI cI cZ cO cL A Q hm o q i cells slots 1385 := by
  intro fl un ut u0 u1 sv x r f u H locs ls hSim hP hD hS hl
  obtain ⟨hx, hb, hml, hown, hts⟩ := id S
  have hA1 : ∀ z : Nat, s.heap.size ≤ z → (fun z => s.heap.size ≤ z) z := fun _ h => h
  have hbA : ¬ (fun z : Nat => s.heap.size ≤ z) b := Nat.not_le.mpr hbl
  refine W.widen (k := cells + 1) (n := slots + 6) (Nat.le_succ _) (Nat.le_add_right _ _) ?_
  obtain ⟨y1, y2⟩ := S_share (fl := fl) (ut := ut) (r := r) hSim
  have hn : FP.dcmp (f_XtogetherShare fl un ut u0 u1 sv x r) (f_XtogetherShare fl un ut u0 u1 sv x r) = some .eq := share_eq hSim.1
  refine lv_aload_n hx hb dL_law_1385 rfl (lv_at hl 1 rfl) ?_
  refine kc_v (As := []) (rest := []) S (v := .double (f_XtogetherShare fl un ut u0 u1 sv x r)) (c_X4_togetherShare l dC dI cI cZ cO A Q fl un ut u0 u1 sv x r) gL_law_X4_togetherShare mi_X4_togetherShare ⟨rfl, rfl⟩ ⟨Nat.le_of_ble_eq_true rfl, Nat.le_of_ble_eq_true rfl⟩ (hK.sub [0, 1, 2] rfl) (kpc (List.range' 0 67) hP XW_allT) 0 rfl rfl ⟨hc1, hc2⟩ dL_law_1386 rfl hl.1 rfl (Nat.le_of_ble_eq_true rfl) ?_
  refine lv_dstore (lv' := [(5, .double (f_XtogetherShare fl un ut u0 u1 sv x r)), (0, .ref b), (1, .ref (A 0)), (2, .ref hm), (3, .ref o), (4, .int (nI i))]) hx hb dL_law_1389 hl (by decide) rfl (fun ls hl => ?_)
  refine lv_aload_n hx hb dL_law_1391 rfl (lv_at hl 3 rfl) ?_
  refine kc_w (As := []) (rest := []) S (v := some (.double (f_MtogetherShare u).1)) (c_X5_togetherShare l dC dI cI cZ cO hm q u H.size) gL_law_X5_togetherShare mi_X5_togetherShare ⟨rfl, rfl⟩ ⟨Nat.le_of_ble_eq_true rfl, Nat.le_of_ble_eq_true rfl⟩ (hK.sub [0, 1, 2] rfl) hP hD hS hA1 (List.range' 68 8) ML_all MW_fst (nd_range 8 68) 0 rfl rfl ⟨hc1, hc2⟩ dL_law_1392 rfl hl.1 rfl (Nat.le_of_ble_eq_true rfl) (fun H locs hP hD hS => ?_)
  have hP := Eq.mp (congrArg (fun w => va_P (dC, dI) vwCl w H) ML_ks) hP
  have hD := Eq.mp (congrArg (fun w => va_D (fun z => s.heap.size ≤ z) w) ML_ks) hD
  rw [y1]
  refine lv_dstore (lv' := [(7, .double (f_XtogetherShare fl un ut u0 u1 sv x r)), (5, .double (f_XtogetherShare fl un ut u0 u1 sv x r)), (0, .ref b), (1, .ref (A 0)), (2, .ref hm), (3, .ref o), (4, .int (nI i))]) hx hb dL_law_1395 hl (by decide) rfl (fun ls hl => ?_)
  refine lv_dload hx hb dL_law_1397 (lv_at hl 1 rfl) ?_
  refine lv_dload hx hb dL_law_1399 (lv_at hl 0 rfl) ?_
  refine lv_dcmp hx hb dL_law_1401 ?_
  refine lv_if_eq (tgt := 1423) hx hb dL_law_1402 (by decide) (fun _ => ?_) (fun q9 => absurd (by rw [hn]; rfl) q9)
  refine lv_goto (tgt := 1440) hx hb dL_law_1423 (by decide) ?_
  exact hk _ _ _ _ _ _ _ _ _ _ H locs ls y2 hP hD hS (lv_sub hl [2, 3, 4, 5, 6] rfl)
set_option maxHeartbeats 2000000 in
set_option maxRecDepth 100000 in
theorem law_c25 (hst : l.stackTraces = false) (S : CallFix p m c cL_law 9 s #[Value.ref b] wsL_law RL) (hX : va_X b L xs s s.heap) (hbl : b < s.heap.size) (hK : va_K (dC, dI) vwCl (TY cI cZ cO ++ [(cL, .long)]) s) (hXX : HXk (fun z => s.heap.size ≤ z) s s.heap) (hin : ∀ j, j < 4 → vp_in (nI i + nI j) L) (hc1 : cells + 1 ≤ 626727) (hc2 : slots + 6 ≤ 7215922) (hk : LwK p l e s m below meth c b dC dI cI cZ cO cL A Q hm o q i (cells + 1) (slots + 6) 1440) : LwK p l e s m below meth c b dC dI cI cZ cO cL A Q hm o q i cells slots 1426 := by
  intro fl un ut u0 u1 sv x r f u H locs ls hSim hP hD hS hl
  obtain ⟨hx, hb, hml, hown, hts⟩ := id S
  have hA1 : ∀ z : Nat, s.heap.size ≤ z → (fun z => s.heap.size ≤ z) z := fun _ h => h
  have hbA : ¬ (fun z : Nat => s.heap.size ≤ z) b := Nat.not_le.mpr hbl
  obtain ⟨y1, y2⟩ := S_digest (ut := ut) (r := r) hSim
  refine W.widen (k := cells + 1) (n := slots + 6) (Nat.le_succ _) (Nat.le_add_right _ _) ?_
  refine lv_aload_n hx hb dL_law_1426 rfl (lv_at hl 1 rfl) ?_
  refine kc_w (As := []) (rest := []) S (v := some (.long (f_Xdigest fl un ut u0 u1 sv x r).1)) (c_X4_digest l dC dI cI cZ cO A Q fl un ut u0 u1 sv x r H.size) gL_law_X4_digest mi_X4_digest ⟨rfl, rfl⟩ ⟨Nat.le_of_ble_eq_true rfl, Nat.le_of_ble_eq_true rfl⟩ (hK.sub [0, 1, 2] rfl) hP hD hS hA1 (List.range' 0 67) XW_allT XW_fst (nd_range 67 0) 0 rfl rfl ⟨hc1, hc2⟩ dL_law_1427 rfl hl.1 rfl (Nat.le_of_ble_eq_true rfl) (fun H locs hP hD hS => ?_)
  have hP := Eq.mp (congrArg (fun w => va_P (dC, dI) vwCl w H) XW_ksT) hP
  have hD := Eq.mp (congrArg (fun w => va_D (fun z => s.heap.size ≤ z) w) XW_ksT) hD
  refine lv_aload_n hx hb dL_law_1430 rfl (lv_at hl 2 rfl) ?_
  refine kc_w (As := []) (rest := [.long (f_Xdigest fl un ut u0 u1 sv x r).1]) S (v := some (.long (f_Mdigest u).1)) (c_X5_digest l dC dI cI cZ cO hm q u H.size (Sim_hs hSim) (Sim_ht hSim)) gL_law_X5_digest mi_X5_digest ⟨rfl, rfl⟩ ⟨Nat.le_of_ble_eq_true rfl, Nat.le_of_ble_eq_true rfl⟩ (hK.sub [0, 1, 2] rfl) hP hD hS hA1 (List.range' 68 8) ML_all MW_fst (nd_range 8 68) 0 rfl rfl ⟨hc1, hc2⟩ dL_law_1431 rfl hl.1 rfl (Nat.le_of_ble_eq_true rfl) (fun H locs hP hD hS => ?_)
  have hP := Eq.mp (congrArg (fun w => va_P (dC, dI) vwCl w H) ML_ks) hP
  have hD := Eq.mp (congrArg (fun w => va_D (fun z => s.heap.size ≤ z) w) ML_ks) hD
  refine W.lcmp hx hb dL_law_1434 ?_
  refine lv_if_eq (tgt := 1440) hx hb dL_law_1435 (by decide) (fun _ => ?_) (fun q9 => absurd ?_ q9)
  · exact hk _ _ _ _ _ _ _ _ _ _ H locs ls y2 hP hD hS hl
  · rw [y1]; exact lg_self _
end LAWC

/-! MATH 12: digest -/
section SIMD
variable {fl : Nat → Int32} {un ut u0 u1 : BS} {sv : SS} {x r : BS} {m : BS}
/-- the reference is as before, but for its trial -/
def W1 (m Y : BS) : Prop := ∃ g, Y = upR m 1 g
theorem W1.tr {m Y : BS} (h : W1 m Y) (g : Nat → Int32) : W1 m (upR Y 1 g) := by
  obtain ⟨g', rfl⟩ := h
  exact ⟨g, upR_upR _ _ _ _⟩
theorem W1.o {m Y : BS} (h : W1 m Y) {k : Nat} (hk : k ≠ 1) : Y k = m k := by
  obtain ⟨g', rfl⟩ := h
  exact upR_o hk
theorem W1.rf (m : BS) : W1 m m := ⟨m 1, (upR_self m 1).symm⟩
/-- the class's digest, its parts named -/
theorem dig_X : ∃ (H0 : Int64) (P1 : Int64 × BS) (T : BS) (U B : Int32 × BS), H0 = it 3 (f_Xdigest_L33 fl un ut u0 u1 sv x r) (it 12 (f_Xdigest_L6 fl un ut u0 u1 sv x r) (2999 : Int64)) ∧ P1 = f_XwithArms fl un ut u0 u1 sv x r H0 ∧ T = f_XtryOut fl un P1.2 u0 u1 sv x r (40 : Int32) (20 : Int32) ∧ U = f_XuntilStep fl un T u0 u1 sv x r ∧ B = f_XstrengthOfGreatestOrder fl un U.2 u0 u1 sv x r (50 : Int32) ∧ (∀ j h, f_Xdigest_L82 fl un ut u0 u1 sv x r j h = ((31 : Int64) * h) + ((f_Xoutcome fl un T u0 u1 sv x r (nI j)).toInt64)) ∧ (f_Xdigest fl un ut u0 u1 sv x r).1 = f_XwithSlotsAndText fl un B.2 u0 u1 sv x r (((31 : Int64) * (((31 : Int64) * (((31 : Int64) * (((31 : Int64) * (((31 : Int64) * (it 5 (f_Xdigest_L82 fl un ut u0 u1 sv x r) (f_XwithDistances fl un P1.2 u0 u1 sv x r P1.1))) + ((U.1).toInt64))) + ((B.1).toInt64))) + ((f_farthestOfGoing un false).toInt64))) + ((f_farthestOfGoing un true).toInt64))) + (f_XbitsOfShare (f_shareTogether un))) :=
  ⟨_, _, _, _, _, rfl, rfl, rfl, rfl, rfl, fun _ _ => rfl, rfl⟩
theorem dig_M (m : BS) : ∃ (P1 P3 : Int64 × BS) (U B : Int32 × BS), P1 = it ((m 0 3).toNatClampNeg) (f_Mdigest_L65 m) (it 3 (f_Mdigest_L38 m) (it 12 (f_Mdigest_L11 m) (2999 : Int64)), upA m 8 0 (0 : Int32)) ∧ P3 = it 5 (f_Mdigest_L185 m) (it ((m 0 3).toNatClampNeg) (f_Mdigest_L127 m) P1.1, P1.2) ∧ U = f_Muntil P3.2 (-1 : Int32) ∧ B = f_Mbest U.2 (50 : Int32) ∧ (f_Mdigest m).1 = it ((m 7 0).toNatClampNeg) (f_Mdigest_L325 m) (((31 : Int64) * (it 2 (f_Mdigest_L278 m) (((31 : Int64) * (((31 : Int64) * (((31 : Int64) * (((31 : Int64) * (((31 : Int64) * (P3.1)) + ((U.1).toInt64))) + ((B.1).toInt64))) + ((f_Mfar (B.2) false).toInt64))) + ((f_Mfar (B.2) true).toInt64))) + (f_JdoubleToLongBits (f_Mshare (B.2)))))) + ((nI ((m 7 0).toNatClampNeg)).toInt64)) ∧ (f_Mdigest m).2 = B.2 := by
  refine ⟨_, _, _, _, rfl, rfl, rfl, rfl, ?_, ?_⟩
  · rw [f_Mdigest]
  · rw [f_Mdigest]
theorem min_q {j N : Nat} (h : j ≤ N) (hN : N < 2 ^ 31) : f_Min (nI j) 0 (nI N) = true := by
  rw [show (0 : Int32) = nI 0 from rfl, Min_N (by omega) (by omega) hN, if_pos (by omega)]
theorem S_digest (h : Sim fl un u0 u1 sv x m) : (f_Mdigest m).1 = (f_Xdigest fl un ut u0 u1 sv x r).1 ∧ Sim fl un u0 u1 sv x (f_Mdigest m).2 := by
  have hz := h.1
  obtain ⟨n, h1, h2, h3⟩ := h.1
  have hn := BR_n h1
  have hn3 : (m 0 3).toNatClampNeg = n := BR_3 h1
  have hnu : (f_size un).toNatClampNeg = n := by unfold f_size; rw [h1.2.1, nI_clamp (by omega)]
  obtain ⟨t, ht, ex, em, hr⟩ := h.2.2.2.2.2
  obtain ⟨H0, P1, T, U, B, x1, x2, x3, x4, x5, x6, x7⟩ := dig_X (fl := fl) (un := un) (ut := ut) (u0 := u0) (u1 := u1) (sv := sv) (x := x) (r := r)
  obtain ⟨P1', P3', U', B', y1, y2, y3, y4, y5, y6⟩ := dig_M m
  have a1 : it 12 (f_Xdigest_L6 fl un ut u0 u1 sv x r) (2999 : Int64) = it 12 (f_Mdigest_L11 m) (2999 : Int64) := by
    refine it_cong ?_ _
    intro j hj z
    unfold f_Xdigest_L6 f_Mdigest_L11
    rw [L_count (m := upA m 8 0 0) h1 h2 h.2.1.2.2.1 (min_q (N := 11) (by omega) (by omega))]
  have a2 : H0 = it 3 (f_Mdigest_L38 m) (it 12 (f_Mdigest_L11 m) (2999 : Int64)) := by
    rw [x1, a1]
    refine it_cong ?_ _
    intro j hj z
    unfold f_Xdigest_L33 f_Mdigest_L38
    rw [L_setting h1 (min_q (N := 2) (by omega) (by omega)), nI_clamp (by omega)]
  have a3 : P1.1 = P1'.1 ∧ W1 (upA m 8 0 0) P1'.2 := by
    rw [x2, y1, ← a2, hn3]
    unfold f_XwithArms
    rw [hnu]
    dsimp only
    refine it_rel (fun _ (a : Int64 × BS) (b : Int64 × BS) => a.1 = b.1 ∧ W1 (upA m 8 0 0) b.2) ⟨rfl, W1.rf _⟩ ?_
    rintro j ⟨a, ya⟩ ⟨b, yb⟩ hj ⟨e1, e2⟩
    dsimp only at e1 e2
    subst e1
    have h1' : BR n un (yb 0) := by rw [e2.o (by decide)]; exact h1
    obtain ⟨q1, g, q2⟩ := L_stops (fl := fl) (ut := ya) (u0 := u0) (u1 := u1) (sv := sv) (x := x) (r := r) h1' h2 hj
    have hq : it 9 (f_XwithArms_L20 fl un ut u0 u1 sv x r H0 j (a, ya)) a = it 9 (f_Mdigest_L78 m j (a, yb)) a := by
      refine it_cong ?_ _
      intro k hk z
      unfold f_XwithArms_L20 f_Mdigest_L78
      rw [L_arm (m := yb) h1' h2 hj (min_q (N := 8) (by omega) (by omega))]
    unfold f_XwithArms_L5 f_Mdigest_L65
    dsimp only
    rw [hq, q1]
    generalize f_Muntil yb (nI j) = Q at q2 ⊢
    refine ⟨rfl, ?_⟩
    rw [q2]
    exact e2.tr g
  have a4 : f_XwithDistances fl un P1.2 u0 u1 sv x r P1.1 = it n (f_Mdigest_L127 m) P1'.1 := by
    unfold f_XwithDistances
    rw [hnu, a3.1]
    refine it_cong ?_ _
    intro j hj z
    unfold f_XwithDistances_L5 f_Mdigest_L127
    rw [hnu, hn3]
    refine it_cong ?_ _
    intro k hk z'
    unfold f_XwithDistances_L23 f_Mdigest_L142
    rw [B_dist h1 h2 hj (show j + 1 + k < n by omega)]
  have a5 : it 5 (f_Xdigest_L82 fl un ut u0 u1 sv x r) (it n (f_Mdigest_L127 m) P1'.1) = P3'.1 ∧ W1 (upA m 8 0 0) P3'.2 := by
    rw [y2, hn3]
    refine it_rel (fun _ (a : Int64) (b : Int64 × BS) => a = b.1 ∧ W1 (upA m 8 0 0) b.2) ⟨rfl, a3.2⟩ ?_
    rintro j a ⟨b, yb⟩ hj ⟨e1, e2⟩
    dsimp only at e1 e2
    subst e1
    have h1' : BR n un (yb 0) := by rw [e2.o (by decide)]; exact h1
    have q := L_out (fl := fl) (ut := P1.2) (u0 := u0) (u1 := u1) (sv := sv) (x := x) (r := r) h1' h2 (40 : Int32) (p1 := 20) (by decide) (nI j) T sv x3
    unfold f_Mdigest_L185
    dsimp only
    refine ⟨by rw [x6, q], ?_⟩
    rw [byRun_2, tries_M]
    exact e2.tr _
  have a6 : U.1 = U'.1 ∧ W1 (upA m 8 0 0) U'.2 := by
    have h1' : BR n un (P3'.2 0) := by rw [a5.2.o (by decide)]; exact h1
    obtain ⟨q1, g, q2⟩ := L_until (fl := fl) (ut := T) (u0 := u0) (u1 := u1) (sv := sv) (x := x) (r := r) h1' h2
    rw [x4, y3]
    refine ⟨q1, ?_⟩
    rw [q2]
    exact a5.2.tr g
  have a7 : B.1 = B'.1 ∧ W1 (upA m 8 0 0) B'.2 := by
    have h1' : BR n un (U'.2 0) := by rw [a6.2.o (by decide)]; exact h1
    obtain ⟨q1, g, q2⟩ := L_best (fl := fl) (ut := U.2) (u0 := u0) (u1 := u1) (sv := sv) (x := x) (r := r) h1' h2 (50 : Int32)
    rw [x5, y4]
    refine ⟨q1, ?_⟩
    rw [q2]
    exact a6.2.tr g
  have hB0 : B'.2 0 = m 0 := a7.2.o (by decide)
  have h1' : BR n un (B'.2 0) := by rw [hB0]; exact h1
  have a8 : ∀ p, f_farthestOfGoing un p = f_Mfar B'.2 p := fun p => L_far h1' h2 p
  have a9 : f_XbitsOfShare (f_shareTogether un) = f_JdoubleToLongBits (f_Mshare B'.2) := by
    rw [share_bits h3, L_share (m := B'.2) ⟨n, h1', h2, h3⟩]
  refine ⟨?_, ?_⟩
  · rw [x7, y5, a4, a5.1, a6.1, a7.1, a8 false, a8 true, a9, em, nI_clamp (by omega)]
    unfold f_XwithSlotsAndText f_Tsize
    rw [ex, nI_clamp (by omega)]
    generalize f_JdoubleToLongBits (f_Mshare B'.2) = z0
    generalize (31 : Int64) * _ + z0 = z1
    have b1 : it 2 (f_XwithSlotsAndText_L5 fl un B.2 u0 u1 sv x r z1) z1 = it 2 (f_Mdigest_L278 m) z1 := by
      refine it_cong ?_ _
      intro j hj z
      unfold f_XwithSlotsAndText_L5 f_Mdigest_L278
      rcases (show j = 0 ∨ j = 1 by omega) with rfl | rfl
      · rw [h.2.2.1.1]
      · rw [h.2.2.1.2]
    rw [b1]
    refine (it_cong ?_ _).symm
    intro j hj z
    unfold f_XwithSlotsAndText_L58 f_Mdigest_L325
    rw [sign_N ex ht hj, (hr j hj).1]
  · rw [y6]
    refine Sim_rows h ?_
    intro k hk
    rw [a7.2.o (by omega), upA_o (by omega)]
end SIMD

theorem f_MisToldOne_PG {u : BS} (ha : vp_in (u 9 0) 61) (ht : vp_in (u 7 0) 61) : PG u (f_MisToldOne u).2 ∧ ((f_MisToldOne u).1 = true → (u 9 0).toNatClampNeg + 1 ≤ ((f_MisToldOne u).2 9 0).toNatClampNeg) := by
  have p1 := f_MisNumber_PG (u := u) (k0 := 1) (p1 := 40) (p2 := 208) ha ht
  unfold f_MisToldOne
  generalize f_MisNumber u 1 (40 : Int32) (208 : Int32) = n1 at p1 ⊢
  have ht1 : vp_in (n1.2 7 0) 61 := by rw [p1.1.2.2]; exact ht
  have p2 := f_MisSign_PG (p0 := 64) p1.1.1 ht1
  generalize f_MisSign n1.2 (64 : Int32) = s1 at p2 ⊢
  have ht2 : vp_in (s1.2 7 0) 61 := by rw [p2.1.2.2]; exact ht1
  have p3 := f_MisNumber_PG (k0 := 2) (p1 := 0) (p2 := 3599) p2.1.1 ht2
  generalize f_MisNumber s1.2 2 (0 : Int32) (3599 : Int32) = n2 at p3 ⊢
  have ht3 : vp_in (n2.2 7 0) 61 := by rw [p3.1.2.2]; exact ht2
  have q3 : PG u n2.2 := (p1.1.tr p2.1).tr p3.1
  have e1 := p2.1.2.1
  have e2 := p3.1.2.1
  by_cases c1 : n1.1 = true
  · have d1 := p1.2 c1
    rw [if_pos c1]
    by_cases c2 : s1.1 = true
    · rw [if_pos c2]
      by_cases c3 : n2.1 = true
      · rw [if_pos c3]
        have q4 : PG u (upA n2.2 12 (4 * (u 13 0).toNatClampNeg + 3) (500 : Int32)) := q3.tr (PG.up q3.1 (by decide) (by decide))
        by_cases c4 : f_MisAt (upA n2.2 12 (4 * (u 13 0).toNatClampNeg + 3) (500 : Int32)) (42 : Int32) (42 : Int32) = true
        · rw [if_pos c4]
          have q5 := f_MisAt_lt q4.1 (by rw [q4.2.2]; exact ht) c4
          rw [upA_o (by decide), upA_o (by decide)] at q5
          have h7 := vp_lt ht3
          have q6 : PG n2.2 (upA (upA n2.2 12 (4 * (u 13 0).toNatClampNeg + 3) (500 : Int32)) 9 0 (nI ((n2.2 9 0).toNatClampNeg + 1))) := PG.at0 (PG.up q3.1 (by decide) (by decide)) rfl (by rw [upA_o (by decide)]) (by omega)
          have q7 := f_MisNumber_PG (k0 := 3) (p1 := 1) (p2 := 999) q6.1 (by rw [q6.2.2]; exact ht3)
          generalize f_MisNumber (upA (upA n2.2 12 (4 * (u 13 0).toNatClampNeg + 3) (500 : Int32)) 9 0 (nI ((n2.2 9 0).toNatClampNeg + 1))) 3 (1 : Int32) (999 : Int32) = n3 at q7 ⊢
          have e3 := q7.1.2.1
          rw [upA_s, nI_clamp (by omega)] at e3
          exact ⟨(q3.tr q6).tr q7.1, fun _ => by dsimp only; omega⟩
        · rw [if_neg c4]
          exact ⟨q4, fun _ => by dsimp only; rw [upA_o (by decide)]; omega⟩
      · rw [if_neg c3]
        exact ⟨q3, fun z => by cases z⟩
    · rw [if_neg c2]
      exact ⟨p1.1.tr p2.1, fun z => by cases z⟩
  · rw [if_neg c1]
    exact ⟨p1.1, fun z => by cases z⟩
theorem f_MisToldOne_o {u : BS} {r : Nat} (h9 : r ≠ 9) (h10 : r ≠ 10) (h11 : r ≠ 11) (h12 : r ≠ 12) : (f_MisToldOne u).2 r = u r := by
  have hn : ∀ (v : BS) (k : Nat) (a b : Int32), (f_MisNumber v k a b).2 r = v r := fun v k a b => f_MisNumber_o h9 h10 h11 h12
  have hs : ∀ (v : BS) (a : Int32), (f_MisSign v a).2 r = v r := fun v a => f_MisSign_o h9 h10
  have hu9 : ∀ (v : BS) (j : Nat) (x : Int32), upA v 9 j x r = v r := fun v j x => upA_o h9
  have hu12 : ∀ (v : BS) (j : Nat) (x : Int32), upA v 12 j x r = v r := fun v j x => upA_o h12
  unfold f_MisToldOne
  generalize f_MisNumber = N at hn ⊢
  generalize f_MisSign = S at hs ⊢
  generalize f_MisAt = T
  generalize upA = A at hu9 hu12 ⊢
  repeat' split
  all_goals (try dsimp only)
  all_goals simp only [hn, hs, hu9, hu12]
theorem f_MisOrder_o {u : BS} {r : Nat} (h9 : r ≠ 9) (h10 : r ≠ 10) (h11 : r ≠ 11) (h12 : r ≠ 12) : (f_MisOrder u).2 r = u r := by
  have hn : ∀ (v : BS) (k : Nat) (a b : Int32), (f_MisNumber v k a b).2 r = v r := fun v k a b => f_MisNumber_o h9 h10 h11 h12
  have ho : ∀ (v : BS), (f_MisToldOne v).2 r = v r := fun v => f_MisToldOne_o h9 h10 h11 h12
  have hs : ∀ (v : BS), (f_Mstops v).2 r = v r := fun v => f_Mstops_o h10
  have hu9 : ∀ (v : BS) (j : Nat) (x : Int32), upA v 9 j x r = v r := fun v j x => upA_o h9
  have hu12 : ∀ (v : BS) (j : Nat) (x : Int32), upA v 12 j x r = v r := fun v j x => upA_o h12
  unfold f_MisOrder
  generalize f_MisNumber = N at hn ⊢
  generalize f_MisToldOne = O at ho ⊢
  generalize f_Mstops = S at hs ⊢
  generalize f_MisAt = T
  generalize upA = A at hu9 hu12 ⊢
  repeat' split
  all_goals (try dsimp only)
  all_goals simp only [hn, ho, hs, hu9, hu12]
theorem f_MisOrder_PG {u : BS} (ha : vp_in (u 9 0) 61) (ht : vp_in (u 7 0) 61) : PG u (f_MisOrder u).2 ∧ ((f_MisOrder u).1 = true → (u 9 0).toNatClampNeg + 2 ≤ ((f_MisOrder u).2 9 0).toNatClampNeg) := by
  have h7 := vp_lt ht
  have h9 := vp_lt ha
  have u12 : ∀ (j : Nat) (x : Int32), PG u (upA u 12 j x) := fun j x => PG.up ha (by decide) (by decide)
  unfold f_MisOrder
  by_cases c0 : nI (u 7 0).toNatClampNeg ≤ nI (u 9 0).toNatClampNeg
  · rw [if_pos c0]
    refine ⟨(u12 _ _).tr (PG.stops (u12 _ _).1), fun z => ?_⟩
    dsimp only at z; rw [f_Mstops_f] at z; cases z
  · rw [if_neg c0]
    have q : (u 9 0).toNatClampNeg < (u 7 0).toNatClampNeg := by
      rcases Nat.lt_or_ge (u 9 0).toNatClampNeg (u 7 0).toNatClampNeg with q | q
      · exact q
      · exact absurd (nI_le q (by omega)) c0
    have q6 : ∀ (j : Nat) (x : Int32), PG u (upA (upA u 12 j x) 9 0 (nI ((u 9 0).toNatClampNeg + 1))) := fun j x => PG.at0 (u12 j x) rfl (by rw [upA_o (by decide)]) (by omega)
    have q7 : ∀ (j : Nat) (x : Int32), ((upA (upA u 12 j x) 9 0 (nI ((u 9 0).toNatClampNeg + 1))) 9 0).toNatClampNeg = (u 9 0).toNatClampNeg + 1 := fun j x => by rw [upA_s, nI_clamp (by omega)]
    have q8 : ∀ (j : Nat) (x : Int32), vp_in ((upA (upA u 12 j x) 9 0 (nI ((u 9 0).toNatClampNeg + 1))) 7 0) 61 := fun j x => by rw [(q6 j x).2.2]; exact ht
    generalize u 6 (u 9 0).toNatClampNeg = ch
    by_cases c1 : ch = (104 : Int32)
    · rw [if_pos c1]
      by_cases c2 : f_MisAt (upA (upA u 12 (4 * (u 13 0).toNatClampNeg) ch) 9 0 (nI ((u 9 0).toNatClampNeg + 1))) (48 : Int32) (53 : Int32) = true
      · rw [if_pos c2]
        have l2 := f_MisAt_lt (q6 _ _).1 (q8 _ _) c2
        rw [q7, (q6 _ _).2.2] at l2
        refine ⟨⟨?_, ?_, ?_⟩, fun _ => ?_⟩
        · dsimp only; rw [upA_s]; exact vp_in_nI (by omega) (by decide)
        · dsimp only; rw [upA_s, nI_clamp (by omega)]; omega
        · dsimp only; rw [upA_o (by decide), upA_o (by decide)]; exact (q6 _ _).2.2
        · dsimp only; rw [upA_s, nI_clamp (by omega)]; omega
      · rw [if_neg c2]
        refine ⟨(q6 _ _).tr (PG.stops (q6 _ _).1), fun z => ?_⟩
        dsimp only at z; rw [f_Mstops_f] at z; cases z
    · rw [if_neg c1]
      by_cases c2 : ch = (109 : Int32)
      · rw [if_pos c2]
        have t := f_MisToldOne_PG (q6 (4 * (u 13 0).toNatClampNeg) ch).1 (q8 _ _)
        refine ⟨(q6 _ _).tr t.1, fun z => ?_⟩
        have t2 := t.2 z
        rw [q7] at t2
        exact t2
      · rw [if_neg c2]
        by_cases c3 : ch = (115 : Int32)
        · rw [if_pos c3]
          have t := f_MisNumber_PG (k0 := 1) (p1 := 1) (p2 := 500) (q6 (4 * (u 13 0).toNatClampNeg) ch).1 (q8 _ _)
          refine ⟨(q6 _ _).tr t.1, fun z => ?_⟩
          have t2 := t.2 z
          rw [q7] at t2
          exact t2
        · rw [if_neg c3]
          refine ⟨(u12 _ _).tr (PG.stops (u12 _ _).1), fun z => ?_⟩
          dsimp only at z; rw [f_Mstops_f] at z; cases z
theorem f_MisOrder_a {u : BS} (ha : vp_in (u 9 0) 61) (ht : vp_in (u 7 0) 61) : vp_in ((f_MisOrder u).2 9 0) 61 := (f_MisOrder_PG ha ht).1.1

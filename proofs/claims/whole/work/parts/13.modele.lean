theorem f_MisToldOne_PG {u : BS} (ha : vp_in (u 9 0) 61) (ht : vp_in (u 7 0) 61) : PG u (f_MisToldOne u).2 ∧ ((f_MisToldOne u).1 = true → (u 9 0).toNatClampNeg + 1 ≤ ((f_MisToldOne u).2 9 0).toNatClampNeg) := by
  have p1 := f_MisNumber_PG (u := u) (k0 := 1) (p1 := 40) (p2 := 208) ha ht
  unfold f_MisToldOne
  generalize f_MisNumber u 1 (40 : Int32) (208 : Int32) = n1 at p1 ⊢
  have ht1 : vp_in (n1.2 7 0) 61 := by rw [p1.1.2.2]; exact ht
  have p2 := f_MisSign_PG (p0 := 64) p1.1.1 ht1
  generalize f_MisSign n1.2 (64 : Int32) = s1 at p2 ⊢
  have ht2 : vp_in (s1.2 7 0) 61 := by rw [p2.1.2.2]; exact ht1
  have p3 := f_MisNumber_PG (k0 := 2) (p1 := 0) (p2 := 3599) p2.1.1 ht2
  generalize f_MisNumber s1.2 2 (0 : Int32) (3599 : Int32) = n2 at p3 ⊢
  have ht3 : vp_in (n2.2 7 0) 61 := by rw [p3.1.2.2]; exact ht2
  have q3 : PG u n2.2 := (p1.1.tr p2.1).tr p3.1
  have e1 := p2.1.2.1
  have e2 := p3.1.2.1
  by_cases c1 : n1.1 = true
  · have d1 := p1.2 c1
    rw [if_pos c1]
    by_cases c2 : s1.1 = true
    · rw [if_pos c2]
      by_cases c3 : n2.1 = true
      · rw [if_pos c3]
        have q4 : PG u (upA n2.2 12 (4 * (u 13 0).toNatClampNeg + 3) (500 : Int32)) := q3.tr (PG.up q3.1 (by decide) (by decide))
        by_cases c4 : f_MisAt (upA n2.2 12 (4 * (u 13 0).toNatClampNeg + 3) (500 : Int32)) (42 : Int32) (42 : Int32) = true
        · rw [if_pos c4]
          have q5 := f_MisAt_lt q4.1 (by rw [q4.2.2]; exact ht) c4
          rw [upA_o (by decide), upA_o (by decide)] at q5
          have h7 := vp_lt ht3
          have q6 : PG n2.2 (upA (upA n2.2 12 (4 * (u 13 0).toNatClampNeg + 3) (500 : Int32)) 9 0 (nI ((n2.2 9 0).toNatClampNeg + 1))) := PG.at0 (PG.up q3.1 (by decide) (by decide)) rfl (by rw [upA_o (by decide)]) (by omega)
          have q7 := f_MisNumber_PG (k0 := 3) (p1 := 1) (p2 := 999) q6.1 (by rw [q6.2.2]; exact ht3)
          generalize f_MisNumber (upA (upA n2.2 12 (4 * (u 13 0).toNatClampNeg + 3) (500 : Int32)) 9 0 (nI ((n2.2 9 0).toNatClampNeg + 1))) 3 (1 : Int32) (999 : Int32) = n3 at q7 ⊢
          have e3 := q7.1.2.1
          rw [upA_s, nI_clamp (by omega)] at e3
          exact ⟨(q3.tr q6).tr q7.1, fun _ => by dsimp only; omega⟩
        · rw [if_neg c4]
          exact ⟨q4, fun _ => by dsimp only; rw [upA_o (by decide)]; omega⟩
      · rw [if_neg c3]
        exact ⟨q3, fun z => by cases z⟩
    · rw [if_neg c2]
      exact ⟨p1.1.tr p2.1, fun z => by cases z⟩
  · rw [if_neg c1]
    exact ⟨p1.1, fun z => by cases z⟩
theorem f_MisToldOne_o {u : BS} {r : Nat} (h9 : r ≠ 9) (h10 : r ≠ 10) (h11 : r ≠ 11) (h12 : r ≠ 12) : (f_MisToldOne u).2 r = u r := by
  have hn : ∀ (v : BS) (k : Nat) (a b : Int32), (f_MisNumber v k a b).2 r = v r := fun v k a b => f_MisNumber_o h9 h10 h11 h12
  have hs : ∀ (v : BS) (a : Int32), (f_MisSign v a).2 r = v r := fun v a => f_MisSign_o h9 h10
  have hu9 : ∀ (v : BS) (j : Nat) (x : Int32), upA v 9 j x r = v r := fun v j x => upA_o h9
  have hu12 : ∀ (v : BS) (j : Nat) (x : Int32), upA v 12 j x r = v r := fun v j x => upA_o h12
  unfold f_MisToldOne
  generalize f_MisNumber = N at hn ⊢
  generalize f_MisSign = S at hs ⊢
  generalize f_MisAt = T
  generalize upA = A at hu9 hu12 ⊢
  repeat' split
  all_goals (try dsimp only)
  all_goals simp only [hn, hs, hu9, hu12]
theorem f_MisOrder_o {u : BS} {r : Nat} (h9 : r ≠ 9) (h10 : r ≠ 10) (h11 : r ≠ 11) (h12 : r ≠ 12) : (f_MisOrder u).2 r = u r := by
  have hn : ∀ (v : BS) (k : Nat) (a b : Int32), (f_MisNumber v k a b).2 r = v r := fun v k a b => f_MisNumber_o h9 h10 h11 h12
  have ho : ∀ (v : BS), (f_MisToldOne v).2 r = v r := fun v => f_MisToldOne_o h9 h10 h11 h12
  have hs : ∀ (v : BS), (f_Mstops v).2 r = v r := fun v => f_Mstops_o h10
  have hu9 : ∀ (v : BS) (j : Nat) (x : Int32), upA v 9 j x r = v r := fun v j x => upA_o h9
  have hu12 : ∀ (v : BS) (j : Nat) (x : Int32), upA v 12 j x r = v r := fun v j x => upA_o h12
  unfold f_MisOrder
  generalize f_MisNumber = N at hn ⊢
  generalize f_MisToldOne = O at ho ⊢
  generalize f_Mstops = S at hs ⊢
  generalize f_MisAt = T
  generalize upA = A at hu9 hu12 ⊢
  repeat' split
  all_goals (try dsimp only)
  all_goals simp only [hn, ho, hs, hu9, hu12]
theorem f_MisOrder_PG {u : BS} (ha : vp_in (u 9 0) 61) (ht : vp_in (u 7 0) 61) : PG u (f_MisOrder u).2 ∧ ((f_MisOrder u).1 = true → (u 9 0).toNatClampNeg + 2 ≤ ((f_MisOrder u).2 9 0).toNatClampNeg) := by
  have h7 := vp_lt ht
  have h9 := vp_lt ha
  have u12 : ∀ (j : Nat) (x : Int32), PG u (upA u 12 j x) := fun j x => PG.up ha (by decide) (by decide)
  unfold f_MisOrder
  by_cases c0 : nI (u 7 0).toNatClampNeg ≤ nI (u 9 0).toNatClampNeg
  · rw [if_pos c0]
    refine ⟨(u12 _ _).tr (PG.stops (u12 _ _).1), fun z => ?_⟩
    dsimp only at z; rw [f_Mstops_f] at z; cases z
  · rw [if_neg c0]
    have q : (u 9 0).toNatClampNeg < (u 7 0).toNatClampNeg := by
      rcases Nat.lt_or_ge (u 9 0).toNatClampNeg (u 7 0).toNatClampNeg with q | q
      · exact q
      · exact absurd (nI_le q (by omega)) c0
    have q6 : ∀ (j : Nat) (x : Int32), PG u (upA (upA u 12 j x) 9 0 (nI ((u 9 0).toNatClampNeg + 1))) := fun j x => PG.at0 (u12 j x) rfl (by rw [upA_o (by decide)]) (by omega)
    have q7 : ∀ (j : Nat) (x : Int32), ((upA (upA u 12 j x) 9 0 (nI ((u 9 0).toNatClampNeg + 1))) 9 0).toNatClampNeg = (u 9 0).toNatClampNeg + 1 := fun j x => by rw [upA_s, nI_clamp (by omega)]
    have q8 : ∀ (j : Nat) (x : Int32), vp_in ((upA (upA u 12 j x) 9 0 (nI ((u 9 0).toNatClampNeg + 1))) 7 0) 61 := fun j x => by rw [(q6 j x).2.2]; exact ht
    generalize u 6 (u 9 0).toNatClampNeg = ch
    by_cases c1 : ch = (104 : Int32)
    · rw [if_pos c1]
      by_cases c2 : f_MisAt (upA (upA u 12 (4 * (u 13 0).toNatClampNeg) ch) 9 0 (nI ((u 9 0).toNatClampNeg + 1))) (48 : Int32) (53 : Int32) = true
      · rw [if_pos c2]
        have l2 := f_MisAt_lt (q6 _ _).1 (q8 _ _) c2
        rw [q7, (q6 _ _).2.2] at l2
        refine ⟨⟨?_, ?_, ?_⟩, fun _ => ?_⟩
        · dsimp only; rw [upA_s]; exact vp_in_nI (by omega) (by decide)
        · dsimp only; rw [upA_s, nI_clamp (by omega)]; omega
        · dsimp only; rw [upA_o (by decide), upA_o (by decide)]; exact (q6 _ _).2.2
        · dsimp only; rw [upA_s, nI_clamp (by omega)]; omega
      · rw [if_neg c2]
        refine ⟨(q6 _ _).tr (PG.stops (q6 _ _).1), fun z => ?_⟩
        dsimp only at z; rw [f_Mstops_f] at z; cases z
    · rw [if_neg c1]
      by_cases c2 : ch = (109 : Int32)
      · rw [if_pos c2]
        have t := f_MisToldOne_PG (q6 (4 * (u 13 0).toNatClampNeg) ch).1 (q8 _ _)
        refine ⟨(q6 _ _).tr t.1, fun z => ?_⟩
        have t2 := t.2 z
        rw [q7] at t2
        exact t2
      · rw [if_neg c2]
        by_cases c3 : ch = (115 : Int32)
        · rw [if_pos c3]
          have t := f_MisNumber_PG (k0 := 1) (p1 := 1) (p2 := 500) (q6 (4 * (u 13 0).toNatClampNeg) ch).1 (q8 _ _)
          refine ⟨(q6 _ _).tr t.1, fun z => ?_⟩
          have t2 := t.2 z
          rw [q7] at t2
          exact t2
        · rw [if_neg c3]
          refine ⟨(u12 _ _).tr (PG.stops (u12 _ _).1), fun z => ?_⟩
          dsimp only at z; rw [f_Mstops_f] at z; cases z
theorem f_MisOrder_a {u : BS} (ha : vp_in (u 9 0) 61) (ht : vp_in (u 7 0) 61) : vp_in ((f_MisOrder u).2 9 0) 61 := (f_MisOrder_PG ha ht).1.1

def rm_X5_isText : Room := { frames := 5, cells := 0, slots := 0, locals := 109 }
theorem mi_X5_isText : kM yX5_isText wsX5_isText cX5_isText 2 (some .boolean) 0 := ⟨⟨_, rfl⟩, by decide, by decide, by decide +kernel⟩
def f_MisText_R17 (u : BS) : Nat → Nat → Bool → BS → Bool × BS
  | 0, j17_, y17_0, y17_1 => (false, y17_1)
  | n + 1, j17_, y17_0, y17_1 => if y17_0 = true then (if ((f_MisOrder y17_1).1) = true then (if (f_MisAt (upA ((f_MisOrder y17_1).2) 13 0 (nI (((y17_1 13 0).toNatClampNeg) + 1))) (59 : Int32) (59 : Int32)) = true then (f_MisText_R17 u n (j17_ + 1) (f_MisAt (upA ((f_MisOrder y17_1).2) 13 0 (nI (((y17_1 13 0).toNatClampNeg) + 1))) (59 : Int32) (59 : Int32)) (upA (upA ((f_MisOrder y17_1).2) 13 0 (nI (((y17_1 13 0).toNatClampNeg) + 1))) 9 0 (nI (((((f_MisOrder y17_1).2) 9 0).toNatClampNeg) + 1)))) else f_MisText_R17 u n (j17_ + 1) (f_MisAt (upA ((f_MisOrder y17_1).2) 13 0 (nI (((y17_1 13 0).toNatClampNeg) + 1))) (59 : Int32) (59 : Int32)) (upA (upA ((f_MisOrder y17_1).2) 13 0 (nI (((y17_1 13 0).toNatClampNeg) + 1))) 9 0 (nI (((((f_MisOrder y17_1).2) 9 0).toNatClampNeg) + 0)))) else (false, (f_MisOrder y17_1).2)) else if (nI ((y17_1 7 0).toNatClampNeg)) ≤ (nI ((y17_1 9 0).toNatClampNeg)) then (if (nI ((y17_1 9 0).toNatClampNeg)) = (nI ((y17_1 7 0).toNatClampNeg)) then (true, upA y17_1 10 0 (0 : Int32)) else (false, upA y17_1 10 0 (0 : Int32))) else if (nI ((y17_1 9 0).toNatClampNeg)) = (nI ((y17_1 7 0).toNatClampNeg)) then (true, upA y17_1 10 0 (1 : Int32)) else (false, upA y17_1 10 0 (1 : Int32))
def f_MisText (u : BS) : Bool × BS := f_MisText_R17 u 61 0 true (upA (upA (upA u 9 0 (0 : Int32)) 13 0 (0 : Int32)) 10 0 (0 : Int32))
set_option maxHeartbeats 1000000 in
set_option maxRecDepth 100000 in
theorem c_X5_isText (l : Launch) (dC : Nat → ClassId) (dI : Nat → Nat → Nat) (cI cZ cO : ClassId) (h0 : Nat) (q : Nat → Nat) (u : BS) (sz : Nat) (ht : vp_in (u 7 0) 61) : Met l yX5_isText wsX5_isText rm_X5_isText (va_Pc [.ref h0] (fun U => U.heap.size = sz ∧ va_P (dC, dI) vwCl (MW cI cZ h0 q u) U.heap ∧ va_K (dC, dI) vwCl (TY cI cZ cO) U ∧ va_D (fun _ => True) (MW cI cZ h0 q u))) (kQw (some (.int (bI (f_MisText u).1))) (dC, dI) vwCl (MW cI cZ h0 q ((f_MisText u).2)) (va_A (MW cI cZ h0 q u) sz)) 0 0 (va_A (MW cI cZ h0 q u) sz) := by
  refine kofW (cc := cX5_isText) (maxL := 2) (ret := some .boolean) (by decide) rfl (Nat.le_of_ble_eq_true rfl) ?_
  intro p e s m args below meth c ls S hr hlk hnm hsz hP hK hD hS hA hl
  generalize hA0 : va_A (MW cI cZ h0 q u) sz = A0 at hD hS hA ⊢
  subst hsz
  obtain ⟨hx, hb, hml, hown, hts⟩ := id S
  have ht_n : (u 7 0).toNatClampNeg < 61 := vp_lt ht
  have inX5 : ∀ w ∈ wsX50, w ∈ wsX5_isText := fun w h => List.mem_cons_of_mem _ (List.mem_append_right _ h)
  have hl : lv_has ls 2 [(0, .ref h0)] := hl
  refine lv_aload_n hx hb dX5_isText_0 rfl (lv_at hl 0 rfl) ?_
  refine lv_iconst (v := (0 : Int32)) hx hb dX5_isText_1 (by decide) ?_
  refine va_put (D := (dC, dI)) (ci := 5) (v := .int (0 : Int32)) (ty := .int) (C := RX5) (T := TX5) (N := 14) hx hb hts inX5 tyX5 tyX5_ok nmX5 hown hK hP hD hS 0 rfl rfl 9 (by decide) (hts (.fieldLink RX5 126 "BoardMetronomesModel" "at" "I") (by decide +kernel)) (fun _ h9 => h9) rfl (by decide +kernel) rfl rfl (Nat.le_of_ble_eq_true rfl) dX5_isText_2 (fun H locs hP hD hS => ?_)
  have hP : va_P (dC, dI) vwCl (MW cI cZ h0 q (upA u 9 0 (0 : Int32))) H := Eq.mp (congrArg (fun w => va_P (dC, dI) vwCl w H) MW_s9) hP
  have hD : va_D A0 (MW cI cZ h0 q (upA u 9 0 (0 : Int32))) := Eq.mp (congrArg (fun w => va_D A0 w) MW_s9) hD
  refine lv_aload_n hx hb dX5_isText_5 rfl (lv_at hl 0 rfl) ?_
  refine lv_iconst (v := (0 : Int32)) hx hb dX5_isText_6 (by decide) ?_
  refine va_put (D := (dC, dI)) (ci := 5) (v := .int (0 : Int32)) (ty := .int) (C := RX5) (T := TX5) (N := 14) hx hb hts inX5 tyX5 tyX5_ok nmX5 hown hK hP hD hS 0 rfl rfl 13 (by decide) (hts (.fieldLink RX5 147 "BoardMetronomesModel" "tolds" "I") (by decide +kernel)) (fun _ h9 => h9) rfl (by decide +kernel) rfl rfl (Nat.le_of_ble_eq_true rfl) dX5_isText_7 (fun H locs hP hD hS => ?_)
  have hP : va_P (dC, dI) vwCl (MW cI cZ h0 q (upA (upA u 9 0 (0 : Int32)) 13 0 (0 : Int32))) H := Eq.mp (congrArg (fun w => va_P (dC, dI) vwCl w H) MW_s13) hP
  have hD : va_D A0 (MW cI cZ h0 q (upA (upA u 9 0 (0 : Int32)) 13 0 (0 : Int32))) := Eq.mp (congrArg (fun w => va_D A0 w) MW_s13) hD
  refine lv_aload_n hx hb dX5_isText_10 rfl (lv_at hl 0 rfl) ?_
  refine lv_iconst (v := (0 : Int32)) hx hb dX5_isText_11 (by decide) ?_
  refine va_put (D := (dC, dI)) (ci := 5) (v := .int (0 : Int32)) (ty := .boolean) (C := RX5) (T := TX5) (N := 14) hx hb hts inX5 tyX5 tyX5_ok nmX5 hown hK hP hD hS 0 rfl rfl 10 (by decide) (hts (.fieldLink RX5 129 "BoardMetronomesModel" "isFault" "Z") (by decide +kernel)) (fun _ h9 => h9) rfl (by decide +kernel) rfl rfl (Nat.le_of_ble_eq_true rfl) dX5_isText_12 (fun H locs hP hD hS => ?_)
  have hP : va_P (dC, dI) vwCl (MW cI cZ h0 q (upA (upA (upA u 9 0 (0 : Int32)) 13 0 (0 : Int32)) 10 0 (0 : Int32))) H := Eq.mp (congrArg (fun w => va_P (dC, dI) vwCl w H) MW_s10) hP
  have hD : va_D A0 (MW cI cZ h0 q (upA (upA (upA u 9 0 (0 : Int32)) 13 0 (0 : Int32)) 10 0 (0 : Int32))) := Eq.mp (congrArg (fun w => va_D A0 w) MW_s10) hD
  refine lv_iconst (v := (1 : Int32)) hx hb dX5_isText_15 (by decide) ?_
  refine lv_istore_n (lv' := [(1, .int (1 : Int32)), (0, .ref h0)]) hx hb dX5_isText_16 rfl hl (by decide) rfl (fun ls hl => ?_)
  have L1 : ∀ (n j17_ : Nat), j17_ + n = 61 → ∀ (y17_0 : Bool) (y17_1 : BS), (vp_in (y17_1 9 0) 61 ∧ vp_in (y17_1 7 0) 61 ∧ vp_in (y17_1 13 0) 31 ∧ (y17_0 = true → 3 * (y17_1 13 0).toNatClampNeg ≤ (y17_1 9 0).toNatClampNeg) ∧ 60 < (y17_1 9 0).toNatClampNeg + n) → f_MisText u = f_MisText_R17 u n j17_ y17_0 y17_1 → ∀ (H : Heap) (locs : List Loc) (ls : Array Slot), va_P (dC, dI) vwCl (MW cI cZ h0 q y17_1) H → va_D A0 (MW cI cZ h0 q y17_1) → va_S A0 s.heap H locs → lv_has ls 2 [(0, .ref h0), (1, .int (bI y17_0))] → W p l e rm_X5_isText s m args below meth c H locs 0 0 (MQ below (kQw (some (.int (bI (f_MisText u).1))) (dC, dI) vwCl (MW cI cZ h0 q ((f_MisText u).2)) A0) args s 0 0 A0) (F0 m 17 ls []) := by
    intro n
    induction n with
    | zero =>
      intro j17_ hj1 y17_0 y17_1 hinv hv1 H locs ls hP hD hS hl
      exact absurd hinv.2.2.2.2 (by have z := vp_lt hinv.1; omega)
    | succ n ih1 =>
      intro j17_ hj1 y17_0 y17_1 hinv hv1 H locs ls hP hD hS hl
      have hY9 := vp_lt hinv.1
      have hY7 := vp_lt hinv.2.1
      have hYd := vp_lt hinv.2.2.1
      have hYn := hinv.2.2.2.2
      refine lv_iload_n hx hb dX5_isText_17 rfl (lv_at hl 1 rfl) ?_
      refine kb_eq (tgt := 70) hx hb dX5_isText_18 (by decide) (fun c_18 => ?_) (fun c_18 => ?_)
      · refine lv_aload_n hx hb dX5_isText_70 rfl (lv_at hl 0 rfl) ?_
        refine lv_aload_n hx hb dX5_isText_71 rfl (lv_at hl 0 rfl) ?_
        refine va_get (D := (dC, dI)) (ci := 5) (v := .int (y17_1 9 0)) (C := RX5) (T := TX5) (N := 14) hx hb hts inX5 hown hK hP 0 rfl rfl 9 (by decide) (hts (.fieldLink RX5 126 "BoardMetronomesModel" "at" "I") (by decide +kernel)) (fun _ h9 => h9) rfl dX5_isText_72 ?_
        refine kt_i (kcl hinv.1).symm ?_
        refine lv_aload_n hx hb dX5_isText_75 rfl (lv_at hl 0 rfl) ?_
        refine va_get (D := (dC, dI)) (ci := 5) (v := .int (y17_1 7 0)) (C := RX5) (T := TX5) (N := 14) hx hb hts inX5 hown hK hP 0 rfl rfl 7 (by decide) (hts (.fieldLink RX5 123 "BoardMetronomesModel" "typed" "I") (by decide +kernel)) (fun _ h9 => h9) rfl dX5_isText_76 ?_
        refine kt_i (kcl hinv.2.1).symm ?_
        refine lv_icmp_ge (tgt := 86) hx hb dX5_isText_79 (by decide) (fun c_79 => ?_) (fun c_79 => ?_)
        · have c_79n : ((y17_1 7 0).toNatClampNeg) ≤ ((y17_1 9 0).toNatClampNeg) := (nI_leI (a := ((y17_1 7 0).toNatClampNeg)) (b := ((y17_1 9 0).toNatClampNeg)) (by omega) (by omega)).mp c_79
          refine lv_iconst (v := (0 : Int32)) hx hb dX5_isText_86 (by decide) ?_
          refine va_put (D := (dC, dI)) (ci := 5) (v := .int (0 : Int32)) (ty := .boolean) (C := RX5) (T := TX5) (N := 14) hx hb hts inX5 tyX5 tyX5_ok nmX5 hown hK hP hD hS 0 rfl rfl 10 (by decide) (hts (.fieldLink RX5 129 "BoardMetronomesModel" "isFault" "Z") (by decide +kernel)) (fun _ h9 => h9) rfl (by decide +kernel) rfl rfl (Nat.le_of_ble_eq_true rfl) dX5_isText_87 (fun H locs hP hD hS => ?_)
          have hP : va_P (dC, dI) vwCl (MW cI cZ h0 q (upA y17_1 10 0 (0 : Int32))) H := Eq.mp (congrArg (fun w => va_P (dC, dI) vwCl w H) MW_s10) hP
          have hD : va_D A0 (MW cI cZ h0 q (upA y17_1 10 0 (0 : Int32))) := Eq.mp (congrArg (fun w => va_D A0 w) MW_s10) hD
          refine lv_aload_n hx hb dX5_isText_90 rfl (lv_at hl 0 rfl) ?_
          refine va_get (D := (dC, dI)) (ci := 5) (v := .int (y17_1 9 0)) (C := RX5) (T := TX5) (N := 14) hx hb hts inX5 hown hK hP 0 rfl rfl 9 (by decide) (hts (.fieldLink RX5 126 "BoardMetronomesModel" "at" "I") (by decide +kernel)) (fun _ h9 => h9) (congrArg (fun z => some (Value.int z)) (show (upA y17_1 10 0 (0 : Int32)) 9 0 = y17_1 9 0 by rw [upA_o (show (9 : Nat) ≠ 10 by decide)])) dX5_isText_91 ?_
          refine kt_i (kcl hinv.1).symm ?_
          refine lv_aload_n hx hb dX5_isText_94 rfl (lv_at hl 0 rfl) ?_
          refine va_get (D := (dC, dI)) (ci := 5) (v := .int (y17_1 7 0)) (C := RX5) (T := TX5) (N := 14) hx hb hts inX5 hown hK hP 0 rfl rfl 7 (by decide) (hts (.fieldLink RX5 123 "BoardMetronomesModel" "typed" "I") (by decide +kernel)) (fun _ h9 => h9) (congrArg (fun z => some (Value.int z)) (show (upA y17_1 10 0 (0 : Int32)) 7 0 = y17_1 7 0 by rw [upA_o (show (7 : Nat) ≠ 10 by decide)])) dX5_isText_95 ?_
          refine kt_i (kcl hinv.2.1).symm ?_
          refine lv_icmp_ne (tgt := 105) hx hb dX5_isText_98 (by decide) (fun c_98 => ?_) (fun c_98 => ?_)
          · have c_98n : ¬ ((y17_1 9 0).toNatClampNeg) = ((y17_1 7 0).toNatClampNeg) := fun z => c_98 ((nI_eq (a := ((y17_1 9 0).toNatClampNeg)) (b := ((y17_1 7 0).toNatClampNeg)) (by omega) (by omega)).mpr z)
            refine lv_iconst (v := (0 : Int32)) hx hb dX5_isText_105 (by decide) ?_
            have r2 : f_MisText u = (false, upA y17_1 10 0 (0 : Int32)) := by
              rw [hv1, f_MisText_R17, if_neg c_18, if_pos c_79, if_neg c_98]
            exact kw_z (x := false) hx hb hr hlk hP hS dX5_isText_106 rfl (by rw [r2]) (by rw [r2])
          · have c_98n : ((y17_1 9 0).toNatClampNeg) = ((y17_1 7 0).toNatClampNeg) := (nI_eq (a := ((y17_1 9 0).toNatClampNeg)) (b := ((y17_1 7 0).toNatClampNeg)) (by omega) (by omega)).mp c_98
            refine lv_iconst (v := (1 : Int32)) hx hb dX5_isText_101 (by decide) ?_
            refine lv_goto (tgt := 106) hx hb dX5_isText_102 (by decide) ?_
            have r3 : f_MisText u = (true, upA y17_1 10 0 (0 : Int32)) := by
              rw [hv1, f_MisText_R17, if_neg c_18, if_pos c_79, if_pos c_98]
            exact kw_z (x := true) hx hb hr hlk hP hS dX5_isText_106 rfl (by rw [r3]) (by rw [r3])
        · have c_79n : ¬ ((y17_1 7 0).toNatClampNeg) ≤ ((y17_1 9 0).toNatClampNeg) := fun z => c_79 ((nI_leI (a := ((y17_1 7 0).toNatClampNeg)) (b := ((y17_1 9 0).toNatClampNeg)) (by omega) (by omega)).mpr z)
          refine lv_iconst (v := (1 : Int32)) hx hb dX5_isText_82 (by decide) ?_
          refine lv_goto (tgt := 87) hx hb dX5_isText_83 (by decide) ?_
          refine va_put (D := (dC, dI)) (ci := 5) (v := .int (1 : Int32)) (ty := .boolean) (C := RX5) (T := TX5) (N := 14) hx hb hts inX5 tyX5 tyX5_ok nmX5 hown hK hP hD hS 0 rfl rfl 10 (by decide) (hts (.fieldLink RX5 129 "BoardMetronomesModel" "isFault" "Z") (by decide +kernel)) (fun _ h9 => h9) rfl (by decide +kernel) rfl rfl (Nat.le_of_ble_eq_true rfl) dX5_isText_87 (fun H locs hP hD hS => ?_)
          have hP : va_P (dC, dI) vwCl (MW cI cZ h0 q (upA y17_1 10 0 (1 : Int32))) H := Eq.mp (congrArg (fun w => va_P (dC, dI) vwCl w H) MW_s10) hP
          have hD : va_D A0 (MW cI cZ h0 q (upA y17_1 10 0 (1 : Int32))) := Eq.mp (congrArg (fun w => va_D A0 w) MW_s10) hD
          refine lv_aload_n hx hb dX5_isText_90 rfl (lv_at hl 0 rfl) ?_
          refine va_get (D := (dC, dI)) (ci := 5) (v := .int (y17_1 9 0)) (C := RX5) (T := TX5) (N := 14) hx hb hts inX5 hown hK hP 0 rfl rfl 9 (by decide) (hts (.fieldLink RX5 126 "BoardMetronomesModel" "at" "I") (by decide +kernel)) (fun _ h9 => h9) (congrArg (fun z => some (Value.int z)) (show (upA y17_1 10 0 (1 : Int32)) 9 0 = y17_1 9 0 by rw [upA_o (show (9 : Nat) ≠ 10 by decide)])) dX5_isText_91 ?_
          refine kt_i (kcl hinv.1).symm ?_
          refine lv_aload_n hx hb dX5_isText_94 rfl (lv_at hl 0 rfl) ?_
          refine va_get (D := (dC, dI)) (ci := 5) (v := .int (y17_1 7 0)) (C := RX5) (T := TX5) (N := 14) hx hb hts inX5 hown hK hP 0 rfl rfl 7 (by decide) (hts (.fieldLink RX5 123 "BoardMetronomesModel" "typed" "I") (by decide +kernel)) (fun _ h9 => h9) (congrArg (fun z => some (Value.int z)) (show (upA y17_1 10 0 (1 : Int32)) 7 0 = y17_1 7 0 by rw [upA_o (show (7 : Nat) ≠ 10 by decide)])) dX5_isText_95 ?_
          refine kt_i (kcl hinv.2.1).symm ?_
          refine lv_icmp_ne (tgt := 105) hx hb dX5_isText_98 (by decide) (fun c_98 => ?_) (fun c_98 => ?_)
          · have c_98n : ¬ ((y17_1 9 0).toNatClampNeg) = ((y17_1 7 0).toNatClampNeg) := fun z => c_98 ((nI_eq (a := ((y17_1 9 0).toNatClampNeg)) (b := ((y17_1 7 0).toNatClampNeg)) (by omega) (by omega)).mpr z)
            refine lv_iconst (v := (0 : Int32)) hx hb dX5_isText_105 (by decide) ?_
            have r4 : f_MisText u = (false, upA y17_1 10 0 (1 : Int32)) := by
              rw [hv1, f_MisText_R17, if_neg c_18, if_neg c_79, if_neg c_98]
            exact kw_z (x := false) hx hb hr hlk hP hS dX5_isText_106 rfl (by rw [r4]) (by rw [r4])
          · have c_98n : ((y17_1 9 0).toNatClampNeg) = ((y17_1 7 0).toNatClampNeg) := (nI_eq (a := ((y17_1 9 0).toNatClampNeg)) (b := ((y17_1 7 0).toNatClampNeg)) (by omega) (by omega)).mp c_98
            refine lv_iconst (v := (1 : Int32)) hx hb dX5_isText_101 (by decide) ?_
            refine lv_goto (tgt := 106) hx hb dX5_isText_102 (by decide) ?_
            have r5 : f_MisText u = (true, upA y17_1 10 0 (1 : Int32)) := by
              rw [hv1, f_MisText_R17, if_neg c_18, if_neg c_79, if_pos c_98]
            exact kw_z (x := true) hx hb hr hlk hP hS dX5_isText_106 rfl (by rw [r5]) (by rw [r5])
      · have hYm := hinv.2.2.2.1 c_18
        refine lv_aload_n hx hb dX5_isText_21 rfl (lv_at hl 0 rfl) ?_
        refine kc_w (As := []) (rest := []) S (v := (some (.int (bI ((f_MisOrder y17_1).1))))) (c_X5_isOrder l dC dI cI cZ cO h0 q y17_1 H.size hinv.1 hinv.2.1 hinv.2.2.1) gX5_isText_X5_isOrder mi_X5_isOrder ⟨rfl, rfl⟩ ⟨Nat.le_of_ble_eq_true rfl, Nat.le_of_ble_eq_true rfl⟩ hK hP hD hS hA [0, 1, 2, 3, 4, 5, 6, 7] MW_all MW_fst rfl 0 rfl rfl ⟨Nat.le_refl _, Nat.le_refl _⟩ dX5_isText_22 rfl hl.1 rfl (Nat.le_of_ble_eq_true rfl) (fun H locs hP hD hS => ?_)
        have hP : va_P (dC, dI) vwCl (MW cI cZ h0 q ((f_MisOrder y17_1).2)) H := Eq.mp (congrArg (fun w => va_P (dC, dI) vwCl w H) MW_ks) hP
        have hD : va_D A0 (MW cI cZ h0 q ((f_MisOrder y17_1).2)) := Eq.mp (congrArg (fun w => va_D A0 w) MW_ks) hD
        refine kb_ne (tgt := 30) hx hb dX5_isText_25 (by decide) (fun c_25 => ?_) (fun c_25 => ?_)
        · have hO := f_MisOrder_PG hinv.1 hinv.2.1
          have hO2 := hO.2 c_25
          have hO1 := vp_lt hO.1.1
          refine lv_aload_n hx hb dX5_isText_30 rfl (lv_at hl 0 rfl) ?_
          refine lv_dup hx hb dX5_isText_31 rfl ?_
          refine va_get (D := (dC, dI)) (ci := 5) (v := .int (y17_1 13 0)) (C := RX5) (T := TX5) (N := 14) hx hb hts inX5 hown hK hP 0 rfl rfl 13 (by decide) (hts (.fieldLink RX5 147 "BoardMetronomesModel" "tolds" "I") (by decide +kernel)) (fun _ h9 => h9) (congrArg (fun z => some (Value.int z)) (show ((f_MisOrder y17_1).2) 13 0 = y17_1 13 0 by rw [f_MisOrder_o (show (13 : Nat) ≠ 9 by decide) (by decide) (by decide) (by decide)])) dX5_isText_32 ?_
          refine kt_i (kcl hinv.2.2.1).symm ?_
          refine lv_iconst (v := (1 : Int32)) hx hb dX5_isText_35 (by decide) ?_
          refine k_iaddn (x := (y17_1 13 0).toNatClampNeg) (y := 1) hx hb dX5_isText_36 ?_
          refine va_put (D := (dC, dI)) (ci := 5) (v := .int (nI (((y17_1 13 0).toNatClampNeg) + 1))) (ty := .int) (C := RX5) (T := TX5) (N := 14) hx hb hts inX5 tyX5 tyX5_ok nmX5 hown hK hP hD hS 0 rfl rfl 13 (by decide) (hts (.fieldLink RX5 147 "BoardMetronomesModel" "tolds" "I") (by decide +kernel)) (fun _ h9 => h9) rfl (by decide +kernel) rfl rfl (Nat.le_of_ble_eq_true rfl) dX5_isText_37 (fun H locs hP hD hS => ?_)
          have hP : va_P (dC, dI) vwCl (MW cI cZ h0 q (upA ((f_MisOrder y17_1).2) 13 0 (nI (((y17_1 13 0).toNatClampNeg) + 1)))) H := Eq.mp (congrArg (fun w => va_P (dC, dI) vwCl w H) MW_s13) hP
          have hD : va_D A0 (MW cI cZ h0 q (upA ((f_MisOrder y17_1).2) 13 0 (nI (((y17_1 13 0).toNatClampNeg) + 1)))) := Eq.mp (congrArg (fun w => va_D A0 w) MW_s13) hD
          refine lv_aload_n hx hb dX5_isText_40 rfl (lv_at hl 0 rfl) ?_
          refine lv_bipush (v := (59 : Int32)) hx hb dX5_isText_41 (by decide) ?_
          refine lv_bipush (v := (59 : Int32)) hx hb dX5_isText_43 (by decide) ?_
          refine kc_v (As := [.int (59 : Int32), .int (59 : Int32)]) (rest := []) S (v := .int (bI (f_MisAt (upA ((f_MisOrder y17_1).2) 13 0 (nI (((y17_1 13 0).toNatClampNeg) + 1))) (59 : Int32) (59 : Int32)))) (c_X5_isAt l dC dI cI cZ cO h0 q (upA ((f_MisOrder y17_1).2) 13 0 (nI (((y17_1 13 0).toNatClampNeg) + 1))) (59 : Int32) (59 : Int32) (by rw [upA_o (show (9 : Nat) ≠ 13 by decide)]; exact (f_MisOrder_a hinv.1 hinv.2.1)) (by rw [upA_o (show (7 : Nat) ≠ 13 by decide), f_MisOrder_o (show (7 : Nat) ≠ 9 by decide) (by decide) (by decide) (by decide)]; exact hinv.2.1)) gX5_isText_X5_isAt mi_X5_isAt ⟨rfl, rfl⟩ ⟨Nat.le_of_ble_eq_true rfl, Nat.le_of_ble_eq_true rfl⟩ hK hP 0 rfl rfl ⟨Nat.le_refl _, Nat.le_refl _⟩ dX5_isText_45 rfl hl.1 rfl (Nat.le_of_ble_eq_true rfl) ?_
          refine lv_istore_n (lv' := [(1, .int (bI (f_MisAt (upA ((f_MisOrder y17_1).2) 13 0 (nI (((y17_1 13 0).toNatClampNeg) + 1))) (59 : Int32) (59 : Int32)))), (0, .ref h0)]) hx hb dX5_isText_48 rfl hl (by decide) rfl (fun ls hl => ?_)
          refine lv_aload_n hx hb dX5_isText_49 rfl (lv_at hl 1 rfl) ?_
          refine lv_dup hx hb dX5_isText_50 rfl ?_
          refine va_get (D := (dC, dI)) (ci := 5) (v := .int (((f_MisOrder y17_1).2) 9 0)) (C := RX5) (T := TX5) (N := 14) hx hb hts inX5 hown hK hP 0 rfl rfl 9 (by decide) (hts (.fieldLink RX5 126 "BoardMetronomesModel" "at" "I") (by decide +kernel)) (fun _ h9 => h9) (congrArg (fun z => some (Value.int z)) (show (upA ((f_MisOrder y17_1).2) 13 0 (nI (((y17_1 13 0).toNatClampNeg) + 1))) 9 0 = ((f_MisOrder y17_1).2) 9 0 by rw [upA_o (show (9 : Nat) ≠ 13 by decide)])) dX5_isText_51 ?_
          refine kt_i (kcl (f_MisOrder_a hinv.1 hinv.2.1)).symm ?_
          refine lv_iload_n hx hb dX5_isText_54 rfl (lv_at hl 0 rfl) ?_
          refine kb_eq (tgt := 62) hx hb dX5_isText_55 (by decide) (fun c_55 => ?_) (fun c_55 => ?_)
          · refine lv_iconst (v := (0 : Int32)) hx hb dX5_isText_62 (by decide) ?_
            refine k_iaddn (x := (((f_MisOrder y17_1).2) 9 0).toNatClampNeg) (y := 0) hx hb dX5_isText_63 ?_
            refine va_put (D := (dC, dI)) (ci := 5) (v := .int (nI (((((f_MisOrder y17_1).2) 9 0).toNatClampNeg) + 0))) (ty := .int) (C := RX5) (T := TX5) (N := 14) hx hb hts inX5 tyX5 tyX5_ok nmX5 hown hK hP hD hS 0 rfl rfl 9 (by decide) (hts (.fieldLink RX5 126 "BoardMetronomesModel" "at" "I") (by decide +kernel)) (fun _ h9 => h9) rfl (by decide +kernel) rfl rfl (Nat.le_of_ble_eq_true rfl) dX5_isText_64 (fun H locs hP hD hS => ?_)
            have hP : va_P (dC, dI) vwCl (MW cI cZ h0 q (upA (upA ((f_MisOrder y17_1).2) 13 0 (nI (((y17_1 13 0).toNatClampNeg) + 1))) 9 0 (nI (((((f_MisOrder y17_1).2) 9 0).toNatClampNeg) + 0)))) H := Eq.mp (congrArg (fun w => va_P (dC, dI) vwCl w H) MW_s9) hP
            have hD : va_D A0 (MW cI cZ h0 q (upA (upA ((f_MisOrder y17_1).2) 13 0 (nI (((y17_1 13 0).toNatClampNeg) + 1))) 9 0 (nI (((((f_MisOrder y17_1).2) 9 0).toNatClampNeg) + 0)))) := Eq.mp (congrArg (fun w => va_D A0 w) MW_s9) hD
            refine lv_goto (tgt := 17) hx hb dX5_isText_67 (by decide) ?_
            exact ih1 (j17_ + 1) (by omega) (f_MisAt (upA ((f_MisOrder y17_1).2) 13 0 (nI (((y17_1 13 0).toNatClampNeg) + 1))) (59 : Int32) (59 : Int32)) (upA (upA ((f_MisOrder y17_1).2) 13 0 (nI (((y17_1 13 0).toNatClampNeg) + 1))) 9 0 (nI (((((f_MisOrder y17_1).2) 9 0).toNatClampNeg) + 0))) ⟨by rw [upA_s]; exact vp_in_nI (by omega) (by decide), by rw [upA_o (show (7 : Nat) ≠ 9 by decide), upA_o (show (7 : Nat) ≠ 13 by decide), f_MisOrder_o (show (7 : Nat) ≠ 9 by decide) (by decide) (by decide) (by decide)]; exact hinv.2.1, by rw [upA_o (show (13 : Nat) ≠ 9 by decide), upA_s]; exact vp_in_nI (by omega) (by decide), fun z => absurd z c_55, by rw [upA_s, nI_clamp (by omega)]; omega⟩ (by rw [hv1, f_MisText_R17, if_pos c_18, if_pos c_25, if_neg c_55]) H locs ls hP hD hS (lv_sub hl [1, 0] rfl)
          · have c_55n : (((f_MisOrder y17_1).2) 9 0).toNatClampNeg < (y17_1 7 0).toNatClampNeg := by have z := f_MisAt_lt (by rw [upA_o (show (9 : Nat) ≠ 13 by decide)]; exact (f_MisOrder_a hinv.1 hinv.2.1)) (by rw [upA_o (show (7 : Nat) ≠ 13 by decide), f_MisOrder_o (show (7 : Nat) ≠ 9 by decide) (by decide) (by decide) (by decide)]; exact hinv.2.1) c_55; rw [upA_o (show (9 : Nat) ≠ 13 by decide), upA_o (show (7 : Nat) ≠ 13 by decide), f_MisOrder_o (show (7 : Nat) ≠ 9 by decide) (by decide) (by decide) (by decide)] at z; exact z
            refine lv_iconst (v := (1 : Int32)) hx hb dX5_isText_58 (by decide) ?_
            refine lv_goto (tgt := 63) hx hb dX5_isText_59 (by decide) ?_
            refine k_iaddn (x := (((f_MisOrder y17_1).2) 9 0).toNatClampNeg) (y := 1) hx hb dX5_isText_63 ?_
            refine va_put (D := (dC, dI)) (ci := 5) (v := .int (nI (((((f_MisOrder y17_1).2) 9 0).toNatClampNeg) + 1))) (ty := .int) (C := RX5) (T := TX5) (N := 14) hx hb hts inX5 tyX5 tyX5_ok nmX5 hown hK hP hD hS 0 rfl rfl 9 (by decide) (hts (.fieldLink RX5 126 "BoardMetronomesModel" "at" "I") (by decide +kernel)) (fun _ h9 => h9) rfl (by decide +kernel) rfl rfl (Nat.le_of_ble_eq_true rfl) dX5_isText_64 (fun H locs hP hD hS => ?_)
            have hP : va_P (dC, dI) vwCl (MW cI cZ h0 q (upA (upA ((f_MisOrder y17_1).2) 13 0 (nI (((y17_1 13 0).toNatClampNeg) + 1))) 9 0 (nI (((((f_MisOrder y17_1).2) 9 0).toNatClampNeg) + 1)))) H := Eq.mp (congrArg (fun w => va_P (dC, dI) vwCl w H) MW_s9) hP
            have hD : va_D A0 (MW cI cZ h0 q (upA (upA ((f_MisOrder y17_1).2) 13 0 (nI (((y17_1 13 0).toNatClampNeg) + 1))) 9 0 (nI (((((f_MisOrder y17_1).2) 9 0).toNatClampNeg) + 1)))) := Eq.mp (congrArg (fun w => va_D A0 w) MW_s9) hD
            refine lv_goto (tgt := 17) hx hb dX5_isText_67 (by decide) ?_
            exact ih1 (j17_ + 1) (by omega) (f_MisAt (upA ((f_MisOrder y17_1).2) 13 0 (nI (((y17_1 13 0).toNatClampNeg) + 1))) (59 : Int32) (59 : Int32)) (upA (upA ((f_MisOrder y17_1).2) 13 0 (nI (((y17_1 13 0).toNatClampNeg) + 1))) 9 0 (nI (((((f_MisOrder y17_1).2) 9 0).toNatClampNeg) + 1))) ⟨by rw [upA_s]; exact vp_in_nI (by omega) (by decide), by rw [upA_o (show (7 : Nat) ≠ 9 by decide), upA_o (show (7 : Nat) ≠ 13 by decide), f_MisOrder_o (show (7 : Nat) ≠ 9 by decide) (by decide) (by decide) (by decide)]; exact hinv.2.1, by rw [upA_o (show (13 : Nat) ≠ 9 by decide), upA_s]; exact vp_in_nI (by omega) (by decide), fun _ => by rw [upA_o (show (13 : Nat) ≠ 9 by decide), upA_s, upA_s, nI_clamp (by omega), nI_clamp (by omega)]; omega, by rw [upA_s, nI_clamp (by omega)]; omega⟩ (by rw [hv1, f_MisText_R17, if_pos c_18, if_pos c_25, if_pos c_55]) H locs ls hP hD hS (lv_sub hl [1, 0] rfl)
        · refine lv_iconst (v := (0 : Int32)) hx hb dX5_isText_28 (by decide) ?_
          have r6 : f_MisText u = (false, (f_MisOrder y17_1).2) := by
            rw [hv1, f_MisText_R17, if_pos c_18, if_neg c_25]
          exact kw_z (x := false) hx hb hr hlk hP hS dX5_isText_29 rfl (by rw [r6]) (by rw [r6])
  exact L1 61 0 (by omega) true (upA (upA (upA u 9 0 (0 : Int32)) 13 0 (0 : Int32)) 10 0 (0 : Int32)) ⟨by rw [upA_o (show (9 : Nat) ≠ 10 by decide), upA_o (show (9 : Nat) ≠ 13 by decide), upA_s]; exact vp_in_nI (n := 0) (by decide) (by decide), by rw [upA_o (show (7 : Nat) ≠ 10 by decide), upA_o (show (7 : Nat) ≠ 13 by decide), upA_o (show (7 : Nat) ≠ 9 by decide)]; exact ht, by rw [upA_o (show (13 : Nat) ≠ 10 by decide), upA_s]; exact vp_in_nI (n := 0) (by decide) (by decide), fun _ => by rw [upA_o (show (13 : Nat) ≠ 10 by decide), upA_s, upA_o (show (9 : Nat) ≠ 10 by decide), upA_o (show (9 : Nat) ≠ 13 by decide), upA_s]; decide, by rw [upA_o (show (9 : Nat) ≠ 10 by decide), upA_o (show (9 : Nat) ≠ 13 by decide), upA_s]; decide⟩ (by rw [f_MisText]) H locs ls hP hD hS (lv_sub hl [1, 0] rfl)

def rm_X5_firstError : Room := { frames := 6, cells := 0, slots := 0, locals := 130 }
theorem mi_X5_firstError : kM yX5_firstError wsX5_firstError cX5_firstError 2 (some .int) 0 := ⟨⟨_, rfl⟩, by decide, by decide, by decide +kernel⟩
def f_MfirstError (u : BS) : Int32 × BS := if ((f_MisText (upA u 8 0 (0 : Int32))).1) = true then (((f_MisText (upA u 8 0 (0 : Int32))).2) 7 0, (f_MisText (upA u 8 0 (0 : Int32))).2) else if (((f_MisText (upA u 8 0 (0 : Int32))).2) 10 0) = 0 then (((f_MisText (upA u 8 0 (0 : Int32))).2) 7 0, (f_MisText (upA u 8 0 (0 : Int32))).2) else (((f_MisText (upA u 8 0 (0 : Int32))).2) 9 0, (f_MisText (upA u 8 0 (0 : Int32))).2)
set_option maxHeartbeats 1000000 in
set_option maxRecDepth 100000 in
theorem c_X5_firstError (l : Launch) (dC : Nat → ClassId) (dI : Nat → Nat → Nat) (cI cZ cO : ClassId) (h0 : Nat) (q : Nat → Nat) (u : BS) (sz : Nat) (ht : vp_in (u 7 0) 61) : Met l yX5_firstError wsX5_firstError rm_X5_firstError (va_Pc [.ref h0] (fun U => U.heap.size = sz ∧ va_P (dC, dI) vwCl (MW cI cZ h0 q u) U.heap ∧ va_K (dC, dI) vwCl (TY cI cZ cO) U ∧ va_D (fun _ => True) (MW cI cZ h0 q u))) (kQw (some (.int (f_MfirstError u).1)) (dC, dI) vwCl (MW cI cZ h0 q ((f_MfirstError u).2)) (va_A (MW cI cZ h0 q u) sz)) 0 0 (va_A (MW cI cZ h0 q u) sz) := by
  refine kofW (cc := cX5_firstError) (maxL := 2) (ret := some .int) (by decide) rfl (Nat.le_of_ble_eq_true rfl) ?_
  intro p e s m args below meth c ls S hr hlk hnm hsz hP hK hD hS hA hl
  generalize hA0 : va_A (MW cI cZ h0 q u) sz = A0 at hD hS hA ⊢
  subst hsz
  obtain ⟨hx, hb, hml, hown, hts⟩ := id S
  have ht_n : (u 7 0).toNatClampNeg < 61 := vp_lt ht
  have inX5 : ∀ w ∈ wsX50, w ∈ wsX5_firstError := fun w h => List.mem_cons_of_mem _ (List.mem_append_right _ h)
  have hl : lv_has ls 2 [(0, .ref h0)] := hl
  refine lv_aload_n hx hb dX5_firstError_0 rfl (lv_at hl 0 rfl) ?_
  refine lv_iconst (v := (0 : Int32)) hx hb dX5_firstError_1 (by decide) ?_
  refine va_put (D := (dC, dI)) (ci := 5) (v := .int (0 : Int32)) (ty := .int) (C := RX5) (T := TX5) (N := 14) hx hb hts inX5 tyX5 tyX5_ok nmX5 hown hK hP hD hS 0 rfl rfl 8 (by decide) (hts (.fieldLink RX5 32 "BoardMetronomesModel" "thrown" "I") (by decide +kernel)) (fun _ h9 => h9) rfl (by decide +kernel) rfl rfl (Nat.le_of_ble_eq_true rfl) dX5_firstError_2 (fun H locs hP hD hS => ?_)
  have hP : va_P (dC, dI) vwCl (MW cI cZ h0 q (upA u 8 0 (0 : Int32))) H := Eq.mp (congrArg (fun w => va_P (dC, dI) vwCl w H) MW_s8) hP
  have hD : va_D A0 (MW cI cZ h0 q (upA u 8 0 (0 : Int32))) := Eq.mp (congrArg (fun w => va_D A0 w) MW_s8) hD
  refine lv_aload_n hx hb dX5_firstError_5 rfl (lv_at hl 0 rfl) ?_
  refine kc_w (As := []) (rest := []) S (v := (some (.int (bI ((f_MisText (upA u 8 0 (0 : Int32))).1))))) (c_X5_isText l dC dI cI cZ cO h0 q (upA u 8 0 (0 : Int32)) H.size (by rw [upA_o (show (7 : Nat) ≠ 8 by decide)]; exact ht)) gX5_firstError_X5_isText mi_X5_isText ⟨rfl, rfl⟩ ⟨Nat.le_of_ble_eq_true rfl, Nat.le_of_ble_eq_true rfl⟩ hK hP hD hS hA [0, 1, 2, 3, 4, 5, 6, 7] MW_all MW_fst rfl 0 rfl rfl ⟨Nat.le_refl _, Nat.le_refl _⟩ dX5_firstError_6 rfl hl.1 rfl (Nat.le_of_ble_eq_true rfl) (fun H locs hP hD hS => ?_)
  have hP : va_P (dC, dI) vwCl (MW cI cZ h0 q ((f_MisText (upA u 8 0 (0 : Int32))).2)) H := Eq.mp (congrArg (fun w => va_P (dC, dI) vwCl w H) MW_ks) hP
  have hD : va_D A0 (MW cI cZ h0 q ((f_MisText (upA u 8 0 (0 : Int32))).2)) := Eq.mp (congrArg (fun w => va_D A0 w) MW_ks) hD
  refine lv_istore_n (lv' := [(1, .int (bI ((f_MisText (upA u 8 0 (0 : Int32))).1))), (0, .ref h0)]) hx hb dX5_firstError_9 rfl hl (by decide) rfl (fun ls hl => ?_)
  refine lv_iload_n hx hb dX5_firstError_10 rfl (lv_at hl 0 rfl) ?_
  refine kb_ne (tgt := 28) hx hb dX5_firstError_11 (by decide) (fun c_11 => ?_) (fun c_11 => ?_)
  · refine lv_aload_n hx hb dX5_firstError_28 rfl (lv_at hl 1 rfl) ?_
    refine va_get (D := (dC, dI)) (ci := 5) (v := .int (((f_MisText (upA u 8 0 (0 : Int32))).2) 7 0)) (C := RX5) (T := TX5) (N := 14) hx hb hts inX5 hown hK hP 0 rfl rfl 7 (by decide) (hts (.fieldLink RX5 123 "BoardMetronomesModel" "typed" "I") (by decide +kernel)) (fun _ h9 => h9) rfl dX5_firstError_29 ?_
    have r1 : f_MfirstError u = (((f_MisText (upA u 8 0 (0 : Int32))).2) 7 0, (f_MisText (upA u 8 0 (0 : Int32))).2) := by
      rw [f_MfirstError, if_pos c_11]
    exact kw_i hx hb hr hlk hP hS dX5_firstError_32 (by rw [r1]) (by rw [r1])
  · refine lv_aload_n hx hb dX5_firstError_14 rfl (lv_at hl 1 rfl) ?_
    refine va_get (D := (dC, dI)) (ci := 5) (v := .int (((f_MisText (upA u 8 0 (0 : Int32))).2) 10 0)) (C := RX5) (T := TX5) (N := 14) hx hb hts inX5 hown hK hP 0 rfl rfl 10 (by decide) (hts (.fieldLink RX5 129 "BoardMetronomesModel" "isFault" "Z") (by decide +kernel)) (fun _ h9 => h9) rfl dX5_firstError_15 ?_
    refine lv_if_eq (tgt := 28) hx hb dX5_firstError_18 (by decide) (fun c_18 => ?_) (fun c_18 => ?_)
    · refine lv_aload_n hx hb dX5_firstError_28 rfl (lv_at hl 1 rfl) ?_
      refine va_get (D := (dC, dI)) (ci := 5) (v := .int (((f_MisText (upA u 8 0 (0 : Int32))).2) 7 0)) (C := RX5) (T := TX5) (N := 14) hx hb hts inX5 hown hK hP 0 rfl rfl 7 (by decide) (hts (.fieldLink RX5 123 "BoardMetronomesModel" "typed" "I") (by decide +kernel)) (fun _ h9 => h9) rfl dX5_firstError_29 ?_
      have r2 : f_MfirstError u = (((f_MisText (upA u 8 0 (0 : Int32))).2) 7 0, (f_MisText (upA u 8 0 (0 : Int32))).2) := by
        rw [f_MfirstError, if_neg c_11, if_pos c_18]
      exact kw_i hx hb hr hlk hP hS dX5_firstError_32 (by rw [r2]) (by rw [r2])
    · refine lv_aload_n hx hb dX5_firstError_21 rfl (lv_at hl 1 rfl) ?_
      refine va_get (D := (dC, dI)) (ci := 5) (v := .int (((f_MisText (upA u 8 0 (0 : Int32))).2) 9 0)) (C := RX5) (T := TX5) (N := 14) hx hb hts inX5 hown hK hP 0 rfl rfl 9 (by decide) (hts (.fieldLink RX5 126 "BoardMetronomesModel" "at" "I") (by decide +kernel)) (fun _ h9 => h9) rfl dX5_firstError_22 ?_
      refine lv_goto (tgt := 32) hx hb dX5_firstError_25 (by decide) ?_
      have r3 : f_MfirstError u = (((f_MisText (upA u 8 0 (0 : Int32))).2) 9 0, (f_MisText (upA u 8 0 (0 : Int32))).2) := by
        rw [f_MfirstError, if_neg c_11, if_neg c_18]
      exact kw_i hx hb hr hlk hP hS dX5_firstError_32 (by rw [r3]) (by rw [r3])

def rm_X5_does : Room := { frames := 5, cells := 0, slots := 0, locals := 116 }
theorem mi_X5_does : kM yX5_does wsX5_does cX5_does 3 (some .boolean) 1 := ⟨⟨_, rfl⟩, by decide, by decide, by decide +kernel⟩
def f_Mdoes (u : BS) (k0 : Nat) : Bool × BS := if (u 12 (4 * k0)) = (109 : Int32) then (if (nI ((u 0 3).toNatClampNeg)) = (6 : Int32) then (false, u) else (true, (f_Mcomes u (u 12 (4 * k0 + 1)) (u 12 (4 * k0 + 2)) (u 12 (4 * k0 + 3))).2)) else if (u 12 (4 * k0)) = (115 : Int32) then (if (f_MmayRun u (u 12 (4 * k0 + 1))) = true then (true, upR u 0 (f_Msteps (u 0) (u 12 (4 * k0 + 1)))) else (false, u)) else if (f_MisArm u (u 12 (4 * k0 + 1))) = true then (true, (f_Mholds u ((u 12 (4 * k0 + 1)).toNatClampNeg)).2) else (false, u)
set_option maxHeartbeats 1000000 in
set_option maxRecDepth 100000 in
theorem c_X5_does (l : Launch) (dC : Nat → ClassId) (dI : Nat → Nat → Nat) (cI cZ cO : ClassId) (h0 : Nat) (q : Nat → Nat) (u : BS) (k0 : Nat) (sz : Nat) (hk0 : k0 < 31) (hs : vp_in (u 0 3) 7) : Met l yX5_does wsX5_does rm_X5_does (va_Pc [.ref h0, .int (nI k0)] (fun U => U.heap.size = sz ∧ va_P (dC, dI) vwCl (MW cI cZ h0 q u) U.heap ∧ va_K (dC, dI) vwCl (TY cI cZ cO) U ∧ va_D (fun _ => True) (MW cI cZ h0 q u))) (kQw (some (.int (bI (f_Mdoes u k0).1))) (dC, dI) vwCl (MW cI cZ h0 q ((f_Mdoes u k0).2)) (va_A (MW cI cZ h0 q u) sz)) 0 0 (va_A (MW cI cZ h0 q u) sz) := by
  refine kofW (cc := cX5_does) (maxL := 3) (ret := some .boolean) (by decide) rfl (Nat.le_of_ble_eq_true rfl) ?_
  intro p e s m args below meth c ls S hr hlk hnm hsz hP hK hD hS hA hl
  generalize hA0 : va_A (MW cI cZ h0 q u) sz = A0 at hD hS hA ⊢
  subst hsz
  obtain ⟨hx, hb, hml, hown, hts⟩ := id S
  have hs_n : (u 0 3).toNatClampNeg < 7 := vp_lt hs
  have inX5 : ∀ w ∈ wsX50, w ∈ wsX5_does := fun w h => List.mem_cons_of_mem _ (List.mem_append_right _ h)
  have hl : lv_has ls 3 [(0, .ref h0), (1, .int (nI k0))] := hl
  refine lv_aload_n hx hb dX5_does_0 rfl (lv_at hl 0 rfl) ?_
  refine va_get (D := (dC, dI)) (ci := 5) (v := .ref (q 12)) (C := RX5) (T := TX5) (N := 14) hx hb hts inX5 hown hK hP 0 rfl rfl 12 (by decide) (hts (.fieldLink RX5 29 "BoardMetronomesModel" "told" "[I") (by decide +kernel)) (fun _ h9 => h9) rfl dX5_does_1 ?_
  refine lv_iconst (v := (4 : Int32)) hx hb dX5_does_4 (by decide) ?_
  refine lv_iload_n hx hb dX5_does_5 rfl (lv_at hl 1 rfl) ?_
  refine k_imuln (x := 4) (y := k0) hx hb dX5_does_6 ?_
  refine lv_iconst (v := (1 : Int32)) hx hb dX5_does_7 (by decide) ?_
  refine k_iaddn (x := 4 * k0) (y := 1) hx hb dX5_does_8 ?_
  refine k_iald (D := (dC, dI)) hx hb hK hP 7 0 rfl rfl (j := (4 * k0 + 1)) (by omega) (by decide) dX5_does_9 ?_
  refine lv_istore_n (lv' := [(2, .int (u 12 (4 * k0 + 1))), (0, .ref h0), (1, .int (nI k0))]) hx hb dX5_does_10 rfl hl (by decide) rfl (fun ls hl => ?_)
  refine lv_aload_n hx hb dX5_does_11 rfl (lv_at hl 1 rfl) ?_
  refine va_get (D := (dC, dI)) (ci := 5) (v := .ref (q 12)) (C := RX5) (T := TX5) (N := 14) hx hb hts inX5 hown hK hP 0 rfl rfl 12 (by decide) (hts (.fieldLink RX5 29 "BoardMetronomesModel" "told" "[I") (by decide +kernel)) (fun _ h9 => h9) rfl dX5_does_12 ?_
  refine lv_iconst (v := (4 : Int32)) hx hb dX5_does_15 (by decide) ?_
  refine lv_iload_n hx hb dX5_does_16 rfl (lv_at hl 2 rfl) ?_
  refine k_imuln (x := 4) (y := k0) hx hb dX5_does_17 ?_
  refine k_iald (D := (dC, dI)) hx hb hK hP 7 0 rfl rfl (j := (4 * k0)) (by omega) (by decide) dX5_does_18 ?_
  by_cases c_19_109 : (u 12 (4 * k0)) = (109 : Int32)
  · refine lv_lookup (off := 25) (tgt := 44) hx hb dX5_does_19 (by decide) (by rw [c_19_109]; rfl) (by decide) ?_
    refine lv_aload_n hx hb dX5_does_44 rfl (lv_at hl 1 rfl) ?_
    refine va_get (D := (dC, dI)) (ci := 5) (v := .ref (q 0)) (C := RX5) (T := TX5) (N := 14) hx hb hts inX5 hown hK hP 0 rfl rfl 0 (by decide) (hts (.fieldLink RX5 7 "BoardMetronomesModel" "now" "[I") (by decide +kernel)) (fun _ h9 => h9) rfl dX5_does_45 ?_
    refine lv_iconst (v := (3 : Int32)) hx hb dX5_does_48 (by decide) ?_
    refine k_iald (D := (dC, dI)) hx hb hK hP 1 0 rfl rfl (j := 3) (by omega) (by decide) dX5_does_49 ?_
    refine kt_i (kcl hs).symm ?_
    refine lv_bipush (v := (6 : Int32)) hx hb dX5_does_50 (by decide) ?_
    refine lv_icmp_ne (tgt := 57) hx hb dX5_does_52 (by decide) (fun c_52 => ?_) (fun c_52 => ?_)
    · have c_52n : ¬ ((u 0 3).toNatClampNeg) = 6 := fun z => c_52 ((nI_eq (a := ((u 0 3).toNatClampNeg)) (b := 6) (by omega) (by omega)).mpr z)
      refine lv_aload_n hx hb dX5_does_57 rfl (lv_at hl 1 rfl) ?_
      refine lv_iload_n hx hb dX5_does_58 rfl (lv_at hl 0 rfl) ?_
      refine lv_aload_n hx hb dX5_does_59 rfl (lv_at hl 1 rfl) ?_
      refine va_get (D := (dC, dI)) (ci := 5) (v := .ref (q 12)) (C := RX5) (T := TX5) (N := 14) hx hb hts inX5 hown hK hP 0 rfl rfl 12 (by decide) (hts (.fieldLink RX5 29 "BoardMetronomesModel" "told" "[I") (by decide +kernel)) (fun _ h9 => h9) rfl dX5_does_60 ?_
      refine lv_iconst (v := (4 : Int32)) hx hb dX5_does_63 (by decide) ?_
      refine lv_iload_n hx hb dX5_does_64 rfl (lv_at hl 2 rfl) ?_
      refine k_imuln (x := 4) (y := k0) hx hb dX5_does_65 ?_
      refine lv_iconst (v := (2 : Int32)) hx hb dX5_does_66 (by decide) ?_
      refine k_iaddn (x := 4 * k0) (y := 2) hx hb dX5_does_67 ?_
      refine k_iald (D := (dC, dI)) hx hb hK hP 7 0 rfl rfl (j := (4 * k0 + 2)) (by omega) (by decide) dX5_does_68 ?_
      refine lv_aload_n hx hb dX5_does_69 rfl (lv_at hl 1 rfl) ?_
      refine va_get (D := (dC, dI)) (ci := 5) (v := .ref (q 12)) (C := RX5) (T := TX5) (N := 14) hx hb hts inX5 hown hK hP 0 rfl rfl 12 (by decide) (hts (.fieldLink RX5 29 "BoardMetronomesModel" "told" "[I") (by decide +kernel)) (fun _ h9 => h9) rfl dX5_does_70 ?_
      refine lv_iconst (v := (4 : Int32)) hx hb dX5_does_73 (by decide) ?_
      refine lv_iload_n hx hb dX5_does_74 rfl (lv_at hl 2 rfl) ?_
      refine k_imuln (x := 4) (y := k0) hx hb dX5_does_75 ?_
      refine lv_iconst (v := (3 : Int32)) hx hb dX5_does_76 (by decide) ?_
      refine k_iaddn (x := 4 * k0) (y := 3) hx hb dX5_does_77 ?_
      refine k_iald (D := (dC, dI)) hx hb hK hP 7 0 rfl rfl (j := (4 * k0 + 3)) (by omega) (by decide) dX5_does_78 ?_
      refine kc_w (As := [.int (u 12 (4 * k0 + 1)), .int (u 12 (4 * k0 + 2)), .int (u 12 (4 * k0 + 3))]) (rest := []) S (v := (some (.int ((f_Mcomes u (u 12 (4 * k0 + 1)) (u 12 (4 * k0 + 2)) (u 12 (4 * k0 + 3))).1)))) (c_X5_comes l dC dI cI cZ cO h0 q u (u 12 (4 * k0 + 1)) (u 12 (4 * k0 + 2)) (u 12 (4 * k0 + 3)) s.heap.size (vp_lt5 hs c_52n)) gX5_does_X5_comes mi_X5_comes ⟨rfl, rfl⟩ ⟨Nat.le_of_ble_eq_true rfl, Nat.le_of_ble_eq_true rfl⟩ hK hP hD hS hA [0, 1, 2, 3, 4, 5, 6, 7] MW_all MW_fst rfl 0 rfl rfl ⟨Nat.le_refl _, Nat.le_refl _⟩ dX5_does_79 rfl hl.1 rfl (Nat.le_of_ble_eq_true rfl) (fun H locs hP hD hS => ?_)
      have hP : va_P (dC, dI) vwCl (MW cI cZ h0 q ((f_Mcomes u (u 12 (4 * k0 + 1)) (u 12 (4 * k0 + 2)) (u 12 (4 * k0 + 3))).2)) H := Eq.mp (congrArg (fun w => va_P (dC, dI) vwCl w H) MW_ks) hP
      have hD : va_D A0 (MW cI cZ h0 q ((f_Mcomes u (u 12 (4 * k0 + 1)) (u 12 (4 * k0 + 2)) (u 12 (4 * k0 + 3))).2)) := Eq.mp (congrArg (fun w => va_D A0 w) MW_ks) hD
      refine lv_pop hx hb dX5_does_82 rfl ?_
      refine lv_iconst (v := (1 : Int32)) hx hb dX5_does_83 (by decide) ?_
      have r1 : f_Mdoes u k0 = (true, (f_Mcomes u (u 12 (4 * k0 + 1)) (u 12 (4 * k0 + 2)) (u 12 (4 * k0 + 3))).2) := by
        rw [f_Mdoes, if_pos c_19_109, if_neg c_52]
      exact kw_z (x := true) hx hb hr hlk hP hS dX5_does_84 rfl (by rw [r1]) (by rw [r1])
    · have c_52n : ((u 0 3).toNatClampNeg) = 6 := (nI_eq (a := ((u 0 3).toNatClampNeg)) (b := 6) (by omega) (by omega)).mp c_52
      refine lv_iconst (v := (0 : Int32)) hx hb dX5_does_55 (by decide) ?_
      have r2 : f_Mdoes u k0 = (false, u) := by
        rw [f_Mdoes, if_pos c_19_109, if_pos c_52]
      exact kw_z (x := false) hx hb hr hlk hP hS dX5_does_56 rfl (by rw [r2]) (by rw [r2])
  by_cases c_19_115 : (u 12 (4 * k0)) = (115 : Int32)
  · refine lv_lookup (off := 66) (tgt := 85) hx hb dX5_does_19 (by decide) (by rw [c_19_115]; rfl) (by decide) ?_
    refine lv_aload_n hx hb dX5_does_85 rfl (lv_at hl 1 rfl) ?_
    refine lv_iload_n hx hb dX5_does_86 rfl (lv_at hl 0 rfl) ?_
    refine kc_v (As := [.int (u 12 (4 * k0 + 1))]) (rest := []) S (v := .int (bI (f_MmayRun u (u 12 (4 * k0 + 1))))) (c_X5_mayRun l dC dI cI cZ cO h0 q u (u 12 (4 * k0 + 1))) gX5_does_X5_mayRun mi_X5_mayRun ⟨rfl, rfl⟩ ⟨Nat.le_of_ble_eq_true rfl, Nat.le_of_ble_eq_true rfl⟩ hK hP 0 rfl rfl ⟨Nat.le_refl _, Nat.le_refl _⟩ dX5_does_87 rfl hl.1 rfl (Nat.le_of_ble_eq_true rfl) ?_
    refine kb_ne (tgt := 95) hx hb dX5_does_90 (by decide) (fun c_90 => ?_) (fun c_90 => ?_)
    · refine lv_aload_n hx hb dX5_does_95 rfl (lv_at hl 1 rfl) ?_
      refine va_get (D := (dC, dI)) (ci := 5) (v := .ref (q 0)) (C := RX5) (T := TX5) (N := 14) hx hb hts inX5 hown hK hP 0 rfl rfl 0 (by decide) (hts (.fieldLink RX5 7 "BoardMetronomesModel" "now" "[I") (by decide +kernel)) (fun _ h9 => h9) rfl dX5_does_96 ?_
      refine lv_iload_n hx hb dX5_does_99 rfl (lv_at hl 0 rfl) ?_
      refine kc_sw (y := yX5_steps) (As := [.ref (q 0), .int (u 12 (4 * k0 + 1))]) (rest := []) rfl S (v := none) (c_X5_steps l dC dI cI cZ cO (q 0) (u 0) (u 12 (4 * k0 + 1)) s.heap.size hs) gX5_does_X5_steps mi_X5_steps ⟨rfl, rfl⟩ ⟨Nat.le_of_ble_eq_true rfl, Nat.le_of_ble_eq_true rfl⟩ hK hP hD hS hA [1] (MW_all0 rfl) AW_fst rfl ⟨Nat.le_refl _, Nat.le_refl _⟩ dX5_does_100 rfl hl.1 rfl (Nat.le_of_ble_eq_true rfl) (fun H locs hP hD hS => ?_)
      have hP : va_P (dC, dI) vwCl (MW cI cZ h0 q (upR u 0 (f_Msteps (u 0) (u 12 (4 * k0 + 1))))) H := Eq.mp (congrArg (fun w => va_P (dC, dI) vwCl w H) MW_r0) hP
      have hD : va_D A0 (MW cI cZ h0 q (upR u 0 (f_Msteps (u 0) (u 12 (4 * k0 + 1))))) := Eq.mp (congrArg (fun w => va_D A0 w) MW_r0) hD
      refine lv_iconst (v := (1 : Int32)) hx hb dX5_does_103 (by decide) ?_
      have r3 : f_Mdoes u k0 = (true, upR u 0 (f_Msteps (u 0) (u 12 (4 * k0 + 1)))) := by
        rw [f_Mdoes, if_neg c_19_109, if_pos c_19_115, if_pos c_90]
      exact kw_z (x := true) hx hb hr hlk hP hS dX5_does_104 rfl (by rw [r3]) (by rw [r3])
    · refine lv_iconst (v := (0 : Int32)) hx hb dX5_does_93 (by decide) ?_
      have r4 : f_Mdoes u k0 = (false, u) := by
        rw [f_Mdoes, if_neg c_19_109, if_pos c_19_115, if_neg c_90]
      exact kw_z (x := false) hx hb hr hlk hP hS dX5_does_94 rfl (by rw [r4]) (by rw [r4])
  refine lv_lookup (off := 86) (tgt := 105) hx hb dX5_does_19 (by decide) (by rw [lv_osw (a := 109) (k := (109 : Int32)) c_19_109 (by decide)]; rw [lv_osw (a := 115) (k := (115 : Int32)) c_19_115 (by decide)]; rfl) (by decide) ?_
  refine lv_aload_n hx hb dX5_does_105 rfl (lv_at hl 1 rfl) ?_
  refine lv_iload_n hx hb dX5_does_106 rfl (lv_at hl 0 rfl) ?_
  refine kc_v (As := [.int (u 12 (4 * k0 + 1))]) (rest := []) S (v := .int (bI (f_MisArm u (u 12 (4 * k0 + 1))))) (c_X5_isArm l dC dI cI cZ cO h0 q u (u 12 (4 * k0 + 1))) gX5_does_X5_isArm mi_X5_isArm ⟨rfl, rfl⟩ ⟨Nat.le_of_ble_eq_true rfl, Nat.le_of_ble_eq_true rfl⟩ hK hP 0 rfl rfl ⟨Nat.le_refl _, Nat.le_refl _⟩ dX5_does_107 rfl hl.1 rfl (Nat.le_of_ble_eq_true rfl) ?_
  refine kb_ne (tgt := 115) hx hb dX5_does_110 (by decide) (fun c_110 => ?_) (fun c_110 => ?_)
  · refine lv_aload_n hx hb dX5_does_115 rfl (lv_at hl 1 rfl) ?_
    refine lv_iload_n hx hb dX5_does_116 rfl (lv_at hl 0 rfl) ?_
    refine kc_w (As := [.int (nI ((u 12 (4 * k0 + 1)).toNatClampNeg))]) (rest := []) S (v := (some (.int ((f_Mholds u ((u 12 (4 * k0 + 1)).toNatClampNeg)).1)))) (c_X5_holds l dC dI cI cZ cO h0 q u ((u 12 (4 * k0 + 1)).toNatClampNeg) s.heap.size (vp_lt (f_MisArm_vp hs c_110))) gX5_does_X5_holds mi_X5_holds ⟨rfl, rfl⟩ ⟨Nat.le_of_ble_eq_true rfl, Nat.le_of_ble_eq_true rfl⟩ hK hP hD hS hA [0, 1, 2, 3, 4, 5, 6, 7] MW_all MW_fst rfl 0 rfl rfl ⟨Nat.le_refl _, Nat.le_refl _⟩ dX5_does_117 rfl hl.1 (by rw [kcl (f_MisArm_vp hs c_110)]; rfl) (Nat.le_of_ble_eq_true rfl) (fun H locs hP hD hS => ?_)
    have hP : va_P (dC, dI) vwCl (MW cI cZ h0 q ((f_Mholds u ((u 12 (4 * k0 + 1)).toNatClampNeg)).2)) H := Eq.mp (congrArg (fun w => va_P (dC, dI) vwCl w H) MW_ks) hP
    have hD : va_D A0 (MW cI cZ h0 q ((f_Mholds u ((u 12 (4 * k0 + 1)).toNatClampNeg)).2)) := Eq.mp (congrArg (fun w => va_D A0 w) MW_ks) hD
    refine lv_pop hx hb dX5_does_120 rfl ?_
    refine lv_iconst (v := (1 : Int32)) hx hb dX5_does_121 (by decide) ?_
    have r5 : f_Mdoes u k0 = (true, (f_Mholds u ((u 12 (4 * k0 + 1)).toNatClampNeg)).2) := by
      rw [f_Mdoes, if_neg c_19_109, if_neg c_19_115, if_pos c_110]
    exact kw_z (x := true) hx hb hr hlk hP hS dX5_does_122 rfl (by rw [r5]) (by rw [r5])
  · refine lv_iconst (v := (0 : Int32)) hx hb dX5_does_113 (by decide) ?_
    have r6 : f_Mdoes u k0 = (false, u) := by
      rw [f_Mdoes, if_neg c_19_109, if_neg c_19_115, if_neg c_110]
    exact kw_z (x := false) hx hb hr hlk hP hS dX5_does_114 rfl (by rw [r6]) (by rw [r6])

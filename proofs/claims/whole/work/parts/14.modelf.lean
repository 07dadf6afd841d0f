theorem f_MisText_R_o {u : BS} {r : Nat} (h9 : r ≠ 9) (h10 : r ≠ 10) (h11 : r ≠ 11) (h12 : r ≠ 12) (h13 : r ≠ 13) (n : Nat) : ∀ (j : Nat) (b : Bool) (y : BS), (f_MisText_R17 u n j b y).2 r = y r := by
  have ho : ∀ (v : BS), (f_MisOrder v).2 r = v r := fun v => f_MisOrder_o h9 h10 h11 h12
  have hu9 : ∀ (v : BS) (j : Nat) (x : Int32), upA v 9 j x r = v r := fun v j x => upA_o h9
  have hu10 : ∀ (v : BS) (j : Nat) (x : Int32), upA v 10 j x r = v r := fun v j x => upA_o h10
  have hu13 : ∀ (v : BS) (j : Nat) (x : Int32), upA v 13 j x r = v r := fun v j x => upA_o h13
  induction n with
  | zero => intro j b y; rw [f_MisText_R17]
  | succ n ih =>
    intro j b y
    rw [f_MisText_R17]
    generalize f_MisText_R17 u n = R at ih ⊢
    generalize f_MisOrder = O at ho ⊢
    generalize f_MisAt = T
    generalize upA = A at hu9 hu10 hu13 ⊢
    repeat' split
    all_goals (try dsimp only)
    all_goals simp only [ih, ho, hu9, hu10, hu13]
theorem f_MisText_o {u : BS} {r : Nat} (h9 : r ≠ 9) (h10 : r ≠ 10) (h11 : r ≠ 11) (h12 : r ≠ 12) (h13 : r ≠ 13) : (f_MisText u).2 r = u r := by
  rw [f_MisText, f_MisText_R_o h9 h10 h11 h12 h13, upA_o h10, upA_o h13, upA_o h9]
theorem f_MisText_R_d {u : BS} (n : Nat) : ∀ (j : Nat) (b : Bool) (y : BS), vp_in (y 9 0) 61 → vp_in (y 7 0) 61 → vp_in (y 13 0) 31 → (b = true → 3 * (y 13 0).toNatClampNeg ≤ (y 9 0).toNatClampNeg) → vp_in ((f_MisText_R17 u n j b y).2 13 0) 31 := by
  induction n with
  | zero => intro j b y ha ht hd hb; rw [f_MisText_R17]; exact hd
  | succ n ih =>
    intro j b y ha ht hd hb
    have h9 := vp_lt ha
    rw [f_MisText_R17]
    by_cases c1 : b = true
    · rw [if_pos c1]
      have h3 := hb c1
      have hO := f_MisOrder_PG ha ht
      have hO13 : (f_MisOrder y).2 13 = y 13 := f_MisOrder_o (by decide) (by decide) (by decide) (by decide)
      by_cases c2 : (f_MisOrder y).1 = true
      · rw [if_pos c2]
        have hA := hO.2 c2
        have hO1 := hO.1
        generalize (f_MisOrder y).2 = w at hO1 hO13 hA ⊢
        have h91 := vp_lt hO1.1
        have hd2 : vp_in ((upA w 13 0 (nI ((y 13 0).toNatClampNeg + 1))) 13 0) 31 := by rw [upA_s]; exact vp_in_nI (by omega) (by decide)
        have ht2 : vp_in (w 7 0) 61 := by rw [hO1.2.2]; exact ht
        by_cases c3 : f_MisAt (upA w 13 0 (nI ((y 13 0).toNatClampNeg + 1))) (59 : Int32) (59 : Int32) = true
        · rw [if_pos c3]
          have l := f_MisAt_lt (by rw [upA_o (by decide)]; exact hO1.1) (by rw [upA_o (by decide)]; exact ht2) c3
          rw [upA_o (by decide), upA_o (by decide)] at l
          have h7 := vp_lt ht2
          refine ih _ _ _ ?_ ?_ ?_ ?_
          · rw [upA_s]; exact vp_in_nI (by omega) (by decide)
          · rw [upA_o (by decide), upA_o (by decide)]; exact ht2
          · rw [upA_o (by decide)]; exact hd2
          · intro _
            rw [upA_o (by decide), upA_s, upA_s, nI_clamp (by omega), nI_clamp (by omega)]
            omega
        · rw [if_neg c3]
          refine ih _ _ _ ?_ ?_ ?_ ?_
          · rw [upA_s]; exact vp_in_nI (by omega) (by decide)
          · rw [upA_o (by decide), upA_o (by decide)]; exact ht2
          · rw [upA_o (by decide)]; exact hd2
          · intro z; exact absurd z c3
      · rw [if_neg c2]
        dsimp only
        rw [hO13]; exact hd
    · rw [if_neg c1]
      repeat' split
      all_goals (dsimp only; rw [upA_o (by decide)]; exact hd)
theorem f_MisText_d {u : BS} (ht : vp_in (u 7 0) 61) : vp_in ((f_MisText u).2 13 0) 31 := by
  rw [f_MisText]
  refine f_MisText_R_d 61 0 true _ ?_ ?_ ?_ ?_
  · rw [upA_o (by decide), upA_o (by decide), upA_s]; exact vp_in_nI (n := 0) (by decide) (by decide)
  · rw [upA_o (by decide), upA_o (by decide), upA_o (by decide)]; exact ht
  · rw [upA_o (by decide), upA_s]; exact vp_in_nI (n := 0) (by decide) (by decide)
  · intro _
    rw [upA_o (show (13 : Nat) ≠ 10 by decide), upA_s, upA_o (show (9 : Nat) ≠ 10 by decide), upA_o (show (9 : Nat) ≠ 13 by decide), upA_s]
    decide
theorem f_Mcomes_o {u : BS} {p0 p1 p2 : Int32} {r : Nat} (h : r ≠ 0) : (f_Mcomes u p0 p1 p2).2 r = u r := by
  rw [f_Mcomes]; dsimp only; rw [upA_o h, upA_o h, upA_o h, upA_o h, upA_o h, upA_o h]
theorem f_Mcomes_3 {u : BS} {p0 p1 p2 : Int32} : (f_Mcomes u p0 p1 p2).2 0 3 = u 0 3 + 1 := by
  rw [f_Mcomes]; dsimp only
  rw [upA_s, upA_i (by omega), upA_i (by omega), upA_i (by omega), upA_i (by omega), upA_i (by omega)]
theorem f_Mdoes_o {u : BS} {k0 r : Nat} (h : r ≠ 0) : (f_Mdoes u k0).2 r = u r := by
  unfold f_Mdoes
  repeat' split
  all_goals first
    | rfl
    | exact f_Mcomes_o h
    | exact upR_o h
    | (rw [f_Mholds]; exact upA_o h)
theorem f_Mdoes_s {u : BS} {k0 : Nat} (hs : vp_in (u 0 3) 7) : vp_in ((f_Mdoes u k0).2 0 3) 7 := by
  have h7 := vp_lt hs
  unfold f_Mdoes
  by_cases c1 : u 12 (4 * k0) = (109 : Int32)
  · rw [if_pos c1]
    by_cases c2 : nI (u 0 3).toNatClampNeg = (6 : Int32)
    · rw [if_pos c2]; exact hs
    · rw [if_neg c2]
      dsimp only
      rw [f_Mcomes_3, ← kcl hs, nI_1]
      have c3 : ¬ (u 0 3).toNatClampNeg = 6 := fun z => c2 (by rw [z]; rfl)
      exact vp_in_nI (by omega) (by decide)
  · rw [if_neg c1]
    by_cases c2 : u 12 (4 * k0) = (115 : Int32)
    · rw [if_pos c2]
      split
      · dsimp only; rw [upR_s, f_Msteps3]; exact hs
      · exact hs
    · rw [if_neg c2]
      split
      · rw [f_Mholds]; dsimp only; rw [upA_i (by omega)]; exact hs
      · exact hs

def rm_X5_play : Room := { frames := 6, cells := 0, slots := 0, locals := 138 }
theorem mi_X5_play : kM yX5_play wsX5_play cX5_play 2 (some .int) 0 := ⟨⟨_, rfl⟩, by decide, by decide, by decide +kernel⟩
def f_Mplay_R29 (u : BS) : Nat → Nat → BS → Int32 × BS
  | 0, j29_, y29_0 => (nI j29_, y29_0)
  | n + 1, j29_, y29_0 => if ((f_Mdoes y29_0 j29_).1) = true then (f_Mplay_R29 u n (j29_ + 1) ((f_Mdoes y29_0 j29_).2)) else (nI j29_, (f_Mdoes y29_0 j29_).2)
def f_Mplay (u : BS) : Int32 × BS := if ((f_MisText (upA u 8 0 (0 : Int32))).1) = true then (f_Mplay_R29 u ((((f_MisText (upA u 8 0 (0 : Int32))).2) 13 0).toNatClampNeg) 0 (upA (f_Msaves ((f_MisText (upA u 8 0 (0 : Int32))).2)) 7 0 (0 : Int32))) else ((f_Mfails ((f_MisText (upA u 8 0 (0 : Int32))).2) (1 : Int32)).1, (f_Mfails ((f_MisText (upA u 8 0 (0 : Int32))).2) (1 : Int32)).2)
set_option maxHeartbeats 1000000 in
set_option maxRecDepth 100000 in
theorem c_X5_play (l : Launch) (dC : Nat → ClassId) (dI : Nat → Nat → Nat) (cI cZ cO : ClassId) (h0 : Nat) (q : Nat → Nat) (u : BS) (sz : Nat) (hk : vp_in (u 3 0) 7) (hs : vp_in (u 0 3) 7) (ht : vp_in (u 7 0) 61) : Met l yX5_play wsX5_play rm_X5_play (va_Pc [.ref h0] (fun U => U.heap.size = sz ∧ va_P (dC, dI) vwCl (MW cI cZ h0 q u) U.heap ∧ va_K (dC, dI) vwCl (TY cI cZ cO) U ∧ va_D (fun _ => True) (MW cI cZ h0 q u))) (kQw (some (.int (f_Mplay u).1)) (dC, dI) vwCl (MW cI cZ h0 q ((f_Mplay u).2)) (va_A (MW cI cZ h0 q u) sz)) 0 0 (va_A (MW cI cZ h0 q u) sz) := by
  refine kofW (cc := cX5_play) (maxL := 2) (ret := some .int) (by decide) rfl (Nat.le_of_ble_eq_true rfl) ?_
  intro p e s m args below meth c ls S hr hlk hnm hsz hP hK hD hS hA hl
  generalize hA0 : va_A (MW cI cZ h0 q u) sz = A0 at hD hS hA ⊢
  subst hsz
  obtain ⟨hx, hb, hml, hown, hts⟩ := id S
  have hk_n : (u 3 0).toNatClampNeg < 7 := vp_lt hk
  have hs_n : (u 0 3).toNatClampNeg < 7 := vp_lt hs
  have ht_n : (u 7 0).toNatClampNeg < 61 := vp_lt ht
  obtain ⟨T, hTe⟩ : ∃ T : Int32, T = ((f_MisText (upA u 8 0 (0 : Int32))).2) 13 0 := ⟨_, rfl⟩
  have hT := f_MisText_d (u := upA u 8 0 (0 : Int32)) (by rw [upA_o (show (7 : Nat) ≠ 8 by decide)]; exact ht)
  rw [← hTe] at hT
  have hT2 := vp_lt hT
  have inX5 : ∀ w ∈ wsX50, w ∈ wsX5_play := fun w h => List.mem_cons_of_mem _ (List.mem_append_right _ h)
  have hl : lv_has ls 2 [(0, .ref h0)] := hl
  refine lv_aload_n hx hb dX5_play_0 rfl (lv_at hl 0 rfl) ?_
  refine lv_iconst (v := (0 : Int32)) hx hb dX5_play_1 (by decide) ?_
  refine va_put (D := (dC, dI)) (ci := 5) (v := .int (0 : Int32)) (ty := .int) (C := RX5) (T := TX5) (N := 14) hx hb hts inX5 tyX5 tyX5_ok nmX5 hown hK hP hD hS 0 rfl rfl 8 (by decide) (hts (.fieldLink RX5 32 "BoardMetronomesModel" "thrown" "I") (by decide +kernel)) (fun _ h9 => h9) rfl (by decide +kernel) rfl rfl (Nat.le_of_ble_eq_true rfl) dX5_play_2 (fun H locs hP hD hS => ?_)
  have hP : va_P (dC, dI) vwCl (MW cI cZ h0 q (upA u 8 0 (0 : Int32))) H := Eq.mp (congrArg (fun w => va_P (dC, dI) vwCl w H) MW_s8) hP
  have hD : va_D A0 (MW cI cZ h0 q (upA u 8 0 (0 : Int32))) := Eq.mp (congrArg (fun w => va_D A0 w) MW_s8) hD
  refine lv_aload_n hx hb dX5_play_5 rfl (lv_at hl 0 rfl) ?_
  refine kc_w (As := []) (rest := []) S (v := (some (.int (bI ((f_MisText (upA u 8 0 (0 : Int32))).1))))) (c_X5_isText l dC dI cI cZ cO h0 q (upA u 8 0 (0 : Int32)) H.size (by rw [upA_o (show (7 : Nat) ≠ 8 by decide)]; exact ht)) gX5_play_X5_isText mi_X5_isText ⟨rfl, rfl⟩ ⟨Nat.le_of_ble_eq_true rfl, Nat.le_of_ble_eq_true rfl⟩ hK hP hD hS hA [0, 1, 2, 3, 4, 5, 6, 7] MW_all MW_fst rfl 0 rfl rfl ⟨Nat.le_refl _, Nat.le_refl _⟩ dX5_play_6 rfl hl.1 rfl (Nat.le_of_ble_eq_true rfl) (fun H locs hP hD hS => ?_)
  have hP : va_P (dC, dI) vwCl (MW cI cZ h0 q ((f_MisText (upA u 8 0 (0 : Int32))).2)) H := Eq.mp (congrArg (fun w => va_P (dC, dI) vwCl w H) MW_ks) hP
  have hD : va_D A0 (MW cI cZ h0 q ((f_MisText (upA u 8 0 (0 : Int32))).2)) := Eq.mp (congrArg (fun w => va_D A0 w) MW_ks) hD
  refine kb_ne (tgt := 18) hx hb dX5_play_9 (by decide) (fun c_9 => ?_) (fun c_9 => ?_)
  · refine lv_aload_n hx hb dX5_play_18 rfl (lv_at hl 0 rfl) ?_
    refine kc_w (As := []) (rest := []) S (v := none) (c_X5_saves l dC dI cI cZ cO h0 q ((f_MisText (upA u 8 0 (0 : Int32))).2) H.size (by rw [f_MisText_o (show (3 : Nat) ≠ 9 by decide) (by decide) (by decide) (by decide) (by decide), upA_o (show (3 : Nat) ≠ 8 by decide)]; exact hk)) gX5_play_X5_saves mi_X5_saves ⟨rfl, rfl⟩ ⟨Nat.le_of_ble_eq_true rfl, Nat.le_of_ble_eq_true rfl⟩ hK hP hD hS hA [0, 1, 2, 3, 4, 5, 6, 7] MW_all MW_fst rfl 0 rfl rfl ⟨Nat.le_refl _, Nat.le_refl _⟩ dX5_play_19 rfl hl.1 rfl (Nat.le_of_ble_eq_true rfl) (fun H locs hP hD hS => ?_)
    have hP : va_P (dC, dI) vwCl (MW cI cZ h0 q (f_Msaves ((f_MisText (upA u 8 0 (0 : Int32))).2))) H := Eq.mp (congrArg (fun w => va_P (dC, dI) vwCl w H) MW_ks) hP
    have hD : va_D A0 (MW cI cZ h0 q (f_Msaves ((f_MisText (upA u 8 0 (0 : Int32))).2))) := Eq.mp (congrArg (fun w => va_D A0 w) MW_ks) hD
    refine lv_aload_n hx hb dX5_play_22 rfl (lv_at hl 0 rfl) ?_
    refine lv_iconst (v := (0 : Int32)) hx hb dX5_play_23 (by decide) ?_
    refine va_put (D := (dC, dI)) (ci := 5) (v := .int (0 : Int32)) (ty := .int) (C := RX5) (T := TX5) (N := 14) hx hb hts inX5 tyX5 tyX5_ok nmX5 hown hK hP hD hS 0 rfl rfl 7 (by decide) (hts (.fieldLink RX5 123 "BoardMetronomesModel" "typed" "I") (by decide +kernel)) (fun _ h9 => h9) rfl (by decide +kernel) rfl rfl (Nat.le_of_ble_eq_true rfl) dX5_play_24 (fun H locs hP hD hS => ?_)
    have hP : va_P (dC, dI) vwCl (MW cI cZ h0 q (upA (f_Msaves ((f_MisText (upA u 8 0 (0 : Int32))).2)) 7 0 (0 : Int32))) H := Eq.mp (congrArg (fun w => va_P (dC, dI) vwCl w H) MW_s7) hP
    have hD : va_D A0 (MW cI cZ h0 q (upA (f_Msaves ((f_MisText (upA u 8 0 (0 : Int32))).2)) 7 0 (0 : Int32))) := Eq.mp (congrArg (fun w => va_D A0 w) MW_s7) hD
    refine lv_iconst (v := (0 : Int32)) hx hb dX5_play_27 (by decide) ?_
    refine lv_istore_n (lv' := [(1, .int (0 : Int32)), (0, .ref h0)]) hx hb dX5_play_28 rfl hl (by decide) rfl (fun ls hl => ?_)
    have L1 : ∀ (n j29_ : Nat), j29_ + n = T.toNatClampNeg → ∀ (y29_0 : BS), (y29_0 13 0 = T ∧ vp_in (y29_0 0 3) 7) → f_Mplay u = f_Mplay_R29 u n j29_ y29_0 → ∀ (H : Heap) (locs : List Loc) (ls : Array Slot), va_P (dC, dI) vwCl (MW cI cZ h0 q y29_0) H → va_D A0 (MW cI cZ h0 q y29_0) → va_S A0 s.heap H locs → lv_has ls 2 [(0, .ref h0), (1, .int (nI j29_))] → W p l e rm_X5_play s m args below meth c H locs 0 0 (MQ below (kQw (some (.int (f_Mplay u).1)) (dC, dI) vwCl (MW cI cZ h0 q ((f_Mplay u).2)) A0) args s 0 0 A0) (F0 m 29 ls []) := by
      intro n
      induction n with
      | zero =>
        intro j29_ hj1 y29_0 hinv hv1 H locs ls hP hD hS hl
        refine lv_iload_n hx hb dX5_play_29 rfl (lv_at hl 1 rfl) ?_
        refine lv_aload_n hx hb dX5_play_30 rfl (lv_at hl 0 rfl) ?_
        refine va_get (D := (dC, dI)) (ci := 5) (v := .int (y29_0 13 0)) (C := RX5) (T := TX5) (N := 14) hx hb hts inX5 hown hK hP 0 rfl rfl 13 (by decide) (hts (.fieldLink RX5 147 "BoardMetronomesModel" "tolds" "I") (by decide +kernel)) (fun _ h9 => h9) rfl dX5_play_31 ?_
        refine lv_icmp_ge (tgt := 51) hx hb dX5_play_34 (by decide) (fun c_34 => ?_) (fun c_34 => ?_)
        · refine lv_iload_n hx hb dX5_play_51 rfl (lv_at hl 1 rfl) ?_
          have r2 : f_Mplay u = (nI j29_, y29_0) := by
            rw [hv1, f_Mplay_R29]
          exact kw_i hx hb hr hlk hP hS dX5_play_52 (by rw [r2]) (by rw [r2])
        · exact absurd (by rw [hinv.1, show j29_ = T.toNatClampNeg by omega]; exact kn_ge T) c_34
      | succ n ih1 =>
        intro j29_ hj1 y29_0 hinv hv1 H locs ls hP hD hS hl
        refine lv_iload_n hx hb dX5_play_29 rfl (lv_at hl 1 rfl) ?_
        refine lv_aload_n hx hb dX5_play_30 rfl (lv_at hl 0 rfl) ?_
        refine va_get (D := (dC, dI)) (ci := 5) (v := .int (y29_0 13 0)) (C := RX5) (T := TX5) (N := 14) hx hb hts inX5 hown hK hP 0 rfl rfl 13 (by decide) (hts (.fieldLink RX5 147 "BoardMetronomesModel" "tolds" "I") (by decide +kernel)) (fun _ h9 => h9) rfl dX5_play_31 ?_
        refine lv_icmp_ge (tgt := 51) hx hb dX5_play_34 (by decide) (fun c_34 => ?_) (fun c_34 => ?_)
        · exact absurd c_34 (by rw [hinv.1]; exact kn_lt (b := T) (by omega))
        · refine lv_aload_n hx hb dX5_play_37 rfl (lv_at hl 0 rfl) ?_
          refine lv_iload_n hx hb dX5_play_38 rfl (lv_at hl 1 rfl) ?_
          refine kc_w (As := [.int (nI j29_)]) (rest := []) S (v := (some (.int (bI ((f_Mdoes y29_0 j29_).1))))) (c_X5_does l dC dI cI cZ cO h0 q y29_0 j29_ H.size (by omega) hinv.2) gX5_play_X5_does mi_X5_does ⟨rfl, rfl⟩ ⟨Nat.le_of_ble_eq_true rfl, Nat.le_of_ble_eq_true rfl⟩ hK hP hD hS hA [0, 1, 2, 3, 4, 5, 6, 7] MW_all MW_fst rfl 0 rfl rfl ⟨Nat.le_refl _, Nat.le_refl _⟩ dX5_play_39 rfl hl.1 rfl (Nat.le_of_ble_eq_true rfl) (fun H locs hP hD hS => ?_)
          have hP : va_P (dC, dI) vwCl (MW cI cZ h0 q ((f_Mdoes y29_0 j29_).2)) H := Eq.mp (congrArg (fun w => va_P (dC, dI) vwCl w H) MW_ks) hP
          have hD : va_D A0 (MW cI cZ h0 q ((f_Mdoes y29_0 j29_).2)) := Eq.mp (congrArg (fun w => va_D A0 w) MW_ks) hD
          refine kb_eq (tgt := 51) hx hb dX5_play_42 (by decide) (fun c_42 => ?_) (fun c_42 => ?_)
          · refine lv_iload_n hx hb dX5_play_51 rfl (lv_at hl 1 rfl) ?_
            have r3 : f_Mplay u = (nI j29_, (f_Mdoes y29_0 j29_).2) := by
              rw [hv1, f_Mplay_R29, if_neg c_42]
            exact kw_i hx hb hr hlk hP hS dX5_play_52 (by rw [r3]) (by rw [r3])
          · refine lv_iinc (v := nI (j29_ + 1)) (lv' := [(1, .int (nI (j29_ + 1))), (0, .ref h0)]) hx hb dX5_play_45 hl (k := 1) rfl (nI_add j29_ 1) (by decide) rfl (fun ls hl => ?_)
            refine lv_goto (tgt := 29) hx hb dX5_play_48 (by decide) ?_
            exact ih1 (j29_ + 1) (by omega) ((f_Mdoes y29_0 j29_).2) ⟨by rw [f_Mdoes_o (show (13 : Nat) ≠ 0 by decide)]; exact hinv.1, f_Mdoes_s hinv.2⟩ (by rw [hv1, f_Mplay_R29, if_pos c_42]) H locs ls hP hD hS (lv_sub hl [1, 0] rfl)
    exact L1 T.toNatClampNeg 0 (by omega) (upA (f_Msaves ((f_MisText (upA u 8 0 (0 : Int32))).2)) 7 0 (0 : Int32)) ⟨by rw [upA_o (show (13 : Nat) ≠ 7 by decide), f_Msaves_o (show (13 : Nat) ≠ 2 by decide) (show (13 : Nat) ≠ 3 by decide), hTe], by rw [upA_o (show (0 : Nat) ≠ 7 by decide), f_Msaves_o (show (0 : Nat) ≠ 2 by decide) (show (0 : Nat) ≠ 3 by decide), f_MisText_o (show (0 : Nat) ≠ 9 by decide) (by decide) (by decide) (by decide) (by decide), upA_o (show (0 : Nat) ≠ 8 by decide)]; exact hs⟩ (by rw [f_Mplay, if_pos c_9, hTe]) H locs ls hP hD hS (lv_sub hl [1, 0] rfl)
  · refine lv_aload_n hx hb dX5_play_12 rfl (lv_at hl 0 rfl) ?_
    refine lv_iconst (v := (1 : Int32)) hx hb dX5_play_13 (by decide) ?_
    refine kc_w (As := [.int (1 : Int32)]) (rest := []) S (v := (some (.int ((f_Mfails ((f_MisText (upA u 8 0 (0 : Int32))).2) (1 : Int32)).1)))) (c_X5_fails l dC dI cI cZ cO h0 q ((f_MisText (upA u 8 0 (0 : Int32))).2) (1 : Int32) H.size) gX5_play_X5_fails mi_X5_fails ⟨rfl, rfl⟩ ⟨Nat.le_of_ble_eq_true rfl, Nat.le_of_ble_eq_true rfl⟩ hK hP hD hS hA [0, 1, 2, 3, 4, 5, 6, 7] MW_all MW_fst rfl 0 rfl rfl ⟨Nat.le_refl _, Nat.le_refl _⟩ dX5_play_14 rfl hl.1 rfl (Nat.le_of_ble_eq_true rfl) (fun H locs hP hD hS => ?_)
    have hP : va_P (dC, dI) vwCl (MW cI cZ h0 q ((f_Mfails ((f_MisText (upA u 8 0 (0 : Int32))).2) (1 : Int32)).2)) H := Eq.mp (congrArg (fun w => va_P (dC, dI) vwCl w H) MW_ks) hP
    have hD : va_D A0 (MW cI cZ h0 q ((f_Mfails ((f_MisText (upA u 8 0 (0 : Int32))).2) (1 : Int32)).2)) := Eq.mp (congrArg (fun w => va_D A0 w) MW_ks) hD
    have r4 : f_Mplay u = ((f_Mfails ((f_MisText (upA u 8 0 (0 : Int32))).2) (1 : Int32)).1, (f_Mfails ((f_MisText (upA u 8 0 (0 : Int32))).2) (1 : Int32)).2) := by
      rw [f_Mplay, if_neg c_9]
    exact kw_i hx hb hr hlk hP hS dX5_play_17 (by rw [r4]) (by rw [r4])

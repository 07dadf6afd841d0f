/-! MATH 5: each method of the class beside the reference's -/
/-- what the law's helpers make of a thrown class: 1 IllegalArgument, 2 IllegalState, 3 IndexOutOfBounds -/
def cdAS (k : Nat) : Int32 := if k = 1 then 1 else if k = 2 then 2 else 0
def cdIA (k : Nat) : Int32 := if k = 3 then 1 else if k = 1 then 2 else 0
def cdI (k : Nat) : Int32 := if k = 3 then 1 else 0
def cdS (k : Nat) : Int32 := if k = 2 then 1 else 0
def cdA (k : Nat) : Int32 := if k = 1 then 1 else 0
section SIMM
variable {fl : Nat → Int32} {un ut u0 u1 : BS} {sv : SS} {x r : BS} {m : BS}
theorem f8 (v w : Int32) : (f_Mfails (upA m 8 0 v) w).2 8 0 = w := by
  unfold f_Mfails
  show upA (upA m 8 0 v) 8 0 w 8 0 = w
  exact upA_s
theorem upA0 (S : BS) (j : Nat) (v : Int32) : upA S 0 j v = upR S 0 (upd (S 0) j v) := upA_upR S 0 j v
theorem SimX_okp {α : Type} {z : α} {cd : Nat → Int32} {ans : α → Int32} {S : α → BS → Prop} {S0 : BS → Prop} {a : Int32} {b : BS} (h1 : a = ans z) (h2 : b 8 0 = 0) (h3 : S z b) : SimX (.ok z) cd ans S S0 (a, b) := SimX_ok h1 h2 h3
theorem Sim_f (h : Sim fl un u0 u1 sv x m) (v w : Int32) : Sim fl un u0 u1 sv x (f_Mfails (upA m 8 0 v) w).2 := h
theorem isArm_has {n : Nat} {u : BS} (h : BR n u (m 0)) (v p : Int32) : f_MisArm (upA m 8 0 v) p = f_has u p := (B_has h p).symm
theorem chg (m : BS) (k : Nat) (v z : Int32) : f_Mchanges (f_Msaves (upA m 8 0 z)) k v = (m 0 k, upR (f_Msaves (upA m 8 0 z)) 0 (upd (m 0) k v)) := by
  unfold f_Mchanges
  rw [upA0, saves0]
theorem r8 (m : BS) (z : Int32) (g : Nat → Int32) : upR (f_Msaves (upA m 8 0 z)) 0 g 8 0 = z := by
  rw [upR_o (by decide), saves8]
theorem S_weigh (h : Sim fl un u0 u1 sv x m) (p0 p1 : Int32) : SimX (f_Xweigh fl un ut u0 u1 sv x r p0 p1) cdIA (fun z => z.1) (fun z => Sim fl z.2.1 u0 u1 z.2.2 x) (Sim fl un u0 u1 sv x) (f_Mweigh m p0 p1) := by
  obtain ⟨n, h1, h2, h3⟩ := h.1
  unfold f_Xweigh f_Mweigh f_XisBeat
  rw [isArm_has h1, XMin]
  by_cases c : f_has un p0 = true
  · rw [if_pos c, if_pos c]
    obtain ⟨k, hk, rfl⟩ := B_hasof h1 c
    have hn := BR_n h1
    by_cases c2 : f_Min p1 40 208 = true
    · rw [if_pos c2, if_pos c2, nI_clamp (by omega), chg]
      unfold f_changeBeat
      rw [if_pos c, nI_clamp (by omega)]
      try dsimp only
      refine SimX_okp (BR_row h1 hk).1 (r8 _ _ _) (Sim_push h (BZ_beat ⟨n, h1, h2, h3⟩ k ?_) 0)
      have := Min_of c2
      exact this
    · rw [if_neg c2, if_neg c2]
      exact SimX_er (f8 _ _) (by decide) (Sim_f h _ _)
  · rw [if_neg c, if_neg c]
    exact SimX_er (f8 _ _) (by decide) (Sim_f h _ _)
theorem S_wind (h : Sim fl un u0 u1 sv x m) (p0 p1 : Int32) : SimX (f_Xwind fl un ut u0 u1 sv x r p0 p1) cdIA (fun z => z.1) (fun z => Sim fl z.2.1 u0 u1 z.2.2 x) (Sim fl un u0 u1 sv x) (f_Mwind m p0 p1) := by
  obtain ⟨n, h1, h2, h3⟩ := h.1
  unfold f_Xwind f_Mwind f_XisSpring
  rw [isArm_has h1, XMin]
  by_cases c : f_has un p0 = true
  · rw [if_pos c, if_pos c]
    obtain ⟨k, hk, rfl⟩ := B_hasof h1 c
    have hn := BR_n h1
    by_cases c2 : f_Min p1 0 999 = true
    · rw [if_pos c2, if_pos c2, nI_clamp (by omega), chg]
      unfold f_changeSpring
      rw [if_pos c, nI_clamp (by omega)]
      try dsimp only
      exact SimX_okp (BR_row h1 hk).2.2.1 (r8 _ _ _) (Sim_push h (BZ_spring ⟨n, h1, h2, h3⟩ k p1) 0)
    · rw [if_neg c2, if_neg c2]
      exact SimX_er (f8 _ _) (by decide) (Sim_f h _ _)
  · rw [if_neg c, if_neg c]
    exact SimX_er (f8 _ _) (by decide) (Sim_f h _ _)
theorem S_hold (h : Sim fl un u0 u1 sv x m) (p0 : Int32) : SimX (f_Xhold fl un ut u0 u1 sv x r p0) cdI (fun z => z.1) (fun z => Sim fl z.2.1 u0 u1 z.2.2 x) (Sim fl un u0 u1 sv x) (f_Mhold m p0) := by
  obtain ⟨n, h1, h2, h3⟩ := h.1
  unfold f_Xhold f_Mhold
  rw [isArm_has h1]
  by_cases c : f_has un p0 = true
  · rw [if_pos c, if_pos c]
    obtain ⟨k, hk, rfl⟩ := B_hasof h1 c
    have hn := BR_n h1
    obtain ⟨k1, k2⟩ := B_hold h1 h2 h3 hk
    rw [nI_clamp (by omega)]
    unfold f_Mholds
    rw [upA0, saves0]
    try dsimp only
    exact SimX_okp k1.symm (r8 _ _ _) (Sim_push h k2 0)
  · rw [if_neg c, if_neg c]
    exact SimX_er (f8 _ _) (by decide) (Sim_f h _ _)
theorem S_metronome (h : Sim fl un u0 u1 sv x m) (p0 p1 p2 : Int32) : SimX (f_Xmetronome fl un ut u0 u1 sv x r p0 p1 p2) cdAS (fun z => z.1) (fun z => Sim fl z.2.1 u0 u1 z.2.2 x) (Sim fl un u0 u1 sv x) (f_Mmetronome m p0 p1 p2) := by
  obtain ⟨n, h1, h2, h3⟩ := h.1
  have hn := BR_n h1
  unfold f_Xmetronome f_Mmetronome f_XisBeat f_XisSpring f_MisOne
  rw [XMin, BR_3 h1]
  by_cases c : f_Min p0 40 208 = true
  · rw [if_pos c, if_pos c]
    by_cases c2 : f_Min p1 0 3599 = true
    · rw [if_pos c2, if_pos c2]
      by_cases c3 : f_Min p2 0 999 = true
      · rw [if_pos c3, if_pos c3, if_pos rfl]
        unfold f_isFull
        rw [h1.2.1]
        by_cases c4 : n = 6
        · subst c4
          rw [if_pos (by decide), if_pos (by decide)]
          exact SimX_er (f8 _ _) (by decide) (Sim_f h _ _)
        · have c5 : n < 6 := by omega
          rw [if_neg (by rw [c_6, if_pos (nI_lt c5 (by omega))]; decide), if_neg (by rw [c_6, nI_eq (by omega) (by omega)]; exact c4)]
          obtain ⟨k1, k2⟩ := B_add h1 h2 h3 c5 (Min_of c) (Min_of c2) (s := p2)
          rw [comes_M _ n (by rw [saves0]; exact BR_3 h1), saves0]
          try dsimp only
          refine SimX_okp ?_ (r8 _ _ _) (Sim_push h k2 0)
          show m 0 3 + 1 - 1 = _
          rw [k1, h1.2.2.1, nI_1, c_1]
          exact nI_pred n
      · rw [if_neg c3, if_neg c3, if_neg (by decide)]
        exact SimX_er (f8 _ _) (by decide) (Sim_f h _ _)
    · rw [if_neg c2, if_neg c2, if_neg (by decide)]
      exact SimX_er (f8 _ _) (by decide) (Sim_f h _ _)
  · rw [if_neg c, if_neg c, if_neg (by decide)]
    exact SimX_er (f8 _ _) (by decide) (Sim_f h _ _)
theorem S_take (h : Sim fl un u0 u1 sv x m) : SimX (f_Xtake fl un ut u0 u1 sv x r) cdS (fun z => z.1) (fun z => Sim fl z.2.1 u0 u1 z.2.2 x) (Sim fl un u0 u1 sv x) (f_Mtake m) := by
  obtain ⟨n, h1, h2, h3⟩ := h.1
  have hn := BR_n h1
  unfold f_Xtake f_Mtake f_isEmpty
  rw [BR_3 h1, h1.2.1]
  by_cases c : n = 0
  · subst c
    rw [if_pos (by decide), if_pos (by decide)]
    exact SimX_er (f8 _ _) (by decide) (Sim_f h _ _)
  · rw [if_neg (by rw [c_0, if_pos (nI_lt (by omega) (by omega))]; decide), if_neg (by rw [c_0, nI_eq (by omega) (by omega)]; exact c)]
    unfold f_removeLast
    rw [h1.2.1, if_neg (nI_nle (by omega) (by omega)), c_1, pk_sub (by omega), upA0, saves0]
    have hz : BZ (upA un 5 0 (nI (n - 1))) (upd (m 0) 3 (nI (n - 1))) := by
      refine ⟨n - 1, ?_, ?_, h3⟩
      · obtain ⟨hn', h5, h3', h0, h1', h2', h4, h5', h6, h7, h8, hr⟩ := h1
        refine ⟨by omega, rfl, pk_us, h0, h1', h2', h4, h5', h6, h7, h8, ?_⟩
        intro k hk
        rw [pk_un (by omega), pk_un (by omega), pk_un (by omega), pk_un (by omega), pk_un (by omega)]
        exact hr k (by omega)
      · obtain ⟨i1, i2, i3, i4, i5⟩ := h2
        exact ⟨i1, i2, i3, i4, fun k hk => i5 k (by omega)⟩
    try dsimp only
    exact SimX_okp rfl (r8 _ _ _) (Sim_push h hz 0)
/-- steps within the limit -/
theorem B_run {n : Nat} {u : BS} {f : Nat → Int32} (h1 : BR n u f) (h2 : BI n u) (h3 : BT u) {p : Int32} (hp : 0 ≤ p.toInt ∧ p.toInt ≤ 500) (hl : ¬ (99999 : Int32) < u 11 0 + p) : (f_letGoBy u p).1 = f_Msteps f p 5 - f 5 ∧ BZ (f_letGoBy u p).2 (f_Msteps f p) := by
  unfold f_letGoBy
  obtain ⟨k1, k2, k3, mm, hm, k4⟩ := B_steps h1 h2 p (f_letGoBy_L7 u p) (fun _ _ => rfl)
  have e5 : f 5 = u 12 0 := h1.2.2.2.2.2.2.2.1
  have e5' := k1.2.2.2.2.2.2.2.1
  refine ⟨by rw [e5, e5'], n, k1, k2, ?_⟩
  obtain ⟨b1, b2, b3⟩ := h3
  obtain ⟨q, eq, rfl⟩ := ti_of hp.1
  have hq : q ≤ 500 := by omega
  rw [nI_clamp (by omega)] at k3 k4 hm ⊢
  have l1 : ¬ (99999 : Int32).toInt < (u 11 0 + nI q).toInt := fun z => hl (ti_lt.mpr z)
  have l2 : (99999 : Int32).toInt = 99999 := by decide
  have l3 : (u 11 0 + nI q).toInt = (u 11 0).toInt + q := by
    rw [ti_add (by rw [eq]; omega) (by rw [eq]; omega), eq]
  have em : (nI mm).toInt = mm := nI_toInt (by omega)
  have l4 : (u 13 0 + nI mm).toInt = (u 13 0).toInt + mm := by
    rw [ti_add (by omega) (by omega), em]
  unfold BT
  dsimp only
  rw [k3, k4, l3, l4]
  omega
theorem time_M {n : Nat} {u : BS} (h1 : BR n u (m 0)) (v p : Int32) : f_MmayRun (upA m 8 0 v) p = f_hasTimeFor u p := by
  unfold f_MmayRun f_hasTimeFor
  have e4 : upA m 8 0 v 0 4 = u 11 0 := h1.2.2.2.2.2.2.1
  rw [e4]
theorem time_of {u : BS} {p : Int32} (h : f_hasTimeFor u p = true) : ¬ (99999 : Int32) < u 11 0 + p := by
  intro c
  unfold f_hasTimeFor at h
  rw [if_pos c] at h
  cases h
theorem S_run (h : Sim fl un u0 u1 sv x m) (p0 : Int32) : SimX (f_Xrun fl un ut u0 u1 sv x r p0) cdAS (fun z => z.1) (fun z => Sim fl z.2.1 u0 u1 z.2.2 x) (Sim fl un u0 u1 sv x) (f_Mrun m p0) := by
  obtain ⟨n, h1, h2, h3⟩ := h.1
  unfold f_Xrun f_Mrun
  rw [XMin, time_M h1]
  by_cases c : f_Min p0 1 500 = true
  · rw [if_pos c, if_pos c]
    by_cases c2 : f_hasTimeFor un p0 = true
    · rw [if_pos c2, if_pos c2]
      have hp := Min_of c
      have hp1 : (1 : Int32).toInt = 1 := by decide
      have hp2 : (500 : Int32).toInt = 500 := by decide
      obtain ⟨k1, k2⟩ := B_run h1 h2 h3 (p := p0) (by omega) (time_of c2)
      try dsimp only
      exact SimX_okp k1.symm (r8 _ _ _) (Sim_push h k2 0)
    · rw [if_neg c2, if_neg c2]
      exact SimX_er (f8 _ _) (by decide) (Sim_f h _ _)
  · rw [if_neg c, if_neg c]
    exact SimX_er (f8 _ _) (by decide) (Sim_f h _ _)
theorem size_abs (a : Int32) : f_Msize a = jabs a := by
  unfold f_Msize jabs
  rw [Int32.zero_sub]
theorem S_stop (h : Sim fl un u0 u1 sv x m) : (f_Mstop m).1 = (f_Xstop fl un ut u0 u1 sv x r).1 ∧ Sim fl (f_Xstop fl un ut u0 u1 sv x r).2.1 u0 u1 (f_Xstop fl un ut u0 u1 sv x r).2.2 x (f_Mstop m).2 := by
  obtain ⟨n, h1, h2, h3⟩ := h.1
  have e7 : m 0 7 = un 6 0 := h1.2.2.2.2.2.2.2.2.2.1
  have e8 : m 0 8 = un 7 0 := h1.2.2.2.2.2.2.2.2.2.2.1
  unfold f_Mstop f_Xstop f_stopBoard
  rw [chg]
  unfold f_Mchanges
  dsimp only
  rw [upA0, upR_s, upR_upR, size_abs, size_abs]
  refine ⟨?_, ?_⟩
  · show jabs (m 0 7) + jabs (upd (m 0) 7 0 8) = _
    rw [pk_un (by decide), e7, e8]
  · refine Sim_push h ⟨n, BR_sc7 (BR_sc6 h1 0) 0, ?_, h3⟩ 0
    obtain ⟨i1, i2, i3, i4, i5⟩ := h2
    exact ⟨i1, i2, (by decide : -1000 ≤ (0 : Int32).toInt ∧ (0 : Int32).toInt ≤ 1000), (by decide : -1000 ≤ (0 : Int32).toInt ∧ (0 : Int32).toInt ≤ 1000), i5⟩
theorem Min012 {p : Int32} (h : f_Min p 0 2 = true) : p = 0 ∨ p = 1 ∨ p = 2 := by
  have h1 := Min_of h
  have e0 : (0 : Int32).toInt = 0 := by decide
  have e2 : (2 : Int32).toInt = 2 := by decide
  obtain ⟨q, eq, rfl⟩ := ti_of (a := p) (by omega)
  rcases (show q = 0 ∨ q = 1 ∨ q = 2 by omega) with rfl | rfl | rfl
  · exact .inl rfl
  · exact .inr (.inl rfl)
  · exact .inr (.inr rfl)
theorem S_set (h : Sim fl un u0 u1 sv x m) (p0 p1 : Int32) : SimX (f_Xset fl un ut u0 u1 sv x r p0 p1) cdIA (fun z => z.1) (fun z => Sim fl z.2.1 u0 u1 z.2.2 x) (Sim fl un u0 u1 sv x) (f_Mset m p0 p1) := by
  obtain ⟨n, h1, h2, h3⟩ := h.1
  have e0 : m 0 0 = un 8 0 := h1.2.2.2.1
  have e1 : m 0 1 = un 9 0 := h1.2.2.2.2.1
  have e2 : m 0 2 = un 10 0 := h1.2.2.2.2.2.1
  unfold f_Xset f_Mset f_XisSetting
  rw [XMin]
  by_cases c : f_Min p0 0 2 = true
  · rw [if_pos c, if_pos c]
    unfold f_XhighestOf f_changeSetting f_settingValue
    obtain ⟨i1, i2, i3, i4, i5⟩ := h2
    rcases Min012 c with rfl | rfl | rfl
    · rw [if_pos rfl, if_pos rfl, if_pos rfl, if_pos rfl]
      by_cases c2 : f_Min p1 0 95 = true
      · rw [if_pos c2, if_pos c2, chg]
        try dsimp only
        exact SimX_okp e0 (r8 _ _ _) (Sim_push h ⟨n, BR_sc8 h1 p1, ⟨Min_of c2, i2, i3, i4, i5⟩, h3⟩ 0)
      · rw [if_neg c2, if_neg c2]
        exact SimX_er (f8 _ _) (by decide) (Sim_f h _ _)
    · have d : ¬ (1 : Int32) = 0 := by decide
      rw [if_neg d, if_neg d, if_neg d, if_neg d, if_pos rfl, if_pos rfl, if_pos rfl, if_pos rfl]
      by_cases c2 : f_Min p1 0 99 = true
      · rw [if_pos c2, if_pos c2, chg]
        try dsimp only
        exact SimX_okp e1 (r8 _ _ _) (Sim_push h ⟨n, BR_sc9 h1 p1, ⟨i1, Min_of c2, i3, i4, i5⟩, h3⟩ 0)
      · rw [if_neg c2, if_neg c2]
        exact SimX_er (f8 _ _) (by decide) (Sim_f h _ _)
    · have d : ¬ (2 : Int32) = 0 := by decide
      have d1 : ¬ (2 : Int32) = 1 := by decide
      rw [if_neg d, if_neg d, if_neg d, if_neg d, if_neg d1, if_neg d1, if_neg d1, if_neg d1]
      by_cases c2 : f_Min p1 0 900 = true
      · rw [if_pos c2, if_pos c2, chg]
        try dsimp only
        exact SimX_okp e2 (r8 _ _ _) (Sim_push h ⟨n, BR_sc10 h1 p1, ⟨i1, i2, i3, i4, i5⟩, h3⟩ 0)
      · rw [if_neg c2, if_neg c2]
        exact SimX_er (f8 _ _) (by decide) (Sim_f h _ _)
  · rw [if_neg c, if_neg c]
    exact SimX_er (f8 _ _) (by decide) (Sim_f h _ _)
theorem S_append (h : Sim fl un u0 u1 sv x m) (p0 : Int32) : SimX (f_Xappend fl un ut u0 u1 sv x r p0) cdAS (fun z => z.1) (fun z => Sim fl un u0 u1 sv z.2) (Sim fl un u0 u1 sv x) (f_Mappend m p0) := by
  obtain ⟨h1, h2, h3, h4, h5, t, ht, ex, em, hr⟩ := h
  have h : Sim fl un u0 u1 sv x m := ⟨h1, h2, h3, h4, h5, t, ht, ex, em, hr⟩
  unfold f_Xappend f_Mappend
  rw [XMin, em, nI_clamp (by omega)]
  by_cases c : f_Min p0 33 126 = true
  · rw [if_pos c, if_pos c]
    unfold f_TisFull
    rw [ex]
    by_cases c2 : t = 60
    · subst c2
      rw [if_pos (by decide), if_pos (by decide)]
      exact SimX_er (f8 _ _) (by decide) (Sim_f h _ _)
    · have c3 : t < 60 := by omega
      rw [if_neg (by rw [show (60 : Int32) = nI 60 from rfl, if_pos (nI_lt c3 (by omega))]; decide), if_neg (by rw [show (60 : Int32) = nI 60 from rfl, nI_eq (by omega) (by omega)]; exact c2)]
      unfold f_Tadd
      rw [ex, if_neg (nI_pos (by omega)), if_neg (by rw [show (60 : Int32) = nI 60 from rfl]; exact nI_ge c3 (by omega)), nI_clamp (by omega), nI_1]
      try dsimp only
      refine SimX_okp rfl rfl ⟨h1, h2, h3, h4, h5, t + 1, by omega, rfl, rfl, ?_⟩
      intro j hj
      show upd (x 0) t p0 j = upd (m 6) t p0 j ∧ 33 ≤ (upd (x 0) t p0 j).toInt ∧ (upd (x 0) t p0 j).toInt ≤ 126
      by_cases e : j = t
      · rw [e, pk_us, pk_us]
        exact ⟨rfl, Min_of c⟩
      · rw [pk_un e, pk_un e]
        exact hr j (by omega)
  · rw [if_neg c, if_neg c]
    exact SimX_er (f8 _ _) (by decide) (Sim_f h _ _)
theorem S_clear (h : Sim fl un u0 u1 sv x m) : (f_MclearBuffer m).1 = (f_Tempty x).1 ∧ Sim fl un u0 u1 sv (f_Tempty x).2 (f_MclearBuffer m).2 := by
  obtain ⟨h1, h2, h3, h4, h5, t, ht, ex, em, hr⟩ := h
  refine ⟨?_, h1, h2, h3, h4, h5, 0, by omega, rfl, rfl, fun j hj => absurd hj (Nat.not_lt_zero _)⟩
  show m 7 0 = x 1 0
  rw [ex, em]
theorem Min01 {p : Int32} (h : f_Min p 0 1 = true) : p = 0 ∨ p = 1 := by
  have h1 := Min_of h
  have e0 : (0 : Int32).toInt = 0 := by decide
  have e2 : (1 : Int32).toInt = 1 := by decide
  obtain ⟨q, eq, rfl⟩ := ti_of (a := p) (by omega)
  rcases (show q = 0 ∨ q = 1 by omega) with rfl | rfl
  · exact .inl rfl
  · exact .inr rfl
theorem S_keep (h : Sim fl un u0 u1 sv x m) (p0 : Int32) : SimX (f_Xkeep fl un ut u0 u1 sv x r p0) cdA (fun z => z.1) (fun z => Sim z.2.1 un z.2.2.1 z.2.2.2 sv x) (Sim fl un u0 u1 sv x) (f_Mkeep m p0) := by
  obtain ⟨h1, h2, h3, h4, h5, h6⟩ := h
  have h : Sim fl un u0 u1 sv x m := ⟨h1, h2, h3, h4, h5, h6⟩
  unfold f_Xkeep f_Mkeep f_XisSlot
  rw [XMin]
  have e4 : m 0 4 = f_steps un := by
    obtain ⟨n, q1, -⟩ := h1
    exact q1.2.2.2.2.2.2.1
  by_cases c : f_Min p0 0 1 = true
  · rw [if_pos c, if_pos c]
    unfold f_XslotBench
    rcases Min01 c with rfl | rfl
    · rw [if_pos rfl, if_pos rfl]
      try dsimp only
      refine SimX_okp e4 rfl ⟨h1, h2, ⟨rfl, h3.2⟩, ?_, ?_, h6⟩
      · intro _
        refine BZ_copy (BZ_ext h1 ?_)
        intro j hj
        have := copies_in (f := m 0) (m 4) 0 (39 * (0 : Int32).toNatClampNeg) hj
        rw [show 39 * (0 : Int32).toNatClampNeg + j = j by rw [show (0 : Int32).toNatClampNeg = 0 from rfl]; omega, Nat.zero_add] at this
        exact this
      · intro q
        refine BZ_ext (h5 q) ?_
        intro j hj
        exact copies_out _ _ _ (.inr (by rw [show (0 : Int32).toNatClampNeg = 0 from rfl]; omega))
    · have d : ¬ (1 : Int32) = 0 := by decide
      rw [if_neg d, if_neg (by decide)]
      try dsimp only
      refine SimX_okp e4 rfl ⟨h1, h2, ⟨h3.1, rfl⟩, ?_, ?_, h6⟩
      · intro q
        refine BZ_ext (h4 q) ?_
        intro j hj
        exact copies_out _ _ _ (.inl (by rw [show (1 : Int32).toNatClampNeg = 1 from rfl]; omega))
      · intro _
        refine BZ_copy (BZ_ext h1 ?_)
        intro j hj
        have := copies_in (f := m 0) (m 4) 0 (39 * (1 : Int32).toNatClampNeg) hj
        rw [Nat.zero_add] at this
        exact this
  · rw [if_neg c, if_neg c]
    exact SimX_er (f8 _ _) (by decide) (Sim_f h _ _)
theorem BZ_4 {u : BS} {f : Nat → Int32} (h : BZ u f) : f 4 = f_steps u := by
  obtain ⟨n, q1, -⟩ := h
  exact q1.2.2.2.2.2.2.1
theorem S_goBack (h : Sim fl un u0 u1 sv x m) (p0 : Int32) : SimX (f_XgoBack fl un ut u0 u1 sv x r p0) cdAS (fun z => z.1) (fun z => Sim fl z.2.1 u0 u1 z.2.2 x) (Sim fl un u0 u1 sv x) (f_MgoBack m p0) := by
  obtain ⟨h1, h2, h3, h4, h5, h6⟩ := h
  have h : Sim fl un u0 u1 sv x m := ⟨h1, h2, h3, h4, h5, h6⟩
  unfold f_XgoBack f_MgoBack f_XisSlot
  rw [XMin]
  by_cases c : f_Min p0 0 1 = true
  · rw [if_pos c, if_pos c]
    unfold f_XslotBench
    rcases Min01 c with rfl | rfl
    · rw [show (0 : Int32).toNatClampNeg = 0 from rfl, h3.1]
      by_cases c2 : m 5 0 = 0
      · rw [if_pos c2, if_pos c2]
        exact SimX_er (f8 _ _) (by decide) (Sim_f h _ _)
      · rw [if_neg c2, if_neg c2, if_pos rfl, if_pos rfl]
        have hz : BZ (f_copyFrom un u0) (f_Mcopies (m 4) (m 0) (39 * 0) 0) := by
          refine BZ_copy (BZ_ext (h4 (by rw [h3.1]; exact c2)) ?_)
          intro j hj
          have := copies_in (f := m 4) (m 0) (39 * 0) 0 hj
          rw [Nat.zero_add] at this
          rw [this]
        try dsimp only
        exact SimX_okp (BZ_4 (u := f_copyFrom un u0) hz) (r8 _ _ _) (Sim_push h hz 0)
    · rw [show (1 : Int32).toNatClampNeg = 1 from rfl, h3.2]
      by_cases c2 : m 5 1 = 0
      · rw [if_pos c2, if_pos c2]
        exact SimX_er (f8 _ _) (by decide) (Sim_f h _ _)
      · have d : ¬ (1 : Int32) = 0 := by decide
        rw [if_neg c2, if_neg c2, if_neg d, if_neg (by decide)]
        have hz : BZ (f_copyFrom un u1) (f_Mcopies (m 4) (m 0) (39 * 1) 0) := by
          refine BZ_copy (BZ_ext (h5 (by rw [h3.2]; exact c2)) ?_)
          intro j hj
          have := copies_in (f := m 4) (m 0) (39 * 1) 0 hj
          rw [Nat.zero_add] at this
          exact this
        try dsimp only
        exact SimX_okp (BZ_4 (u := f_copyFrom un u1) hz) (r8 _ _ _) (Sim_push h hz 0)
  · rw [if_neg c, if_neg c]
    exact SimX_er (f8 _ _) (by decide) (Sim_f h _ _)
theorem S_undo (h : Sim fl un u0 u1 sv x m) : SimX (f_Xundo fl un ut u0 u1 sv x r) cdS (fun z => z.1) (fun z => Sim fl z.2.1 u0 u1 z.2.2 x) (Sim fl un u0 u1 sv x) (f_Mundo m) := by
  obtain ⟨h1, ⟨hr, hk, hc, hi⟩, h3, h4, h5, h6⟩ := h
  have h : Sim fl un u0 u1 sv x m := ⟨h1, ⟨hr, hk, hc, hi⟩, h3, h4, h5, h6⟩
  obtain ⟨rr, k, us⟩ := sv
  dsimp only at hr hk hc hi
  unfold f_Xundo f_Mundo f_Ssize
  rw [hc, nI_clamp (by omega)]
  dsimp only
  by_cases c : k = 0
  · subst c
    rw [if_pos (by decide), if_pos (by decide)]
    exact SimX_er (f8 _ _) (by decide) (Sim_f h _ _)
  · have c0 : ¬ nI k = 0 := nI_ne0 (by omega) (by omega)
    rw [if_neg c0, if_neg c0, pop_N us un (by omega) hk]
    try dsimp only
    refine SimX_okp rfl rfl ⟨?_, ⟨hr, by dsimp only; omega, rfl, fun i hik => hi i (by dsimp only at hik; omega)⟩, h3, h4, h5, h6⟩
    refine BZ_copy (BZ_ext (hi (k - 1) (by omega)) ?_)
    intro j hj
    have := copies_in (f := m 2) (m 0) (39 * (k - 1)) 0 hj
    rw [Nat.zero_add] at this
    exact this
end SIMM

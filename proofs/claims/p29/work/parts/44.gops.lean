/-! what the calls of the law do to a bench and to the saved states -/
def GT (T : Nat) (u : BS) : Prop := (∃ n, GI n u) ∧ (u 11 0).toInt ≤ 60 * (T : Int)
def SVI (T : Nat) (sv : SS) : Prop := sv.1 < 6 ∧ sv.2.1 ≤ 6 ∧ ∀ i, i < sv.2.1 → GT T (sv.2.2 ((i + sv.1) % 6))
def WI (T : Nat) (un : BS) (sv : SS) : Prop := GT T un ∧ SVI T sv
theorem GT_up {T T' : Nat} {u : BS} (h : GT T u) (hT : T ≤ T') : GT T' u := ⟨h.1, by have := h.2; omega⟩
theorem SVI_up {T T' : Nat} {sv : SS} (h : SVI T sv) (hT : T ≤ T') : SVI T' sv := ⟨h.1, h.2.1, fun i hi => GT_up (h.2.2 i hi) hT⟩
theorem WI_up {T T' : Nat} {un : BS} {sv : SS} (h : WI T un sv) (hT : T ≤ T') : WI T' un sv := ⟨GT_up h.1 hT, SVI_up h.2 hT⟩
theorem upB_s {us : Nat → BS} {p : Nat} {w : BS} : upB us p w p = w := by unfold upB; rw [if_pos rfl]
theorem upB_o {us : Nat → BS} {p i : Nat} {w : BS} (h : i ≠ p) : upB us p w i = us i := by unfold upB; rw [if_neg h]
theorem mod6 (z : Nat) : z % 6 = 0 ∨ z % 6 = 1 ∨ z % 6 = 2 ∨ z % 6 = 3 ∨ z % 6 = 4 ∨ z % 6 = 5 := by omega
theorem push_lt {r k : Nat} (us : Nat → BS) (v : BS) (hk : k < 6) : f_Spush r k us v = (r, k + 1, upB us ((k + r) % 6) (f_copyFrom (us ((k + r) % 6)) v)) := by
  unfold f_Spush
  rw [if_pos (by rw [c_6]; exact nI_lt hk (by omega)), if_neg (by rw [c_6]; exact nI_ge hk (by omega))]
  rcases mod6 (k + r) with e | e | e | e | e | e <;> rw [e] <;> rfl
theorem push_6 {r : Nat} (us : Nat → BS) (v : BS) : f_Spush r 6 us v = ((r + 1) % 6, 6, upB us ((5 + (r + 1) % 6) % 6) (f_copyFrom (us ((5 + (r + 1) % 6) % 6)) v)) := by
  unfold f_Spush
  rw [if_neg (by decide)]
  rcases mod6 (5 + (r + 1) % 6) with e | e | e | e | e | e <;> rw [e] <;> rfl
theorem pop_N {r k : Nat} (us : Nat → BS) (v : BS) (h0 : 0 < k) (hk : k ≤ 6) : f_SpopInto r k us v = (nI (k - 1), (r, k - 1, us), f_copyFrom v (us ((k - 1 + r) % 6))) := by
  unfold f_SpopInto
  rw [if_neg (nI_nle h0 (by omega)), if_neg (by rw [c_6]; exact nI_nlt hk (by omega))]
  rcases mod6 (k - 1 + r) with e | e | e | e | e | e <;> rw [e] <;> rfl
section GOPS
variable {n T : Nat} {u v un ut u0 u1 x r : BS} {sv : SS} {fl : Nat → Int32}
theorem GI_copy (h : GI n v) : GI n (f_copyFrom u v) := by
  obtain ⟨hn, h5, hB, h10, h2, h4, h13, h12⟩ := h
  have r2 : ∀ k, k < n → f_copyFrom u v 2 k = v 2 k := fun k hk => copy_w hB hn (by omega) hk
  have r4 : ∀ k, k < n → f_copyFrom u v 4 k = v 4 k := fun k hk => copy_w hB hn (by omega) hk
  refine ⟨hn, h5, (B_copy (BR_row0 hn h5) hB).2, h10, ?_, ?_, h13, ?_⟩
  · intro k hk; rw [r2 k hk]; exact h2 k hk
  · intro k hk; rw [r4 k hk]; exact h4 k hk
  · rw [sumI_cong (f := f_copyFrom u v 4) (g := v 4) n r4]; exact h12
theorem GT_copy (h : GT T v) : GT T (f_copyFrom u v) := ⟨h.1.elim fun n hn => ⟨n, GI_copy hn⟩, h.2⟩
theorem SVI_push (h : SVI T sv) (hz : GT T un) : SVI T (f_Spush sv.1 sv.2.1 sv.2.2 un) := by
  obtain ⟨r, k, us⟩ := sv
  obtain ⟨hr, hk, hi⟩ := h
  dsimp only at hr hk hi ⊢
  rcases Nat.lt_or_ge k 6 with h6 | h6
  · rw [push_lt us un h6]
    refine ⟨hr, by dsimp only; omega, ?_⟩
    dsimp only
    intro i hik
    rcases Nat.lt_or_ge i k with q | q
    · rw [upB_o (by omega)]; exact hi i q
    · obtain rfl : i = k := by omega
      rw [upB_s]; exact GT_copy hz
  · obtain rfl : k = 6 := by omega
    rw [push_6 us un]
    refine ⟨by dsimp only; omega, by dsimp only; omega, ?_⟩
    dsimp only
    intro i hik
    rcases Nat.lt_or_ge i 5 with q | q
    · rw [upB_o (by omega), show (i + (r + 1) % 6) % 6 = (i + 1 + r) % 6 by omega]
      exact hi (i + 1) (by omega)
    · obtain rfl : i = 5 := by omega
      rw [upB_s]; exact GT_copy hz
theorem within_of {a b c : Int32} (h1 : b.toInt ≤ a.toInt) (h2 : a.toInt ≤ c.toInt) : f_XisWithin a b c = true := by
  unfold f_XisWithin
  rw [if_neg (Int32.not_lt.mpr (ti_le.mpr h1)), if_neg (Int32.not_lt.mpr (ti_le.mpr h2))]
theorem GI_0 (h : GI n u) (k : Nat) {w : Int32} (hw : 40 ≤ w.toInt ∧ w.toInt ≤ 208) : GI n (upA u 0 k w) := by
  obtain ⟨hn, h5, ⟨i1, i2, i3, i4, i5⟩, h10, h2, h4, h13, h12⟩ := h
  refine ⟨hn, h5, ⟨i1, i2, i3, i4, fun k' hk' => ⟨?_, (i5 k' hk').2⟩⟩, h10, h2, h4, h13, h12⟩
  by_cases e : k' = k
  · rw [e, upA_s]; exact hw
  · rw [upA_ne e]; exact (i5 k' hk').1
theorem GI_2u (h : GI n u) (k : Nat) {w : Int32} (hw : 0 ≤ w.toInt ∧ w.toInt ≤ 999) : GI n (upA u 2 k w) := by
  obtain ⟨hn, h5, hB, h10, h2, h4, h13, h12⟩ := h
  refine ⟨hn, h5, hB, h10, fun k' hk' => ?_, h4, h13, h12⟩
  by_cases e : k' = k
  · rw [e, upA_s]; exact hw
  · rw [upA_ne e]; exact h2 k' hk'
theorem GI_3 (h : GI n u) (k : Nat) {w : Int32} (hw : w = 0 ∨ w = 1) : GI n (upA u 3 k w) := by
  obtain ⟨hn, h5, ⟨i1, i2, i3, i4, i5⟩, h10, h2, h4, h13, h12⟩ := h
  refine ⟨hn, h5, ⟨i1, i2, i3, i4, fun k' hk' => ⟨(i5 k' hk').1, (i5 k' hk').2.1, ?_⟩⟩, h10, h2, h4, h13, h12⟩
  by_cases e : k' = k
  · rw [e, upA_s]; exact hw
  · rw [upA_ne e]; exact (i5 k' hk').2.2
theorem add_G (h : GI n u) (hn6 : n < 6) {b p s : Int32} (hb : 40 ≤ b.toInt ∧ b.toInt ≤ 208) (hp : ∃ j : Nat, j < 3600 ∧ p = nI j) (hs : 0 ≤ s.toInt ∧ s.toInt ≤ 999) : (f_add u b p s).1 = nI n ∧ GI (n + 1) (f_add u b p s).2 ∧ (f_add u b p s).2 11 0 = u 11 0 := by
  unfold f_add
  rw [GI_5 h, if_neg (nI_pos (by omega)), if_pos (by rw [c_6]; exact nI_lt hn6 (by omega)), nI_clamp (by omega)]
  obtain ⟨hn, h5, ⟨i1, i2, i3, i4, i5⟩, h10, h2, h4, h13, h12⟩ := h
  refine ⟨rfl, ?_, rfl⟩
  show GI (n + 1) (upA (upA (upA (upA (upA (upA u 0 n b) 1 n p) 2 n s) 3 n 0) 4 n 0) 5 0 (nI n + 1))
  generalize hU : upA (upA (upA (upA (upA (upA u 0 n b) 1 n p) 2 n s) 3 n 0) 4 n 0) 5 0 (nI n + 1) = U
  have e0 : U 0 = upd (u 0) n b := by rw [← hU]; rfl
  have e1 : U 1 = upd (u 1) n p := by rw [← hU]; rfl
  have e2 : U 2 = upd (u 2) n s := by rw [← hU]; rfl
  have e3 : U 3 = upd (u 3) n 0 := by rw [← hU]; rfl
  have e4 : U 4 = upd (u 4) n 0 := by rw [← hU]; rfl
  have e5 : U 5 0 = nI n + 1 := by rw [← hU]; rfl
  have e6 : U 6 = u 6 := by rw [← hU]; rfl
  have e7 : U 7 = u 7 := by rw [← hU]; rfl
  have e8 : U 8 = u 8 := by rw [← hU]; rfl
  have e9 : U 9 = u 9 := by rw [← hU]; rfl
  have e10 : U 10 = u 10 := by rw [← hU]; rfl
  have e11 : U 11 = u 11 := by rw [← hU]; rfl
  have e12 : U 12 = u 12 := by rw [← hU]; rfl
  have e13 : U 13 = u 13 := by rw [← hU]; rfl
  refine ⟨by omega, by rw [e5]; exact nI_1 n, ⟨by rw [e8]; exact i1, by rw [e9]; exact i2, by rw [e6]; exact i3, by rw [e7]; exact i4, ?_⟩, by rw [e10]; exact h10, ?_, ?_, by rw [e13, e11]; exact h13, ?_⟩
  · intro k hk
    rw [e0, e1, e3]
    by_cases e : k = n
    · rw [e, pk_us, pk_us, pk_us]; exact ⟨hb, hp, .inl rfl⟩
    · rw [pk_un e, pk_un e, pk_un e]; exact i5 k (by omega)
  · intro k hk
    rw [e2]
    by_cases e : k = n
    · rw [e, pk_us]; exact hs
    · rw [pk_un e]; exact h2 k (by omega)
  · intro k hk
    rw [e4]
    by_cases e : k = n
    · rw [e, pk_us]; decide
    · rw [pk_un e]; exact h4 k (by omega)
  · rw [e4, e12, e11, sumI_s, sumI_out (Nat.le_refl n), pk_us, show (0 : Int32).toInt = 0 by decide]
    omega
theorem rem_G (h : GI n u) (h0 : 0 < n) : (f_removeLast u).1 = nI (n - 1) ∧ GI (n - 1) (f_removeLast u).2 ∧ (f_removeLast u).2 11 0 = u 11 0 := by
  have hn6 := GI_n h
  unfold f_removeLast
  rw [GI_5 h, if_neg (nI_nle h0 (by omega)), c_1, pk_sub (by omega)]
  obtain ⟨hn, h5, ⟨i1, i2, i3, i4, i5⟩, h10, h2, h4, h13, h12⟩ := h
  refine ⟨rfl, ?_, rfl⟩
  have hm := sumI_mono n h4 (n - 1) (by omega)
  exact ⟨by omega, rfl, ⟨i1, i2, i3, i4, fun k hk => i5 k (by omega)⟩, h10, fun k hk => h2 k (by omega), fun k hk => h4 k (by omega), h13, by show sumI (u 4) (n - 1) ≤ (u 12 0).toInt ∧ (u 12 0).toInt ≤ 6 * (u 11 0).toInt; omega⟩
theorem jabs_b {a : Int32} (h : -1000 ≤ a.toInt ∧ a.toInt ≤ 1000) : 0 ≤ (jabs a).toInt ∧ (jabs a).toInt ≤ 1000 := by
  unfold jabs
  have e0 : (0 : Int32).toInt = 0 := by decide
  by_cases h1 : 0 ≤ a
  · rw [if_pos h1]
    have := ti_le.mp h1
    omega
  · rw [if_neg h1]
    have h2 := ti_lt.mp (Int32.not_le.mp h1)
    rw [ti_sub (by omega) (by omega), e0]
    omega
theorem stop_G (h : GI n u) : 0 ≤ (f_stopBoard u).1.toInt ∧ GI n (f_stopBoard u).2 ∧ (f_stopBoard u).2 11 0 = u 11 0 := by
  obtain ⟨hn, h5, ⟨i1, i2, i3, i4, i5⟩, h10, h2, h4, h13, h12⟩ := h
  unfold f_stopBoard
  refine ⟨?_, ⟨hn, h5, ⟨i1, i2, (show -1000 ≤ (0 : Int32).toInt ∧ (0 : Int32).toInt ≤ 1000 by decide), (show -1000 ≤ (0 : Int32).toInt ∧ (0 : Int32).toInt ≤ 1000 by decide), i5⟩, h10, h2, h4, h13, h12⟩, rfl⟩
  have b1 := jabs_b i3
  have b2 := jabs_b i4
  show 0 ≤ (jabs (u 6 0) + jabs (u 7 0)).toInt
  rw [ti_add (by omega) (by omega)]
  omega
/-! the calls -/
theorem A_weigh (h : WI T un sv) (hG : GI n un) {k : Nat} (hk : k < n) {b : Int32} (hb : 40 ≤ b.toInt ∧ b.toInt ≤ 208) : ∃ z, f_Xweigh fl un ut u0 u1 sv x r (nI k) b = .ok z ∧ 0 ≤ z.1.toInt ∧ WI T z.2.1 z.2.2 := by
  have hh := G_has hG hk
  have hn := GI_n hG
  have e1 : (40 : Int32).toInt = 40 := by decide
  have e2 : (208 : Int32).toInt = 208 := by decide
  unfold f_Xweigh f_XisBeat f_changeBeat
  rw [if_pos hh, if_pos (within_of (by omega) (by omega)), if_pos hh, nI_clamp (by omega)]
  have := G_beat hG hk
  exact ⟨_, rfl, by show 0 ≤ (un 0 k).toInt; omega, ⟨⟨n, GI_0 hG k hb⟩, h.1.2⟩, SVI_push h.2 h.1⟩
theorem A_wind (h : WI T un sv) (hG : GI n un) {k : Nat} (hk : k < n) {b : Int32} (hb : 0 ≤ b.toInt ∧ b.toInt ≤ 999) : ∃ z, f_Xwind fl un ut u0 u1 sv x r (nI k) b = .ok z ∧ 0 ≤ z.1.toInt ∧ WI T z.2.1 z.2.2 := by
  have hh := G_has hG hk
  have hn := GI_n hG
  have e1 : (0 : Int32).toInt = 0 := by decide
  have e2 : (999 : Int32).toInt = 999 := by decide
  unfold f_Xwind f_XisSpring f_changeSpring
  rw [if_pos hh, if_pos (within_of (by omega) (by omega)), if_pos hh, nI_clamp (by omega)]
  have := GI_2 hG k hk
  exact ⟨_, rfl, by show 0 ≤ (un 2 k).toInt; omega, ⟨⟨n, GI_2u hG k hb⟩, h.1.2⟩, SVI_push h.2 h.1⟩
theorem A_hold (h : WI T un sv) (hG : GI n un) {k : Nat} (hk : k < n) : ∃ z, f_Xhold fl un ut u0 u1 sv x r (nI k) = .ok z ∧ 0 ≤ z.1.toInt ∧ WI T z.2.1 z.2.2 := by
  have hh := G_has hG hk
  have hn := GI_n hG
  unfold f_Xhold f_holdOrLetGo
  rw [if_pos hh, if_pos hh, nI_clamp (by omega)]
  by_cases h3 : un 3 k = 0
  · rw [if_pos h3, if_neg (show ¬ (1 : Int32) = 0 by decide)]
    exact ⟨_, rfl, by show 0 ≤ (1 : Int32).toInt; decide, ⟨⟨n, GI_3 hG k (.inr rfl)⟩, h.1.2⟩, SVI_push h.2 h.1⟩
  · rw [if_neg h3, if_pos (show (0 : Int32) = 0 from rfl)]
    exact ⟨_, rfl, by show 0 ≤ (0 : Int32).toInt; decide, ⟨⟨n, GI_3 hG k (.inl rfl)⟩, h.1.2⟩, SVI_push h.2 h.1⟩
theorem A_metronome (h : WI T un sv) (hG : GI n un) {b p s : Int32} (hb : 40 ≤ b.toInt ∧ b.toInt ≤ 208) (hp : ∃ j : Nat, j < 3600 ∧ p = nI j) (hs : 0 ≤ s.toInt ∧ s.toInt ≤ 999) : (∃ z, f_Xmetronome fl un ut u0 u1 sv x r b p s = .ok z ∧ 0 ≤ z.1.toInt ∧ WI T z.2.1 z.2.2) ∨ f_Xmetronome fl un ut u0 u1 sv x r b p s = .error (2, r) := by
  have hn := GI_n hG
  have e1 : (40 : Int32).toInt = 40 := by decide
  have e2 : (208 : Int32).toInt = 208 := by decide
  have e3 : (0 : Int32).toInt = 0 := by decide
  have e4 : (3599 : Int32).toInt = 3599 := by decide
  have e5 : (999 : Int32).toInt = 999 := by decide
  obtain ⟨j, hj, ej⟩ := id hp
  have tp : p.toInt = (j : Int) := by rw [ej]; exact nI_toInt (by omega)
  unfold f_Xmetronome f_XisBeat f_XisSpring f_isFull
  rw [if_pos (within_of (by omega) (by omega)), if_pos (within_of (by omega) (by omega)), if_pos (within_of (by omega) (by omega)), GI_5 hG]
  by_cases h6 : n < 6
  · have e9 : (if nI n < (6 : Int32) then false else true) = false := if_pos (by rw [c_6]; exact nI_lt h6 (by omega))
    rw [e9, if_neg Bool.false_ne_true]
    obtain ⟨k1, k2, k3⟩ := add_G hG h6 hb hp hs
    refine .inl ⟨_, rfl, ?_, ⟨⟨n + 1, k2⟩, ?_⟩, SVI_push h.2 h.1⟩
    · show 0 ≤ (f_add un b p s).1.toInt
      rw [k1, nI_toInt (by omega)]; omega
    · show ((f_add un b p s).2 11 0).toInt ≤ _
      rw [k3]; exact h.1.2
  · have e9 : (if nI n < (6 : Int32) then false else true) = true := if_neg (by rw [c_6]; exact nI_nlt (by omega) (by omega))
    rw [e9, if_pos rfl]
    exact .inr rfl
theorem A_take (h : WI T un sv) (hG : GI n un) : (∃ z, f_Xtake fl un ut u0 u1 sv x r = .ok z ∧ 0 ≤ z.1.toInt ∧ WI T z.2.1 z.2.2) ∨ f_Xtake fl un ut u0 u1 sv x r = .error (2, r) := by
  have hn := GI_n hG
  unfold f_Xtake f_isEmpty
  rw [GI_5 hG]
  by_cases h0 : 0 < n
  · have e9 : (if (0 : Int32) < nI n then false else true) = false := if_pos (nI_lt (a := 0) (b := n) h0 (by omega))
    rw [e9, if_neg Bool.false_ne_true]
    obtain ⟨k1, k2, k3⟩ := rem_G hG h0
    refine .inl ⟨_, rfl, ?_, ⟨⟨n - 1, k2⟩, ?_⟩, SVI_push h.2 h.1⟩
    · show 0 ≤ (f_removeLast un).1.toInt
      rw [k1, nI_toInt (by omega)]; omega
    · show ((f_removeLast un).2 11 0).toInt ≤ _
      rw [k3]; exact h.1.2
  · obtain rfl : n = 0 := by omega
    have e9 : (if (0 : Int32) < nI 0 then false else true) = true := by decide
    rw [e9, if_pos rfl]
    exact .inr rfl
theorem A_stop (h : WI T un sv) : 0 ≤ (f_Xstop fl un ut u0 u1 sv x r).1.toInt ∧ WI T (f_Xstop fl un ut u0 u1 sv x r).2.1 (f_Xstop fl un ut u0 u1 sv x r).2.2 := by
  obtain ⟨n, hG⟩ := h.1.1
  obtain ⟨k1, k2, k3⟩ := stop_G hG
  exact ⟨k1, ⟨⟨n, k2⟩, by show ((f_stopBoard un).2 11 0).toInt ≤ _; rw [k3]; exact h.1.2⟩, SVI_push h.2 h.1⟩
theorem A_set (h : WI T un sv) {w : Int32} {q : Nat} (hq : q = 0 ∧ (0 ≤ w.toInt ∧ w.toInt ≤ 95) ∨ q = 1 ∧ (0 ≤ w.toInt ∧ w.toInt ≤ 99) ∨ q = 2 ∧ (0 ≤ w.toInt ∧ w.toInt ≤ 900)) : ∃ z, f_Xset fl un ut u0 u1 sv x r (nI q) w = .ok z ∧ 0 ≤ z.1.toInt ∧ WI T z.2.1 z.2.2 := by
  obtain ⟨n, hG⟩ := h.1.1
  obtain ⟨hn, h5, ⟨i1, i2, i3, i4, i5⟩, h10, h2, h4, h13, h12⟩ := id hG
  have e0 : (0 : Int32).toInt = 0 := by decide
  have e1 : (95 : Int32).toInt = 95 := by decide
  have e2 : (99 : Int32).toInt = 99 := by decide
  have e3 : (900 : Int32).toInt = 900 := by decide
  rcases hq with ⟨rfl, hw⟩ | ⟨rfl, hw⟩ | ⟨rfl, hw⟩
  · unfold f_Xset f_XhighestOf f_changeSetting f_settingValue
    rw [if_pos (by decide), if_pos (show nI 0 = (0 : Int32) from rfl), if_pos (within_of (by omega) (by omega)), if_pos (show nI 0 = (0 : Int32) from rfl), if_pos (show nI 0 = (0 : Int32) from rfl)]
    exact ⟨_, rfl, i1.1, ⟨⟨n, hn, h5, ⟨hw, i2, i3, i4, i5⟩, h10, h2, h4, h13, h12⟩, h.1.2⟩, SVI_push h.2 h.1⟩
  · unfold f_Xset f_XhighestOf f_changeSetting f_settingValue
    rw [if_pos (by decide), if_neg (show ¬ nI 1 = (0 : Int32) by decide), if_pos (show nI 1 = (1 : Int32) from rfl), if_pos (within_of (by omega) (by omega)), if_neg (show ¬ nI 1 = (0 : Int32) by decide), if_pos (show nI 1 = (1 : Int32) from rfl), if_neg (show ¬ nI 1 = (0 : Int32) by decide), if_pos (show nI 1 = (1 : Int32) from rfl)]
    exact ⟨_, rfl, i2.1, ⟨⟨n, hn, h5, ⟨i1, hw, i3, i4, i5⟩, h10, h2, h4, h13, h12⟩, h.1.2⟩, SVI_push h.2 h.1⟩
  · unfold f_Xset f_XhighestOf f_changeSetting f_settingValue
    rw [if_pos (by decide), if_neg (show ¬ nI 2 = (0 : Int32) by decide), if_neg (show ¬ nI 2 = (1 : Int32) by decide), if_pos (within_of (by omega) (by omega)), if_neg (show ¬ nI 2 = (0 : Int32) by decide), if_neg (show ¬ nI 2 = (1 : Int32) by decide), if_neg (show ¬ nI 2 = (0 : Int32) by decide), if_neg (show ¬ nI 2 = (1 : Int32) by decide)]
    exact ⟨_, rfl, h10.1, ⟨⟨n, hn, h5, ⟨i1, i2, i3, i4, i5⟩, hw, h2, h4, h13, h12⟩, h.1.2⟩, SVI_push h.2 h.1⟩
theorem A_undo (h : WI T un sv) : (∃ z, f_Xundo fl un ut u0 u1 sv x r = .ok z ∧ 0 ≤ z.1.toInt ∧ WI T z.2.1 z.2.2) ∨ f_Xundo fl un ut u0 u1 sv x r = .error (2, r) := by
  obtain ⟨h1, hr, hk, hi⟩ := h
  obtain ⟨r', k, us⟩ := sv
  dsimp only at hr hk hi
  unfold f_Xundo f_Ssize
  dsimp only
  by_cases h0 : 0 < k
  · rw [if_neg (nI_ne0 h0 (by omega)), pop_N us un h0 hk]
    refine .inl ⟨_, rfl, ?_, GT_copy (hi (k - 1) (by omega)), hr, by dsimp only; omega, fun i hik => hi i (by dsimp only at hik; omega)⟩
    show 0 ≤ (nI (k - 1)).toInt
    rw [nI_toInt (by omega)]; omega
  · obtain rfl : k = 0 := by omega
    rw [if_pos (show nI 0 = (0 : Int32) from rfl)]
    exact .inr rfl
/-- so many steps at once -/
theorem A_run (h : WI T un sv) (hT : T ≤ 100) (hG : GI n un) {q : Nat} (h1 : 1 ≤ q) (h2 : q ≤ 60) : f_Xrun fl un ut u0 u1 sv x r (nI q) = .ok ((f_letGoBy un (nI q)).1, (f_letGoBy un (nI q)).2, f_Spush sv.1 sv.2.1 sv.2.2 un) ∧ 0 ≤ (f_letGoBy un (nI q)).1.toInt ∧ WI (T + 1) (f_letGoBy un (nI q)).2 (f_Spush sv.1 sv.2.1 sv.2.2 un) ∧ (f_letGoBy un (nI q)).2 11 0 = un 11 0 + nI q ∧ (f_letGoBy un (nI q)).2 12 0 = un 12 0 + (f_letGoBy un (nI q)).1 ∧ GI n (f_letGoBy un (nI q)).2 ∧ s32 ((f_letGoBy un (nI q)).2 2) n = s32 (un 2) n - (f_letGoBy un (nI q)).1 := by
  have hb := h.1.2
  have h13 := GI_13 hG
  have h12 := GI_12 hG
  have tq : (nI q).toInt = (q : Int) := nI_toInt (by omega)
  have t11 : (un 11 0 + nI q).toInt = (un 11 0).toInt + (q : Int) := by rw [ti_add (by omega) (by omega), tq]
  obtain ⟨k1, k2, m, hm, k3, k4⟩ := G_steps hG (f_letGoBy_L7 un (nI q)) (fun j x => rfl) q (by omega)
  have e1 : (1 : Int32).toInt = 1 := by decide
  have e2 : (500 : Int32).toInt = 500 := by decide
  have e3 : (99999 : Int32).toInt = 99999 := by decide
  have e9 : f_letGoBy un (nI q) = (it q (f_letGoBy_L7 un (nI q)) un 12 0 - un 12 0, it q (f_letGoBy_L7 un (nI q)) un) := by
    unfold f_letGoBy
    rw [nI_clamp (by omega)]
  have s4n := sumI_nn n (GI_4 hG)
  rw [e9]
  generalize it q (f_letGoBy_L7 un (nI q)) un = U at k1 k2 k3 k4 e9 ⊢
  have g12 := GI_12 k1
  have ta : (U 12 0 - un 12 0).toInt = (m : Int) := by rw [ti_sub (by omega) (by omega)]; omega
  refine ⟨?_, ?_, ⟨⟨⟨n, k1⟩, ?_⟩, SVI_push (SVI_up h.2 (by omega)) (GT_up h.1 (by omega))⟩, ?_, ?_, k1, ?_⟩
  · unfold f_Xrun f_hasTimeFor
    rw [if_pos (within_of (by omega) (by omega)), if_neg (show ¬ (99999 : Int32) < un 11 0 + nI q from fun z => by have := ti_lt.mp z; omega), if_pos rfl, e9]
  · show 0 ≤ (U 12 0 - un 12 0).toInt
    omega
  · show (U 11 0).toInt ≤ 60 * ((T + 1 : Nat) : Int)
    omega
  · exact Int32.toInt_inj.mp (by show (U 11 0).toInt = _; rw [t11, k2])
  · show U 12 0 = un 12 0 + (U 12 0 - un 12 0)
    grind
  · obtain ⟨a1, a2⟩ := G_springs hG n (Nat.le_refl n)
    obtain ⟨b1, b2⟩ := G_springs k1 n (Nat.le_refl n)
    have c1 := GI_s2 hG
    refine Int32.toInt_inj.mp ?_
    show (s32 (U 2) n).toInt = (s32 (un 2) n - (U 12 0 - un 12 0)).toInt
    rw [ti_sub (by omega) (by omega), ta, a1, b1, k4]
theorem chg9 (C : BS) (w : Int32) : (f_changeSetting C (1 : Int32) w).2 = upA C 9 0 w := by
  unfold f_changeSetting
  rw [if_neg (by decide), if_pos rfl]
theorem BR_two {V U : BS} {F : Nat → Int32} (p1 : BR n V F) (p2 : BI n V) (q1 : BR n U F) (q2 : BI n U) : V 12 0 = U 12 0 ∧ f_order V = f_order U :=
  ⟨p1.2.2.2.2.2.2.2.1.symm.trans q1.2.2.2.2.2.2.2.1, (B_order p1 p2).trans (B_order q1 q2).symm⟩
theorem BI_9 {C : BS} {w : Int32} (h : BI n C) (hw : 0 ≤ w.toInt ∧ w.toInt ≤ 99) : BI n (upA C 9 0 w) := by
  obtain ⟨i8, i9, i6, i7, ir⟩ := h
  exact ⟨i8, hw, i6, i7, ir⟩
theorem BR_9 {C : BS} (h : BR n C (rowU u)) : BR n (upA C 9 0 (u 9 0)) (rowU u) := by
  have d1 := BR_sc9 h (u 9 0)
  have e : upd (rowU u) 1 (u 9 0) = rowU u := upd_self (rowU u) 1
  rw [e] at d1
  exact d1
/-- a trial with the strength as it is comes to the same -/
theorem R_try (hG : GI n un) (q : Nat) : f_XtryOut fl un ut u0 u1 sv x r (nI q) (un 9 0) 12 0 = (f_letGoBy un (nI q)).2 12 0 ∧ f_order (f_XtryOut fl un ut u0 u1 sv x r (nI q) (un 9 0)) = f_order (f_letGoBy un (nI q)).2 := by
  have hBR := GI_BR hG
  have hBI := GI_BI hG
  obtain ⟨c1, c2⟩ := B_copy (u := ut) hBR hBI
  have d1 := BR_9 c1
  have d2 := BI_9 c2 hBI.2.1
  have eV : f_XtryOut fl un ut u0 u1 sv x r (nI q) (un 9 0) = it (nI q).toNatClampNeg (f_XtryOut_L23 fl un ut u0 u1 sv x r (nI q) (un 9 0)) (upA (f_copyFrom ut un) 9 0 (un 9 0)) := by
    unfold f_XtryOut
    rw [chg9]
  have eU : (f_letGoBy un (nI q)).2 = it (nI q).toNatClampNeg (f_letGoBy_L7 un (nI q)) un := by
    unfold f_letGoBy
    rfl
  rw [eV, eU]
  generalize upA (f_copyFrom ut un) 9 0 (un 9 0) = C at d1 d2 ⊢
  have p := B_steps d1 d2 (nI q) (f_XtryOut_L23 fl un ut u0 u1 sv x r (nI q) (un 9 0)) (fun j z => by unfold f_XtryOut_L23; rfl)
  have q := B_steps hBR hBI (nI q) (f_letGoBy_L7 un (nI q)) (fun j z => by unfold f_letGoBy_L7; rfl)
  exact BR_two p.1 p.2.1 q.1 q.2.1
theorem A_if (hG : GI n un) {q : Nat} (h1 : 1 ≤ q) (hq : q ≤ 60) : f_XifRun fl un ut u0 u1 sv x r (nI q) (un 9 0) (0 : Int32) = .ok ((f_letGoBy un (nI q)).1, f_XtryOut fl un ut u0 u1 sv x r (nI q) (un 9 0)) ∧ f_XifRun fl un ut u0 u1 sv x r (nI q) (un 9 0) (1 : Int32) = .ok (f_order (f_letGoBy un (nI q)).2, f_XtryOut fl un ut u0 u1 sv x r (nI q) (un 9 0)) := by
  obtain ⟨r1, r2⟩ := R_try (fl := fl) (ut := ut) (u0 := u0) (u1 := u1) (sv := sv) (x := x) (r := r) hG q
  have tq : (nI q).toInt = (q : Int) := nI_toInt (by omega)
  have e0 : (0 : Int32).toInt = 0 := by decide
  have e1 : (1 : Int32).toInt = 1 := by decide
  have e2 : (500 : Int32).toInt = 500 := by decide
  have e3 : (99 : Int32).toInt = 99 := by decide
  have hs := (GI_BI hG).2.1
  unfold f_XifRun f_Xoutcome f_allTicks
  rw [if_pos (within_of (by omega) (by omega)), if_pos (within_of (by omega) (by omega)), if_pos (by decide), if_pos rfl]
  rw [if_pos (within_of (by omega) (by omega)), if_pos (within_of (by omega) (by omega)), if_pos (by decide), if_neg (by decide), if_pos rfl]
  rw [r2, r1]
  exact ⟨rfl, rfl⟩
end GOPS

/-! MATH 3: a step, copies -/
section BR3
variable {n : Nat} {u : BS} {f : Nat → Int32}
theorem BR_w (h : BR n u f) {k : Nat} (hk : k < n) {w : Nat} (hw : w < 5) : f (9 + 5 * k + w) = u w k := by
  have h1 := BR_row h hk
  rcases (show w = 0 ∨ w = 1 ∨ w = 2 ∨ w = 3 ∨ w = 4 by omega) with rfl | rfl | rfl | rfl | rfl
  · exact h1.1
  · exact h1.2.1
  · exact h1.2.2.1
  · exact h1.2.2.2.1
  · exact h1.2.2.2.2
theorem BR_ofw {g : Nat → Int32} {v : BS} {k : Nat} (h : ∀ w, w < 5 → g (9 + 5 * k + w) = v w k) : g (9 + 5 * k) = v 0 k ∧ g (9 + 5 * k + 1) = v 1 k ∧ g (9 + 5 * k + 2) = v 2 k ∧ g (9 + 5 * k + 3) = v 3 k ∧ g (9 + 5 * k + 4) = v 4 k :=
  ⟨h 0 (by omega), h 1 (by omega), h 2 (by omega), h 3 (by omega), h 4 (by omega)⟩
theorem upA_ne {k j j' : Nat} {v : Int32} {r : Nat} (h : j' ≠ j) : upA u r j v k j' = u k j' := by
  unfold upA
  by_cases e : k = r
  · rw [if_pos e, pk_un h, e]
  · rw [if_neg e]
theorem BR_upw (h : BR n u f) {r : Nat} (hr5 : r < 5) (k : Nat) (v : Int32) : BR n (upA u r k v) (upd f (9 + 5 * k + r) v) := by
  have hw := @BR_w _ _ _ h
  obtain ⟨hn, h5, h3, h0, h1, h2, h4, h5', h6, h7, h8, hr⟩ := h
  refine ⟨hn, ?_, ?_, ?_, ?_, ?_, ?_, ?_, ?_, ?_, ?_, ?_⟩
  · rw [upA_o (by omega)]; exact h5
  all_goals first | (rw [pk_un (by omega), upA_o (by omega)]; assumption) | (rw [pk_un (by omega)]; assumption) | skip
  intro k' hk'
  refine BR_ofw ?_
  intro w hw5
  by_cases e : k' = k ∧ w = r
  · obtain ⟨rfl, rfl⟩ := e
    rw [pk_us, upA_s]
  · rw [pk_un (by omega), hw hk' hw5]
    by_cases e2 : w = r
    · rw [upA_ne (by omega)]
    · rw [upA_o e2]
theorem upd_self (g : Nat → Int32) (k : Nat) : upd g k (g k) = g := by
  funext j
  by_cases e : j = k
  · rw [e, pk_us]
  · rw [pk_un e]

theorem BR_sc8 (h : BR n u f) (v : Int32) : BR n (upA u 8 0 v) (upd f 0 v) := by
  obtain ⟨hn, h5, h3, h0, h1, h2, h4, h5', h6, h7, h8, hr⟩ := h
  refine ⟨hn, h5, h3, rfl, h1, h2, h4, h5', h6, h7, h8, ?_⟩
  intro k hk
  have h9 := hr k hk
  rw [pk_un (by omega), pk_un (by omega), pk_un (by omega), pk_un (by omega), pk_un (by omega), upA_o (by omega), upA_o (by omega), upA_o (by omega), upA_o (by omega), upA_o (by omega)]
  exact h9

theorem BR_sc9 (h : BR n u f) (v : Int32) : BR n (upA u 9 0 v) (upd f 1 v) := by
  obtain ⟨hn, h5, h3, h0, h1, h2, h4, h5', h6, h7, h8, hr⟩ := h
  refine ⟨hn, h5, h3, h0, rfl, h2, h4, h5', h6, h7, h8, ?_⟩
  intro k hk
  have h9 := hr k hk
  rw [pk_un (by omega), pk_un (by omega), pk_un (by omega), pk_un (by omega), pk_un (by omega), upA_o (by omega), upA_o (by omega), upA_o (by omega), upA_o (by omega), upA_o (by omega)]
  exact h9

theorem BR_sc10 (h : BR n u f) (v : Int32) : BR n (upA u 10 0 v) (upd f 2 v) := by
  obtain ⟨hn, h5, h3, h0, h1, h2, h4, h5', h6, h7, h8, hr⟩ := h
  refine ⟨hn, h5, h3, h0, h1, rfl, h4, h5', h6, h7, h8, ?_⟩
  intro k hk
  have h9 := hr k hk
  rw [pk_un (by omega), pk_un (by omega), pk_un (by omega), pk_un (by omega), pk_un (by omega), upA_o (by omega), upA_o (by omega), upA_o (by omega), upA_o (by omega), upA_o (by omega)]
  exact h9

theorem BR_sc11 (h : BR n u f) (v : Int32) : BR n (upA u 11 0 v) (upd f 4 v) := by
  obtain ⟨hn, h5, h3, h0, h1, h2, h4, h5', h6, h7, h8, hr⟩ := h
  refine ⟨hn, h5, h3, h0, h1, h2, rfl, h5', h6, h7, h8, ?_⟩
  intro k hk
  have h9 := hr k hk
  rw [pk_un (by omega), pk_un (by omega), pk_un (by omega), pk_un (by omega), pk_un (by omega), upA_o (by omega), upA_o (by omega), upA_o (by omega), upA_o (by omega), upA_o (by omega)]
  exact h9

theorem BR_sc12 (h : BR n u f) (v : Int32) : BR n (upA u 12 0 v) (upd f 5 v) := by
  obtain ⟨hn, h5, h3, h0, h1, h2, h4, h5', h6, h7, h8, hr⟩ := h
  refine ⟨hn, h5, h3, h0, h1, h2, h4, rfl, h6, h7, h8, ?_⟩
  intro k hk
  have h9 := hr k hk
  rw [pk_un (by omega), pk_un (by omega), pk_un (by omega), pk_un (by omega), pk_un (by omega), upA_o (by omega), upA_o (by omega), upA_o (by omega), upA_o (by omega), upA_o (by omega)]
  exact h9

theorem BR_sc13 (h : BR n u f) (v : Int32) : BR n (upA u 13 0 v) (upd f 6 v) := by
  obtain ⟨hn, h5, h3, h0, h1, h2, h4, h5', h6, h7, h8, hr⟩ := h
  refine ⟨hn, h5, h3, h0, h1, h2, h4, h5', rfl, h7, h8, ?_⟩
  intro k hk
  have h9 := hr k hk
  rw [pk_un (by omega), pk_un (by omega), pk_un (by omega), pk_un (by omega), pk_un (by omega), upA_o (by omega), upA_o (by omega), upA_o (by omega), upA_o (by omega), upA_o (by omega)]
  exact h9

theorem BR_sc6 (h : BR n u f) (v : Int32) : BR n (upA u 6 0 v) (upd f 7 v) := by
  obtain ⟨hn, h5, h3, h0, h1, h2, h4, h5', h6, h7, h8, hr⟩ := h
  refine ⟨hn, h5, h3, h0, h1, h2, h4, h5', h6, rfl, h8, ?_⟩
  intro k hk
  have h9 := hr k hk
  rw [pk_un (by omega), pk_un (by omega), pk_un (by omega), pk_un (by omega), pk_un (by omega), upA_o (by omega), upA_o (by omega), upA_o (by omega), upA_o (by omega), upA_o (by omega)]
  exact h9

theorem BR_sc7 (h : BR n u f) (v : Int32) : BR n (upA u 7 0 v) (upd f 8 v) := by
  obtain ⟨hn, h5, h3, h0, h1, h2, h4, h5', h6, h7, h8, hr⟩ := h
  refine ⟨hn, h5, h3, h0, h1, h2, h4, h5', h6, h7, rfl, ?_⟩
  intro k hk
  have h9 := hr k hk
  rw [pk_un (by omega), pk_un (by omega), pk_un (by omega), pk_un (by omega), pk_un (by omega), upA_o (by omega), upA_o (by omega), upA_o (by omega), upA_o (by omega), upA_o (by omega)]
  exact h9

theorem BI_o (h : BI n u) {r : Nat} (k : Nat) (v : Int32) (hr : r ≠ 8 ∧ r ≠ 9 ∧ r ≠ 6 ∧ r ≠ 7 ∧ r ≠ 0 ∧ r ≠ 1 ∧ r ≠ 3) : BI n (upA u r k v) := by
  obtain ⟨r8, r9, r6, r7, r0, r1, r3⟩ := hr
  unfold BI
  rw [upA_o (Ne.symm r8), upA_o (Ne.symm r9), upA_o (Ne.symm r6), upA_o (Ne.symm r7), upA_o (Ne.symm r0), upA_o (Ne.symm r1), upA_o (Ne.symm r3)]
  exact h
theorem BI_1 (h : BI n u) (k : Nat) {j : Nat} (hj : j < 3600) : BI n (upA u 1 k (nI j)) := by
  obtain ⟨h1, h2, h3, h4, h5⟩ := h
  refine ⟨h1, h2, h3, h4, ?_⟩
  intro k' hk'
  refine ⟨(h5 k' hk').1, ?_, (h5 k' hk').2.2⟩
  by_cases e : k' = k
  · rw [e]; exact ⟨j, hj, upA_s⟩
  · rw [upA_ne e]; exact (h5 k' hk').2.1
theorem push_b {a p st : Int32} (ha : -1000 ≤ a.toInt ∧ a.toInt ≤ 1000) (hp : -1000 ≤ p.toInt ∧ p.toInt ≤ 1000) (hs : 0 ≤ st.toInt ∧ st.toInt ≤ 95) : -1000 ≤ ((a * st + p * (100 - st)) / (100 : Int32)).toInt ∧ ((a * st + p * (100 - st)) / (100 : Int32)).toInt ≤ 1000 := by
  have e100 : (100 : Int32).toInt = 100 := by decide
  have e1 : (100 - st).toInt = 100 - st.toInt := by rw [ti_sub (by omega) (by omega), e100]
  obtain ⟨b1, b2⟩ := mul_bd 1000 95 ha.1 ha.2 (by omega) hs.2
  have e2 : (a * st).toInt = a.toInt * st.toInt := ti_mul (by omega) (by omega)
  obtain ⟨b3, b4⟩ := mul_bd (x := p.toInt) (y := 100 - st.toInt) 1000 100 hp.1 hp.2 (by omega) (by omega)
  have e3 : (p * (100 - st)).toInt = p.toInt * (100 - st.toInt) := by rw [ti_mul (by rw [e1]; omega) (by rw [e1]; omega), e1]
  have e4 : (a * st + p * (100 - st)).toInt = a.toInt * st.toInt + p.toInt * (100 - st.toInt) := by rw [ti_add (by omega) (by omega), e2, e3]
  rw [ti_div (by decide), e4, e100]
  have k1 : 0 ≤ (1000 - a.toInt) * st.toInt := Int.mul_nonneg (by omega) hs.1
  have k2 : 0 ≤ (1000 + a.toInt) * st.toInt := Int.mul_nonneg (by omega) hs.1
  have k3 : 0 ≤ (1000 - p.toInt) * (100 - st.toInt) := Int.mul_nonneg (by omega) (by omega)
  have k4 : 0 ≤ (1000 + p.toInt) * (100 - st.toInt) := Int.mul_nonneg (by omega) (by omega)
  rw [Int.sub_mul] at k1 k3
  rw [Int.add_mul] at k2 k4
  exact td_bd (by omega) (by omega) (by omega)
theorem pull_b {s a t b w : Int32} (hs : 0 ≤ s.toInt ∧ s.toInt ≤ 99) (ha : -1000 ≤ a.toInt ∧ a.toInt ≤ 1000) (ht : -1000 ≤ t.toInt ∧ t.toInt ≤ 1000) (hb : -1000 ≤ b.toInt ∧ b.toInt ≤ 1000) (hw : -1000 ≤ w.toInt ∧ w.toInt ≤ 1000) : -1980 ≤ ((s * (a * t - b * w)) / (100000 : Int32)).toInt ∧ ((s * (a * t - b * w)) / (100000 : Int32)).toInt ≤ 1980 := by
  have e100 : (100000 : Int32).toInt = 100000 := by decide
  obtain ⟨b1, b2⟩ := mul_bd 1000 1000 ha.1 ha.2 ht.1 ht.2
  have e2 : (a * t).toInt = a.toInt * t.toInt := ti_mul (by omega) (by omega)
  obtain ⟨b3, b4⟩ := mul_bd 1000 1000 hb.1 hb.2 hw.1 hw.2
  have e3 : (b * w).toInt = b.toInt * w.toInt := ti_mul (by omega) (by omega)
  have e4 : (a * t - b * w).toInt = a.toInt * t.toInt - b.toInt * w.toInt := by rw [ti_sub (by omega) (by omega), e2, e3]
  have b5 : -2000000 ≤ (a * t - b * w).toInt := by omega
  have b6 : (a * t - b * w).toInt ≤ 2000000 := by omega
  obtain ⟨b7, b8⟩ := mul_bd 99 2000000 (show -99 ≤ s.toInt by omega) hs.2 b5 b6
  have e5 : (s * (a * t - b * w)).toInt = s.toInt * (a * t - b * w).toInt := ti_mul (by omega) (by omega)
  rw [ti_div (by decide), e100, e5]
  exact td_bd (by omega) (by omega) (by omega)
theorem B_pull (h : BR n u f) (hi : BI n u) {k : Nat} (hk : k < n) : f_pull u (u 1 k) = f_Mpull f k ∧ -1980 ≤ (f_Mpull f k).toInt ∧ (f_Mpull f k).toInt ≤ 1980 := by
  obtain ⟨q, hq, e⟩ := (BI_row hi hk).2.1
  have e1 := (BR_row h hk).2.1
  obtain ⟨hn, h5, h3, h0, h1, h2, h4, h5', h6, h7, h8, hr⟩ := h
  obtain ⟨i8, i9, i6, i7, -⟩ := hi
  unfold f_pull f_Mpull f_Mof
  rw [e1, e, tu_N hq, sw_N hq, Mtu_N hq, Msw_N hq, h1, h7, h8]
  exact ⟨rfl, pull_b i9 i6 (swN_b (by omega)) i7 (swN_b hq)⟩
theorem B_pull' (h : BR n u f) (hi : BI n u) {k : Nat} (hk : k < n) : f_pull u (u 1 k) = f_Mpull f k := (B_pull h hi hk).1
/-- the reference's push of the board -/
def mpush (f : Nat → Int32) : Nat → Int32 := if f_Mgoing f = 0 then upd (upd f 7 ((((f 7) * (f 0)) + ((0 : Int32) * ((100 : Int32) - (f 0)))) / (100 : Int32))) 8 ((((f 8) * (f 0)) + ((0 : Int32) * ((100 : Int32) - (f 0)))) / (100 : Int32)) else upd (upd f 7 ((((f 7) * (f 0)) + (((f_Msum f false) / (f_Mgoing f)) * ((100 : Int32) - (f 0)))) / (100 : Int32))) 8 ((((f 8) * (f 0)) + (((f_Msum f true) / (f_Mgoing f)) * ((100 : Int32) - (f 0)))) / (100 : Int32))
def mfin (P : Int32 × (Nat → Int32)) : Nat → Int32 := if P.1 ≤ (1 : Int32) then upd (upd (upd P.2 5 (P.2 5 + P.1)) 6 (P.2 6 + (0 : Int32))) 4 (P.2 4 + (1 : Int32)) else upd (upd (upd P.2 5 (P.2 5 + P.1)) 6 (P.2 6 + (1 : Int32))) 4 (P.2 4 + (1 : Int32))
def cfin (P : Int32 × BS) : BS := if P.1 < (2 : Int32) then upA (upA P.2 11 0 (P.2 11 0 + (1 : Int32))) 12 0 (P.2 12 0 + P.1) else upA (upA (upA P.2 11 0 (P.2 11 0 + (1 : Int32))) 12 0 (P.2 12 0 + P.1)) 13 0 (P.2 13 0 + (1 : Int32))
theorem step_c : f_step u = cfin (it 6 (f_step_L8 u) ((0 : Int32), f_pushBoard u)) := by
  unfold f_step
  generalize it 6 (f_step_L8 u) ((0 : Int32), f_pushBoard u) = P
  rfl
theorem step_m : f_Mstep f = mfin (it ((f 3).toNatClampNeg) (f_Mstep_L91 f) ((0 : Int32), mpush f)) := by
  unfold f_Mstep mpush
  by_cases h : f_Mgoing f = 0
  · rw [if_pos h, if_pos h]
    generalize it ((f 3).toNatClampNeg) (f_Mstep_L91 f) _ = P
    rfl
  · rw [if_neg h, if_neg h]
    generalize it ((f 3).toNatClampNeg) (f_Mstep_L91 f) _ = P
    rfl
theorem B_push (h : BR n u f) (hi : BI n u) : BR n (f_pushBoard u) (mpush f) ∧ BI n (f_pushBoard u) := by
  have hs := B_sumb h hi
  have e1 := B_swings h hi
  have e2 := B_turns h hi
  have e3 := B_going h
  have e4 := B_Mgoing h
  have hc := cnt_le (f := f) n
  have hn := BR_n h
  have h0 : f 0 = u 8 0 := h.2.2.2.1
  have h7 : f 7 = u 6 0 := h.2.2.2.2.2.2.2.2.2.1
  have h8 : f 8 = u 7 0 := h.2.2.2.2.2.2.2.2.2.2.1
  obtain ⟨i8, i9, i6, i7, ir⟩ := hi
  have fin : ∀ x y : Int32, (-1000 ≤ x.toInt ∧ x.toInt ≤ 1000) → (-1000 ≤ y.toInt ∧ y.toInt ≤ 1000) → BI n (upA (upA u 6 0 x) 7 0 y) := fun x y hx hy => ⟨i8, i9, hx, hy, ir⟩
  have z0 : -1000 ≤ (0 : Int32).toInt ∧ (0 : Int32).toInt ≤ 1000 := by decide
  unfold f_pushBoard mpush
  rw [e3, e4, e1, e2, h0, h7, h8]
  by_cases hz : cnt f n = 0
  · rw [hz, if_pos (by decide), if_pos (by decide)]
    exact ⟨BR_sc7 (BR_sc6 h _) _, fin _ _ (push_b i6 z0 i8) (push_b i7 z0 i8)⟩
  · rw [if_neg (nI_nle (by omega) (by omega)), if_neg (nI_ne0 (by omega) (by omega))]
    refine ⟨BR_sc7 (BR_sc6 h _) _, ?_⟩
    have q : ∀ b, -1000 ≤ (f_Msum f b / nI (cnt f n)).toInt ∧ (f_Msum f b / nI (cnt f n)).toInt ≤ 1000 := by
      intro b
      have hne : nI (cnt f n) ≠ -1 := by
        intro e
        have e1 := congrArg Int32.toInt e
        rw [nI_toInt (by omega)] at e1
        have e2 : (-1 : Int32).toInt = -1 := by decide
        omega
      rw [ti_div hne, nI_toInt (by omega)]
      exact td_bd (by omega) (hs b).1 (hs b).2
    exact fin _ _ (push_b i6 (q false) i8) (push_b i7 (q true) i8)
theorem push_o {r : Nat} (h6 : r ≠ 6) (h7 : r ≠ 7) : f_pushBoard u r = u r := by
  unfold f_pushBoard
  by_cases h : f_going u ≤ 0
  · rw [if_pos h, upA_o h7, upA_o h6]
  · rw [if_neg h, upA_o h7, upA_o h6]
/-- what a round of the loop over the metronomes keeps -/
def SL (n : Nat) (v : BS) (j : Nat) (x : Int32 × BS) (y : Int32 × (Nat → Int32)) : Prop := x.1 = y.1 ∧ (∃ m, m ≤ j ∧ x.1 = nI m) ∧ BR n x.2 y.2 ∧ BI n x.2 ∧ x.2 11 = v 11 ∧ x.2 12 = v 12 ∧ x.2 13 = v 13
theorem L91 (j : Nat) (a : Int32) (x : Nat → Int32) {P : Int32} (hP : ((x ((9 + (5 * j)) + 1)) + (x (9 + (5 * j)))) + (f_Mpull x j) = P) : f_Mstep_L91 f j (a, x) = if f_Mgoes x j = true then (if P < (3600 : Int32) then (if 0 ≤ P then (a, upd x ((9 + (5 * j)) + 1) P) else (a, upd x ((9 + (5 * j)) + 1) (P + (3600 : Int32)))) else (a + (1 : Int32), upd (upd (upd x ((9 + (5 * j)) + 1) (P - (3600 : Int32))) ((9 + (5 * j)) + 2) (x ((9 + (5 * j)) + 2) - (1 : Int32))) ((9 + (5 * j)) + 4) (x ((9 + (5 * j)) + 4) + (1 : Int32)))) else (a, x) := by
  unfold f_Mstep_L91
  rw [hP]
  simp only [Int32.sub_zero, Int32.add_zero, upd_self]
  rw [pk_un (f := upd x _ _) (by omega), pk_un (by omega), pk_un (by omega)]
theorem B_body (h : BR n u f) (hi : BI n u) {j : Nat} (hj : j < n) (v : BS) (a : Int32) {m : Nat} (hm : m ≤ j) (ha : a = nI m) (w0 : BS) (w1 : Nat → Int32) (h11 : u 11 = v 11) (h12 : u 12 = v 12) (h13 : u 13 = v 13) : SL n v (j + 1) (f_step_L8 w0 j (a, u)) (f_Mstep_L91 w1 j (a, f)) := by
  have hn := BR_n h
  have hg := B_goes' h hj
  have hp := B_pull h hi hj
  have hrow := BR_row h hj
  obtain ⟨⟨hb1, hb2⟩, ⟨q, hq, eq⟩, hh⟩ := BI_row hi hj
  have hP : ((f ((9 + (5 * j)) + 1)) + (f (9 + (5 * j)))) + (f_Mpull f j) = u 1 j + u 0 j + f_Mpull f j := by rw [hrow.1, hrow.2.1]
  rw [L91 j a f hP]
  unfold f_step_L8
  show SL n v (j + 1) (if f_goes u (nI j) = true then (if ((f_ticksGoingForward u (nI j)).1) = true then (a + (1 : Int32), (f_ticksGoingForward u (nI j)).2) else (a, (f_ticksGoingForward u (nI j)).2)) else (a, u)) _
  rw [hg]
  by_cases g : f_Mgoes f j = true
  · rw [if_pos g, if_pos g]
    unfold f_ticksGoingForward
    rw [if_pos (B_hask h hj), nI_clamp (by omega), hp.1]
    have tq := nI_toInt (n := q) (by omega)
    have e1 : (u 1 j + u 0 j).toInt = (q : Int) + (u 0 j).toInt := by rw [ti_add (by rw [eq, tq]; omega) (by rw [eq, tq]; omega), eq, tq]
    have e2 : (u 1 j + u 0 j + f_Mpull f j).toInt = (q : Int) + (u 0 j).toInt + (f_Mpull f j).toInt := by rw [ti_add (by omega) (by omega), e1]
    have e3 : (3600 : Int32).toInt = 3600 := by decide
    have e0 : (0 : Int32).toInt = 0 := by decide
    generalize u 1 j + u 0 j + f_Mpull f j = P at e2
    by_cases c0 : 0 ≤ P
    · have c0' := ti_le.mp c0
      by_cases c1 : (3600 : Int32) ≤ P
      · have c1' := ti_le.mp c1
        rw [if_pos c0, if_pos c1, if_pos rfl, if_neg (Int32.not_lt.mpr c1)]
        have e4 : (P - 3600).toInt = P.toInt - 3600 := by rw [ti_sub (by omega) (by omega), e3]
        obtain ⟨z, ez, rz⟩ := ti_of (a := P - 3600) (by omega)
        refine ⟨rfl, ⟨m + 1, by omega, by rw [ha]; exact nI_1 m⟩, ?_, ?_, h11, h12, h13⟩
        · rw [← hrow.2.2.1, ← hrow.2.2.2.2]
          exact BR_upw (BR_upw (BR_upw h (r := 1) (by omega) j _) (r := 2) (by omega) j _) (r := 4) (by omega) j _
        · rw [rz]
          exact BI_o (BI_o (BI_1 hi j (by omega)) j _ (by decide)) j _ (by decide)
      · have c1' : P.toInt < 3600 := by
          have := ti_lt.mp (Int32.not_le.mp c1)
          omega
        rw [if_pos c0, if_neg c1, if_neg (show ¬ (false = true) by decide), if_pos (Int32.not_le.mp c1), if_pos c0]
        obtain ⟨z, ez, rz⟩ := ti_of (a := P) (by omega)
        refine ⟨rfl, ⟨m, by omega, ha⟩, ?_, ?_, h11, h12, h13⟩
        · exact BR_upw h (r := 1) (by omega) j _
        · rw [rz]
          exact BI_1 hi j (by omega)
    · have c0' : P.toInt < 0 := by
        have := ti_lt.mp (Int32.not_le.mp c0)
        omega
      have c1 : P < (3600 : Int32) := ti_lt.mpr (by omega)
      rw [if_neg c0, if_neg (show ¬ (false = true) by decide), if_pos c1, if_neg c0]
      have e4 : (P + 3600).toInt = P.toInt + 3600 := by rw [ti_add (by omega) (by omega), e3]
      obtain ⟨z, ez, rz⟩ := ti_of (a := P + 3600) (by omega)
      refine ⟨rfl, ⟨m, by omega, ha⟩, ?_, ?_, h11, h12, h13⟩
      · exact BR_upw h (r := 1) (by omega) j _
      · rw [rz]
        exact BI_1 hi j (by omega)
  · rw [if_neg g, if_neg g]
    exact ⟨rfl, ⟨m, by omega, ha⟩, h, hi, h11, h12, h13⟩
theorem B_step (h : BR n u f) (hi : BI n u) : BR n (f_step u) (f_Mstep f) ∧ BI n (f_step u) ∧ f_step u 11 0 = u 11 0 + 1 ∧ (f_step u 13 0 = u 13 0 ∨ f_step u 13 0 = u 13 0 + 1) := by
  have hn := BR_n h
  obtain ⟨p1, p2⟩ := B_push h hi
  rw [step_c, step_m, BR_3 h]
  have loop : SL n u n (it n (f_step_L8 u) ((0 : Int32), f_pushBoard u)) (it n (f_Mstep_L91 f) ((0 : Int32), mpush f)) := by
    refine it_rel (SL n u) ⟨rfl, ⟨0, Nat.le_refl _, rfl⟩, p1, p2, push_o (by decide) (by decide), push_o (by decide) (by decide), push_o (by decide) (by decide)⟩ ?_
    rintro j ⟨a, x⟩ ⟨b, y⟩ hj ⟨q1, ⟨m, hm, em⟩, q2, q3, q4, q5, q6⟩
    obtain rfl : a = b := q1
    exact B_body q2 q3 hj u a hm em u f q4 q5 q6
  have tail : it 6 (f_step_L8 u) ((0 : Int32), f_pushBoard u) = it n (f_step_L8 u) ((0 : Int32), f_pushBoard u) := by
    rw [show 6 = n + (6 - n) by omega, it_plus]
    generalize it n (f_step_L8 u) ((0 : Int32), f_pushBoard u) = X at loop
    refine it_inv (fun _ x => x = X) rfl ?_
    rintro j x hj rfl
    unfold f_step_L8
    rw [B_goes loop.2.2.1 (by omega), if_neg (show ¬ n + j < n by omega), if_neg (show ¬ false = true by decide)]
  rw [tail]
  generalize it n (f_step_L8 u) ((0 : Int32), f_pushBoard u) = X at loop
  generalize it n (f_Mstep_L91 f) ((0 : Int32), mpush f) = Y at loop
  obtain ⟨a, x⟩ := X
  obtain ⟨b, y⟩ := Y
  unfold SL at loop
  dsimp only at loop
  obtain ⟨q1, ⟨m, hm, em⟩, q2, q3, q4, q5, q6⟩ := loop
  obtain rfl : a = b := q1
  unfold cfin mfin
  show BR n (if a < 2 then _ else _) (if a ≤ 1 then _ else _) ∧ BI n (if a < 2 then _ else _) ∧ (if a < 2 then _ else _ : BS) 11 0 = _ ∧ ((if a < 2 then _ else _ : BS) 13 0 = _ ∨ (if a < 2 then _ else _ : BS) 13 0 = _)
  have s0 : x 11 0 = u 11 0 := congrFun q4 0
  have s3 : x 13 0 = u 13 0 := congrFun q6 0
  have hrow := @BR_row _ _ _ q2
  obtain ⟨hn', h5, h3, h0, h1, h2, h4, h5', h6, h7, h8, hr⟩ := q2
  by_cases c : m ≤ 1
  · have c1 : a < 2 := by rw [em]; exact nI_lt (a := m) (b := 2) (by omega) (by omega)
    have c2 : a ≤ 1 := by rw [em]; exact nI_le (a := m) (b := 1) (by omega) (by omega)
    rw [if_pos c1, if_pos c2]
    refine ⟨⟨hn, h5, h3, h0, h1, h2, ?_, ?_, ?_, h7, h8, ?_⟩, BI_o (BI_o q3 _ _ (by decide)) _ _ (by decide), ?_, .inl ?_⟩
    · show y 4 + 1 = x 11 0 + 1
      rw [h4]
    · show y 5 + a = x 12 0 + a
      rw [h5']
    · show y 6 + 0 = x 13 0
      rw [h6, Int32.add_zero]
    · intro k hk
      rw [pk_un (by omega), pk_un (by omega), pk_un (by omega), pk_un (by omega), pk_un (by omega), pk_un (by omega), pk_un (by omega), pk_un (by omega), pk_un (by omega), pk_un (by omega), pk_un (by omega), pk_un (by omega), pk_un (by omega), pk_un (by omega), pk_un (by omega)]
      exact hr k hk
    · show x 11 0 + 1 = _
      rw [s0]
    · exact s3
  · have c1 : ¬ a < 2 := by rw [em]; exact nI_nlt (a := m) (b := 2) (by omega) (by omega)
    have c2 : ¬ a ≤ 1 := by rw [em]; exact nI_ge (a := 1) (b := m) (by omega) (by omega)
    rw [if_neg c1, if_neg c2]
    refine ⟨⟨hn, h5, h3, h0, h1, h2, ?_, ?_, ?_, h7, h8, ?_⟩, BI_o (BI_o (BI_o q3 _ _ (by decide)) _ _ (by decide)) _ _ (by decide), ?_, .inr ?_⟩
    · show y 4 + 1 = x 11 0 + 1
      rw [h4]
    · show y 5 + a = x 12 0 + a
      rw [h5']
    · show y 6 + 1 = x 13 0 + 1
      rw [h6]
    · intro k hk
      rw [pk_un (by omega), pk_un (by omega), pk_un (by omega), pk_un (by omega), pk_un (by omega), pk_un (by omega), pk_un (by omega), pk_un (by omega), pk_un (by omega), pk_un (by omega), pk_un (by omega), pk_un (by omega), pk_un (by omega), pk_un (by omega), pk_un (by omega)]
      exact hr k hk
    · show x 11 0 + 1 = _
      rw [s0]
    · show x 13 0 + 1 = _
      rw [s3]
/-! many steps; copies -/
theorem B_steps (h : BR n u f) (hi : BI n u) (p : Int32) (c : Nat → BS → BS) (hc : ∀ j x, c j x = f_step x) : BR n (it p.toNatClampNeg c u) (f_Msteps f p) ∧ BI n (it p.toNatClampNeg c u) ∧ (it p.toNatClampNeg c u) 11 0 = u 11 0 + nI p.toNatClampNeg ∧ ∃ m, m ≤ p.toNatClampNeg ∧ (it p.toNatClampNeg c u) 13 0 = u 13 0 + nI m := by
  unfold f_Msteps
  generalize p.toNatClampNeg = N
  refine it_rel (fun j x y => BR n x y ∧ BI n x ∧ x 11 0 = u 11 0 + nI j ∧ ∃ m, m ≤ j ∧ x 13 0 = u 13 0 + nI m) ⟨h, hi, ?_, 0, Nat.le_refl _, ?_⟩ ?_
  · exact (Int32.add_zero _).symm
  · exact (Int32.add_zero _).symm
  · rintro j x y hj ⟨h1, h2, h3, m, hm, h4⟩
    rw [hc]
    unfold f_Msteps_L2
    obtain ⟨k1, k2, k3, k4⟩ := B_step h1 h2
    refine ⟨k1, k2, ?_, ?_⟩
    · rw [k3, h3, Int32.add_assoc, nI_1]
    · rcases k4 with k4 | k4
      · exact ⟨m, by omega, by rw [k4, h4]⟩
      · exact ⟨m + 1, by omega, by rw [k4, h4, Int32.add_assoc, nI_1]⟩
theorem copies_m (g : Nat → Int32) (a b m : Nat) : it m (f_Mcopies_L3 f g a b) g = fun j => if b ≤ j ∧ j < b + m then f (a + (j - b)) else g j := by
  induction m with
  | zero =>
    funext j
    rw [it_0, if_neg (by omega)]
  | succ m ih =>
    rw [it_s, ih]
    unfold f_Mcopies_L3
    funext j
    by_cases e : j = b + m
    · rw [e, pk_us, if_pos (by omega), show b + m - b = m by omega]
    · rw [pk_un e]
      by_cases c : b ≤ j ∧ j < b + m
      · rw [if_pos c, if_pos (by omega)]
      · rw [if_neg c, if_neg (by omega)]
theorem copies_in (g : Nat → Int32) (a b : Nat) {j : Nat} (hj : j < 39) : f_Mcopies f g a b (b + j) = f (a + j) := by
  unfold f_Mcopies
  rw [copies_m]
  show (if b ≤ b + j ∧ b + j < b + 39 then f (a + (b + j - b)) else g (b + j)) = _
  rw [if_pos (by omega), show b + j - b = j by omega]
theorem copies_out (g : Nat → Int32) (a b : Nat) {j : Nat} (hj : j < b ∨ b + 39 ≤ j) : f_Mcopies f g a b j = g j := by
  unfold f_Mcopies
  rw [copies_m]
  show (if b ≤ j ∧ j < b + 39 then f (a + (j - b)) else g j) = _
  rw [if_neg (by omega)]
theorem BR_ext (h : BR n u f) {g : Nat → Int32} (e : ∀ j, j < 39 → g j = f j) : BR n u g := by
  obtain ⟨hn, h5, h3, h0, h1, h2, h4, h5', h6, h7, h8, hr⟩ := h
  refine ⟨hn, h5, by rw [e 3 (by omega)]; exact h3, by rw [e 0 (by omega)]; exact h0, by rw [e 1 (by omega)]; exact h1, by rw [e 2 (by omega)]; exact h2, by rw [e 4 (by omega)]; exact h4, by rw [e 5 (by omega)]; exact h5', by rw [e 6 (by omega)]; exact h6, by rw [e 7 (by omega)]; exact h7, by rw [e 8 (by omega)]; exact h8, ?_⟩
  intro k hk
  rw [e _ (by omega), e _ (by omega), e _ (by omega), e _ (by omega), e _ (by omega)]
  exact hr k hk
theorem copy_rows (u1 : BS) : ∀ m, ∀ w, w < 5 → ∀ k, k < m → it m (f_copyFrom_L7 u u1) u w k = if w = 3 then vp_nar .boolean (u1 3 k) else u1 w k := by
  intro m
  induction m with
  | zero => intro w _ k hk; omega
  | succ m ih =>
    intro w hw k hk
    rw [it_s]
    unfold f_copyFrom_L7
    by_cases e : k = m
    · subst e
      rcases (show w = 0 ∨ w = 1 ∨ w = 2 ∨ w = 3 ∨ w = 4 by omega) with rfl | rfl | rfl | rfl | rfl
      · rw [upA_o (by decide), upA_o (by decide), upA_o (by decide), upA_o (by decide), upA_s, if_neg (by decide)]
      · rw [upA_o (by decide), upA_o (by decide), upA_o (by decide), upA_s, if_neg (by decide)]
      · rw [upA_o (by decide), upA_o (by decide), upA_s, if_neg (by decide)]
      · rw [upA_o (by decide), upA_s, if_pos rfl]
      · rw [upA_s, if_neg (by decide)]
    · rw [upA_ne e, upA_ne e, upA_ne e, upA_ne e, upA_ne e]
      exact ih w hw k (by omega)
theorem copy_w {u1 : BS} (hi : BI n u1) (hn : n ≤ 6) {w : Nat} (hw : w < 5) {k : Nat} (hk : k < n) : f_copyFrom u u1 w k = u1 w k := by
  unfold f_copyFrom
  rw [upA_o (by omega), upA_o (by omega), upA_o (by omega), upA_o (by omega), upA_o (by omega), upA_o (by omega), upA_o (by omega), upA_o (by omega), upA_o (by omega), copy_rows u1 6 w hw k (by omega)]
  by_cases e : w = 3
  · rw [if_pos e, e]
    rcases (BI_row hi hk).2.2 with h | h
    · rw [h]; rfl
    · rw [h]; rfl
  · rw [if_neg e]
theorem B_copy {u1 : BS} (h : BR n u1 f) (hi : BI n u1) : BR n (f_copyFrom u u1) f ∧ BI n (f_copyFrom u u1) := by
  have hn := BR_n h
  have hw := @copy_w n u u1 hi hn
  obtain ⟨hn', h5, h3, h0, h1, h2, h4, h5', h6, h7, h8, hr⟩ := h
  obtain ⟨i8, i9, i6, i7, ir⟩ := hi
  refine ⟨⟨hn, h5, h3, h0, h1, h2, h4, h5', h6, h7, h8, ?_⟩, i8, i9, i6, i7, ?_⟩
  · intro k hk
    rw [hw (w := 0) (by omega) hk, hw (w := 1) (by omega) hk, hw (w := 2) (by omega) hk, hw (w := 3) (by omega) hk, hw (w := 4) (by omega) hk]
    exact hr k hk
  · intro k hk
    rw [hw (w := 0) (by omega) hk, hw (w := 1) (by omega) hk, hw (w := 3) (by omega) hk]
    exact ir k hk
end BR3

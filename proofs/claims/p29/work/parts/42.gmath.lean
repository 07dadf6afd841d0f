/-! MATH of the property: sums of a row, what a bench keeps, a step -/
def rowU (u : BS) : Nat → Int32 := fun j => if j < 9 then (match j with | 0 => u 8 0 | 1 => u 9 0 | 2 => u 10 0 | 3 => u 5 0 | 4 => u 11 0 | 5 => u 12 0 | 6 => u 13 0 | 7 => u 6 0 | _ => u 7 0) else u ((j - 9) % 5) ((j - 9) / 5)
theorem BR_row0 {n : Nat} {u : BS} (hn : n ≤ 6) (h5 : u 5 0 = nI n) : BR n u (rowU u) := by
  refine ⟨hn, h5, h5, rfl, rfl, rfl, rfl, rfl, rfl, rfl, rfl, ?_⟩
  intro k hk
  refine BR_ofw (fun w hw => ?_)
  unfold rowU
  rw [if_neg (by omega), show (9 + 5 * k + w - 9) % 5 = w by omega, show (9 + 5 * k + w - 9) / 5 = k by omega]
def sumI (f : Nat → Int32) : Nat → Int
  | 0 => 0
  | m + 1 => sumI f m + (f m).toInt
theorem sumI_s (f : Nat → Int32) (m : Nat) : sumI f (m + 1) = sumI f m + (f m).toInt := rfl
theorem sumI_cong {f g : Nat → Int32} : ∀ m, (∀ j, j < m → f j = g j) → sumI f m = sumI g m
  | 0, _ => rfl
  | m + 1, h => by rw [sumI_s, sumI_s, sumI_cong m (fun j hj => h j (by omega)), h m (by omega)]
theorem sumI_upd {f : Nat → Int32} {j : Nat} {v : Int32} : ∀ m, j < m → sumI (upd f j v) m = sumI f m - (f j).toInt + v.toInt
  | 0, h => absurd h (Nat.not_lt_zero _)
  | m + 1, h => by
    rw [sumI_s, sumI_s]
    by_cases e : j = m
    · subst e
      rw [pk_us, sumI_cong (f := upd f j v) (g := f) j (fun i hi => pk_un (by omega))]
      omega
    · rw [pk_un (by omega), sumI_upd m (by omega)]
      omega
theorem sumI_out {f : Nat → Int32} {j : Nat} {v : Int32} {m : Nat} (h : m ≤ j) : sumI (upd f j v) m = sumI f m := sumI_cong m (fun i hi => pk_un (by omega))
theorem sumI_nn {f : Nat → Int32} : ∀ m, (∀ j, j < m → 0 ≤ (f j).toInt) → 0 ≤ sumI f m
  | 0, _ => Int.le_refl _
  | m + 1, h => by
    have h1 := sumI_nn m (fun j hj => h j (by omega))
    have h2 := h m (by omega)
    rw [sumI_s]; omega
theorem sumI_mono {f : Nat → Int32} : ∀ n, (∀ j, j < n → 0 ≤ (f j).toInt) → ∀ m, m ≤ n → sumI f m ≤ sumI f n
  | 0, _, m, hm => by
    obtain rfl : m = 0 := by omega
    exact Int.le_refl _
  | n + 1, h, m, hm => by
    by_cases e : m = n + 1
    · rw [e]; exact Int.le_refl _
    · have h1 := sumI_mono n (fun j hj => h j (by omega)) m (by omega)
      have h2 := h n (by omega)
      rw [sumI_s]; omega
theorem sumI_one {f : Nat → Int32} : ∀ n, (∀ j, j < n → 0 ≤ (f j).toInt) → ∀ j, j < n → (f j).toInt ≤ sumI f n
  | 0, _, j, hj => absurd hj (Nat.not_lt_zero _)
  | n + 1, h, j, hj => by
    have h0 := sumI_nn n (fun j hj => h j (by omega))
    have h2 := h n (by omega)
    rw [sumI_s]
    by_cases e : j = n
    · rw [e]; omega
    · have h1 := sumI_one n (fun j hj => h j (by omega)) j (by omega)
      omega
theorem sumI_le {f : Nat → Int32} {B : Int} : ∀ n : Nat, (∀ j, j < n → (f j).toInt ≤ B) → sumI f n ≤ B * (n : Int)
  | 0, _ => by show (0 : Int) ≤ B * 0; omega
  | n + 1, h => by
    have h1 := sumI_le n (fun j hj => h j (by omega))
    have h2 := h n (by omega)
    have e : B * ((n + 1 : Nat) : Int) = B * (n : Int) + B := by
      rw [Int.natCast_add, Int.mul_add]
      show _ + B * 1 = _
      omega
    rw [sumI_s, e]; omega
/-- the sum as the machine has it -/
def s32 (f : Nat → Int32) (m : Nat) : Int32 := it m (fun j x => x + f j) (0 : Int32)
theorem s32_s (f : Nat → Int32) (m : Nat) : s32 f (m + 1) = s32 f m + f m := rfl
theorem s32_I {f : Nat → Int32} {n : Nat} (h : ∀ j, j < n → 0 ≤ (f j).toInt) (hb : sumI f n ≤ 2147483647) : ∀ m, m ≤ n → (s32 f m).toInt = sumI f m
  | 0, _ => by show (0 : Int32).toInt = 0; decide
  | m + 1, hm => by
    have h1 := s32_I h hb m (by omega)
    have h2 := sumI_nn m (fun j hj => h j (by omega))
    have h3 := sumI_mono n h (m + 1) hm
    have h4 := h m (by omega)
    rw [sumI_s] at h3 ⊢
    rw [s32_s, ti_add (by omega) (by omega), h1]
/-- what a bench of n metronomes keeps -/
def GI (n : Nat) (u : BS) : Prop := n ≤ 6 ∧ u 5 0 = nI n ∧ BI n u ∧ (0 ≤ (u 10 0).toInt ∧ (u 10 0).toInt ≤ 900) ∧ (∀ k, k < n → 0 ≤ (u 2 k).toInt ∧ (u 2 k).toInt ≤ 999) ∧ (∀ k, k < n → 0 ≤ (u 4 k).toInt) ∧ (0 ≤ (u 13 0).toInt ∧ (u 13 0).toInt ≤ (u 11 0).toInt) ∧ (sumI (u 4) n ≤ (u 12 0).toInt ∧ (u 12 0).toInt ≤ 6 * (u 11 0).toInt)
section GIS
variable {n : Nat} {u : BS}
theorem GI_n (h : GI n u) : n ≤ 6 := h.1
theorem GI_5 (h : GI n u) : u 5 0 = nI n := h.2.1
theorem GI_BR (h : GI n u) : BR n u (rowU u) := BR_row0 h.1 h.2.1
theorem GI_BI (h : GI n u) : BI n u := h.2.2.1
theorem GI_10 (h : GI n u) : 0 ≤ (u 10 0).toInt ∧ (u 10 0).toInt ≤ 900 := h.2.2.2.1
theorem GI_2 (h : GI n u) : ∀ k, k < n → 0 ≤ (u 2 k).toInt ∧ (u 2 k).toInt ≤ 999 := h.2.2.2.2.1
theorem GI_4 (h : GI n u) : ∀ k, k < n → 0 ≤ (u 4 k).toInt := h.2.2.2.2.2.1
theorem GI_13 (h : GI n u) : 0 ≤ (u 13 0).toInt ∧ (u 13 0).toInt ≤ (u 11 0).toInt := h.2.2.2.2.2.2.1
theorem GI_12 (h : GI n u) : sumI (u 4) n ≤ (u 12 0).toInt ∧ (u 12 0).toInt ≤ 6 * (u 11 0).toInt := h.2.2.2.2.2.2.2
theorem GI_s2 (h : GI n u) : sumI (u 2) n ≤ 5994 := by
  have h1 := sumI_le (f := u 2) (B := 999) n (fun j hj => (GI_2 h j hj).2)
  have h2 := GI_n h
  omega
theorem goes_pos {j : Nat} (hj : j < 6) (h : f_goes u (nI j) = true) : 0 < (u 2 j).toInt := by
  unfold f_goes at h
  rw [nI_clamp (by omega)] at h
  split at h
  · cases h
  · split at h
    · cases h
    · split at h
      · cases h
      · split at h
        · split at h
          · cases h
          · rename_i h9
            have := ti_lt.mp (Int32.not_le.mp h9)
            have e0 : (0 : Int32).toInt = 0 := by decide
            omega
        · cases h
theorem L8_cases (w0 : BS) (a : Int32) {j : Nat} (hj : j < 6) : (∃ p, f_step_L8 w0 j (a, u) = (a + 1, upA (upA (upA u 1 j p) 2 j (u 2 j - 1)) 4 j (u 4 j + 1)) ∧ f_goes u (nI j) = true) ∨ (∃ p, f_step_L8 w0 j (a, u) = (a, upA u 1 j p)) ∨ f_step_L8 w0 j (a, u) = (a, u) := by
  unfold f_step_L8
  show (∃ p, (if f_goes u (nI j) = true then (if ((f_ticksGoingForward u (nI j)).1) = true then (a + (1 : Int32), (f_ticksGoingForward u (nI j)).2) else (a, (f_ticksGoingForward u (nI j)).2)) else (a, u)) = _ ∧ _) ∨ (∃ p, (if f_goes u (nI j) = true then (if ((f_ticksGoingForward u (nI j)).1) = true then (a + (1 : Int32), (f_ticksGoingForward u (nI j)).2) else (a, (f_ticksGoingForward u (nI j)).2)) else (a, u)) = _) ∨ (if f_goes u (nI j) = true then (if ((f_ticksGoingForward u (nI j)).1) = true then (a + (1 : Int32), (f_ticksGoingForward u (nI j)).2) else (a, (f_ticksGoingForward u (nI j)).2)) else (a, u)) = _
  by_cases g : f_goes u (nI j) = true
  · rw [if_pos g]
    have key : (∃ p, f_ticksGoingForward u (nI j) = (true, upA (upA (upA u 1 j p) 2 j (u 2 j - 1)) 4 j (u 4 j + 1))) ∨ (∃ p, f_ticksGoingForward u (nI j) = (false, upA u 1 j p)) ∨ f_ticksGoingForward u (nI j) = (false, u) := by
      unfold f_ticksGoingForward
      rw [nI_clamp (by omega)]
      by_cases h1 : f_has u (nI j) = true
      · rw [if_pos h1]
        generalize u 1 j + u 0 j + f_pull u (u 1 j) = P
        by_cases c0 : 0 ≤ P
        · rw [if_pos c0]
          by_cases c1 : (3600 : Int32) ≤ P
          · rw [if_pos c1]; exact .inl ⟨_, rfl⟩
          · rw [if_neg c1]; exact .inr (.inl ⟨_, rfl⟩)
        · rw [if_neg c0]; exact .inr (.inl ⟨_, rfl⟩)
      · rw [if_neg h1]; exact .inr (.inr rfl)
    rcases key with ⟨p, e⟩ | ⟨p, e⟩ | e
    · rw [e]; exact .inl ⟨p, rfl, g⟩
    · rw [e]; exact .inr (.inl ⟨p, rfl⟩)
    · rw [e]; exact .inr (.inr rfl)
  · rw [if_neg g]; exact .inr (.inr rfl)
/-- what the loop over the metronomes keeps -/
def SG (n : Nat) (u : BS) (j : Nat) (x : Int32 × BS) : Prop := ∃ m : Nat, m ≤ j ∧ x.1 = nI m ∧ BI n x.2 ∧ x.2 5 = u 5 ∧ x.2 10 = u 10 ∧ x.2 11 = u 11 ∧ x.2 12 = u 12 ∧ x.2 13 = u 13 ∧ (∀ k, k < n → 0 ≤ (x.2 2 k).toInt ∧ (x.2 2 k).toInt ≤ 999) ∧ (∀ k, k < n → 0 ≤ (x.2 4 k).toInt) ∧ sumI (x.2 2) n = sumI (u 2) n - (m : Int) ∧ sumI (x.2 4) n = sumI (u 4) n + (m : Int)
theorem SG_step (hn : n ≤ 6) (h5 : u 5 0 = nI n) (hT : sumI (u 4) n ≤ 1000000) (w0 : BS) {j : Nat} (hj : j < n) {x : Int32 × BS} (h : SG n u j x) : SG n u (j + 1) (f_step_L8 w0 j x) := by
  obtain ⟨a, v⟩ := x
  obtain ⟨m, hm, ha, hB, e5, e10, e11, e12, e13, h2, h4, s2, s4⟩ := h
  dsimp only at ha hB e5 e10 e11 e12 e13 h2 h4 s2 s4
  have h5v : v 5 0 = nI n := by rw [e5]; exact h5
  have hSL := B_body (BR_row0 hn h5v) hB hj v a hm ha w0 (rowU v) rfl rfl rfl
  have hB' : BI n (f_step_L8 w0 j (a, v)).2 := hSL.2.2.2.1
  rcases L8_cases (u := v) w0 a (show j < 6 by omega) with ⟨p, e, g⟩ | ⟨p, e⟩ | e
  · have hp := goes_pos (show j < 6 by omega) g
    have hle := sumI_one n h4 j hj
    have b2 := h2 j hj
    have b4 := h4 j hj
    have e1 : (1 : Int32).toInt = 1 := by decide
    have t2 : (v 2 j - 1).toInt = (v 2 j).toInt - 1 := by rw [ti_sub (by omega) (by omega), e1]
    have t4 : (v 4 j + 1).toInt = (v 4 j).toInt + 1 := by rw [ti_add (by omega) (by omega), e1]
    rw [e] at hB' ⊢
    have r2 : (upA (upA (upA v 1 j p) 2 j (v 2 j - 1)) 4 j (v 4 j + 1)) 2 = upd (v 2) j (v 2 j - 1) := rfl
    have r4 : (upA (upA (upA v 1 j p) 2 j (v 2 j - 1)) 4 j (v 4 j + 1)) 4 = upd (v 4) j (v 4 j + 1) := rfl
    refine ⟨m + 1, by omega, ?_, hB', e5, e10, e11, e12, e13, ?_, ?_, ?_, ?_⟩
    · show a + 1 = _
      rw [ha]; exact nI_1 m
    · intro k hk
      show 0 ≤ ((upA (upA (upA v 1 j p) 2 j (v 2 j - 1)) 4 j (v 4 j + 1)) 2 k).toInt ∧ ((upA (upA (upA v 1 j p) 2 j (v 2 j - 1)) 4 j (v 4 j + 1)) 2 k).toInt ≤ 999
      rw [r2]
      by_cases ek : k = j
      · rw [ek, pk_us]; omega
      · rw [pk_un ek]; exact h2 k hk
    · intro k hk
      show 0 ≤ ((upA (upA (upA v 1 j p) 2 j (v 2 j - 1)) 4 j (v 4 j + 1)) 4 k).toInt
      rw [r4]
      by_cases ek : k = j
      · rw [ek, pk_us]; omega
      · rw [pk_un ek]; exact h4 k hk
    · show sumI ((upA (upA (upA v 1 j p) 2 j (v 2 j - 1)) 4 j (v 4 j + 1)) 2) n = _
      rw [r2, sumI_upd n hj, s2, t2]; omega
    · show sumI ((upA (upA (upA v 1 j p) 2 j (v 2 j - 1)) 4 j (v 4 j + 1)) 4) n = _
      rw [r4, sumI_upd n hj, s4, t4]; omega
  · rw [e] at hB' ⊢
    exact ⟨m, by omega, ha, hB', e5, e10, e11, e12, e13, h2, h4, s2, s4⟩
  · rw [e] at hB' ⊢
    exact ⟨m, by omega, ha, hB', e5, e10, e11, e12, e13, h2, h4, s2, s4⟩
theorem G_step (h : GI n u) (hb : (u 11 0).toInt ≤ 100000) : GI n (f_step u) ∧ (f_step u 11 0).toInt = (u 11 0).toInt + 1 ∧ ∃ m : Nat, m ≤ 6 ∧ (f_step u 12 0).toInt = (u 12 0).toInt + (m : Int) ∧ sumI (f_step u 2) n = sumI (u 2) n - (m : Int) := by
  obtain ⟨hn, h5, hB, h10, h2, h4, h13, h12⟩ := h
  have p := B_push (BR_row0 hn h5) hB
  have hT : sumI (u 4) n ≤ 1000000 := by omega
  have s4n := sumI_nn n h4
  have r2 : f_pushBoard u 2 = u 2 := push_o (by decide) (by decide)
  have r4 : f_pushBoard u 4 = u 4 := push_o (by decide) (by decide)
  have loop : SG n u n (it n (f_step_L8 u) ((0 : Int32), f_pushBoard u)) := by
    refine it_inv (SG n u) ⟨0, Nat.le_refl _, rfl, p.2, push_o (by decide) (by decide), push_o (by decide) (by decide), push_o (by decide) (by decide), push_o (by decide) (by decide), push_o (by decide) (by decide), ?_, ?_, ?_, ?_⟩ (fun j x hj hP => SG_step hn h5 hT u hj hP)
    · intro k hk
      show 0 ≤ (f_pushBoard u 2 k).toInt ∧ (f_pushBoard u 2 k).toInt ≤ 999
      rw [r2]; exact h2 k hk
    · intro k hk
      show 0 ≤ (f_pushBoard u 4 k).toInt
      rw [r4]; exact h4 k hk
    · show sumI (f_pushBoard u 2) n = _
      rw [r2]; omega
    · show sumI (f_pushBoard u 4) n = _
      rw [r4]; omega
  have tail : it 6 (f_step_L8 u) ((0 : Int32), f_pushBoard u) = it n (f_step_L8 u) ((0 : Int32), f_pushBoard u) := by
    rw [show 6 = n + (6 - n) by omega, it_plus]
    generalize it n (f_step_L8 u) ((0 : Int32), f_pushBoard u) = X at loop
    refine it_inv (fun _ x => x = X) rfl ?_
    rintro j x hj rfl
    obtain ⟨m, hm, ha, hB1, e5, -⟩ := loop
    have h5v : x.2 5 0 = nI n := by rw [e5]; exact h5
    unfold f_step_L8
    rw [B_goes (BR_row0 hn h5v) (by omega), if_neg (show ¬ n + j < n by omega), if_neg (show ¬ false = true by decide)]
  rw [step_c, tail]
  generalize it n (f_step_L8 u) ((0 : Int32), f_pushBoard u) = X at loop
  obtain ⟨a, x⟩ := X
  obtain ⟨m, hm, ha, hB1, e5, e10, e11, e12, e13, k2, k4, s2, s4⟩ := loop
  dsimp only at ha hB1 e5 e10 e11 e12 e13 k2 k4 s2 s4
  have hm6 : m ≤ 6 := by omega
  have ta : a.toInt = (m : Int) := by rw [ha]; exact nI_toInt (by omega)
  have e1 : (1 : Int32).toInt = 1 := by decide
  have x11 : (x 11 0).toInt = (u 11 0).toInt := by rw [e11]
  have x12 : (x 12 0).toInt = (u 12 0).toInt := by rw [e12]
  have x13 : (x 13 0).toInt = (u 13 0).toInt := by rw [e13]
  have x10 : (x 10 0).toInt = (u 10 0).toInt := by rw [e10]
  have t11 : (x 11 0 + 1).toInt = (u 11 0).toInt + 1 := by rw [ti_add (by omega) (by omega), e1, x11]
  have t12 : (x 12 0 + a).toInt = (u 12 0).toInt + (m : Int) := by rw [ti_add (by omega) (by omega), ta, x12]
  have t13 : (x 13 0 + 1).toInt = (u 13 0).toInt + 1 := by rw [ti_add (by omega) (by omega), e1, x13]
  have h5x : x 5 0 = nI n := by rw [e5]; exact h5
  unfold cfin
  show GI n (if a < 2 then _ else _) ∧ ((if a < 2 then _ else _ : BS) 11 0).toInt = _ ∧ ∃ m : Nat, m ≤ 6 ∧ ((if a < 2 then _ else _ : BS) 12 0).toInt = _ ∧ sumI ((if a < 2 then _ else _ : BS) 2) n = _
  by_cases c : a < 2
  · rw [if_pos c]
    refine ⟨⟨hn, h5x, BI_o (BI_o hB1 _ _ (by decide)) _ _ (by decide), by show 0 ≤ (x 10 0).toInt ∧ (x 10 0).toInt ≤ 900; omega, k2, k4, ?_, ?_⟩, t11, m, hm6, t12, s2⟩
    · show 0 ≤ (x 13 0).toInt ∧ (x 13 0).toInt ≤ (x 11 0 + 1).toInt
      omega
    · show sumI (x 4) n ≤ (x 12 0 + a).toInt ∧ (x 12 0 + a).toInt ≤ 6 * (x 11 0 + 1).toInt
      omega
  · rw [if_neg c]
    refine ⟨⟨hn, h5x, BI_o (BI_o (BI_o hB1 _ _ (by decide)) _ _ (by decide)) _ _ (by decide), by show 0 ≤ (x 10 0).toInt ∧ (x 10 0).toInt ≤ 900; omega, k2, k4, ?_, ?_⟩, t11, m, hm6, t12, s2⟩
    · show 0 ≤ (x 13 0 + 1).toInt ∧ (x 13 0 + 1).toInt ≤ (x 11 0 + 1).toInt
      omega
    · show sumI (x 4) n ≤ (x 12 0 + a).toInt ∧ (x 12 0 + a).toInt ≤ 6 * (x 11 0 + 1).toInt
      omega
theorem G_steps (h : GI n u) (c : Nat → BS → BS) (hc : ∀ j x, c j x = f_step x) : ∀ q : Nat, (u 11 0).toInt + (q : Int) ≤ 100000 → GI n (it q c u) ∧ (it q c u 11 0).toInt = (u 11 0).toInt + (q : Int) ∧ ∃ m : Nat, m ≤ 6 * q ∧ (it q c u 12 0).toInt = (u 12 0).toInt + (m : Int) ∧ sumI (it q c u 2) n = sumI (u 2) n - (m : Int)
  | 0, _ => ⟨h, by rw [it_0]; show _ = _ + 0; omega, 0, Nat.le_refl _, by rw [it_0]; show _ = _ + 0; omega, by rw [it_0]; show _ = _ - 0; omega⟩
  | q + 1, hb => by
    obtain ⟨h1, h2, m, hm, h3, h4⟩ := G_steps h c hc q (by omega)
    obtain ⟨k1, k2, m2, hm2, k3, k4⟩ := G_step h1 (by omega)
    rw [it_s, hc]
    exact ⟨k1, by omega, m + m2, by omega, by omega, by omega⟩
end GIS

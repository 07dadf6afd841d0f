/-! what the law asks of a bench, and what is answered -/
section FIGS
variable {fl : Nat → Int32} {un ut u0 u1 : BS} {sv : SS} {x r : BS}
theorem cou0 : f_Xcount fl un ut u0 u1 sv x r (0 : Int32) = .ok (un 5 0) := by
  unfold f_Xcount f_Xfigure f_figureOf
  rw [if_pos (by decide), if_neg (by decide), if_pos rfl]
theorem cou1 : f_Xcount fl un ut u0 u1 sv x r (1 : Int32) = .ok (f_going un) := by
  unfold f_Xcount f_Xfigure f_figureOf
  rw [if_pos (by decide), if_neg (by decide), if_neg (by decide), if_pos rfl]
theorem cou2 : f_Xcount fl un ut u0 u1 sv x r (2 : Int32) = .ok (un 11 0) := by
  unfold f_Xcount f_Xfigure f_figureOf
  rw [if_pos (by decide), if_neg (by decide), if_neg (by decide), if_neg (by decide), if_pos rfl]
theorem cou3 : f_Xcount fl un ut u0 u1 sv x r (3 : Int32) = .ok (un 12 0) := by
  unfold f_Xcount f_Xfigure f_figureOf
  rw [if_pos (by decide), if_neg (by decide), if_neg (by decide), if_neg (by decide), if_neg (by decide), if_pos rfl]
theorem cou4 : f_Xcount fl un ut u0 u1 sv x r (4 : Int32) = .ok (un 6 0 + 1000) := by
  unfold f_Xcount f_Xfigure f_figureOf
  rw [if_pos (by decide), if_neg (by decide), if_neg (by decide), if_neg (by decide), if_neg (by decide), if_neg (by decide), if_pos rfl]
theorem cou5 : f_Xcount fl un ut u0 u1 sv x r (5 : Int32) = .ok (un 7 0 + 1000) := by
  unfold f_Xcount f_Xfigure f_figureOf
  rw [if_pos (by decide), if_neg (by decide), if_neg (by decide), if_neg (by decide), if_neg (by decide), if_neg (by decide), if_neg (by decide), if_pos rfl]
theorem cou6 : f_Xcount fl un ut u0 u1 sv x r (6 : Int32) = .ok (f_order un) := by
  unfold f_Xcount f_Xfigure f_figureOf
  rw [if_pos (by decide), if_neg (by decide), if_neg (by decide), if_neg (by decide), if_neg (by decide), if_neg (by decide), if_neg (by decide), if_neg (by decide), if_pos rfl]
theorem cou7 : f_Xcount fl un ut u0 u1 sv x r (7 : Int32) = .ok (f_orderByPairs un) := by
  unfold f_Xcount f_Xfigure f_figureOf
  rw [if_pos (by decide), if_neg (by decide), if_neg (by decide), if_neg (by decide), if_neg (by decide), if_neg (by decide), if_neg (by decide), if_neg (by decide), if_neg (by decide), if_pos rfl]
theorem cou8 : f_Xcount fl un ut u0 u1 sv x r (8 : Int32) = .ok (if (f_isInStep un) = true then (1 : Int32) else (0 : Int32)) := by
  unfold f_Xcount f_Xfigure f_figureOf
  rw [if_pos (by decide), if_neg (by decide), if_neg (by decide), if_neg (by decide), if_neg (by decide), if_neg (by decide), if_neg (by decide), if_neg (by decide), if_neg (by decide), if_neg (by decide), if_pos rfl]
theorem cou9 : f_Xcount fl un ut u0 u1 sv x r (9 : Int32) = .ok (f_greatestDistance un) := by
  unfold f_Xcount f_Xfigure f_figureOf
  rw [if_pos (by decide), if_neg (by decide), if_neg (by decide), if_neg (by decide), if_neg (by decide), if_neg (by decide), if_neg (by decide), if_neg (by decide), if_neg (by decide), if_neg (by decide), if_neg (by decide), if_pos rfl]
theorem cou10 : f_Xcount fl un ut u0 u1 sv x r (10 : Int32) = .ok (un 13 0) := by
  unfold f_Xcount f_Xfigure f_figureOf
  rw [if_pos (by decide), if_neg (by decide), if_neg (by decide), if_neg (by decide), if_neg (by decide), if_neg (by decide), if_neg (by decide), if_neg (by decide), if_neg (by decide), if_neg (by decide), if_neg (by decide), if_neg (by decide)]
theorem cou11 : f_Xcount fl un ut u0 u1 sv x r (11 : Int32) = .ok (nI sv.2.1) := by
  unfold f_Xcount f_Xfigure f_Ssize
  rw [if_pos (by decide), if_pos rfl]
theorem arm0 {k : Nat} (hk : k < 6) (hh : f_has un (nI k) = true) : f_Xarm fl un ut u0 u1 sv x r (nI k) (0 : Int32) = .ok (un 0 k) := by
  unfold f_Xarm f_property
  rw [if_pos hh, if_pos (by decide), if_pos hh, if_pos rfl, nI_clamp (by omega)]
theorem arm1 {k : Nat} (hk : k < 6) (hh : f_has un (nI k) = true) : f_Xarm fl un ut u0 u1 sv x r (nI k) (1 : Int32) = .ok (un 1 k) := by
  unfold f_Xarm f_property
  rw [if_pos hh, if_pos (by decide), if_pos hh, if_neg (by decide), if_pos rfl, nI_clamp (by omega)]
theorem arm2 {k : Nat} (hk : k < 6) (hh : f_has un (nI k) = true) : f_Xarm fl un ut u0 u1 sv x r (nI k) (2 : Int32) = .ok (un 2 k) := by
  unfold f_Xarm f_property
  rw [if_pos hh, if_pos (by decide), if_pos hh, if_neg (by decide), if_neg (by decide), if_pos rfl, nI_clamp (by omega)]
theorem arm3 {k : Nat} (hk : k < 6) (hh : f_has un (nI k) = true) : f_Xarm fl un ut u0 u1 sv x r (nI k) (3 : Int32) = .ok (if (un 3 k) = 0 then (0 : Int32) else (1 : Int32)) := by
  unfold f_Xarm f_property
  rw [if_pos hh, if_pos (by decide), if_pos hh, if_neg (by decide), if_neg (by decide), if_neg (by decide), if_pos rfl, nI_clamp (by omega)]
theorem arm4 {k : Nat} (hk : k < 6) (hh : f_has un (nI k) = true) : f_Xarm fl un ut u0 u1 sv x r (nI k) (4 : Int32) = .ok (if (f_goes un (nI k)) = true then (1 : Int32) else (0 : Int32)) := by
  unfold f_Xarm f_property
  rw [if_pos hh, if_pos (by decide), if_pos hh, if_neg (by decide), if_neg (by decide), if_neg (by decide), if_neg (by decide), if_pos rfl]
theorem arm5 {k : Nat} (hk : k < 6) (hh : f_has un (nI k) = true) : f_Xarm fl un ut u0 u1 sv x r (nI k) (5 : Int32) = .ok (un 4 k) := by
  unfold f_Xarm f_property
  rw [if_pos hh, if_pos (by decide), if_pos hh, if_neg (by decide), if_neg (by decide), if_neg (by decide), if_neg (by decide), if_neg (by decide), if_pos rfl, nI_clamp (by omega)]
theorem arm6 {k : Nat} (hk : k < 6) (hh : f_has un (nI k) = true) : f_Xarm fl un ut u0 u1 sv x r (nI k) (6 : Int32) = .ok (f_swing (un 1 k) + 1000) := by
  unfold f_Xarm f_property
  rw [if_pos hh, if_pos (by decide), if_pos hh, if_neg (by decide), if_neg (by decide), if_neg (by decide), if_neg (by decide), if_neg (by decide), if_neg (by decide), if_pos rfl, nI_clamp (by omega)]
theorem arm7 {k : Nat} (hk : k < 6) (hh : f_has un (nI k) = true) : f_Xarm fl un ut u0 u1 sv x r (nI k) (7 : Int32) = .ok (f_swing (f_quarterOn (un 1 k)) + 1000) := by
  unfold f_Xarm f_property
  rw [if_pos hh, if_pos (by decide), if_pos hh, if_neg (by decide), if_neg (by decide), if_neg (by decide), if_neg (by decide), if_neg (by decide), if_neg (by decide), if_neg (by decide), if_pos rfl, nI_clamp (by omega)]
theorem apa {k j : Nat} (hk : k < 6) (hj : j < 6) (hne : k ≠ j) (h1 : f_has un (nI k) = true) (h2 : f_has un (nI j) = true) : f_Xapart fl un ut u0 u1 sv x r (nI k) (nI j) = .ok (f_distance un (nI k) (nI j)) := by
  unfold f_Xapart
  rw [if_pos h1, if_pos h2, if_neg (by rw [nI_eq (by omega) (by omega)]; exact hne)]
theorem set1 : f_Xsetting fl un ut u0 u1 sv x r (1 : Int32) = .ok (un 9 0) := by
  unfold f_Xsetting f_settingValue
  rw [if_pos (by decide), if_neg (by decide), if_pos rfl]
theorem set2 : f_Xsetting fl un ut u0 u1 sv x r (2 : Int32) = .ok (un 10 0) := by
  unfold f_Xsetting f_settingValue
  rw [if_pos (by decide), if_neg (by decide), if_neg (by decide)]
end FIGS
/-! distances -/
def ph (u : BS) (k : Nat) : Nat := (u 1 k).toNatClampNeg
theorem apN_sym (p q : Nat) : apN p q = apN q p := by
  unfold apN
  by_cases h1 : q ≤ p
  · by_cases h2 : p ≤ q
    · obtain rfl : p = q := by omega
      rfl
    · rw [if_pos h1, if_neg h2]
  · rw [if_neg h1, if_pos (show p ≤ q by omega)]
theorem apN_0 {p q : Nat} (hp : p < 3600) (hq : q < 3600) : apN p q = 0 ↔ p = q := by
  unfold apN
  by_cases h1 : q ≤ p
  · rw [if_pos h1]
    by_cases h2 : p - q ≤ 1800
    · rw [if_pos h2]; omega
    · rw [if_neg h2]; omega
  · rw [if_neg h1]
    by_cases h2 : q - p ≤ 1800
    · rw [if_pos h2]; omega
    · rw [if_neg h2]; omega
section GDS
variable {n : Nat} {u : BS}
theorem ph_e (h : GI n u) {k : Nat} (hk : k < n) : u 1 k = nI (ph u k) ∧ ph u k < 3600 := by
  obtain ⟨j, hj, e⟩ := (BI_row (GI_BI h) hk).2.1
  unfold ph
  rw [e, nI_clamp (by omega)]
  exact ⟨rfl, hj⟩
theorem G_has (h : GI n u) {k : Nat} (hk : k < n) : f_has u (nI k) = true := B_hask (GI_BR h) hk
theorem dst (h : GI n u) {a b : Nat} (ha : a < n) (hb : b < n) : f_distance u (nI a) (nI b) = nI (apN (ph u a) (ph u b)) := by
  rw [B_dist (GI_BR h) (GI_BI h) ha hb]
  exact M_apart ((BR_row (GI_BR h) ha).2.1.trans (ph_e h ha).1) ((BR_row (GI_BR h) hb).2.1.trans (ph_e h hb).1) (ph_e h ha).2 (ph_e h hb).2
theorem goes_lt (h : GI n u) {k : Nat} (hk : k < 6) (g : f_goes u (nI k) = true) : k < n := by
  rw [B_goes (GI_BR h) hk] at g
  by_cases hn : k < n
  · exact hn
  · rw [if_neg hn] at g; cases g
/-- the walk over the pairs: all that were met are apart by x at most -/
def MX (n : Nat) (u : BS) (S : Nat → Nat → Prop) (x : Int32) : Prop := ∃ D, D ≤ 1800 ∧ x = nI D ∧ ∀ a b, S a b → a < b → b < n → f_goes u (nI a) = true → f_goes u (nI b) = true → apN (ph u a) (ph u b) ≤ D
theorem G_max (h : GI n u) : MX n u (fun _ _ => True) (f_greatestDistance u) := by
  have hn := GI_n h
  have key : MX n u (fun a _ => a < 6) (f_greatestDistance u) := by
    unfold f_greatestDistance
    refine it_inv (fun i x => MX n u (fun a _ => a < i) x) ⟨0, by omega, rfl, fun a b h1 => absurd h1 (Nat.not_lt_zero _)⟩ ?_
    intro i x hi hP
    unfold f_greatestDistance_L4
    have k2 : MX n u (fun a b => a < i ∨ (a = i ∧ b < i + 1 + (6 - (i + 1)))) (it (6 - (i + 1)) (f_greatestDistance_L14 u i x) x) := by
      refine it_inv (fun j y => MX n u (fun a b => a < i ∨ (a = i ∧ b < i + 1 + j)) y) ?_ ?_
      · obtain ⟨D, h1, h2, h3⟩ := hP
        refine ⟨D, h1, h2, ?_⟩
        intro a b hs
        rcases hs with hs | hs
        · exact h3 a b hs
        · intro h9; omega
      · intro j y hj hP'
        obtain ⟨D, h1, h2, h3⟩ := hP'
        unfold f_greatestDistance_L14
        have old : ∀ {z : Int32}, z = y → (¬ f_goes u (nI i) = true ∨ ¬ f_goes u (nI (i + 1 + j)) = true) → MX n u (fun a b => a < i ∨ (a = i ∧ b < i + 1 + (j + 1))) z := by
          rintro z rfl hor
          refine ⟨D, h1, h2, ?_⟩
          intro a b hs hab hb ga gb
          by_cases he : a = i ∧ b = i + 1 + j
          · obtain ⟨rfl, rfl⟩ := he
            rcases hor with q | q
            · exact absurd ga q
            · exact absurd gb q
          · refine h3 a b ?_ hab hb ga gb
            rcases hs with hs | ⟨hs, hs2⟩
            · exact .inl hs
            · exact .inr ⟨hs, by omega⟩
        by_cases g1 : f_goes u (nI i) = true
        · rw [if_pos g1]
          by_cases g2 : f_goes u (nI (i + 1 + j)) = true
          · rw [if_pos g2]
            have l1 := goes_lt h hi g1
            have l2 := goes_lt h (show i + 1 + j < 6 by omega) g2
            have d1 := apN_le (ph_e h l1).2 (ph_e h l2).2
            rw [dst h l1 l2, h2]
            unfold jmax
            by_cases c : D < apN (ph u i) (ph u (i + 1 + j))
            · rw [if_pos (nI_lt c (by omega))]
              refine ⟨_, d1, rfl, ?_⟩
              intro a b hs hab hb ga gb
              by_cases he : a = i ∧ b = i + 1 + j
              · obtain ⟨rfl, rfl⟩ := he
                exact Nat.le_refl _
              · have := h3 a b (by
                  rcases hs with hs | ⟨hs, hs2⟩
                  · exact .inl hs
                  · exact .inr ⟨hs, by omega⟩) hab hb ga gb
                omega
            · rw [if_neg (nI_nlt (by omega) (by omega))]
              refine ⟨D, h1, rfl, ?_⟩
              intro a b hs hab hb ga gb
              by_cases he : a = i ∧ b = i + 1 + j
              · obtain ⟨rfl, rfl⟩ := he
                omega
              · exact h3 a b (by
                  rcases hs with hs | ⟨hs, hs2⟩
                  · exact .inl hs
                  · exact .inr ⟨hs, by omega⟩) hab hb ga gb
          · rw [if_neg g2]; exact old rfl (.inr g2)
        · rw [if_neg g1]; exact old rfl (.inl g1)
    obtain ⟨D, h1, h2, h3⟩ := k2
    refine ⟨D, h1, h2, ?_⟩
    intro a b hs hab hb
    refine h3 a b ?_ hab hb
    rcases Nat.lt_or_ge a i with q | q
    · exact .inl q
    · exact .inr ⟨by omega, by omega⟩
  obtain ⟨D, h1, h2, h3⟩ := key
  exact ⟨D, h1, h2, fun a b _ hab hb => h3 a b (by omega) hab hb⟩
/-- the two that are apart most -/
theorem G_far (h : GI n u) : (cnt (rowU u) n < 2 → f_farthestOfGoing u false = -1 ∧ f_farthestOfGoing u true = -1 ∧ f_greatestDistance u = 0 ∧ f_isInStep u = false) ∧ (2 ≤ cnt (rowU u) n → ∃ a b, a < b ∧ b < n ∧ f_farthestOfGoing u false = nI a ∧ f_farthestOfGoing u true = nI b ∧ f_greatestDistance u = f_distance u (nI a) (nI b)) := by
  have hn := GI_n h
  have hBR := GI_BR h
  have hBI := GI_BI h
  have NPx := most_NP hBR
  have GPx := great_GP hBR hBI
  have hc := cnt_le (f := rowU u) n
  rcases NPx.1 with e | ⟨a, b, hab, hb, ga, gb, e⟩
  · have c1 : cnt (rowU u) n ≤ 1 := cnt_lt2 n (fun i k hik hk gi gk => NPx.2 i k (by omega) hik hk gi gk e)
    refine ⟨fun _ => ⟨by rw [B_far hBR hBI, if_pos e], by rw [B_far hBR hBI, if_pos e], ?_, ?_⟩, fun h2 => by omega⟩
    · rcases GPx with ⟨h1, h2⟩ | ⟨a, b, hab, hb, h1, h2⟩
      · exact h1
      · exact absurd (h1.symm.trans e) (code_ne (by omega) (by omega))
    · unfold f_isInStep
      rw [B_going hBR, if_pos (by rw [show (2 : Int32) = nI 2 from rfl]; exact nI_lt (by omega) (by omega))]
  · have c2 := cnt_two n a b hab hb ga gb
    refine ⟨fun h1 => by omega, fun _ => ?_⟩
    rcases GPx with ⟨h1, h2⟩ | ⟨a', b', hab', hb', h1, h2⟩
    · exact absurd (e.symm.trans h2) (code_ne (by omega) (by omega))
    · refine ⟨a', b', hab', hb', ?_, ?_, ?_⟩
      · rw [B_far hBR hBI, h1, if_neg (code_ne (by omega) (by omega)), if_neg (by decide), c_8, pk_div (by omega) (by omega) (by omega), show (8 * a' + b') / 8 = a' by omega]
      · rw [B_far hBR hBI, h1, if_neg (code_ne (by omega) (by omega)), if_pos rfl, c_8, pk_rem (by omega) (by omega) (by omega), show (8 * a' + b') % 8 = b' by omega]
      · rw [h2, B_dist hBR hBI (by omega) hb']
theorem G_going (h : GI n u) : f_going u = nI (cnt (rowU u) n) := B_going (GI_BR h)
theorem G_goes (h : GI n u) {k : Nat} (hk : k < n) : f_goes u (nI k) = f_Mgoes (rowU u) k := B_goes' (GI_BR h) hk
/-- the count of those that go, one more -/
theorem G_cnt (h : GI n u) {k : Nat} (hk : k < n) : nI (cnt (rowU u) k) + (if (f_goes u (nI k)) = true then (1 : Int32) else (0 : Int32)) = nI (cnt (rowU u) (k + 1)) := by
  rw [G_goes h hk, cnt_s]
  by_cases g : f_Mgoes (rowU u) k = true
  · rw [if_pos g, if_pos g]; exact nI_1 _
  · rw [if_neg g, if_neg g]; exact Int32.add_zero _
theorem G_orders (h : GI n u) : f_order u = f_orderByPairs u := (B_order (GI_BR h) (GI_BI h)).trans (B_pairs (GI_BR h) (GI_BI h)).symm
theorem G_sw (h : GI n u) {k : Nat} (hk : k < n) : (0 ≤ (f_swing (u 1 k) + 1000).toInt ∧ (f_swing (u 1 k) + 1000).toInt ≤ 2000) ∧ (0 ≤ (f_swing (f_quarterOn (u 1 k)) + 1000).toInt ∧ (f_swing (f_quarterOn (u 1 k)) + 1000).toInt ≤ 2000) := by
  obtain ⟨e, hq⟩ := ph_e h hk
  have e1 : (1000 : Int32).toInt = 1000 := by decide
  rw [e, sw_N hq, tu_N hq]
  have b1 := swN_b hq
  have b2 := swN_b (j := (ph u k + 900) % 3600) (by omega)
  rw [ti_add (by omega) (by omega), ti_add (by omega) (by omega), e1]
  omega
theorem G_ab (h : GI n u) : (0 ≤ (u 6 0 + 1000).toInt ∧ (u 6 0 + 1000).toInt ≤ 2000) ∧ (0 ≤ (u 7 0 + 1000).toInt ∧ (u 7 0 + 1000).toInt ≤ 2000) := by
  obtain ⟨-, -, b1, b2, -⟩ := GI_BI h
  have e1 : (1000 : Int32).toInt = 1000 := by decide
  rw [ti_add (by omega) (by omega), ti_add (by omega) (by omega), e1]
  omega
/-- goes: not held, and a spring -/
theorem G_goes_is (h : GI n u) {k : Nat} (hk : k < n) : f_goes u (nI k) = true ↔ ((u 3 k) = 0 ∧ ¬ u 2 k ≤ 0) := by
  have hn := GI_n h
  unfold f_goes
  rw [if_neg (nI_pos (by omega)), if_neg (by rw [c_6]; exact nI_ge (by omega) (by omega)), GI_5 h, if_neg (nI_ge hk (by omega)), nI_clamp (by omega)]
  by_cases h1 : u 3 k = 0
  · rw [if_pos h1]
    by_cases h2 : u 2 k ≤ 0
    · rw [if_pos h2]; exact ⟨fun h => (by cases h), fun h => absurd h2 h.2⟩
    · rw [if_neg h2]; exact ⟨fun _ => ⟨h1, h2⟩, fun _ => rfl⟩
  · rw [if_neg h1]; exact ⟨fun h => (by cases h), fun h => absurd h.1 h1⟩
theorem G_beat (h : GI n u) {k : Nat} (hk : k < n) : 40 ≤ (u 0 k).toInt ∧ (u 0 k).toInt ≤ 208 := (BI_row (GI_BI h) hk).1
theorem G_ticks (h : GI n u) (hb : (u 11 0).toInt ≤ 100000) {k : Nat} (hk : k ≤ n) : (s32 (u 4) k).toInt ≤ (u 12 0).toInt := by
  have h1 := GI_12 h
  have h2 := s32_I (GI_4 h) (by omega) k hk
  have h3 := sumI_mono n (GI_4 h) k hk
  omega
theorem G_springs (h : GI n u) : ∀ k, k ≤ n → (s32 (u 2) k).toInt = sumI (u 2) k ∧ 0 ≤ sumI (u 2) k := fun k hk => by
  have h1 := GI_s2 h
  exact ⟨s32_I (fun j hj => (GI_2 h j hj).1) (by omega) k hk, sumI_nn k (fun j hj => (GI_2 h j (by omega)).1)⟩
end GDS

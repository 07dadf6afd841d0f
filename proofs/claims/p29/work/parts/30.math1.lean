/-! MATH 1: numbers, swings, a bench and its reference row -/
theorem ti_add {a b : Int32} (h1 : -2147483648 ≤ a.toInt + b.toInt) (h2 : a.toInt + b.toInt ≤ 2147483647) : (a + b).toInt = a.toInt + b.toInt := by
  rw [Int32.toInt_add]
  exact Int.bmod_eq_of_le_mul_two (by omega) (by omega)
theorem ti_sub {a b : Int32} (h1 : -2147483648 ≤ a.toInt - b.toInt) (h2 : a.toInt - b.toInt ≤ 2147483647) : (a - b).toInt = a.toInt - b.toInt := by
  rw [Int32.toInt_sub]
  exact Int.bmod_eq_of_le_mul_two (by omega) (by omega)
theorem ti_mul {a b : Int32} (h1 : -2147483648 ≤ a.toInt * b.toInt) (h2 : a.toInt * b.toInt ≤ 2147483647) : (a * b).toInt = a.toInt * b.toInt := by
  rw [Int32.toInt_mul]
  exact Int.bmod_eq_of_le_mul_two (by omega) (by omega)
theorem ti_neg {a : Int32} (h1 : -2147483648 < a.toInt) (h2 : a.toInt ≤ 2147483647) : (-a).toInt = -a.toInt := by
  rw [Int32.toInt_neg]
  exact Int.bmod_eq_of_le_mul_two (by omega) (by omega)
theorem ti_div {a b : Int32} (hb : b ≠ -1) : (a / b).toInt = a.toInt.tdiv b.toInt := Int32.toInt_div_of_ne_right a b hb
theorem td_pos {x d : Int} (h : 0 ≤ x) : x.tdiv d = x / d := Int.tdiv_eq_ediv_of_nonneg h
theorem td_neg {x d : Int} (h : x ≤ 0) : x.tdiv d = -((-x) / d) := by
  have h1 := Int.neg_tdiv (-x) d
  rw [Int.neg_neg] at h1
  rw [h1, Int.tdiv_eq_ediv_of_nonneg (by omega)]
/-- a bound of a quotient by a number that is told -/
theorem td_bd {x m : Int} {d : Int} (hd : 0 < d) (h1 : -(m * d) ≤ x) (h2 : x ≤ m * d) : -m ≤ x.tdiv d ∧ x.tdiv d ≤ m := by
  rcases Int.le_total 0 x with h | h
  · rw [td_pos h]
    have h3 : x / d ≤ m := Int.ediv_le_of_le_mul hd h2
    have h4 : 0 ≤ x / d := Int.ediv_nonneg h (by omega)
    have h5 : 0 ≤ m := by omega
    omega
  · rw [td_neg h]
    have h3 : (-x) / d ≤ m := Int.ediv_le_of_le_mul hd (by omega)
    have h4 : 0 ≤ (-x) / d := Int.ediv_nonneg (by omega) (by omega)
    omega
theorem ti_le {a b : Int32} : a ≤ b ↔ a.toInt ≤ b.toInt := Int32.le_iff_toInt_le
theorem ti_lt {a b : Int32} : a < b ↔ a.toInt < b.toInt := Int32.lt_iff_toInt_lt
theorem ti_of {a : Int32} (h : 0 ≤ a.toInt) : ∃ j : Nat, a.toInt = (j : Int) ∧ a = nI j := by
  obtain ⟨j, hj, e⟩ := nI_of (x := a) (fun z => by
    have h1 : a.toInt < (0 : Int32).toInt := ti_lt.mp z
    have h2 : (0 : Int32).toInt = 0 := by decide
    omega)
  exact ⟨j, by rw [e, nI_toInt hj], e⟩
/-- a product of two numbers of bounded size -/
theorem mul_bd {x y : Int} (a b : Int) (h1 : -a ≤ x) (h2 : x ≤ a) (h3 : -b ≤ y) (h4 : y ≤ b) : -(a * b) ≤ x * y ∧ x * y ≤ a * b := by
  have ha : 0 ≤ a := by omega
  have hb : 0 ≤ b := by omega
  have k1 : 0 ≤ (a - x) * (b + y) := Int.mul_nonneg (by omega) (by omega)
  have k2 : 0 ≤ (a + x) * (b - y) := Int.mul_nonneg (by omega) (by omega)
  have k3 : 0 ≤ (a - x) * (b - y) := Int.mul_nonneg (by omega) (by omega)
  have k4 : 0 ≤ (a + x) * (b + y) := Int.mul_nonneg (by omega) (by omega)
  rw [Int.sub_mul, Int.mul_add, Int.mul_add] at k1
  rw [Int.add_mul, Int.mul_sub, Int.mul_sub] at k2
  rw [Int.sub_mul, Int.mul_sub, Int.mul_sub] at k3
  rw [Int.add_mul, Int.mul_add, Int.mul_add] at k4
  omega
theorem sw_le {j : Nat} (h : j ≤ 1800) : j * (1800 - j) ≤ 810000 := by
  rcases Nat.le_total j 900 with h1 | h1
  · obtain ⟨d, hd⟩ : ∃ d, j + d = 900 := ⟨900 - j, by omega⟩
    have e1 : 1800 - j = j + d + d := by omega
    have e2 : (j + d) * (j + d) = 810000 := by rw [hd]
    rw [e1]
    have e3 : (j + d) * (j + d) = j * (j + d + d) + d * d := by
      simp only [Nat.add_mul, Nat.mul_add]
      rw [Nat.mul_comm d j]
      omega
    omega
  · obtain ⟨i, hi⟩ : ∃ i, i + j = 1800 := ⟨1800 - j, by omega⟩
    obtain ⟨d, hd⟩ : ∃ d, i + d = 900 := ⟨900 - i, by omega⟩
    have e1 : 1800 - j = i := by omega
    have e0 : j = i + d + d := by omega
    have e2 : (i + d) * (i + d) = 810000 := by rw [hd]
    rw [e1, e0]
    have e3 : (i + d) * (i + d) = (i + d + d) * i + d * d := by
      simp only [Nat.add_mul, Nat.mul_add]
      rw [Nat.mul_comm d i]
      omega
    omega
theorem c_1800 : (1800 : Int32) = nI 1800 := rfl
theorem c_810 : (810 : Int32) = nI 810 := rfl
theorem c_900 : (900 : Int32) = nI 900 := rfl
theorem c_3600 : (3600 : Int32) = nI 3600 := rfl
theorem c_6 : (6 : Int32) = nI 6 := rfl
theorem c_0 : (0 : Int32) = nI 0 := rfl
theorem c_1 : (1 : Int32) = nI 1 := rfl
/-- the swing of a phase -/
def swN (j : Nat) : Int32 := if 1800 ≤ j then -(nI ((j - 1800) * (1800 - (j - 1800)) / 810)) else nI (j * (1800 - j) / 810)
theorem swN_b {j : Nat} (h : j < 3600) : -1000 ≤ (swN j).toInt ∧ (swN j).toInt ≤ 1000 := by
  unfold swN
  by_cases h1 : 1800 ≤ j
  · rw [if_pos h1]
    have h2 := sw_le (j := j - 1800) (by omega)
    have h3 : (j - 1800) * (1800 - (j - 1800)) / 810 ≤ 1000 := by omega
    generalize (j - 1800) * (1800 - (j - 1800)) / 810 = z at h3
    have h4 := nI_toInt (n := z) (by omega)
    rw [ti_neg (by omega) (by omega), h4]
    omega
  · rw [if_neg h1]
    have h2 := sw_le (j := j) (by omega)
    have h3 : j * (1800 - j) / 810 ≤ 1000 := by omega
    generalize j * (1800 - j) / 810 = z at h3
    rw [nI_toInt (n := z) (by omega)]
    omega
theorem sw_N {j : Nat} (h : j < 3600) : f_swing (nI j) = swN j := by
  unfold f_swing swN
  rw [c_1800]
  by_cases h1 : 1800 ≤ j
  · rw [if_pos h1, if_pos (nI_le h1 (by omega)), pk_sub h1, pk_sub (by omega), pk_mul, c_810, pk_div (by have := sw_le (j := j - 1800) (by omega); omega) (by omega) (by omega)]
  · rw [if_neg h1, if_neg (nI_ge (by omega) (by omega)), pk_sub (by omega), pk_mul, c_810, pk_div (by have := sw_le (j := j) (by omega); omega) (by omega) (by omega)]
theorem Msw_N {j : Nat} (h : j < 3600) : f_Mswing (nI j) = swN j := by
  unfold f_Mswing swN
  rw [c_1800, pk_rem (a := j) (by omega) (by omega) (by omega)]
  by_cases h1 : 1800 ≤ j
  · have e : j % 1800 = j - 1800 := by omega
    rw [if_pos h1, if_pos (nI_le h1 (by omega)), e, pk_sub (by omega), pk_mul, c_810, pk_div (by have := sw_le (j := j - 1800) (by omega); omega) (by omega) (by omega)]
  · have e : j % 1800 = j := by omega
    rw [if_neg h1, if_neg (nI_ge (by omega) (by omega)), e, pk_sub (by omega), pk_mul, c_810, pk_div (by have := sw_le (j := j) (by omega); omega) (by omega) (by omega)]
theorem qu_N {j : Nat} (h : j < 3600) : f_quarterOn (nI j) = nI ((j + 900) % 3600) := by
  unfold f_quarterOn
  rw [c_900, c_3600, nI_add, pk_rem (by omega) (by omega) (by omega)]
theorem Mtu_N {j : Nat} (h : j < 3600) : f_Mturn (nI j) = swN ((j + 900) % 3600) := by
  unfold f_Mturn
  rw [c_900, c_3600, nI_add, pk_rem (by omega) (by omega) (by omega)]
  exact Msw_N (by omega)
theorem tu_N {j : Nat} (h : j < 3600) : f_swing (f_quarterOn (nI j)) = swN ((j + 900) % 3600) := by
  rw [qu_N h]
  exact sw_N (by omega)
/-! loops -/
theorem it_pad {σ : Type} {n : Nat} {g h : Nat → σ → σ} (h1 : ∀ j, j < n → ∀ x, g j x = h j x) (a : σ) : ∀ N, n ≤ N → (∀ j, n ≤ j → j < N → ∀ x, g j x = x) → it N g a = it n h a
  | 0, hn, _ => by
    obtain rfl : n = 0 := by omega
    rfl
  | N + 1, hn, h2 => by
    rcases Nat.lt_or_ge N n with h3 | h3
    · obtain rfl : n = N + 1 := by omega
      rw [it_s, it_s, h1 N (by omega)]
      congr 1
      have : ∀ m, m ≤ N → it m g a = it m h a := by
        intro m
        induction m with
        | zero => intro _; rfl
        | succ m ih => intro hm; rw [it_s, it_s, ih (by omega), h1 m (by omega)]
      exact this N (by omega)
    · rw [it_s, h2 N h3 (by omega)]
      exact it_pad h1 a N h3 (fun j k1 k2 => h2 j k1 (by omega))
theorem it_cong {σ : Type} {n : Nat} {g h : Nat → σ → σ} (h1 : ∀ j, j < n → ∀ x, g j x = h j x) (a : σ) : it n g a = it n h a :=
  it_pad h1 a n (Nat.le_refl _) (fun j k1 k2 => by omega)
theorem it_inv {σ : Type} (P : Nat → σ → Prop) {n : Nat} {g : Nat → σ → σ} {a : σ} (h0 : P 0 a) (hs : ∀ j x, j < n → P j x → P (j + 1) (g j x)) : P n (it n g a) := by
  have : ∀ m, m ≤ n → P m (it m g a) := by
    intro m
    induction m with
    | zero => intro _; exact h0
    | succ m ih => intro hm; rw [it_s]; exact hs m _ (by omega) (ih (by omega))
  exact this n (Nat.le_refl _)
theorem it_rel {σ τ : Type} (P : Nat → σ → τ → Prop) {n : Nat} {g : Nat → σ → σ} {h : Nat → τ → τ} {a : σ} {b : τ} (h0 : P 0 a b) (hs : ∀ j x y, j < n → P j x y → P (j + 1) (g j x) (h j y)) : P n (it n g a) (it n h b) := by
  have : ∀ m, m ≤ n → P m (it m g a) (it m h b) := by
    intro m
    induction m with
    | zero => intro _; exact h0
    | succ m ih => intro hm; rw [it_s, it_s]; exact hs m _ _ (by omega) (ih (by omega))
  exact this n (Nat.le_refl _)
theorem it_plus {σ : Type} (c m : Nat) (g : Nat → σ → σ) (a : σ) : it (c + m) g a = it m (fun j => g (c + j)) (it c g a) := by
  induction m with
  | zero => rfl
  | succ m ih =>
    show g (c + m) (it (c + m) g a) = g (c + m) (it m (fun j => g (c + j)) (it c g a))
    rw [ih]
theorem it_mul {σ : Type} (a b : Nat) (g : Nat → σ → σ) (x : σ) : it (a * b) g x = it a (fun i x => it b (fun j => g (i * b + j)) x) x := by
  induction a with
  | zero => rw [Nat.zero_mul]; rfl
  | succ a ih => rw [Nat.succ_mul, it_plus, ih, it_s]
theorem it_id {σ : Type} {n : Nat} {g : Nat → σ → σ} (h : ∀ j, j < n → ∀ x, g j x = x) (a : σ) : it n g a = a :=
  it_pad (n := 0) (h := g) (fun j hj => by omega) a n (Nat.zero_le _) (fun j _ hj => h j hj)
/-! a bench and its reference row -/
def BR (n : Nat) (u : BS) (f : Nat → Int32) : Prop := n ≤ 6 ∧ u 5 0 = nI n ∧ f 3 = nI n ∧ f 0 = u 8 0 ∧ f 1 = u 9 0 ∧ f 2 = u 10 0 ∧ f 4 = u 11 0 ∧ f 5 = u 12 0 ∧ f 6 = u 13 0 ∧ f 7 = u 6 0 ∧ f 8 = u 7 0 ∧ (∀ k, k < n → f (9 + 5 * k) = u 0 k ∧ f (9 + 5 * k + 1) = u 1 k ∧ f (9 + 5 * k + 2) = u 2 k ∧ f (9 + 5 * k + 3) = u 3 k ∧ f (9 + 5 * k + 4) = u 4 k)
def BI (n : Nat) (u : BS) : Prop := (0 ≤ (u 8 0).toInt ∧ (u 8 0).toInt ≤ 95) ∧ (0 ≤ (u 9 0).toInt ∧ (u 9 0).toInt ≤ 99) ∧ (-1000 ≤ (u 6 0).toInt ∧ (u 6 0).toInt ≤ 1000) ∧ (-1000 ≤ (u 7 0).toInt ∧ (u 7 0).toInt ≤ 1000) ∧ (∀ k, k < n → (40 ≤ (u 0 k).toInt ∧ (u 0 k).toInt ≤ 208) ∧ (∃ j : Nat, j < 3600 ∧ u 1 k = nI j) ∧ (u 3 k = 0 ∨ u 3 k = 1))
section BRS
variable {n : Nat} {u : BS} {f : Nat → Int32}
theorem BR_n (h : BR n u f) : n ≤ 6 := h.1
theorem BR_3 (h : BR n u f) : (f 3).toNatClampNeg = n := by
  have h1 := h.2.2.1
  have h2 := h.1
  rw [h1, nI_clamp (by omega)]
theorem B_goes (h : BR n u f) {k : Nat} (hk : k < 6) : f_goes u (nI k) = (if k < n then f_Mgoes f k else false) := by
  obtain ⟨hn, h5, h3, h0, h1, h2, h4, h5', h6, h7, h8, hr⟩ := h
  unfold f_goes
  rw [if_neg (nI_pos (by omega)), if_neg (by rw [c_6]; exact nI_ge hk (by omega)), h5, nI_clamp (by omega)]
  by_cases hkn : k < n
  · rw [if_pos hkn, if_neg (nI_ge hkn (by omega))]
    unfold f_Mgoes f_Mof
    rw [(hr k hkn).2.2.1, (hr k hkn).2.2.2.1]
  · rw [if_neg hkn, if_pos (nI_le (by omega) (by omega))]
theorem B_goes' (h : BR n u f) {k : Nat} (hk : k < n) : f_goes u (nI k) = f_Mgoes f k := by
  have h1 := BR_n h
  rw [B_goes h (by omega), if_pos hk]
theorem B_has (h : BR n u f) (p : Int32) : f_has u p = f_Min p 0 ((f 3) - 1) := by
  obtain ⟨hn, h5, h3, -⟩ := h
  unfold f_has f_Min
  by_cases h1 : p < 0
  · rw [if_pos h1, if_pos h1]
  · rw [if_neg h1, if_neg h1, h5, h3, c_1, c_6]
    obtain ⟨j, hj, rfl⟩ := nI_of h1
    by_cases h2 : n ≤ j
    · have h4 : nI n - nI 1 < nI j := by
        rcases Nat.eq_zero_or_pos n with h0 | h0
        · subst h0
          have e : nI 0 - nI 1 = -1 := by decide
          rw [e, ti_lt, nI_toInt hj]
          have e2 : (-1 : Int32).toInt = -1 := by decide
          omega
        · rw [pk_sub h0]
          exact nI_lt (by omega) hj
      rw [if_pos h4]
      by_cases h6 : nI 6 ≤ nI j
      · rw [if_pos h6]
      · rw [if_neg h6, if_pos (nI_le h2 hj)]
    · rw [pk_sub (by omega), if_neg (nI_nlt (by omega) (by omega)), if_neg (nI_ge (by omega) (by omega)), if_neg (nI_ge (by omega) (by omega))]
theorem B_hask (h : BR n u f) {k : Nat} (hk : k < n) : f_has u (nI k) = true := by
  obtain ⟨hn, h5, h3, -⟩ := h
  unfold f_has
  rw [if_neg (nI_pos (by omega)), if_neg (by rw [c_6]; exact nI_ge (by omega) (by omega)), h5, if_neg (nI_ge hk (by omega))]
theorem B_hasof (h : BR n u f) {p : Int32} (hp : f_has u p = true) : ∃ k, k < n ∧ p = nI k := by
  obtain ⟨hn, h5, h3, -⟩ := h
  unfold f_has at hp
  by_cases h1 : p < 0
  · rw [if_pos h1] at hp; cases hp
  · obtain ⟨j, hj, rfl⟩ := nI_of h1
    rw [if_neg h1] at hp
    by_cases h2 : (6 : Int32) ≤ nI j
    · rw [if_pos h2] at hp; cases hp
    · rw [if_neg h2, h5] at hp
      by_cases h4 : nI n ≤ nI j
      · rw [if_pos h4] at hp; cases hp
      · refine ⟨j, ?_, rfl⟩
        rcases Nat.lt_or_ge j n with h6 | h6
        · exact h6
        · exact absurd (nI_le h6 hj) h4
/-- how many go -/
def cnt (f : Nat → Int32) : Nat → Nat
  | 0 => 0
  | m + 1 => if f_Mgoes f m = true then cnt f m + 1 else cnt f m
theorem cnt_s (m : Nat) : cnt f (m + 1) = if f_Mgoes f m = true then cnt f m + 1 else cnt f m := rfl
theorem cnt_le : ∀ m, cnt f m ≤ m
  | 0 => Nat.le_refl _
  | m + 1 => by
    have := cnt_le m
    rw [cnt_s]
    by_cases h : f_Mgoes f m = true
    · rw [if_pos h]; omega
    · rw [if_neg h]; omega
theorem M_cnt (m : Nat) : it m (f_Mgoing_L4 f) (0 : Int32) = nI (cnt f m) := by
  induction m with
  | zero => rfl
  | succ m ih =>
    rw [it_s, ih]
    unfold f_Mgoing_L4
    rw [cnt_s]
    by_cases h : f_Mgoes f m = true
    · rw [if_pos h, if_pos h]
      exact nI_1 _
    · rw [if_neg h, if_neg h]
      exact Int32.add_zero _
theorem cnt_none : ∀ m, (∀ k, k < m → ¬ f_Mgoes f k = true) → cnt f m = 0
  | 0, _ => rfl
  | m + 1, h => by
    rw [cnt_s]
    rw [if_neg (h m (by omega))]
    exact cnt_none m (fun k hk => h k (by omega))
theorem cnt_one : ∀ m k, k < m → f_Mgoes f k = true → 1 ≤ cnt f m
  | 0, k, hk, _ => by omega
  | m + 1, k, hk, hg => by
    rw [cnt_s]
    by_cases h : f_Mgoes f m = true
    · rw [if_pos h]; omega
    · rw [if_neg h]
      refine cnt_one m k ?_ hg
      rcases Nat.lt_or_ge k m with h1 | h1
      · exact h1
      · exact absurd (by rw [show m = k by omega]; exact hg) h
theorem cnt_two : ∀ m i k, i < k → k < m → f_Mgoes f i = true → f_Mgoes f k = true → 2 ≤ cnt f m
  | 0, i, k, _, hk, _, _ => by omega
  | m + 1, i, k, hi, hk, gi, gk => by
    rw [cnt_s]
    by_cases h : f_Mgoes f m = true
    · rw [if_pos h]
      have := cnt_one m i (by omega) gi
      omega
    · rw [if_neg h]
      refine cnt_two m i k hi ?_ gi gk
      rcases Nat.lt_or_ge k m with h1 | h1
      · exact h1
      · exact absurd (by rw [show m = k by omega]; exact gk) h
theorem cnt_lt2 : ∀ m, (∀ i k, i < k → k < m → f_Mgoes f i = true → ¬ f_Mgoes f k = true) → cnt f m ≤ 1
  | 0, _ => Nat.zero_le _
  | m + 1, h => by
    rw [cnt_s]
    by_cases h1 : f_Mgoes f m = true
    · rw [if_pos h1, cnt_none m (fun k hk gk => h k m hk (by omega) gk h1)]
      omega
    · rw [if_neg h1]
      exact cnt_lt2 m (fun i k hi hk => h i k hi (by omega))
theorem B_Mgoing (h : BR n u f) : f_Mgoing f = nI (cnt f n) := by
  unfold f_Mgoing
  rw [BR_3 h]
  exact M_cnt n
theorem B_going (h : BR n u f) : f_going u = nI (cnt f n) := by
  rw [← B_Mgoing h]
  unfold f_going f_Mgoing
  rw [BR_3 h]
  refine it_pad ?_ _ 6 (BR_n h) ?_
  · intro j hj x
    unfold f_going_L4 f_Mgoing_L4
    rw [B_goes' h hj, Int32.add_zero]
  · intro j h1 h2 x
    unfold f_going_L4
    rw [B_goes h h2, if_neg (show ¬ j < n by omega), if_neg (show ¬ false = true by decide)]
theorem BR_row (h : BR n u f) {k : Nat} (hk : k < n) : f (9 + 5 * k) = u 0 k ∧ f (9 + 5 * k + 1) = u 1 k ∧ f (9 + 5 * k + 2) = u 2 k ∧ f (9 + 5 * k + 3) = u 3 k ∧ f (9 + 5 * k + 4) = u 4 k := by
  obtain ⟨hn, h5, h3, h0, h1, h2, h4, h5', h6, h7, h8, hr⟩ := h
  exact hr k hk
theorem BI_row (h : BI n u) {k : Nat} (hk : k < n) : (40 ≤ (u 0 k).toInt ∧ (u 0 k).toInt ≤ 208) ∧ (∃ j : Nat, j < 3600 ∧ u 1 k = nI j) ∧ (u 3 k = 0 ∨ u 3 k = 1) := h.2.2.2.2 k hk
theorem B_swings (h : BR n u f) (hi : BI n u) : f_sumOfSwings u = f_Msum f false := by
  unfold f_sumOfSwings f_Msum
  rw [BR_3 h]
  refine it_pad ?_ _ 6 (BR_n h) ?_
  · intro j hj x
    obtain ⟨q, hq, e⟩ := (BI_row hi hj).2.1
    unfold f_sumOfSwings_L4 f_Msum_L4 f_Mof
    rw [B_goes' h hj, Int32.add_zero, (BR_row h hj).2.1, e, sw_N hq, Msw_N hq, if_neg (show ¬ false = true by decide)]
  · intro j h1 h2 x
    unfold f_sumOfSwings_L4
    rw [B_goes h h2, if_neg (show ¬ j < n by omega), if_neg (show ¬ false = true by decide)]
theorem B_turns (h : BR n u f) (hi : BI n u) : f_sumOfTurns u = f_Msum f true := by
  unfold f_sumOfTurns f_Msum
  rw [BR_3 h]
  refine it_pad ?_ _ 6 (BR_n h) ?_
  · intro j hj x
    obtain ⟨q, hq, e⟩ := (BI_row hi hj).2.1
    unfold f_sumOfTurns_L4 f_Msum_L4 f_Mof
    rw [B_goes' h hj, Int32.add_zero, (BR_row h hj).2.1, e, tu_N hq, Mtu_N hq, if_pos (show true = true from rfl)]
  · intro j h1 h2 x
    unfold f_sumOfTurns_L4
    rw [B_goes h h2, if_neg (show ¬ j < n by omega), if_neg (show ¬ false = true by decide)]
/-- the sums are bounded by how many go -/
theorem B_sumb (h : BR n u f) (hi : BI n u) (b : Bool) : -(1000 * (cnt f n : Int)) ≤ (f_Msum f b).toInt ∧ (f_Msum f b).toInt ≤ 1000 * (cnt f n : Int) := by
  have hn := BR_n h
  have key : ∀ m, m ≤ n → -(1000 * (cnt f m : Int)) ≤ (it m (f_Msum_L4 f b) (0 : Int32)).toInt ∧ (it m (f_Msum_L4 f b) (0 : Int32)).toInt ≤ 1000 * (cnt f m : Int) := by
    intro m
    induction m with
    | zero =>
      intro _
      rw [it_0, show cnt f 0 = 0 from rfl]
      exact ⟨by decide, by decide⟩
    | succ m ih =>
      intro hm
      have ih' := ih (by omega)
      have hc := cnt_le (f := f) m
      rw [it_s]
      generalize it m (f_Msum_L4 f b) (0 : Int32) = S at ih' ⊢
      obtain ⟨q, hq, e⟩ := (BI_row hi (show m < n by omega)).2.1
      have e2 := (BR_row h (show m < n by omega)).2.1
      unfold f_Msum_L4 f_Mof
      rw [cnt_s]
      rw [e2, e, Mtu_N hq, Msw_N hq]
      have s1 := swN_b hq
      have s2 := swN_b (j := (q + 900) % 3600) (by omega)
      by_cases hg : f_Mgoes f m = true
      · rw [if_pos hg, if_pos hg]
        cases b
        · rw [if_neg (show ¬ false = true by decide), ti_add (by omega) (by omega)]
          omega
        · rw [if_pos (show true = true from rfl), ti_add (by omega) (by omega)]
          omega
      · rw [if_neg hg, if_neg hg, Int32.add_zero]
        exact ih'
  unfold f_Msum
  rw [BR_3 h]
  exact key n (Nat.le_refl _)
theorem c_1000 : (1000 : Int32) = nI 1000 := rfl
theorem B_div (h : BR n u f) (x : Int32) : f_dividedForOrder u x = if f_Mgoing f = 0 then (0 : Int32) else x / (((1000 : Int32) * (f_Mgoing f)) * (f_Mgoing f)) := by
  unfold f_dividedForOrder
  rw [B_going h, B_Mgoing h]
  have hc := cnt_le (f := f) n
  have hn := BR_n h
  generalize cnt f n = g at hc
  by_cases h0 : g = 0
  · subst h0
    rw [if_pos (by decide), if_pos (by decide)]
  · rw [if_neg, if_neg (nI_ne0 (by omega) (by omega))]
    rw [c_1000, pk_mul, pk_mul]
    refine nI_nle ?_ ?_
    · exact Nat.mul_pos (by omega) (by omega)
    · have : 1000 * g * g ≤ 1000 * 6 * 6 := Nat.mul_le_mul (Nat.mul_le_mul (Nat.le_refl _) (by omega)) (by omega)
      omega
theorem B_order (h : BR n u f) (hi : BI n u) : f_order u = f_Morder f := by
  unfold f_order f_Morder
  rw [B_div h, B_swings h hi, B_turns h hi]
theorem pairs_in (j : Nat) (x : Int32) (m : Nat) : it m (f_orderByPairs_L12 u j x) x = x + (if f_goes u (nI j) = true then f_swing (u 1 j) * it m (f_sumOfSwings_L4 u) 0 + f_swing (f_quarterOn (u 1 j)) * it m (f_sumOfTurns_L4 u) 0 else 0) := by
  induction m with
  | zero =>
    by_cases h : f_goes u (nI j) = true
    · rw [if_pos h, it_0, it_0, it_0, Int32.mul_zero, Int32.mul_zero, Int32.add_zero, Int32.add_zero]
    · rw [if_neg h, it_0, Int32.add_zero]
  | succ m ih =>
    rw [it_s, ih, it_s, it_s]
    unfold f_orderByPairs_L12 f_sumOfSwings_L4 f_sumOfTurns_L4
    by_cases h : f_goes u (nI j) = true
    · rw [if_pos h, if_pos h, if_pos h]
      by_cases h1 : f_goes u (nI m) = true
      · rw [if_pos h1, if_pos h1, if_pos h1]
        generalize it m _ _ = s
        generalize it m _ _ = t
        grind
      · rw [if_neg h1, if_neg h1, if_neg h1]
    · rw [if_neg h, if_neg h, if_neg h]
theorem pairs_out (m : Nat) : it m (f_orderByPairs_L4 u) 0 = it m (f_sumOfSwings_L4 u) 0 * f_sumOfSwings u + it m (f_sumOfTurns_L4 u) 0 * f_sumOfTurns u := by
  induction m with
  | zero => rw [it_0, it_0, it_0, Int32.zero_mul, Int32.zero_mul, Int32.add_zero]
  | succ m ih =>
    rw [it_s, ih, it_s, it_s]
    unfold f_orderByPairs_L4
    rw [pairs_in]
    unfold f_sumOfSwings f_sumOfTurns
    generalize it 6 (f_sumOfSwings_L4 u) 0 = S
    generalize it 6 (f_sumOfTurns_L4 u) 0 = T
    generalize it m (f_sumOfSwings_L4 u) 0 = s
    generalize it m (f_sumOfTurns_L4 u) 0 = t
    unfold f_sumOfSwings_L4 f_sumOfTurns_L4
    by_cases h : f_goes u (nI m) = true
    · rw [if_pos h, if_pos h, if_pos h]
      grind
    · rw [if_neg h, if_neg h, if_neg h, Int32.add_zero]
theorem B_pairs (h : BR n u f) (hi : BI n u) : f_orderByPairs u = f_Morder f := by
  rw [← B_order h hi]
  unfold f_orderByPairs f_order
  rw [pairs_out]
  rfl
theorem jabs_sub {p q : Nat} (hp : p < 3600) (hq : q < 3600) : jabs (nI p - nI q) = nI (if q ≤ p then p - q else q - p) := by
  unfold jabs
  by_cases h : q ≤ p
  · rw [if_pos h, pk_sub h, if_pos (nI_pos' (by omega))]
  · rw [if_neg h, if_neg (Int32.not_le.mpr (pk_sneg (by omega) (by omega)))]
    rw [← pk_sub (a := q) (b := p) (by omega)]
    grind
/-- by how much two phases are apart -/
def apN (p q : Nat) : Nat := if q ≤ p then (if p - q ≤ 1800 then p - q else 3600 - (p - q)) else (if q - p ≤ 1800 then q - p else 3600 - (q - p))
theorem apN_le {p q : Nat} (hp : p < 3600) (hq : q < 3600) : apN p q ≤ 1800 := by
  unfold apN
  by_cases h : q ≤ p
  · rw [if_pos h]
    by_cases h1 : p - q ≤ 1800
    · rw [if_pos h1]; exact h1
    · rw [if_neg h1]; omega
  · rw [if_neg h]
    by_cases h1 : q - p ≤ 1800
    · rw [if_pos h1]; exact h1
    · rw [if_neg h1]; omega
theorem M_apart {a b p q : Nat} (ha : f (9 + 5 * a + 1) = nI p) (hb : f (9 + 5 * b + 1) = nI q) (hp : p < 3600) (hq : q < 3600) : f_MapartBy f a b = nI (apN p q) := by
  unfold f_MapartBy f_Mof apN
  rw [ha, hb, c_1800, c_3600]
  by_cases h : q ≤ p
  · rw [if_pos h, pk_sub h, if_pos (nI_pos' (by omega))]
    by_cases h1 : p - q ≤ 1800
    · rw [if_pos h1, if_pos (nI_le h1 (by omega))]
    · rw [if_neg h1, if_neg (nI_ge (by omega) (by omega)), pk_sub (by omega)]
  · have e : -(nI p - nI q) = nI (q - p) := by
      rw [← pk_sub (a := q) (b := p) (by omega)]
      grind
    rw [if_neg h, if_neg (Int32.not_le.mpr (pk_sneg (by omega) (by omega))), e]
    by_cases h1 : q - p ≤ 1800
    · rw [if_pos h1, if_pos (nI_le h1 (by omega))]
    · rw [if_neg h1, if_neg (nI_ge (by omega) (by omega)), pk_sub (by omega)]
theorem B_dist (h : BR n u f) (hi : BI n u) {a b : Nat} (ha : a < n) (hb : b < n) : f_distance u (nI a) (nI b) = f_MapartBy f a b := by
  obtain ⟨p, hp, e1⟩ := (BI_row hi ha).2.1
  obtain ⟨q, hq, e2⟩ := (BI_row hi hb).2.1
  have hn := BR_n h
  rw [M_apart ((BR_row h ha).2.1.trans e1) ((BR_row h hb).2.1.trans e2) hp hq]
  unfold f_distance
  rw [if_pos (B_hask h ha), if_pos (B_hask h hb), nI_clamp (by omega), nI_clamp (by omega), e1, e2, jabs_sub hp hq, c_3600]
  unfold jmin apN
  by_cases h1 : q ≤ p
  · rw [if_pos h1, if_pos h1, pk_sub (by omega)]
    by_cases h2 : p - q ≤ 1800
    · rw [if_pos h2, if_neg (nI_nlt (by omega) (by omega))]
    · rw [if_neg h2, if_pos (nI_lt (by omega) (by omega))]
  · rw [if_neg h1, if_neg h1, pk_sub (by omega)]
    by_cases h2 : q - p ≤ 1800
    · rw [if_pos h2, if_neg (nI_nlt (by omega) (by omega))]
    · rw [if_neg h2, if_pos (nI_lt (by omega) (by omega))]
theorem B_apb (h : BR n u f) (hi : BI n u) {a b : Nat} (ha : a < n) (hb : b < n) : ∃ d, d ≤ 1800 ∧ f_MapartBy f a b = nI d := by
  obtain ⟨p, hp, e1⟩ := (BI_row hi ha).2.1
  obtain ⟨q, hq, e2⟩ := (BI_row hi hb).2.1
  exact ⟨apN p q, apN_le hp hq, M_apart ((BR_row h ha).2.1.trans e1) ((BR_row h hb).2.1.trans e2) hp hq⟩
end BRS

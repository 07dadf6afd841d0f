/-! MATH 7: numbers read by signs and by the reference -/
theorem Min_N {w a b : Nat} (hw : w < 2 ^ 31) (ha : a < 2 ^ 31) (hb : b < 2 ^ 31) : f_Min (nI w) (nI a) (nI b) = (if a ≤ w ∧ w ≤ b then true else false) := by
  unfold f_Min
  by_cases h1 : w < a
  · rw [if_pos (nI_lt h1 ha), if_neg (by omega)]
  · rw [if_neg (nI_nlt (by omega) hw)]
    by_cases h2 : b < w
    · rw [if_pos (nI_lt h2 hw), if_neg (by omega)]
    · rw [if_neg (nI_nlt (by omega) hb), if_pos (by omega)]
/-! whether figures begin a number of a range -/
theorem can_true (z lo hi : Int32) (n : Nat) : ∀ a b, (it n (f_McanBe_L11 z lo hi) (a, b, true)).2.2 = true := by
  intro a b
  refine it_inv (fun _ (s : Int32 × Int32 × Bool) => s.2.2 = true) rfl ?_
  rintro j ⟨p, q, c⟩ hj h
  dsimp only at h
  subst h
  unfold f_McanBe_L11
  rw [if_pos rfl]
theorem it_front {σ : Type} (n : Nat) (g : Nat → σ → σ) (a : σ) : it (n + 1) g a = it n (fun j => g (1 + j)) (g 0 a) := by
  rw [Nat.add_comm n 1, it_plus]
  rfl
theorem can_front (z lo hi : Int32) (n : Nat) (s : Int32 × Int32 × Bool) : it (n + 1) (f_McanBe_L11 z lo hi) s = it n (f_McanBe_L11 z lo hi) (f_McanBe_L11 z lo hi 0 s) := by
  rw [it_front]
  rfl
theorem lead_can (r : BS) (z : Int32) : ∀ (n j : Nat) (a b : Int32), f_RleadsIntoRange_R24 r z n j a b = (it n (f_McanBe_L11 z (r 1 0) (r 2 0)) (a, b, false)).2.2 := by
  intro n
  induction n with
  | zero => intro j a b; rw [f_RleadsIntoRange_R24, it_0]
  | succ n ih =>
    intro j a b
    rw [f_RleadsIntoRange_R24, can_front]
    unfold f_McanBe_L11
    dsimp only
    rw [if_neg (show ¬ false = true by decide), Int32.mul_comm a 10, Int32.mul_comm b 10]
    by_cases c1 : r 2 0 < a
    · rw [if_pos c1, if_pos c1]
      exact ih _ _ _
    · rw [if_neg c1, if_neg c1]
      by_cases c2 : b < r 1 0
      · rw [if_pos c2, if_pos c2]
        exact ih _ _ _
      · rw [if_neg c2, if_neg c2]
        exact (can_true z (r 1 0) (r 2 0) n _ _).symm
theorem can_in {z lo hi : Int32} (h1 : ¬ hi < z) (h2 : ¬ z < lo) : f_McanBe z lo hi = true := by
  unfold f_McanBe
  rw [can_front]
  unfold f_McanBe_L11
  dsimp only
  rw [if_neg (show ¬ false = true by decide), if_neg h1, if_neg h2]
  exact can_true z lo hi 3 _ _
theorem can_no (z lo : Int32) {H : Nat} (hH : H < 2 ^ 31) : ∀ (n A : Nat) (b : Int32), H < A → A * 10 ^ n < 2 ^ 31 → (it n (f_McanBe_L11 z lo (nI H)) (nI A, b, false)).2.2 = false := by
  intro n
  induction n with
  | zero => intro A b h1 h2; rfl
  | succ n ih =>
    intro A b h1 h2
    have h3 : A ≤ A * 10 ^ (n + 1) := Nat.le_mul_of_pos_right _ (Nat.pow_pos (by omega))
    rw [can_front]
    unfold f_McanBe_L11
    dsimp only
    rw [if_neg (show ¬ false = true by decide), if_pos (nI_lt h1 (by omega)), show (10 : Int32) * nI A = nI (10 * A) from pk_mul 10 A]
    have h4 : 10 * A * 10 ^ n = A * 10 ^ (n + 1) := by rw [Nat.pow_succ, Nat.mul_comm 10 A, Nat.mul_assoc, Nat.mul_comm 10 (10 ^ n)]
    exact ih (10 * A) _ (by omega) (by omega)
theorem can_le {w H : Nat} {lo : Int32} (hw : w ≤ 40000) (hH : H ≤ 3599) (h : f_McanBe (nI w) lo (nI H) = true) : w ≤ H := by
  rcases Nat.lt_or_ge H w with h1 | h1
  · have := can_no (nI w) lo (H := H) (by omega) 4 w (nI w) h1 (by omega)
    unfold f_McanBe at h
    rw [this] at h
    cases h
  · exact h1
/-! the class's reader over a stretch of the text -/
def Rd (x : BS) : Nat → Nat → BS → BS → Prop
  | 0, _, r, r' => r' = r
  | c + 1, a, r, r' => (f_Rreads r (x 0 a)).1 = true ∧ Rd x c (a + 1) (f_Rreads r (x 0 a)).2 r'
theorem Rd_app {x : BS} : ∀ {c a c' : Nat} {r r1 r2 : BS}, Rd x c a r r1 → Rd x c' (a + c) r1 r2 → Rd x (c + c') a r r2
  | 0, a, c', r, r1, r2, h1, h2 => by
    have e : r1 = r := h1
    rw [Nat.zero_add, ← e]
    exact h2
  | c + 1, a, c', r, r1, r2, h1, h2 => by
    rw [show c + 1 + c' = (c + c') + 1 by omega]
    refine ⟨h1.1, Rd_app h1.2 ?_⟩
    rw [show a + 1 + c = a + (c + 1) by omega]
    exact h2
theorem Rd_one {x : BS} {a : Nat} {r r' : BS} (h : f_Rreads r (x 0 a) = (true, r')) : Rd x 1 a r r' := by
  refine ⟨by rw [h], ?_⟩
  show r' = (f_Rreads r (x 0 a)).2
  rw [h]
theorem R_letter {r : BS} (h : r 0 0 = 0) (c : Int32) : f_Rreads r c = f_RreadsLetter r c := by
  unfold f_Rreads
  rw [if_pos h]
theorem R_digit {r : BS} (h : ¬ r 0 0 = 0) {d : Nat} (hd : d ≤ 9) : f_Rreads r (nI (48 + d)) = f_RreadsDigit r (nI d) := by
  unfold f_Rreads
  rw [if_neg h, show (48 : Int32) = nI 48 from rfl, show (57 : Int32) = nI 57 from rfl, if_neg (nI_nlt (by omega) (by omega)), if_neg (nI_nlt (by omega) (by omega)), pk_sub (by omega), show 48 + d - 48 = d by omega]
theorem R_end {r : BS} (h : ¬ r 0 0 = 0) {w : Nat} (hw : w < 48 ∨ 57 < w) (hb : w ≤ 126) (hd : ¬ r 4 0 ≤ 0) (hv : ¬ r 3 0 < r 1 0) : f_Rreads r (nI w) = f_RreadsEndOfNumber r (nI w) := by
  have pr : ∀ p : Bool × BS, (if p.1 = true then (true, p.2) else (false, p.2)) = p := by
    rintro ⟨a, b⟩
    cases a <;> rfl
  unfold f_Rreads
  rw [if_neg h, show (48 : Int32) = nI 48 from rfl, show (57 : Int32) = nI 57 from rfl]
  rcases hw with q | q
  · rw [if_pos (nI_lt q (by omega)), if_neg hd, if_neg hv, pr]
  · rw [if_neg (nI_nlt (by omega) (by omega)), if_pos (nI_lt q (by omega)), if_neg hd, if_neg hv, pr]
theorem R_bad {r : BS} (h : ¬ r 0 0 = 0) {w : Nat} (hw : w < 48 ∨ 57 < w) (hb : w ≤ 126) (hd : r 4 0 ≤ 0 ∨ r 3 0 < r 1 0) : f_Rreads r (nI w) = (false, r) := by
  unfold f_Rreads
  rw [if_neg h, show (48 : Int32) = nI 48 from rfl, show (57 : Int32) = nI 57 from rfl]
  rcases hw with q | q
  · rw [if_pos (nI_lt q (by omega))]
    by_cases c : r 4 0 ≤ 0
    · rw [if_pos c]
    · rw [if_neg c]
      rcases hd with e | e
      · exact absurd e c
      · rw [if_pos e]
  · rw [if_neg (nI_nlt (by omega) (by omega)), if_pos (nI_lt q (by omega))]
    by_cases c : r 4 0 ≤ 0
    · rw [if_pos c]
    · rw [if_neg c]
      rcases hd with e | e
      · exact absurd e c
      · rw [if_pos e]
/-- a reader that waits for the first figure of a number -/
def NumAt (r : BS) (pl lo hi : Nat) : Prop := r 0 0 = nI pl ∧ r 1 0 = nI lo ∧ r 2 0 = nI hi ∧ r 3 0 = 0 ∧ r 4 0 = 0
/-- a reader within a number -/
def NumIn (r : BS) (pl lo hi v d : Nat) : Prop := r 0 0 = nI pl ∧ r 1 0 = nI lo ∧ r 2 0 = nI hi ∧ r 3 0 = nI v ∧ r 4 0 = nI d ∧ 1 ≤ d ∧ d ≤ 100 ∧ v ≤ hi
theorem pl_ne {r : BS} {pl : Nat} (h : r 0 0 = nI pl) (h1 : 1 ≤ pl) (h2 : pl ≤ 4) : ¬ r 0 0 = 0 := by
  rw [h]
  exact nI_ne0 (by omega) (by omega)
theorem R_first {r : BS} {pl lo hi : Nat} (h : NumAt r pl lo hi) (h1 : 1 ≤ pl) (h2 : pl ≤ 4) (hlo : lo ≤ 40) (hhi : hi ≤ 3599) {d : Nat} (hd : d ≤ 9) : f_Rreads r (nI (48 + d)) = if (d = 0 ∧ ¬ lo = 0) ∨ ¬ f_McanBe (nI d) (nI lo) (nI hi) = true then (false, r) else (true, upA (upA r 3 0 (nI d)) 4 0 (nI 1)) := by
  obtain ⟨e0, e1, e2, e3, e4⟩ := h
  rw [R_digit (pl_ne e0 h1 h2) hd]
  have hz : r 3 0 * 10 + nI d = nI d := by rw [e3, Int32.zero_mul, Int32.zero_add]
  unfold f_RreadsDigit f_RleadsIntoRange
  rw [hz, lead_can, e1, e2, e4, if_pos (by decide), show (0 : Int32) + 1 = nI 1 from rfl]
  show (if (if nI d = 0 then (if nI lo = 0 then true else false) else f_McanBe (nI d) (nI lo) (nI hi)) = true then _ else _) = _
  by_cases c0 : d = 0
  · subst c0
    rw [if_pos (show nI 0 = 0 from rfl)]
    by_cases c1 : lo = 0
    · subst c1
      rw [if_pos (show nI 0 = 0 from rfl), if_pos rfl, if_neg]
      rintro (q | q)
      · exact q.2 rfl
      · exact q (can_in (nI_nlt (by omega) (by omega)) (by decide))
    · rw [if_neg (nI_ne0 (by omega) (by omega)), if_neg (by decide), if_pos (.inl ⟨rfl, c1⟩)]
  · rw [if_neg (nI_ne0 (by omega) (by omega))]
    by_cases c1 : f_McanBe (nI d) (nI lo) (nI hi) = true
    · rw [if_pos c1, if_neg]
      rintro (q | q)
      · exact c0 q.1
      · exact q c1
    · rw [if_neg c1, if_pos (.inr c1)]
theorem R_next {r : BS} {pl lo hi v dd : Nat} (h : NumIn r pl lo hi v dd) (h1 : 1 ≤ pl) (h2 : pl ≤ 4) (hhi : hi ≤ 3599) (hv : 0 < v) {d : Nat} (hd : d ≤ 9) : f_Rreads r (nI (48 + d)) = if f_McanBe (nI (10 * v + d)) (nI lo) (nI hi) = true then (true, upA (upA r 3 0 (nI (10 * v + d))) 4 0 (nI (dd + 1))) else (false, r) := by
  obtain ⟨e0, e1, e2, e3, e4, d1, d2, hvh⟩ := h
  rw [R_digit (pl_ne e0 h1 h2) hd]
  have hz : r 3 0 * 10 + nI d = nI (10 * v + d) := by rw [e3, Int32.mul_comm, show (10 : Int32) = nI 10 from rfl, pk_mul, nI_add]
  unfold f_RreadsDigit f_RleadsIntoRange
  rw [hz, lead_can, e1, e2, e4, e3, if_neg (nI_nle (by omega) (by omega)), if_neg (nI_ne0 hv (by omega)), nI_1]
  show (if (if nI (10 * v + d) = 0 then (if nI lo = 0 then true else false) else f_McanBe (nI (10 * v + d)) (nI lo) (nI hi)) = true then _ else _) = _
  rw [if_neg (nI_ne0 (by omega) (by omega))]
theorem R_zero {r : BS} {pl lo hi dd : Nat} (h : NumIn r pl lo hi 0 dd) (h1 : 1 ≤ pl) (h2 : pl ≤ 4) {d : Nat} (hd : d ≤ 9) : f_Rreads r (nI (48 + d)) = (false, r) := by
  obtain ⟨e0, e1, e2, e3, e4, d1, d2, hvh⟩ := h
  rw [R_digit (pl_ne e0 h1 h2) hd]
  unfold f_RreadsDigit
  rw [e4, e3, if_neg (nI_nle (by omega) (by omega)), if_pos (show nI 0 = 0 from rfl)]
/-! the reference at a place of the text -/
/-- the text: t signs of x, each 33 to 126 -/
def TT (x : BS) (t : Nat) : Prop := t ≤ 60 ∧ ∀ j, j < t → ∃ w : Nat, 33 ≤ w ∧ w ≤ 126 ∧ x 0 j = nI w
def YS (x : BS) (t p : Nat) (Y : BS) : Prop := Y 7 0 = nI t ∧ Y 9 0 = nI p ∧ p ≤ t ∧ ∀ j, j < t → Y 6 j = x 0 j
theorem isAt_N {x : BS} {t p : Nat} {Y : BS} (hT : TT x t) (h : YS x t p Y) (a b : Int32) : f_MisAt Y a b = if p < t then f_Min (x 0 p) a b else false := by
  obtain ⟨e7, e9, hp, e6⟩ := h
  have ht := hT.1
  unfold f_MisAt
  rw [e7, e9, nI_clamp (by omega), nI_clamp (by omega)]
  by_cases c : p < t
  · rw [if_neg (nI_ge c (by omega)), if_pos c, e6 p c]
    cases f_Min (x 0 p) a b <;> rfl
  · rw [if_pos (nI_le (by omega) (by omega)), if_neg c]
theorem stops_N {x : BS} {t p : Nat} {Y : BS} (hT : TT x t) (h : YS x t p Y) : f_Mstops Y = (false, upA Y 10 0 (if p < t then 1 else 0)) := by
  obtain ⟨e7, e9, hp, e6⟩ := h
  have ht := hT.1
  unfold f_Mstops
  rw [e7, e9]
  by_cases c : p < t
  · rw [if_neg (nI_ge c (by omega)), if_pos c]
  · rw [if_pos (nI_le (by omega) (by omega)), if_neg c]
/-- what the reference's number reader leaves -/
def KP (Y Y' : BS) : Prop := ∀ k, k ≠ 9 → k ≠ 10 → k ≠ 11 → k ≠ 12 → Y' k = Y k
theorem KP.rf (Y : BS) : KP Y Y := fun _ _ _ _ _ => rfl
theorem KP.tr {a b c : BS} (h1 : KP a b) (h2 : KP b c) : KP a c := fun k k1 k2 k3 k4 => (h2 k k1 k2 k3 k4).trans (h1 k k1 k2 k3 k4)
theorem KP.u {Y : BS} {k : Nat} (h : k = 9 ∨ k = 10 ∨ k = 11 ∨ k = 12) (j : Nat) (v : Int32) : KP Y (upA Y k j v) := fun i h1 h2 h3 h4 => upA_o (by omega)
theorem YS.kp {x : BS} {t p p' : Nat} {Y Y' : BS} (h : YS x t p Y) (k : KP Y Y') (e : Y' 9 0 = nI p') (hp : p' ≤ t) : YS x t p' Y' := by
  obtain ⟨e7, e9, hp0, e6⟩ := h
  refine ⟨?_, e, hp, ?_⟩
  · rw [k 7 (by omega) (by omega) (by omega) (by omega)]; exact e7
  · intro j hj
    rw [k 6 (by omega) (by omega) (by omega) (by omega)]; exact e6 j hj
/-- the number was read: class and reference at the same place -/
def NumOut (x : BS) (t p T k pl lo hi : Nat) (Y : BS) (r : BS) (M : Bool × BS) : Prop := ∃ p' v d r', p ≤ p' ∧ p' ≤ t ∧ Rd x (p' - p) p r r' ∧ (∀ j, p ≤ j → j < p' → ¬ x 0 j = 59) ∧ (∀ q, q ≠ 3 → q ≠ 4 → r' q = r q) ∧ NumIn r' pl lo hi v d ∧ KP Y M.2 ∧ M.2 9 0 = nI p' ∧ M.2 12 = upd (Y 12) (4 * T + k) (nI v) ∧ ((lo ≤ v ∧ M.1 = true) ∨ (v < lo ∧ M.1 = false ∧ M.2 10 0 = if p' < t then 1 else 0)) ∧ (∀ d', d' ≤ 9 → p' < t → x 0 p' = nI (48 + d') → (f_Rreads r' (nI (48 + d'))).1 = false)
theorem num_loop {x : BS} {t : Nat} (hT : TT x t) {T k pl lo hi : Nat} (h1 : 1 ≤ pl) (h2 : pl ≤ 4) (hlo : lo ≤ 40) (hhi : hi ≤ 3599) (ux : BS) : ∀ (N j p v d : Nat) (Y r : BS), YS x t p Y → Y 13 0 = nI T → T ≤ 61 → Y 11 0 = nI v → NumIn r pl lo hi v d → d + (t - p) ≤ 99 → t - p < N → NumOut x t p T k pl lo hi Y r (f_MisNumber_R83 ux k (nI lo) (nI hi) N j Y) := by
  intro N
  induction N with
  | zero => intro j p v d Y r _ _ _ _ _ _ h; omega
  | succ N ih =>
    intro j p v d Y r hY hY13 hT61 hv hr hd hN
    have hY' := hY
    obtain ⟨e7, e9, hp, e6⟩ := hY
    have ht := hT.1
    have hvh : v ≤ hi := hr.2.2.2.2.2.2.2
    have hd1 : 1 ≤ d := hr.2.2.2.2.2.1
    rw [f_MisNumber_R83]
    rw [hv, e9, hY13, nI_clamp (show p < 2 ^ 31 by omega), nI_clamp (show T < 2 ^ 31 by omega)]
    have hYo : YS x t p (upA Y 12 (4 * T + k) (nI v)) := hY'.kp (KP.u (by omega) _ _) e9 hp
    have fin : (∀ d', d' ≤ 9 → p < t → x 0 p = nI (48 + d') → (f_Rreads r (nI (48 + d'))).1 = false) → NumOut x t p T k pl lo hi Y r (if nI lo ≤ nI v then (true, upA Y 12 (4 * T + k) (nI v)) else if (f_Mstops (upA Y 12 (4 * T + k) (nI v))).1 = true then (true, (f_Mstops (upA Y 12 (4 * T + k) (nI v))).2) else (false, (f_Mstops (upA Y 12 (4 * T + k) (nI v))).2)) := by
      intro hst
      refine ⟨p, v, d, r, Nat.le_refl _, hp, by rw [Nat.sub_self]; rfl, fun j h1 h2 => by omega, fun _ _ _ => rfl, hr, ?_⟩
      by_cases c : lo ≤ v
      · rw [if_pos (nI_le c (by omega))]
        dsimp only
        exact ⟨KP.u (by omega) _ _, e9, upA_r, .inl ⟨c, rfl⟩, hst⟩
      · rw [if_neg (nI_ge (by omega) (by omega)), stops_N hT hYo]
        dsimp only
        rw [if_neg (show ¬ false = true by decide)]
        dsimp only
        exact ⟨KP.tr (KP.u (by omega) _ _) (KP.u (by omega) _ _), e9, (by rw [upA_o (by decide)]; exact upA_r), .inr ⟨by omega, rfl, upA_s⟩, hst⟩
    by_cases c0 : v = 0
    · subst c0
      rw [if_pos (by decide)]
      refine fin ?_
      intro d' hd' _ _
      rw [R_zero hr h1 h2 hd']
    · rw [if_neg (nI_nle (by omega) (by omega)), isAt_N hT hY']
      by_cases c1 : p < t
      · obtain ⟨w, w1, w2, ew⟩ := hT.2 p c1
        rw [if_pos c1, ew, show (48 : Int32) = nI 48 from rfl, show (57 : Int32) = nI 57 from rfl, Min_N (by omega) (by omega) (by omega)]
        by_cases c2 : 48 ≤ w ∧ w ≤ 57
        · rw [if_pos c2, if_pos rfl]
          have ez : (10 : Int32) * nI v + Y 6 p - nI 48 = nI (10 * v + (w - 48)) := by
            rw [e6 p c1, ew, show (10 : Int32) = nI 10 from rfl, pk_mul, nI_add, pk_sub (by omega), show 10 * v + w - 48 = 10 * v + (w - 48) by omega]
          have hn := R_next hr h1 h2 hhi (by omega) (d := w - 48) (by omega)
          rw [show 48 + (w - 48) = w by omega] at hn
          rw [ez]
          by_cases c3 : f_McanBe (nI (10 * v + (w - 48))) (nI lo) (nI hi) = true
          · rw [if_pos c3]
            rw [if_pos c3] at hn
            have hle := can_le (by omega) hhi c3
            have hr2 : NumIn (upA (upA r 3 0 (nI (10 * v + (w - 48)))) 4 0 (nI (d + 1))) pl lo hi (10 * v + (w - 48)) (d + 1) := by
              obtain ⟨q0, q1, q2, q3, q4, q5, q6, q7⟩ := hr
              exact ⟨q0, q1, q2, rfl, rfl, by omega, by omega, hle⟩
            have hY2 : YS x t (p + 1) (upA (upA Y 11 0 (nI (10 * v + (w - 48)))) 9 0 (nI (p + 1))) := hY'.kp (KP.tr (KP.u (by omega) _ _) (KP.u (by omega) _ _)) upA_s (by omega)
            obtain ⟨p', v', d', r', a1, a2, a3, a4, a5, a6, a7, a8, a9, a10, a11⟩ := ih (j + 1) (p + 1) (10 * v + (w - 48)) (d + 1) _ _ hY2 hY13 hT61 rfl hr2 (by omega) (by omega)
            refine ⟨p', v', d', r', by omega, a2, ?_, ?_, ?_, a6, ?_, a8, a9, a10, a11⟩
            · rw [show p' - p = 1 + (p' - (p + 1)) by omega]
              exact Rd_app (Rd_one (by rw [ew]; exact hn)) a3
            · intro j h1 h2
              rcases Nat.lt_or_ge p j with q | q
              · exact a4 j q h2
              · obtain rfl : j = p := by omega
                rw [ew]
                intro e
                have := (nI_eq (a := w) (b := 59) (by omega) (by omega)).mp e
                omega
            · intro q q3 q4
              rw [a5 q q3 q4, upA_o q4, upA_o q3]
            · exact KP.tr (KP.tr (KP.u (by omega) _ _) (KP.u (by omega) _ _)) a7
          · rw [if_neg c3]
            rw [if_neg c3] at hn
            refine fin ?_
            intro d' hd' _ e
            rw [ew, nI_eq (by omega) (by omega)] at e
            rw [← e, hn]
        · rw [if_neg c2, if_neg (by decide)]
          refine fin ?_
          intro d' hd' _ e
          rw [ew, nI_eq (by omega) (by omega)] at e
          omega
      · rw [if_neg c1, if_neg (by decide)]
        exact fin (fun _ _ q => absurd q c1)
/-- the number could not begin -/
def NumNo (x : BS) (t p : Nat) (Y : BS) (r : BS) (M : Bool × BS) : Prop := M.1 = false ∧ KP Y M.2 ∧ M.2 9 0 = nI p ∧ M.2 12 = Y 12 ∧ (M.2 10 0 = if p < t then 1 else 0) ∧ (p < t → (f_Rreads r (x 0 p)).1 = false) ∧ (f_Rreads r 59).1 = false
theorem num_spec {x : BS} {t : Nat} (hT : TT x t) {T k pl lo hi p : Nat} (h1 : 1 ≤ pl) (h2 : pl ≤ 4) (hlo : lo ≤ 40) (hhi : hi ≤ 3599) {Y r : BS} (hY : YS x t p Y) (hY13 : Y 13 0 = nI T) (hT61 : T ≤ 61) (hr : NumAt r pl lo hi) : (NumNo x t p Y r (f_MisNumber Y k (nI lo) (nI hi))) ∨ (p < t ∧ NumOut x t p T k pl lo hi Y r (f_MisNumber Y k (nI lo) (nI hi))) := by
  have hY' := hY
  obtain ⟨e7, e9, hp, e6⟩ := hY
  have ht := hT.1
  have r59 : (f_Rreads r 59).1 = false := by
    have := R_bad (pl_ne hr.1 h1 h2) (w := 59) (by omega) (by omega) (.inl (by rw [hr.2.2.2.2]; decide))
    rw [show (59 : Int32) = nI 59 from rfl, this]
  have no : (p < t → (f_Rreads r (x 0 p)).1 = false) → NumNo x t p Y r ((f_Mstops Y).1, (f_Mstops Y).2) := by
    intro hq
    rw [stops_N hT hY']
    unfold NumNo
    dsimp only
    exact ⟨rfl, KP.u (by omega) _ _, e9, rfl, upA_s, hq, r59⟩
  have bad : ∀ w, 33 ≤ w → w ≤ 126 → (w < 48 ∨ 57 < w) → x 0 p = nI w → (f_Rreads r (x 0 p)).1 = false := by
    intro w w1 w2 hw ew
    rw [ew, R_bad (pl_ne hr.1 h1 h2) hw w2 (.inl (by rw [hr.2.2.2.2]; decide))]
  have go : ∀ w, 48 ≤ w → w ≤ 57 → p < t → x 0 p = nI w → ¬ (w = 48 ∧ ¬ lo = 0) → f_McanBe (nI (w - 48)) (nI lo) (nI hi) = true → NumOut x t p T k pl lo hi Y r (f_MisNumber_R83 Y k (nI lo) (nI hi) 61 0 (upA (upA Y 11 0 (nI (w - 48))) 9 0 (nI (p + 1)))) := by
    intro w w1 w2 hpt ew hz hc
    have hf := R_first hr h1 h2 hlo hhi (d := w - 48) (by omega)
    rw [show 48 + (w - 48) = w by omega, if_neg (fun q => q.elim (fun q => hz ⟨by omega, q.2⟩) (fun q => q hc))] at hf
    have hle := can_le (by omega) hhi hc
    have hr2 : NumIn (upA (upA r 3 0 (nI (w - 48))) 4 0 (nI 1)) pl lo hi (w - 48) 1 := by
      obtain ⟨q0, q1, q2, q3, q4⟩ := hr
      exact ⟨q0, q1, q2, rfl, rfl, by omega, by omega, hle⟩
    have hY2 : YS x t (p + 1) (upA (upA Y 11 0 (nI (w - 48))) 9 0 (nI (p + 1))) := hY'.kp (KP.tr (KP.u (by omega) _ _) (KP.u (by omega) _ _)) upA_s (by omega)
    obtain ⟨p', v', d', r', a1, a2, a3, a4, a5, a6, a7, a8, a9, a10, a11⟩ := num_loop hT h1 h2 hlo hhi Y 61 0 (p + 1) (w - 48) 1 _ _ hY2 hY13 hT61 rfl hr2 (by omega) (by omega)
    refine ⟨p', v', d', r', by omega, a2, ?_, ?_, ?_, a6, ?_, a8, a9, a10, a11⟩
    · rw [show p' - p = 1 + (p' - (p + 1)) by omega]
      exact Rd_app (Rd_one (by rw [ew]; exact hf)) a3
    · intro j h1 h2
      rcases Nat.lt_or_ge p j with q | q
      · exact a4 j q h2
      · obtain rfl : j = p := by omega
        rw [ew]
        intro e
        have := (nI_eq (a := w) (b := 59) (by omega) (by omega)).mp e
        omega
    · intro q q3 q4
      rw [a5 q q3 q4, upA_o q4, upA_o q3]
    · exact KP.tr (KP.tr (KP.u (by omega) _ _) (KP.u (by omega) _ _)) a7
  unfold f_MisNumber
  rw [isAt_N hT hY', isAt_N hT hY', e9, nI_clamp (show p < 2 ^ 31 by omega)]
  by_cases c1 : p < t
  · obtain ⟨w, w1, w2, ew⟩ := hT.2 p c1
    rw [if_pos c1, if_pos c1, e6 p c1, ew, show (48 : Int32) = nI 48 from rfl, show (49 : Int32) = nI 49 from rfl, show (57 : Int32) = nI 57 from rfl, Min_N (by omega) (by omega) (by omega), Min_N (by omega) (by omega) (by omega)]
    have dig : 48 ≤ w → w ≤ 57 → f_Rreads r (nI w) = if (w - 48 = 0 ∧ ¬ lo = 0) ∨ ¬ f_McanBe (nI (w - 48)) (nI lo) (nI hi) = true then (false, r) else (true, upA (upA r 3 0 (nI (w - 48))) 4 0 (nI 1)) := by
      intro q1 q2
      have hf := R_first hr h1 h2 hlo hhi (d := w - 48) (by omega)
      rw [show 48 + (w - 48) = w by omega] at hf
      exact hf
    by_cases c0 : lo = 0
    · rw [if_pos (show nI lo = 0 by rw [c0]; rfl)]
      by_cases c2 : 48 ≤ w ∧ w ≤ 57
      · rw [if_pos c2, if_pos rfl, pk_sub c2.1]
        by_cases c3 : f_McanBe (nI (w - 48)) (nI lo) (nI hi) = true
        · rw [if_pos c3]
          exact .inr ⟨c1, go w c2.1 c2.2 c1 ew (fun q => q.2 c0) c3⟩
        · rw [if_neg c3]
          refine .inl (no ?_)
          intro _
          rw [ew, dig c2.1 c2.2, if_pos (.inr c3)]
      · rw [if_neg c2, if_neg (by decide)]
        exact .inl (no (fun _ => bad w w1 w2 (by omega) ew))
    · rw [if_neg (nI_ne0 (by omega) (by omega))]
      by_cases c2 : 49 ≤ w ∧ w ≤ 57
      · rw [if_pos c2, if_pos rfl, pk_sub (by omega)]
        by_cases c3 : f_McanBe (nI (w - 48)) (nI lo) (nI hi) = true
        · rw [if_pos c3]
          exact .inr ⟨c1, go w (by omega) c2.2 c1 ew (fun q => by omega) c3⟩
        · rw [if_neg c3]
          refine .inl (no ?_)
          intro _
          rw [ew, dig (by omega) c2.2, if_pos (.inr c3)]
      · rw [if_neg c2, if_neg (by decide)]
        refine .inl (no ?_)
        intro _
        by_cases c4 : w = 48
        · rw [ew, dig (by omega) (by omega), if_pos (.inl ⟨by omega, c0⟩)]
        · exact bad w w1 w2 (by omega) ew
  · rw [if_neg c1, if_neg c1, if_neg (show ¬ false = true by decide)]
    have : NumNo x t p Y r ((f_Mstops Y).1, (f_Mstops Y).2) := no (fun q => absurd q c1)
    by_cases c0 : nI lo = 0
    · rw [if_pos c0]; exact .inl this
    · rw [if_neg c0]; exact .inl this

/-! MATH 9: orders, texts, firstError, play -/
theorem letter_m {r : BS} (h : r 0 0 = 0) : f_Rreads r 109 = (true, upA (upA (upA (upA (upA (upA r 5 0 109) 0 0 1) 1 0 40) 2 0 208) 3 0 0) 4 0 0) := by
  rw [R_letter h]
  unfold f_RreadsLetter f_RexpectNumber
  rw [if_neg (show ¬ (109 : Int32) = 104 by decide), if_pos rfl]
theorem letter_s {r : BS} (h : r 0 0 = 0) : f_Rreads r 115 = (true, upA (upA (upA (upA (upA (upA r 5 0 115) 0 0 4) 1 0 1) 2 0 500) 3 0 0) 4 0 0) := by
  rw [R_letter h]
  unfold f_RreadsLetter f_RexpectNumber
  rw [if_neg (show ¬ (115 : Int32) = 104 by decide), if_neg (show ¬ (115 : Int32) = 109 by decide), if_pos rfl]
theorem letter_h {r : BS} (h : r 0 0 = 0) : f_Rreads r 104 = (true, upA (upA (upA (upA (upA (upA r 5 0 104) 0 0 4) 1 0 0) 2 0 5) 3 0 0) 4 0 0) := by
  rw [R_letter h]
  unfold f_RreadsLetter f_RexpectNumber
  rw [if_pos rfl]
theorem letter_no {r : BS} (h : r 0 0 = 0) {c : Int32} (h1 : ¬ c = 104) (h2 : ¬ c = 109) (h3 : ¬ c = 115) : (f_Rreads r c).1 = false := by
  rw [R_letter h]
  unfold f_RreadsLetter
  rw [if_neg h1, if_neg h2, if_neg h3]
theorem order_spec {x : BS} {t : Nat} (hT : TT x t) {T p : Nat} {Y r : BS} (hY : YS x t p Y) (hY13 : Y 13 0 = nI T) (hT61 : T ≤ 60) (hr : r 0 0 = 0) : (p < t ∧ OrdAt x t p T Y r (f_MisOrder Y)) ∨ FailAt x t p Y r (f_MisOrder Y) := by
  have ht := hT.1
  obtain ⟨e7, e9, hp, e6⟩ := hY
  have hY : YS x t p Y := ⟨e7, e9, hp, e6⟩
  have r59 : (f_Rreads r 59).1 = false := letter_no hr (by decide) (by decide) (by decide)
  unfold f_MisOrder
  rw [e7, e9, hY13, nI_clamp (show t < 2 ^ 31 by omega), nI_clamp (show p < 2 ^ 31 by omega), nI_clamp (show T < 2 ^ 31 by omega)]
  have fail : ∀ v : Int32, (p < t → (f_Rreads r (x 0 p)).1 = false) → FailAt x t p Y r ((f_Mstops (upA Y 12 (4 * T) v)).1, (f_Mstops (upA Y 12 (4 * T) v)).2) := by
    intro v hq
    have k1 : KP Y (upA Y 12 (4 * T) v) := KP.u (by omega) _ _
    rw [stops_N hT (hY.kp k1 e9 hp)]
    exact ⟨rfl, p, r, Nat.le_refl _, hp, by rw [Nat.sub_self]; rfl, KP.tr k1 (KP.u (by omega) _ _), e9, rfl, hq, fun _ => r59⟩
  by_cases c1 : p < t
  · rw [if_neg (nI_ge c1 (by omega)), e6 p c1]
    have k1 : ∀ v, KP Y (upA (upA Y 12 (4 * T) v) 9 0 (nI (p + 1))) := fun v => KP.tr (KP.u (by omega) _ _) (KP.u (by omega) _ _)
    have no59 : ∀ j, p ≤ j → j < p + 1 → ¬ x 0 p = 59 → ¬ x 0 j = 59 := by
      intro j j1 j2 q
      obtain rfl : j = p := by omega
      exact q
    by_cases cm : x 0 p = 104
    · rw [if_pos cm, cm]
      have hl := letter_h hr
      have n1 : NumAt (upA (upA (upA (upA (upA (upA r 5 0 104) 0 0 4) 1 0 0) 2 0 5) 3 0 0) 4 0 0) 4 0 5 := ⟨rfl, rfl, rfl, rfl, rfl⟩
      have w5 : (upA (upA (upA (upA (upA (upA r 5 0 104) 0 0 4) 1 0 0) 2 0 5) 3 0 0) 4 0 0) 5 0 = 104 := rfl
      generalize upA (upA (upA (upA (upA (upA r 5 0 104) 0 0 4) 1 0 0) 2 0 5) 3 0 0) 4 0 0 = r1 at hl n1 w5
      have b3 : Rd x (p + 1 - p) p r r1 := by
        rw [show p + 1 - p = 1 by omega]
        exact Rd_one (by rw [cm]; exact hl)
      have y1 : YS x t (p + 1) (upA (upA Y 12 (4 * T) 104) 9 0 (nI (p + 1))) := hY.kp (k1 104) upA_s (by omega)
      have k1' := k1 104
      have m12 : (upA (upA Y 12 (4 * T) 104) 9 0 (nI (p + 1))) 12 = upd (Y 12) (4 * T) 104 := rfl
      rw [isAt_N hT y1]
      generalize hY1 : upA (upA Y 12 (4 * T) 104) 9 0 (nI (p + 1)) = Y1 at y1 k1' m12 ⊢
      have bad : ∀ w, 33 ≤ w → w ≤ 126 → ¬ (48 ≤ w ∧ w ≤ 53) → (f_Rreads r1 (nI w)).1 = false := by
        intro w w1 w2 hw
        by_cases c : 48 ≤ w ∧ w ≤ 57
        · have := R_first n1 (by omega) (by omega) (by omega) (by omega) (d := w - 48) (by omega)
          rw [show 48 + (w - 48) = w by omega] at this
          rw [this, if_pos]
          refine .inr ?_
          intro q
          have := can_le (by omega) (by omega) q
          omega
        · rw [R_bad (pl_ne n1.1 (by omega) (by omega)) (by omega) w2 (.inl (by rw [n1.2.2.2.2]; decide))]
      by_cases c2 : p + 1 < t
      · obtain ⟨w, w1, w2, ew⟩ := hT.2 (p + 1) c2
        rw [if_pos c2, ew, show (48 : Int32) = nI 48 from rfl, show (53 : Int32) = nI 53 from rfl, Min_N (by omega) (by omega) (by omega), e6 (p + 1) c2, ew]
        by_cases c3 : 48 ≤ w ∧ w ≤ 53
        · rw [if_pos c3, if_pos rfl, pk_sub c3.1]
          have hf := R_first n1 (by omega) (by omega) (by omega) (by omega) (d := w - 48) (by omega)
          rw [show 48 + (w - 48) = w by omega, if_neg (by
            rintro (q | q)
            · exact q.2 rfl
            · exact q (can_in (nI_nlt (by omega) (by omega)) (nI_nlt (by omega) (by omega))))] at hf
          have n2 : NumIn (upA (upA r1 3 0 (nI (w - 48))) 4 0 (nI 1)) 4 0 5 (w - 48) 1 := by
            obtain ⟨q0, q1, q2, q3, q4⟩ := n1
            exact ⟨q0, q1, q2, rfl, rfl, by omega, by omega, by omega⟩
          have w5' : (upA (upA r1 3 0 (nI (w - 48))) 4 0 (nI 1)) 5 0 = 104 := w5
          generalize upA (upA r1 3 0 (nI (w - 48))) 4 0 (nI 1) = r2 at hf n2 w5'
          have b3' : Rd x (p + 1 + 1 - p) p r r2 := by
            rw [show p + 1 + 1 - p = (p + 1 - p) + 1 by omega]
            refine Rd_app b3 (Rd_one ?_)
            rw [show p + (p + 1 - p) = p + 1 by omega, ew]
            exact hf
          have t12 : (upA (upA Y1 12 (4 * T + 1) (nI (w - 48))) 9 0 (nI (p + 1 + 1))) 12 = upd (upd (Y 12) (4 * T) 104) (4 * T + 1) (nI (w - 48)) := by
            show upd (Y1 12) _ _ = _
            rw [m12]
          refine .inl ⟨c1, rfl, p + 1 + 1, r2, by omega, by omega, b3', ?_, KP.tr k1' (KP.tr (KP.u (by omega) _ _) (KP.u (by omega) _ _)), rfl, ?_, ?_, ?_⟩
          · intro j j1 j2
            rcases Nat.lt_or_ge j (p + 1) with z | z
            · exact no59 j j1 z (by rw [cm]; decide)
            · obtain rfl : j = p + 1 := by omega
              rw [ew]
              exact ne59 w2 (by omega)
          · intro q hq
            show upA (upA Y1 12 (4 * T + 1) (nI (w - 48))) 9 0 (nI (p + 1 + 1)) 12 q = _
            rw [t12, pk_un (by omega), pk_un (by omega)]
          · have e4 := end_4 n2 (Nat.zero_le _) (by omega) (w := 59) (by omega) (by omega)
            rw [if_pos rfl] at e4
            refine ⟨_, e4, rfl, ?_, .inr (.inr ?_)⟩
            · show r2 5 0 = upA (upA Y1 12 (4 * T + 1) (nI (w - 48))) 9 0 (nI (p + 1 + 1)) 12 (4 * T + 0)
              rw [t12, pk_un (by omega), Nat.add_zero, pk_us]
              exact w5'
            · show upA (upA Y1 12 (4 * T + 1) (nI (w - 48))) 9 0 (nI (p + 1 + 1)) 12 (4 * T + 0) = 104 ∧ nI (w - 48) = upA (upA Y1 12 (4 * T + 1) (nI (w - 48))) 9 0 (nI (p + 1 + 1)) 12 (4 * T + 1)
              rw [t12, pk_us, pk_un (by omega), Nat.add_zero, pk_us]
              exact ⟨rfl, rfl⟩
          · refine last_no hT n2 ?_ ?_
            · intro d' hd' hz ez
              by_cases z0 : w - 48 = 0
              · rw [R_zero (by rw [z0] at n2; exact n2) (by omega) (by omega) hd']
              · rw [R_next n2 (by omega) (by omega) (by omega) (by omega) hd', if_neg]
                intro q
                have := can_le (by omega) (by omega) q
                omega
            · intro w' hw' hb h59 _ _
              rw [end_4 n2 (Nat.zero_le _) (by omega) hw' hb, if_neg h59]
        · rw [if_neg c3, if_neg (show ¬ false = true by decide), stops_N hT y1]
          refine .inr ⟨rfl, p + 1, r1, by omega, by omega, b3, KP.tr k1' (KP.u (by omega) _ _), y1.2.1, rfl, ?_, ?_⟩
          · intro _
            rw [ew]
            exact bad w w1 w2 c3
          · intro z
            omega
      · rw [if_neg c2, if_neg (show ¬ false = true by decide), stops_N hT y1]
        refine .inr ⟨rfl, p + 1, r1, by omega, by omega, b3, KP.tr k1' (KP.u (by omega) _ _), y1.2.1, rfl, fun z => absurd z c2, ?_⟩
        intro _
        exact bad 59 (by omega) (by omega) (by omega)
    · rw [if_neg cm]
      by_cases cm2 : x 0 p = 109
      · rw [if_pos cm2, cm2]
        have hl := letter_m hr
        have n1 : NumAt (upA (upA (upA (upA (upA (upA r 5 0 109) 0 0 1) 1 0 40) 2 0 208) 3 0 0) 4 0 0) 1 40 208 := ⟨rfl, rfl, rfl, rfl, rfl⟩
        have w5 : (upA (upA (upA (upA (upA (upA r 5 0 109) 0 0 1) 1 0 40) 2 0 208) 3 0 0) 4 0 0) 5 0 = 109 := rfl
        generalize upA (upA (upA (upA (upA (upA r 5 0 109) 0 0 1) 1 0 40) 2 0 208) 3 0 0) 4 0 0 = r1 at hl n1 w5
        have b3 : Rd x (p + 1 - p) p r r1 := by
          rw [show p + 1 - p = 1 by omega]
          exact Rd_one (by rw [cm2]; exact hl)
        have y1 : YS x t (p + 1) (upA (upA Y 12 (4 * T) 109) 9 0 (nI (p + 1))) := hY.kp (k1 109) upA_s (by omega)
        have m12 : (upA (upA Y 12 (4 * T) 109) 9 0 (nI (p + 1))) 12 = upd (Y 12) (4 * T) 109 := rfl
        have pe : ∀ M : Bool × BS, (M.1, M.2) = M := fun _ => rfl
        rw [pe]
        rcases told_one hT y1 (T := T) hY13 (by omega) n1 w5 (by rw [m12]; exact pk_us) with q | q
        · refine .inl ⟨c1, OrdAt.later (q := p + 1) (by omega) b3 (k1 109) ?_ ?_ q⟩
          · exact fun j j1 j2 => no59 j j1 j2 (by rw [cm2]; decide)
          · intro z hz
            rw [m12, pk_un (by omega)]
        · exact .inr (FailAt.later (q := p + 1) (by omega) b3 (k1 109) q)
      · rw [if_neg cm2]
        by_cases cm3 : x 0 p = 115
        · rw [if_pos cm3, cm3]
          have hl := letter_s hr
          have n1 : NumAt (upA (upA (upA (upA (upA (upA r 5 0 115) 0 0 4) 1 0 1) 2 0 500) 3 0 0) 4 0 0) 4 1 500 := ⟨rfl, rfl, rfl, rfl, rfl⟩
          have w5 : (upA (upA (upA (upA (upA (upA r 5 0 115) 0 0 4) 1 0 1) 2 0 500) 3 0 0) 4 0 0) 5 0 = 115 := rfl
          generalize upA (upA (upA (upA (upA (upA r 5 0 115) 0 0 4) 1 0 1) 2 0 500) 3 0 0) 4 0 0 = r1 at hl n1 w5
          have b3 : Rd x (p + 1 - p) p r r1 := by
            rw [show p + 1 - p = 1 by omega]
            exact Rd_one (by rw [cm3]; exact hl)
          have y1 : YS x t (p + 1) (upA (upA Y 12 (4 * T) 115) 9 0 (nI (p + 1))) := hY.kp (k1 115) upA_s (by omega)
          have m12 : (upA (upA Y 12 (4 * T) 115) 9 0 (nI (p + 1))) 12 = upd (Y 12) (4 * T) 115 := rfl
          have pe : ∀ M : Bool × BS, (M.1, M.2) = M := fun _ => rfl
          rw [pe]
          have y13 : (upA (upA Y 12 (4 * T) 115) 9 0 (nI (p + 1))) 13 0 = nI T := hY13
          have k1' := k1 115
          generalize upA (upA Y 12 (4 * T) 115) 9 0 (nI (p + 1)) = Y1 at y1 m12 y13 k1' ⊢
          have s3 := num_spec hT (T := T) (k := 1) (pl := 4) (lo := 1) (hi := 500) (by omega) (by omega) (by omega) (by omega) y1 y13 (by omega) n1
          rw [show (1 : Int32) = nI 1 from rfl, show (500 : Int32) = nI 500 from rfl]
          generalize f_MisNumber Y1 1 (nI 1) (nI 500) = M3 at s3 ⊢
          rcases s3 with s3 | ⟨hpt3, s3⟩
          · exact .inr (FailAt.later (q := p + 1) (by omega) b3 k1' (FailAt.no y1.2.2.1 s3))
          · by_cases c7 : M3.1 = true
            · obtain ⟨p3, v3, d3, r5, g1, g2, g3, g4, g5, g6, g7, g8, g9', g10, g11⟩ := s3
              have hv3 : 1 ≤ v3 := by
                rcases g10 with q | q
                · exact q.1
                · rw [q.2.1] at c7; cases c7
              have hv3' : v3 ≤ 500 := g6.2.2.2.2.2.2.2
              refine .inl ⟨c1, OrdAt.later (q := p + 1) (by omega) b3 k1' ?_ ?_ ⟨c7, p3, r5, g1, g2, g3, g4, g7, g8, ?_, ?_, ?_⟩⟩
              · exact fun j j1 j2 => no59 j j1 j2 (by rw [cm3]; decide)
              · intro z hz
                rw [m12, pk_un (by omega)]
              · intro z hz
                rw [g9', pk_un (by omega)]
              · have e4 := end_4 g6 hv3 (by omega) (w := 59) (by omega) (by omega)
                rw [if_pos rfl] at e4
                have z0 : M3.2 12 (4 * T + 0) = 115 := by rw [g9', m12, pk_un (by omega), Nat.add_zero, pk_us]
                have z1 : M3.2 12 (4 * T + 1) = nI v3 := by rw [g9']; exact pk_us
                refine ⟨_, e4, rfl, ?_, .inr (.inl ?_)⟩
                · show r5 5 0 = M3.2 12 (4 * T + 0)
                  rw [z0, g5 5 (by omega) (by omega)]
                  exact w5
                · show M3.2 12 (4 * T + 0) = 115 ∧ nI v3 = M3.2 12 (4 * T + 1) ∧ 1 ≤ (M3.2 12 (4 * T + 1)).toInt ∧ (M3.2 12 (4 * T + 1)).toInt ≤ 500
                  rw [z0, z1, nI_toInt (by omega)]
                  exact ⟨rfl, rfl, by omega, by omega⟩
              · refine last_no hT g6 g11 ?_
                intro w hw hb h59 _ _
                rw [end_4 g6 hv3 (by omega) hw hb, if_neg h59]
            · exact .inr (FailAt.later (q := p + 1) (by omega) b3 k1' (FailAt.low hT (by omega) (by omega) (by omega) s3 c7))
        · rw [if_neg cm3]
          exact .inr (fail (x 0 p) (fun _ => letter_no hr cm cm2 cm3))
  · rw [if_pos (nI_le (by omega) (by omega))]
    exact .inr (fail 0 (fun z => absurd z c1))
/-! a text -/
/-- the orders from place p on, one behind another; what is told of them lies in g -/
def Chain (x : BS) (t : Nat) (g : Nat → Int32) : Nat → Nat → Nat → Prop
  | 0, _, _ => False
  | c + 1, i, p => ∃ Y, YS x t p Y ∧ Y 13 0 = nI i ∧ i ≤ 60 ∧ (f_MisOrder Y).1 = true ∧ ∃ e, (f_MisOrder Y).2 9 0 = nI e ∧ p < e ∧ e ≤ t ∧ (∀ w, w < 4 → g (4 * i + w) = (f_MisOrder Y).2 12 (4 * i + w)) ∧ ((c = 0 ∧ e = t) ∨ (0 < c ∧ e < t ∧ x 0 e = 59 ∧ Chain x t g c (i + 1) (e + 1)))
/-- what a text's walk does not touch -/
def KT (Y Y' : BS) : Prop := ∀ k, k ≠ 9 → k ≠ 10 → k ≠ 11 → k ≠ 12 → k ≠ 13 → Y' k = Y k
theorem KP.kt {Y Y' : BS} (h : KP Y Y') : KT Y Y' := fun k h1 h2 h3 h4 _ => h k h1 h2 h3 h4
theorem KT.tr {a b c : BS} (h1 : KT a b) (h2 : KT b c) : KT a c := fun k k1 k2 k3 k4 k5 => (h2 k k1 k2 k3 k4 k5).trans (h1 k k1 k2 k3 k4 k5)
theorem KT.u {Y : BS} {k : Nat} (h : k = 9 ∨ k = 10 ∨ k = 11 ∨ k = 12 ∨ k = 13) (j : Nat) (v : Int32) : KT Y (upA Y k j v) := fun i h1 h2 h3 h4 h5 => upA_o (by omega)
theorem YS.kt {x : BS} {t p p' : Nat} {Y Y' : BS} (h : YS x t p Y) (k : KT Y Y') (e : Y' 9 0 = nI p') (hp : p' ≤ t) : YS x t p' Y' := by
  obtain ⟨e7, e9, hp0, e6⟩ := h
  refine ⟨?_, e, hp, ?_⟩
  · rw [k 7 (by omega) (by omega) (by omega) (by omega) (by omega)]; exact e7
  · intro j hj
    rw [k 6 (by omega) (by omega) (by omega) (by omega) (by omega)]; exact e6 j hj
def TextAt (x : BS) (t p i : Nat) (Y r : BS) (M : Bool × BS) : Prop := KT Y M.2 ∧ ((M.1 = true ∧ (∀ q, q < 4 * i → M.2 12 q = Y 12 q) ∧ ∃ c, M.2 13 0 = nI (i + c) ∧ i + c ≤ 61 ∧ Chain x t (M.2 12) c i p ∧ ∃ r', Rd x (t - p) p r r' ∧ (f_Rreads r' 59).1 = true) ∨ (M.1 = false ∧ ∃ p' r', p ≤ p' ∧ p' ≤ t ∧ Rd x (p' - p) p r r' ∧ M.2 9 0 = nI p' ∧ (M.2 10 0 = if p' < t then 1 else 0) ∧ (p' < t → (f_Rreads r' (x 0 p')).1 = false) ∧ (p' = t → (f_Rreads r' 59).1 = false)))
theorem text_end {x : BS} {t p : Nat} (hT : TT x t) {Y : BS} (ux : BS) (hY : YS x t p Y) (N j : Nat) : f_MisText_R17 ux (N + 1) j false Y = (decide (p = t), upA Y 10 0 (if p < t then 1 else 0)) := by
  obtain ⟨e7, e9, hp, e6⟩ := hY
  have ht := hT.1
  rw [f_MisText_R17, if_neg (by decide), e7, e9, nI_clamp (show t < 2 ^ 31 by omega), nI_clamp (show p < 2 ^ 31 by omega)]
  by_cases c : p < t
  · rw [if_neg (nI_ge c (by omega)), if_neg (by rw [nI_eq (by omega) (by omega)]; omega), if_pos c, decide_eq_false (by omega)]
  · obtain rfl : p = t := by omega
    rw [if_pos (nI_le (by omega) (by omega)), if_pos rfl, if_neg c, decide_eq_true rfl]
theorem text_loop {x : BS} {t : Nat} (hT : TT x t) (ux : BS) : ∀ (N j p i : Nat) (Y r : BS), YS x t p Y → Y 13 0 = nI i → i ≤ p → r 0 0 = 0 → t - p + 4 ≤ 2 * N → TextAt x t p i Y r (f_MisText_R17 ux N j true Y) := by
  intro N
  induction N with
  | zero => intro j p i Y r _ _ _ _ h; omega
  | succ N ih =>
    intro j p i Y r hY hY13 hip hr hN
    have ht := hT.1
    have hp := hY.2.2.1
    obtain ⟨N', rfl⟩ : ∃ N', N = N' + 1 := ⟨N - 1, by omega⟩
    rw [f_MisText_R17, if_pos rfl]
    rcases order_spec hT hY hY13 (by omega) hr with ⟨c1, h⟩ | h
    · obtain ⟨hM, e, r1, a1, a2, a3, a4, a5, a6, a7, ⟨r2, b1, b2, b3⟩, a9⟩ := h
      rw [if_pos hM, hY13, a6, nI_clamp (show i < 2 ^ 31 by omega), nI_clamp (show e < 2 ^ 31 by omega)]
      have hpe : p < e := by
        rcases Nat.lt_or_ge p e with q | q
        · exact q
        · exfalso
          obtain rfl : e = p := by omega
          have e0 : r1 = r := by
            rw [Nat.sub_self] at a3
            exact a3
          have := letter_no hr (c := 59) (by decide) (by decide) (by decide)
          rw [← e0, b1] at this
          cases this
      have k1 : KT Y (upA (f_MisOrder Y).2 13 0 (nI (i + 1))) := KT.tr a5.kt (KT.u (by omega) _ _)
      have y1 : YS x t e (upA (f_MisOrder Y).2 13 0 (nI (i + 1))) := hY.kt k1 a6 a2
      rw [isAt_N hT y1]
      have told : ∀ g : Nat → Int32, (∀ q, q < 4 * (i + 1) → g q = (f_MisOrder Y).2 12 q) → ∀ w, w < 4 → g (4 * i + w) = (f_MisOrder Y).2 12 (4 * i + w) := fun g hg w hw => hg _ (by omega)
      by_cases c2 : e < t ∧ x 0 e = 59
      · obtain ⟨c2, c3⟩ := c2
        rw [if_pos c2, c3, show f_Min 59 59 59 = true by decide, if_pos rfl]
        have k2 : KT Y (upA (upA (f_MisOrder Y).2 13 0 (nI (i + 1))) 9 0 (nI (e + 1))) := KT.tr k1 (KT.u (by omega) _ _)
        have y2 : YS x t (e + 1) (upA (upA (f_MisOrder Y).2 13 0 (nI (i + 1))) 9 0 (nI (e + 1))) := hY.kt k2 upA_s (by omega)
        have rd2 : Rd x (e + 1 - p) p r r2 := by
          rw [show e + 1 - p = (e - p) + 1 by omega]
          refine Rd_app a3 (Rd_one ?_)
          rw [show p + (e - p) = e by omega, c3]
          exact b1
        obtain ⟨q1, q3⟩ := ih (j + 1) (e + 1) (i + 1) (upA (upA (f_MisOrder Y).2 13 0 (nI (i + 1))) 9 0 (nI (e + 1))) r2 y2 rfl (by omega) b2 (by omega)
        have e12 : (upA (upA (f_MisOrder Y).2 13 0 (nI (i + 1))) 9 0 (nI (e + 1))) 12 = (f_MisOrder Y).2 12 := rfl
        rw [e12] at q3
        generalize f_MisText_R17 ux (N' + 1) (j + 1) true (upA (upA (f_MisOrder Y).2 13 0 (nI (i + 1))) 9 0 (nI (e + 1))) = M at q1 q3 ⊢
        refine ⟨KT.tr k2 q1, ?_⟩
        rcases q3 with ⟨m1, o12, c, d1, d2, d3, r', d4, d5⟩ | ⟨m1, p', r', d1, d2, d3, d4, d5, d6, d7⟩
        · refine .inl ⟨m1, fun q hq => (o12 q (by omega)).trans (a7 q hq), c + 1, by rw [d1, show i + 1 + c = i + (c + 1) by omega], by omega, ⟨Y, hY, hY13, by omega, hM, e, a6, hpe, a2, told _ o12, .inr ⟨?_, c2, c3, d3⟩⟩, r', ?_, d5⟩
          · rcases Nat.eq_zero_or_pos c with z | z
            · rw [z] at d3; exact absurd d3 (fun q => q)
            · exact z
          · rw [show t - p = (e + 1 - p) + (t - (e + 1)) by omega]
            exact Rd_app rd2 (by rw [show p + (e + 1 - p) = e + 1 by omega]; exact d4)
        · refine .inr ⟨m1, p', r', by omega, d2, ?_, d4, d5, d6, d7⟩
          rw [show p' - p = (e + 1 - p) + (p' - (e + 1)) by omega]
          exact Rd_app rd2 (by rw [show p + (e + 1 - p) = e + 1 by omega]; exact d3)
      · have ef : (if e < t then f_Min (x 0 e) 59 59 else false) = false := by
          by_cases z : e < t
          · rw [if_pos z]
            obtain ⟨w, w1, w2, ew⟩ := hT.2 e z
            rw [ew, c_59, Min_N (by omega) (by omega) (by omega), if_neg]
            intro z2
            exact c2 ⟨z, by rw [ew, show w = 59 by omega]; rfl⟩
          · rw [if_neg z]
        rw [ef, if_neg (by decide), show e + 0 = e from rfl]
        have k2 : KT Y (upA (upA (f_MisOrder Y).2 13 0 (nI (i + 1))) 9 0 (nI e)) := KT.tr k1 (KT.u (by omega) _ _)
        have y2 : YS x t e (upA (upA (f_MisOrder Y).2 13 0 (nI (i + 1))) 9 0 (nI e)) := hY.kt k2 upA_s a2
        rw [text_end hT ux y2]
        refine ⟨KT.tr k2 (KT.u (by omega) _ _), ?_⟩
        by_cases c3 : e = t
        · refine .inl ⟨decide_eq_true c3, fun q hq => a7 q hq, 1, rfl, by omega, ⟨Y, hY, hY13, by omega, hM, e, a6, hpe, a2, told _ (fun q _ => rfl), .inl ⟨rfl, c3⟩⟩, r1, by rw [← c3]; exact a3, by rw [b1]⟩
        · refine .inr ⟨decide_eq_false c3, e, r1, a1, a2, a3, rfl, rfl, ?_, fun z => absurd z c3⟩
          intro z
          exact a9 z (fun q => c2 ⟨z, q⟩)
    · obtain ⟨hM, p', r', a1, a2, a3, a4, a5, a6, a7, a8⟩ := h
      rw [if_neg (by rw [hM]; decide)]
      exact ⟨KP.kt a4, .inr ⟨rfl, p', r', a1, a2, a3, a5, a6, a7, a8⟩⟩
theorem text_spec {x : BS} {t : Nat} (hT : TT x t) {Y r : BS} (h7 : Y 7 0 = nI t) (h6 : ∀ j, j < t → Y 6 j = x 0 j) (hr : r 0 0 = 0) : TextAt x t 0 0 (upA (upA (upA Y 9 0 0) 13 0 0) 10 0 0) r (f_MisText Y) := by
  have ht := hT.1
  unfold f_MisText
  exact text_loop hT Y 61 0 0 0 _ r ⟨h7, rfl, Nat.zero_le _, h6⟩ rfl (Nat.le_refl _) hr (by omega)
/-! the class's walk over the text -/
section TXW
variable {fl : Nat → Int32} {un ut u0 u1 : BS} {sv : SS} {x r0 : BS} {m : BS}
theorem sign_N {t : Nat} (h1 : x 1 0 = nI t) (ht : t ≤ 60) {j : Nat} (hj : j < t) : f_TsignAt x (nI j) = x 0 j := by
  unfold f_TsignAt
  rw [if_neg (nI_pos (by omega)), h1, if_neg (nI_ge hj (by omega)), if_neg (by rw [show (60 : Int32) = nI 60 from rfl]; exact nI_ge (by omega) (by omega)), nI_clamp (by omega)]
theorem read_R {t : Nat} (h1 : x 1 0 = nI t) (ht : t ≤ 60) : ∀ (c p k : Nat) (r r' : BS), Rd x c p r r' → p + c ≤ t → f_XreadText_R9 fl un ut u0 u1 sv x r0 (c + k) p r = f_XreadText_R9 fl un ut u0 u1 sv x r0 k (p + c) r'
  | 0, p, k, r, r', h, hp => by
    have e : r' = r := h
    rw [e, Nat.zero_add, Nat.add_zero]
  | c + 1, p, k, r, r', h, hp => by
    rw [show c + 1 + k = (c + k) + 1 by omega, f_XreadText_R9, sign_N h1 ht (by omega), if_pos h.1, read_R h1 ht c (p + 1) k _ r' h.2 (by omega), show p + 1 + c = p + (c + 1) by omega]
theorem read_all {t : Nat} (h1 : x 1 0 = nI t) (ht : t ≤ 60) {r r' : BS} (h : Rd x (t - 0) 0 r r') : f_XreadText_R9 fl un ut u0 u1 sv x r0 t 0 r = (nI t, r') := by
  have := read_R (fl := fl) (un := un) (ut := ut) (u0 := u0) (u1 := u1) (sv := sv) (r0 := r0) h1 ht t 0 0 r r' h (by omega)
  rw [Nat.add_zero] at this
  rw [this, f_XreadText_R9]
  unfold f_Tsize
  rw [h1]
theorem read_stop {t p : Nat} (h1 : x 1 0 = nI t) (ht : t ≤ 60) (hp : p < t) {r r' : BS} (h : Rd x (p - 0) 0 r r') (hf : (f_Rreads r' (x 0 p)).1 = false) : (f_XreadText_R9 fl un ut u0 u1 sv x r0 t 0 r).1 = nI p := by
  have := read_R (fl := fl) (un := un) (ut := ut) (u0 := u0) (u1 := u1) (sv := sv) (r0 := r0) h1 ht p 0 ((t - p - 1) + 1) r r' h (by omega)
  rw [show p + (t - p - 1 + 1) = t by omega, Nat.zero_add] at this
  rw [this, f_XreadText_R9, sign_N h1 ht hp, if_neg (by rw [hf]; decide)]
theorem begin_0 (r : BS) : f_RbeginText r 0 0 = 0 := upA_s
theorem TX_TT (h : TX x m) : ∃ t, TT x t ∧ x 1 0 = nI t ∧ m 7 0 = nI t ∧ ∀ j, j < t → m 6 j = x 0 j := by
  obtain ⟨t, ht, e1, e2, hj⟩ := h
  refine ⟨t, ⟨ht, ?_⟩, e1, e2, fun j q => (hj j q).1.symm⟩
  intro j q
  obtain ⟨w, ew, e⟩ := ti_of (a := x 0 j) (by have := (hj j q).2; omega)
  have := (hj j q).2
  exact ⟨w, by omega, by omega, e⟩
theorem Sim_kt (h : Sim fl un u0 u1 sv x m) {m' : BS} (k : KT m m') : Sim fl un u0 u1 sv x m' := Sim_rows h (fun r hr => k r (by omega) (by omega) (by omega) (by omega) (by omega))
theorem KT0 (m : BS) : KT m (upA (upA (upA m 9 0 0) 13 0 0) 10 0 0) := KT.tr (KT.tr (KT.u (by omega) _ _) (KT.u (by omega) _ _)) (KT.u (by omega) _ _)
theorem S_first (h : Sim fl un u0 u1 sv x m) : (f_MfirstError m).1 = (f_XreadText fl un ut u0 u1 sv x r0).1 ∧ Sim fl un u0 u1 sv x (f_MfirstError m).2 := by
  obtain ⟨t, hT, e1, e7, e6⟩ := TX_TT h.2.2.2.2.2
  have ht := hT.1
  obtain ⟨k1, k2⟩ := text_spec hT (Y := upA m 8 0 0) (r := f_RbeginText r0) e7 e6 (begin_0 r0)
  have k0 : KT (upA m 8 0 0) (f_MisText (upA m 8 0 0)).2 := KT.tr (KT0 _) k1
  have q7 : (f_MisText (upA m 8 0 0)).2 7 0 = nI t := by
    rw [k0 7 (by omega) (by omega) (by omega) (by omega) (by omega)]; exact e7
  have q2 : (f_MfirstError m).2 = (f_MisText (upA m 8 0 0)).2 := by
    unfold f_MfirstError
    by_cases c : (f_MisText (upA m 8 0 0)).1 = true
    · rw [if_pos c]
    · rw [if_neg c]
      by_cases c2 : (f_MisText (upA m 8 0 0)).2 10 0 = 0
      · rw [if_pos c2]
      · rw [if_neg c2]
  refine ⟨?_, by rw [q2]; exact Sim_kt (Sim_8 h 0) k0⟩
  unfold f_MfirstError f_XreadText f_Tsize
  rw [e1, nI_clamp (by omega), q7]
  rcases k2 with ⟨m1, -, c, -, -, -, r', d4, d5⟩ | ⟨m1, p', r', -, d2, d3, d4, d5, d6, d7⟩
  · rw [if_pos m1, read_all e1 ht d4]
  · rw [if_neg (by rw [m1]; decide), d5]
    by_cases c : p' < t
    · rw [if_pos c, if_neg (by decide), read_stop e1 ht c d3 (d6 c)]
      exact d4
    · obtain rfl : p' = t := by omega
      rw [if_neg c, if_pos rfl, read_all e1 ht d3]
/-! play -/
theorem Rd_det : ∀ {c a : Nat} {r r1 r2 : BS}, Rd x c a r r1 → Rd x c a r r2 → r1 = r2
  | 0, a, r, r1, r2, h1, h2 => by
    have e1 : r1 = r := h1
    have e2 : r2 = r := h2
    rw [e1, e2]
  | c + 1, a, r, r1, r2, h1, h2 => Rd_det h1.2 h2.2
theorem tells {t : Nat} (h1 : x 1 0 = nI t) (ht : t ≤ 60) {r : BS} (hr : r = f_RbeginText r0) : (∀ r', Rd x (t - 0) 0 r r' → (f_Rreads r' 59).1 = true → (f_XtellsBench fl un ut u0 u1 sv x r0).1 = true) ∧ (∀ p r', p ≤ t → Rd x (p - 0) 0 r r' → (p < t → (f_Rreads r' (x 0 p)).1 = false) → (p = t → (f_Rreads r' 59).1 = false) → (f_XtellsBench fl un ut u0 u1 sv x r0).1 = false) := by
  subst hr
  refine ⟨?_, ?_⟩
  · intro r' h2 h3
    unfold f_XtellsBench f_XreadText
    rw [show (f_Tsize x).toNatClampNeg = t by unfold f_Tsize; rw [h1, nI_clamp (by omega)], read_all h1 ht h2]
    dsimp only
    rw [if_pos (show nI t = f_Tsize x from h1.symm), if_pos h3]
  · intro p r' hp h2 h3 h4
    unfold f_XtellsBench f_XreadText
    rw [show (f_Tsize x).toNatClampNeg = t by unfold f_Tsize; rw [h1, nI_clamp (by omega)]]
    rcases Nat.lt_or_ge p t with c | c
    · have := read_stop (fl := fl) (un := un) (ut := ut) (u0 := u0) (u1 := u1) (sv := sv) (r0 := r0) h1 ht c h2 (h3 c)
      rw [if_neg]
      rw [this]
      intro e
      have e' : nI p = nI t := e.trans h1
      rw [nI_eq (by omega) (by omega)] at e'
      omega
    · obtain rfl : p = t := by omega
      rw [read_all h1 ht h2]
      dsimp only
      rw [if_pos (show nI p = f_Tsize x from h1.symm), if_neg (by rw [h4 rfl]; decide)]
end TXW

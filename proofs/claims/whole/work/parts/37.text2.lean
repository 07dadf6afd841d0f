/-! MATH 8: an order read by signs and by the reference -/
def FailAt (x : BS) (t p : Nat) (Y : BS) (r : BS) (M : Bool × BS) : Prop := M.1 = false ∧ ∃ p' r', p ≤ p' ∧ p' ≤ t ∧ Rd x (p' - p) p r r' ∧ KP Y M.2 ∧ M.2 9 0 = nI p' ∧ (M.2 10 0 = if p' < t then 1 else 0) ∧ (p' < t → (f_Rreads r' (x 0 p')).1 = false) ∧ (p' = t → (f_Rreads r' 59).1 = false)
theorem FailAt.later {x : BS} {t p q : Nat} {Y Y1 r r1 : BS} {M : Bool × BS} (hpq : p ≤ q) (h1 : Rd x (q - p) p r r1) (h2 : KP Y Y1) (h : FailAt x t q Y1 r1 M) : FailAt x t p Y r M := by
  obtain ⟨hM, p', r', a1, a2, a3, a4, a5, a6, a7, a8⟩ := h
  refine ⟨hM, p', r', by omega, a2, ?_, KP.tr h2 a4, a5, a6, a7, a8⟩
  rw [show p' - p = (q - p) + (p' - q) by omega]
  exact Rd_app h1 (by rw [show p + (q - p) = q by omega]; exact a3)
theorem FailAt.no {x : BS} {t p : Nat} {Y r : BS} {M : Bool × BS} (hp : p ≤ t) (h : NumNo x t p Y r M) : FailAt x t p Y r M := by
  obtain ⟨a1, a2, a3, a4, a5, a6, a7⟩ := h
  exact ⟨a1, p, r, Nat.le_refl _, hp, by rw [Nat.sub_self]; rfl, a2, a3, a5, a6, fun _ => a7⟩
theorem c_59 : (59 : Int32) = nI 59 := rfl
/-- a number that ended below the range -/
theorem num_low {x : BS} {t p pl lo hi v d : Nat} (hT : TT x t) {r : BS} (h : NumIn r pl lo hi v d) (h1 : 1 ≤ pl) (h2 : pl ≤ 4) (hv : v < lo) (hlo : lo ≤ 40) (hst : ∀ d', d' ≤ 9 → p < t → x 0 p = nI (48 + d') → (f_Rreads r (nI (48 + d'))).1 = false) : (p < t → (f_Rreads r (x 0 p)).1 = false) ∧ (f_Rreads r 59).1 = false := by
  have lt : r 3 0 < r 1 0 := by rw [h.2.2.2.1, h.2.1]; exact nI_lt hv (by omega)
  refine ⟨?_, ?_⟩
  · intro hp
    obtain ⟨w, w1, w2, ew⟩ := hT.2 p hp
    by_cases c : 48 ≤ w ∧ w ≤ 57
    · have := hst (w - 48) (by omega) hp (by rw [ew, show 48 + (w - 48) = w by omega])
      rw [show 48 + (w - 48) = w by omega] at this
      rw [ew]
      exact this
    · rw [ew, R_bad (pl_ne h.1 h1 h2) (by omega) w2 (.inr lt)]
  · rw [c_59, R_bad (pl_ne h.1 h1 h2) (by omega) (by omega) (.inr lt)]
theorem FailAt.low {x : BS} {t p T k pl lo hi : Nat} (hT : TT x t) (h1 : 1 ≤ pl) (h2 : pl ≤ 4) (hlo : lo ≤ 40) {Y r : BS} {M : Bool × BS} (h : NumOut x t p T k pl lo hi Y r M) (hM : ¬ M.1 = true) : FailAt x t p Y r M := by
  obtain ⟨p', v, d, r', a1, a2, a3, a4, a5, a6, a7, a8, a9, a10, a11⟩ := h
  rcases a10 with q | ⟨q1, q2, q3⟩
  · exact absurd q.2 hM
  · obtain ⟨l1, l2⟩ := num_low hT a6 h1 h2 q1 hlo a11
    exact ⟨q2, p', r', a1, a2, a3, a7, a8, q3, l1, fun _ => l2⟩
/-! how numbers end -/
section ENDN
variable {r : BS} {lo hi v d : Nat}
theorem in_ok {pl : Nat} (h : NumIn r pl lo hi v d) (hv : lo ≤ v) (hh : hi ≤ 3599) : ¬ r 4 0 ≤ 0 ∧ ¬ r 3 0 < r 1 0 := by
  obtain ⟨q0, q1, q2, q3, q4, q5, q6, q7⟩ := h
  rw [q4, q3, q1]
  exact ⟨nI_nle (by omega) (by omega), nI_nlt hv (by omega)⟩
theorem end_1 (h : NumIn r 1 lo hi v d) (hv : lo ≤ v) (hh : hi ≤ 3599) {w : Nat} (hw : w < 48 ∨ 57 < w) (hb : w ≤ 126) : f_Rreads r (nI w) = if w = 64 then (true, upA (upA (upA (upA (upA (upA r 6 0 (nI v)) 0 0 2) 1 0 0) 2 0 3599) 3 0 0) 4 0 0) else (false, upA r 6 0 (nI v)) := by
  obtain ⟨k1, k2⟩ := in_ok h hv hh
  rw [R_end (pl_ne h.1 (by omega) (by omega)) hw hb k1 k2]
  unfold f_RreadsEndOfNumber f_RexpectNumber
  rw [h.1, h.2.2.2.1, if_pos (show nI 1 = 1 from rfl), show (64 : Int32) = nI 64 from rfl]
  by_cases c : w = 64
  · rw [if_pos c, if_pos (by rw [c]), if_pos rfl]
  · rw [if_neg c, if_neg (fun e => c ((nI_eq (by omega) (by omega)).mp e))]
theorem end_2 (h : NumIn r 2 lo hi v d) (hv : lo ≤ v) (hh : hi ≤ 3599) {w : Nat} (hw : w < 48 ∨ 57 < w) (hb : w ≤ 126) : f_Rreads r (nI w) = if w = 42 then (true, upA (upA (upA (upA (upA (upA (upA r 7 0 (nI v)) 8 0 500) 0 0 3) 1 0 1) 2 0 999) 3 0 0) 4 0 0) else if w = 59 then (true, upA (upA (upA r 7 0 (nI v)) 8 0 500) 0 0 0) else (false, upA (upA (upA r 7 0 (nI v)) 8 0 500) 0 0 0) := by
  obtain ⟨k1, k2⟩ := in_ok h hv hh
  rw [R_end (pl_ne h.1 (by omega) (by omega)) hw hb k1 k2]
  unfold f_RreadsEndOfNumber f_RexpectNumber
  rw [h.1, h.2.2.2.1, if_neg (show ¬ nI 2 = 1 by decide), if_pos (show nI 2 = 2 from rfl), show (42 : Int32) = nI 42 from rfl, c_59]
  by_cases c : w = 42
  · rw [if_pos c, if_pos (by rw [c])]
  · rw [if_neg c, if_neg (fun e => c ((nI_eq (by omega) (by omega)).mp e))]
    by_cases c2 : w = 59
    · rw [if_pos c2, if_pos (by rw [c2])]
    · rw [if_neg c2, if_neg (fun e => c2 ((nI_eq (by omega) (by omega)).mp e))]
theorem end_3 (h : NumIn r 3 lo hi v d) (hv : lo ≤ v) (hh : hi ≤ 3599) {w : Nat} (hw : w < 48 ∨ 57 < w) (hb : w ≤ 126) : f_Rreads r (nI w) = if w = 59 then (true, upA (upA r 8 0 (nI v)) 0 0 0) else (false, upA (upA r 8 0 (nI v)) 0 0 0) := by
  obtain ⟨k1, k2⟩ := in_ok h hv hh
  rw [R_end (pl_ne h.1 (by omega) (by omega)) hw hb k1 k2]
  unfold f_RreadsEndOfNumber
  rw [h.1, h.2.2.2.1, if_neg (show ¬ nI 3 = 1 by decide), if_neg (show ¬ nI 3 = 2 by decide), if_pos (show nI 3 = 3 from rfl), c_59]
  by_cases c2 : w = 59
  · rw [if_pos c2, if_pos (by rw [c2])]
  · rw [if_neg c2, if_neg (fun e => c2 ((nI_eq (by omega) (by omega)).mp e))]
theorem end_4 (h : NumIn r 4 lo hi v d) (hv : lo ≤ v) (hh : hi ≤ 3599) {w : Nat} (hw : w < 48 ∨ 57 < w) (hb : w ≤ 126) : f_Rreads r (nI w) = if w = 59 then (true, upA (upA r 9 0 (nI v)) 0 0 0) else (false, upA (upA r 9 0 (nI v)) 0 0 0) := by
  obtain ⟨k1, k2⟩ := in_ok h hv hh
  rw [R_end (pl_ne h.1 (by omega) (by omega)) hw hb k1 k2]
  unfold f_RreadsEndOfNumber
  rw [h.1, h.2.2.2.1, if_neg (show ¬ nI 4 = 1 by decide), if_neg (show ¬ nI 4 = 2 by decide), if_neg (show ¬ nI 4 = 3 by decide), c_59]
  by_cases c2 : w = 59
  · rw [if_pos c2, if_pos (by rw [c2])]
  · rw [if_neg c2, if_neg (fun e => c2 ((nI_eq (by omega) (by omega)).mp e))]
end ENDN
/-- what was told, and what the reader keeps behind the order's end -/
def Told (g : Nat → Int32) (r : BS) : Prop := r 5 0 = g 0 ∧ ((g 0 = 109 ∧ r 6 0 = g 1 ∧ r 7 0 = g 2 ∧ r 8 0 = g 3 ∧ (40 ≤ (g 1).toInt ∧ (g 1).toInt ≤ 208) ∧ (0 ≤ (g 2).toInt ∧ (g 2).toInt ≤ 3599)) ∨ (g 0 = 115 ∧ r 9 0 = g 1 ∧ 1 ≤ (g 1).toInt ∧ (g 1).toInt ≤ 500) ∨ (g 0 = 104 ∧ r 9 0 = g 1))
/-- the order (its letter was read before p) stands: class and reference stand behind its last number -/
def OrdAt (x : BS) (t p T : Nat) (Y : BS) (r : BS) (M : Bool × BS) : Prop := M.1 = true ∧ ∃ p' r', p ≤ p' ∧ p' ≤ t ∧ Rd x (p' - p) p r r' ∧ (∀ j, p ≤ j → j < p' → ¬ x 0 j = 59) ∧ KP Y M.2 ∧ M.2 9 0 = nI p' ∧ (∀ q, q < 4 * T → M.2 12 q = Y 12 q) ∧ (∃ r'', f_Rreads r' 59 = (true, r'') ∧ r'' 0 0 = 0 ∧ Told (fun w => M.2 12 (4 * T + w)) r'') ∧ (p' < t → ¬ x 0 p' = 59 → (f_Rreads r' (x 0 p')).1 = false)
theorem OrdAt.later {x : BS} {t p q T : Nat} {Y Y1 r r1 : BS} {M : Bool × BS} (hpq : p ≤ q) (h1 : Rd x (q - p) p r r1) (h2 : KP Y Y1) (hno : ∀ j, p ≤ j → j < q → ¬ x 0 j = 59) (h12 : ∀ z, z < 4 * T → Y1 12 z = Y 12 z) (h : OrdAt x t q T Y1 r1 M) : OrdAt x t p T Y r M := by
  obtain ⟨hM, p', r', a1, a2, a3, a4, a5, a6, a7, a8, a9⟩ := h
  refine ⟨hM, p', r', by omega, a2, ?_, ?_, KP.tr h2 a5, a6, fun z hz => (a7 z hz).trans (h12 z hz), a8, a9⟩
  · rw [show p' - p = (q - p) + (p' - q) by omega]
    exact Rd_app h1 (by rw [show p + (q - p) = q by omega]; exact a3)
  · intro j j1 j2
    rcases Nat.lt_or_ge j q with z | z
    · exact hno j j1 z
    · exact a4 j z j2
/-- the signs behind a last number -/
theorem last_no {x : BS} {t p pl lo hi v d : Nat} (hT : TT x t) {r : BS} (h : NumIn r pl lo hi v d) (hst : ∀ d', d' ≤ 9 → p < t → x 0 p = nI (48 + d') → (f_Rreads r (nI (48 + d'))).1 = false) (he : ∀ w, (w < 48 ∨ 57 < w) → w ≤ 126 → ¬ w = 59 → p < t → x 0 p = nI w → (f_Rreads r (nI w)).1 = false) : p < t → ¬ x 0 p = 59 → (f_Rreads r (x 0 p)).1 = false := by
  intro hp h59
  obtain ⟨w, w1, w2, ew⟩ := hT.2 p hp
  rw [ew] at h59 ⊢
  by_cases c : 48 ≤ w ∧ w ≤ 57
  · have := hst (w - 48) (by omega) hp (by rw [ew, show 48 + (w - 48) = w by omega])
    rw [show 48 + (w - 48) = w by omega] at this
    exact this
  · exact he w (by omega) w2 (fun e => h59 (by rw [e]; rfl)) hp ew
theorem ne59 {w : Nat} (h : w ≤ 126) (h1 : ¬ w = 59) : ¬ nI w = (59 : Int32) := fun e => h1 ((nI_eq (a := w) (b := 59) (by omega) (by omega)).mp e)
theorem told_one {x : BS} {t : Nat} (hT : TT x t) {T p : Nat} {Y r : BS} (hY : YS x t p Y) (hY13 : Y 13 0 = nI T) (hT61 : T ≤ 61) (hr : NumAt r 1 40 208) (hk : r 5 0 = 109) (hk2 : Y 12 (4 * T) = 109) : OrdAt x t p T Y r (f_MisToldOne Y) ∨ FailAt x t p Y r (f_MisToldOne Y) := by
  have ht := hT.1
  unfold f_MisToldOne
  rw [hY13, nI_clamp (show T < 2 ^ 31 by omega)]
  have s1 := num_spec hT (T := T) (k := 1) (pl := 1) (lo := 40) (hi := 208) (by omega) (by omega) (by omega) (by omega) hY hY13 hT61 hr
  rw [show (40 : Int32) = nI 40 from rfl, show (208 : Int32) = nI 208 from rfl]
  generalize f_MisNumber Y 1 (nI 40) (nI 208) = M1 at s1 ⊢
  rcases s1 with s1 | ⟨hpt, s1⟩
  · rw [if_neg (by rw [s1.1]; decide)]
    refine .inr (FailAt.no hY.2.2.1 ?_)
    obtain ⟨a1, a2⟩ := s1
    exact ⟨rfl, a2⟩
  · by_cases c1 : M1.1 = true
    · rw [if_pos c1]
      obtain ⟨p1, v1, d1, r1, a1, a2, a3, a4, a5, a6, a7, a8, a9, a10, a11⟩ := s1
      have hv1 : 40 ≤ v1 := by
        rcases a10 with q | q
        · exact q.1
        · rw [q.2.1] at c1; cases c1
      have hv1' : v1 ≤ 208 := a6.2.2.2.2.2.2.2
      have y1 : YS x t p1 M1.2 := hY.kp a7 a8 a2
      have y13 : M1.2 13 0 = nI T := by rw [a7 13 (by omega) (by omega) (by omega) (by omega)]; exact hY13
      unfold f_MisSign
      rw [isAt_N hT y1, a8, nI_clamp (show p1 < 2 ^ 31 by omega)]
      by_cases c2 : p1 < t ∧ x 0 p1 = 64
      · obtain ⟨c2, c3⟩ := c2
        rw [if_pos c2, c3, if_pos (show f_Min 64 64 64 = true by decide), if_pos rfl]
        have e1 := end_1 a6 hv1 (by omega) (w := 64) (by omega) (by omega)
        rw [if_pos rfl] at e1
        have n2 : NumAt (upA (upA (upA (upA (upA (upA r1 6 0 (nI v1)) 0 0 2) 1 0 0) 2 0 3599) 3 0 0) 4 0 0) 2 0 3599 := ⟨rfl, rfl, rfl, rfl, rfl⟩
        have w6 : (upA (upA (upA (upA (upA (upA r1 6 0 (nI v1)) 0 0 2) 1 0 0) 2 0 3599) 3 0 0) 4 0 0) 6 0 = nI v1 := rfl
        have w5 : (upA (upA (upA (upA (upA (upA r1 6 0 (nI v1)) 0 0 2) 1 0 0) 2 0 3599) 3 0 0) 4 0 0) 5 0 = 109 := by
          show r1 5 0 = 109
          rw [a5 5 (by omega) (by omega)]; exact hk
        generalize upA (upA (upA (upA (upA (upA r1 6 0 (nI v1)) 0 0 2) 1 0 0) 2 0 3599) 3 0 0) 4 0 0 = r2 at e1 n2 w6 w5
        have b3 : Rd x (p1 + 1 - p) p r r2 := by
          rw [show p1 + 1 - p = (p1 - p) + 1 by omega]
          refine Rd_app a3 (Rd_one ?_)
          rw [show p + (p1 - p) = p1 by omega, c3]
          exact e1
        have b4 : ∀ j, p ≤ j → j < p1 + 1 → ¬ x 0 j = 59 := by
          intro j j1 j2
          rcases Nat.lt_or_ge j p1 with z | z
          · exact a4 j j1 z
          · obtain rfl : j = p1 := by omega
            rw [c3]; decide
        have b7 : KP Y (upA M1.2 9 0 (nI (p1 + 1))) := KP.tr a7 (KP.u (by omega) _ _)
        have y2 : YS x t (p1 + 1) (upA M1.2 9 0 (nI (p1 + 1))) := hY.kp b7 upA_s (by omega)
        have y13' : (upA M1.2 9 0 (nI (p1 + 1))) 13 0 = nI T := y13
        have b12 : (upA M1.2 9 0 (nI (p1 + 1))) 12 = upd (Y 12) (4 * T + 1) (nI v1) := a9
        generalize upA M1.2 9 0 (nI (p1 + 1)) = Y2 at b7 y2 y13' b12 ⊢
        have s2 := num_spec hT (T := T) (k := 2) (pl := 2) (lo := 0) (hi := 3599) (by omega) (by omega) (by omega) (by omega) y2 y13' hT61 n2
        rw [show (0 : Int32) = nI 0 from rfl, show (3599 : Int32) = nI 3599 from rfl]
        generalize f_MisNumber Y2 2 (nI 0) (nI 3599) = M2 at s2 ⊢
        rcases s2 with s2 | ⟨hpt2, s2⟩
        · rw [if_neg (by rw [s2.1]; decide)]
          refine .inr (FailAt.later (q := p1 + 1) (by omega) b3 b7 (FailAt.no y2.2.2.1 ?_))
          obtain ⟨k1, k2⟩ := s2
          exact ⟨rfl, k2⟩
        · by_cases c4 : M2.1 = true
          · rw [if_pos c4]
            obtain ⟨p2, v2, d2, r3, f1, f2, f3, f4, f5, f6, f7, f8, f9, f10, f11⟩ := s2
            have hv2 : v2 ≤ 3599 := f6.2.2.2.2.2.2.2
            have b3' : Rd x (p2 - p) p r r3 := by
              rw [show p2 - p = (p1 + 1 - p) + (p2 - (p1 + 1)) by omega]
              exact Rd_app b3 (by rw [show p + (p1 + 1 - p) = p1 + 1 by omega]; exact f3)
            have b4' : ∀ j, p ≤ j → j < p2 → ¬ x 0 j = 59 := by
              intro j j1 j2
              rcases Nat.lt_or_ge j (p1 + 1) with z | z
              · exact b4 j j1 z
              · exact f4 j z j2
            have k3 : KP Y (upA M2.2 12 (4 * T + 3) 500) := KP.tr (KP.tr b7 f7) (KP.u (by omega) _ _)
            have y3 : YS x t p2 (upA M2.2 12 (4 * T + 3) 500) := hY.kp k3 f8 f2
            have y13'' : (upA M2.2 12 (4 * T + 3) 500) 13 0 = nI T := by
              rw [k3 13 (by omega) (by omega) (by omega) (by omega)]; exact hY13
            have t12 : (upA M2.2 12 (4 * T + 3) 500) 12 = upd (upd (upd (Y 12) (4 * T + 1) (nI v1)) (4 * T + 2) (nI v2)) (4 * T + 3) 500 := by rw [upA_r, f9, b12]
            have q5 : r3 5 0 = 109 := by rw [f5 5 (by omega) (by omega)]; exact w5
            have q6 : r3 6 0 = nI v1 := by rw [f5 6 (by omega) (by omega)]; exact w6
            have g9 : M2.2 9 0 = nI p2 := f8
            rw [isAt_N hT y3, f8, nI_clamp (show p2 < 2 ^ 31 by omega)]
            generalize upA M2.2 12 (4 * T + 3) 500 = Y3 at k3 y3 y13'' t12 ⊢
            by_cases c5 : p2 < t ∧ x 0 p2 = 42
            · obtain ⟨c5, c6⟩ := c5
              rw [if_pos c5, c6, if_pos (show f_Min 42 42 42 = true by decide)]
              have e2 := end_2 f6 (Nat.zero_le _) (by omega) (w := 42) (by omega) (by omega)
              rw [if_pos rfl] at e2
              have n4 : NumAt (upA (upA (upA (upA (upA (upA (upA r3 7 0 (nI v2)) 8 0 500) 0 0 3) 1 0 1) 2 0 999) 3 0 0) 4 0 0) 3 1 999 := ⟨rfl, rfl, rfl, rfl, rfl⟩
              have u5 : (upA (upA (upA (upA (upA (upA (upA r3 7 0 (nI v2)) 8 0 500) 0 0 3) 1 0 1) 2 0 999) 3 0 0) 4 0 0) 5 0 = 109 := q5
              have u6 : (upA (upA (upA (upA (upA (upA (upA r3 7 0 (nI v2)) 8 0 500) 0 0 3) 1 0 1) 2 0 999) 3 0 0) 4 0 0) 6 0 = nI v1 := q6
              have u7 : (upA (upA (upA (upA (upA (upA (upA r3 7 0 (nI v2)) 8 0 500) 0 0 3) 1 0 1) 2 0 999) 3 0 0) 4 0 0) 7 0 = nI v2 := rfl
              generalize upA (upA (upA (upA (upA (upA (upA r3 7 0 (nI v2)) 8 0 500) 0 0 3) 1 0 1) 2 0 999) 3 0 0) 4 0 0 = r4 at e2 n4 u5 u6 u7
              have b3'' : Rd x (p2 + 1 - p) p r r4 := by
                rw [show p2 + 1 - p = (p2 - p) + 1 by omega]
                refine Rd_app b3' (Rd_one ?_)
                rw [show p + (p2 - p) = p2 by omega, c6]
                exact e2
              have b4'' : ∀ j, p ≤ j → j < p2 + 1 → ¬ x 0 j = 59 := by
                intro j j1 j2
                rcases Nat.lt_or_ge j p2 with z | z
                · exact b4' j j1 z
                · obtain rfl : j = p2 := by omega
                  rw [c6]; decide
              have k4 : KP Y (upA Y3 9 0 (nI (p2 + 1))) := KP.tr k3 (KP.u (by omega) _ _)
              have y4 : YS x t (p2 + 1) (upA Y3 9 0 (nI (p2 + 1))) := hY.kp k4 upA_s (by omega)
              have y134 : (upA Y3 9 0 (nI (p2 + 1))) 13 0 = nI T := y13''
              have t124 : (upA Y3 9 0 (nI (p2 + 1))) 12 = upd (upd (upd (Y 12) (4 * T + 1) (nI v1)) (4 * T + 2) (nI v2)) (4 * T + 3) 500 := t12
              generalize upA Y3 9 0 (nI (p2 + 1)) = Y4 at k4 y4 y134 t124 ⊢
              have s3 := num_spec hT (T := T) (k := 3) (pl := 3) (lo := 1) (hi := 999) (by omega) (by omega) (by omega) (by omega) y4 y134 hT61 n4
              rw [show (1 : Int32) = nI 1 from rfl, show (999 : Int32) = nI 999 from rfl]
              generalize f_MisNumber Y4 3 (nI 1) (nI 999) = M3 at s3 ⊢
              rcases s3 with s3 | ⟨hpt3, s3⟩
              · exact .inr (FailAt.later (q := p2 + 1) (by omega) b3'' k4 (FailAt.no y4.2.2.1 s3))
              · by_cases c7 : M3.1 = true
                · obtain ⟨p3, v3, d3, r5, g1, g2, g3, g4, g5, g6, g7, g8, g9', g10, g11⟩ := s3
                  have hv3 : 1 ≤ v3 := by
                    rcases g10 with q | q
                    · exact q.1
                    · rw [q.2.1] at c7; cases c7
                  refine .inl (OrdAt.later (q := p2 + 1) (by omega) b3'' k4 b4'' ?_ ⟨c7, p3, r5, g1, g2, g3, g4, g7, g8, ?_, ?_, ?_⟩)
                  · intro z hz
                    rw [t124, pk_un (by omega), pk_un (by omega), pk_un (by omega)]
                  · intro z hz
                    rw [g9', pk_un (by omega)]
                  · have e3 := end_3 g6 hv3 (by omega) (w := 59) (by omega) (by omega)
                    rw [if_pos rfl] at e3
                    refine ⟨_, e3, rfl, ?_, .inl ?_⟩
                    · show r5 5 0 = M3.2 12 (4 * T + 0)
                      rw [g9', t124, pk_un (by omega), pk_un (by omega), pk_un (by omega), pk_un (by omega), Nat.add_zero, hk2, g5 5 (by omega) (by omega)]
                      exact u5
                    · show M3.2 12 (4 * T + 0) = 109 ∧ r5 6 0 = M3.2 12 (4 * T + 1) ∧ r5 7 0 = M3.2 12 (4 * T + 2) ∧ nI v3 = M3.2 12 (4 * T + 3) ∧ (40 ≤ (M3.2 12 (4 * T + 1)).toInt ∧ (M3.2 12 (4 * T + 1)).toInt ≤ 208) ∧ (0 ≤ (M3.2 12 (4 * T + 2)).toInt ∧ (M3.2 12 (4 * T + 2)).toInt ≤ 3599)
                      have z1 : M3.2 12 (4 * T + 1) = nI v1 := by rw [g9', t124, pk_un (by omega), pk_un (by omega), pk_un (by omega)]; exact pk_us
                      have z2 : M3.2 12 (4 * T + 2) = nI v2 := by rw [g9', t124, pk_un (by omega), pk_un (by omega)]; exact pk_us
                      have z3 : M3.2 12 (4 * T + 3) = nI v3 := by rw [g9']; exact pk_us
                      have z0 : M3.2 12 (4 * T + 0) = 109 := by rw [g9', t124, pk_un (by omega), pk_un (by omega), pk_un (by omega), pk_un (by omega), Nat.add_zero]; exact hk2
                      rw [z0, z1, z2, z3, g5 6 (by omega) (by omega), g5 7 (by omega) (by omega), nI_toInt (by omega), nI_toInt (by omega)]
                      exact ⟨rfl, u6, u7, rfl, by omega, by omega⟩
                  · refine last_no hT g6 g11 ?_
                    intro w hw hb h59 _ _
                    rw [end_3 g6 hv3 (by omega) hw hb, if_neg h59]
                · exact .inr (FailAt.later (q := p2 + 1) (by omega) b3'' k4 (FailAt.low hT (by omega) (by omega) (by omega) s3 c7))
            · rw [if_neg (show ¬ (if p2 < t then f_Min (x 0 p2) 42 42 else false) = true by
                by_cases z : p2 < t
                · rw [if_pos z]
                  intro e
                  obtain ⟨w, w1, w2, ew⟩ := hT.2 p2 z
                  rw [ew, show (42 : Int32) = nI 42 from rfl, Min_N (by omega) (by omega) (by omega)] at e
                  by_cases z2 : 42 ≤ w ∧ w ≤ 42
                  · exact c5 ⟨z, by rw [ew, show w = 42 by omega]; rfl⟩
                  · rw [if_neg z2] at e; cases e
                · rw [if_neg z]; decide)]
              refine .inl ⟨rfl, p2, r3, by omega, f2, b3', b4', k3, y3.2.1, ?_, ?_, ?_⟩
              · intro z hz
                show Y3 12 z = Y 12 z
                rw [t12, pk_un (by omega), pk_un (by omega), pk_un (by omega)]
              · have e2 := end_2 f6 (Nat.zero_le _) (by omega) (w := 59) (by omega) (by omega)
                rw [if_neg (by decide), if_pos rfl] at e2
                refine ⟨_, e2, rfl, ?_, .inl ?_⟩
                · show r3 5 0 = Y3 12 (4 * T + 0)
                  rw [t12, pk_un (by omega), pk_un (by omega), pk_un (by omega), Nat.add_zero, hk2]
                  exact q5
                · show Y3 12 (4 * T + 0) = 109 ∧ r3 6 0 = Y3 12 (4 * T + 1) ∧ nI v2 = Y3 12 (4 * T + 2) ∧ 500 = Y3 12 (4 * T + 3) ∧ (40 ≤ (Y3 12 (4 * T + 1)).toInt ∧ (Y3 12 (4 * T + 1)).toInt ≤ 208) ∧ (0 ≤ (Y3 12 (4 * T + 2)).toInt ∧ (Y3 12 (4 * T + 2)).toInt ≤ 3599)
                  have z1 : Y3 12 (4 * T + 1) = nI v1 := by rw [t12, pk_un (by omega), pk_un (by omega)]; exact pk_us
                  have z2 : Y3 12 (4 * T + 2) = nI v2 := by rw [t12, pk_un (by omega)]; exact pk_us
                  have z3 : Y3 12 (4 * T + 3) = 500 := by rw [t12]; exact pk_us
                  have z0 : Y3 12 (4 * T + 0) = 109 := by rw [t12, pk_un (by omega), pk_un (by omega), pk_un (by omega), Nat.add_zero]; exact hk2
                  rw [z0, z1, z2, z3, nI_toInt (by omega), nI_toInt (by omega)]
                  exact ⟨rfl, q6, rfl, rfl, by omega, by omega⟩
              · refine last_no hT f6 f11 ?_
                intro w hw hb h59 hz ew
                rw [end_2 f6 (Nat.zero_le _) (by omega) hw hb, if_neg (fun e => c5 ⟨hz, by rw [ew, e]; rfl⟩), if_neg h59]
          · rw [if_neg c4]
            refine .inr (FailAt.later (q := p1 + 1) (by omega) b3 b7 (FailAt.low hT (by omega) (by omega) (by omega) (M := (false, M2.2)) (T := T) (k := 2) (pl := 2) (lo := 0) (hi := 3599) ?_ (show ¬ false = true by decide)))
            obtain ⟨p', v, d, r', f1, f2, f3, f4, f5, f6, f7, f8, f9, f10, f11⟩ := s2
            refine ⟨p', v, d, r', f1, f2, f3, f4, f5, f6, f7, f8, f9, ?_, f11⟩
            rcases f10 with q | q
            · exact absurd q.2 c4
            · exact .inr ⟨q.1, rfl, q.2.2⟩
      · rw [if_neg (show ¬ (if p1 < t then f_Min (x 0 p1) 64 64 else false) = true by
          by_cases z : p1 < t
          · rw [if_pos z]
            intro e
            obtain ⟨w, w1, w2, ew⟩ := hT.2 p1 z
            rw [ew, show (64 : Int32) = nI 64 from rfl, Min_N (by omega) (by omega) (by omega)] at e
            by_cases z2 : 64 ≤ w ∧ w ≤ 64
            · exact c2 ⟨z, by rw [ew, show w = 64 by omega]; rfl⟩
            · rw [if_neg z2] at e; cases e
          · rw [if_neg z]; decide), stops_N hT y1, if_neg (show ¬ false = true by decide)]
        dsimp only
        refine .inr ⟨rfl, p1, r1, a1, a2, a3, KP.tr a7 (KP.u (by omega) _ _), a8, (show upA M1.2 10 0 (if p1 < t then 1 else 0) 10 0 = _ from upA_s), ?_, ?_⟩
        · intro z
          obtain ⟨w, w1, w2, ew⟩ := hT.2 p1 z
          rw [ew]
          by_cases c : 48 ≤ w ∧ w ≤ 57
          · have := a11 (w - 48) (by omega) z (by rw [ew, show 48 + (w - 48) = w by omega])
            rw [show 48 + (w - 48) = w by omega] at this
            exact this
          · rw [end_1 a6 hv1 (by omega) (by omega) w2, if_neg (fun e => c2 ⟨z, by rw [ew, e]; rfl⟩)]
        · intro _
          rw [c_59, end_1 a6 hv1 (by omega) (by omega) (by omega), if_neg (by decide)]
    · rw [if_neg c1]
      refine .inr (FailAt.low hT (by omega) (by omega) (by omega) (M := (false, M1.2)) (T := T) (k := 1) (pl := 1) (lo := 40) (hi := 208) ?_ (show ¬ false = true by decide))
      obtain ⟨p', v, d, r', f1, f2, f3, f4, f5, f6, f7, f8, f9, f10, f11⟩ := s1
      refine ⟨p', v, d, r', f1, f2, f3, f4, f5, f6, f7, f8, f9, ?_, f11⟩
      rcases f10 with q | q
      · exact absurd q.2 c1
      · exact .inr ⟨q.1, rfl, q.2.2⟩

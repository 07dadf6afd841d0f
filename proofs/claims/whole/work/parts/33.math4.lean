/-! MATH 4: saved states, the link of class and reference -/
def BT (u : BS) : Prop := 0 ≤ (u 13 0).toInt ∧ (u 13 0).toInt ≤ (u 11 0).toInt ∧ (u 11 0).toInt ≤ 99999
def BZ (u : BS) (f : Nat → Int32) : Prop := ∃ n, BR n u f ∧ BI n u ∧ BT u
def SV (sv : SS) (c : Int32) (p : Nat → Int32) : Prop := sv.1 < 6 ∧ sv.2.1 ≤ 6 ∧ c = nI sv.2.1 ∧ ∀ i, i < sv.2.1 → BZ (sv.2.2 ((i + sv.1) % 6)) (fun j => p (39 * i + j))
def TX (x : BS) (m : BS) : Prop := ∃ t, t ≤ 60 ∧ x 1 0 = nI t ∧ m 7 0 = nI t ∧ ∀ j, j < t → x 0 j = m 6 j ∧ 33 ≤ (x 0 j).toInt ∧ (x 0 j).toInt ≤ 126
/-- class and reference say the same -/
def Sim (fl : Nat → Int32) (un u0 u1 : BS) (sv : SS) (x : BS) (m : BS) : Prop := BZ un (m 0) ∧ SV sv (m 3 0) (m 2) ∧ (fl 0 = m 5 0 ∧ fl 1 = m 5 1) ∧ (¬ fl 0 = 0 → BZ u0 (fun j => m 4 j)) ∧ (¬ fl 1 = 0 → BZ u1 (fun j => m 4 (39 + j))) ∧ TX x m
def SimX {α : Type} (F : Except (Nat × BS) α) (cd : Nat → Int32) (ans : α → Int32) (S : α → BS → Prop) (S0 : BS → Prop) (M : Int32 × BS) : Prop := (∀ z, F = .ok z → M.1 = ans z ∧ M.2 8 0 = 0 ∧ S z M.2) ∧ (∀ e, F = .error e → M.2 8 0 = cd e.1 ∧ ¬ cd e.1 = 0 ∧ S0 M.2)
theorem SimX_ok {α : Type} {z : α} {cd : Nat → Int32} {ans : α → Int32} {S : α → BS → Prop} {S0 : BS → Prop} {M : Int32 × BS} (h1 : M.1 = ans z) (h2 : M.2 8 0 = 0) (h3 : S z M.2) : SimX (.ok z) cd ans S S0 M :=
  ⟨fun z' e => (by cases e; exact ⟨h1, h2, h3⟩), fun e' e => (by cases e)⟩
theorem SimX_er {α : Type} {k : Nat} {r : BS} {cd : Nat → Int32} {ans : α → Int32} {S : α → BS → Prop} {S0 : BS → Prop} {M : Int32 × BS} (h1 : M.2 8 0 = cd k) (h2 : ¬ cd k = 0) (h3 : S0 M.2) : SimX (.error (k, r)) cd ans S S0 M :=
  ⟨fun z' e => (by cases e), fun e' e => by cases e; exact ⟨h1, h2, h3⟩⟩
theorem BZ_copy {u v : BS} {f : Nat → Int32} (h : BZ v f) : BZ (f_copyFrom u v) f := by
  obtain ⟨n, h1, h2, h3⟩ := h
  obtain ⟨k1, k2⟩ := B_copy (u := u) h1 h2
  exact ⟨n, k1, k2, h3⟩
theorem BZ_ext {u : BS} {f g : Nat → Int32} (h : BZ u f) (e : ∀ j, j < 39 → g j = f j) : BZ u g := by
  obtain ⟨n, h1, h2, h3⟩ := h
  exact ⟨n, BR_ext h1 e, h2, h3⟩
theorem upB_s {us : Nat → BS} {p : Nat} {w : BS} : upB us p w p = w := by unfold upB; rw [if_pos rfl]
theorem upB_o {us : Nat → BS} {p i : Nat} {w : BS} (h : i ≠ p) : upB us p w i = us i := by unfold upB; rw [if_neg h]
theorem upA_r {u : BS} {k j : Nat} {v : Int32} : upA u k j v k = upd (u k) j v := by unfold upA; rw [if_pos rfl]
theorem mod6 (z : Nat) : z % 6 = 0 ∨ z % 6 = 1 ∨ z % 6 = 2 ∨ z % 6 = 3 ∨ z % 6 = 4 ∨ z % 6 = 5 := by omega
theorem push_lt {r k : Nat} (us : Nat → BS) (v : BS) (hk : k < 6) : f_Spush r k us v = (r, k + 1, upB us ((k + r) % 6) (f_copyFrom (us ((k + r) % 6)) v)) := by
  unfold f_Spush
  rw [if_pos (by rw [c_6]; exact nI_lt hk (by omega)), if_neg (by rw [c_6]; exact nI_ge hk (by omega))]
  rcases mod6 (k + r) with e | e | e | e | e | e <;> rw [e] <;> rfl
theorem push_6 {r : Nat} (us : Nat → BS) (v : BS) : f_Spush r 6 us v = ((r + 1) % 6, 6, upB us ((5 + (r + 1) % 6) % 6) (f_copyFrom (us ((5 + (r + 1) % 6) % 6)) v)) := by
  unfold f_Spush
  rw [if_neg (by decide)]
  rcases mod6 (5 + (r + 1) % 6) with e | e | e | e | e | e <;> rw [e] <;> rfl
theorem pop_N {r k : Nat} (us : Nat → BS) (v : BS) (h0 : 0 < k) (hk : k ≤ 6) : f_SpopInto r k us v = (nI (k - 1), (r, k - 1, us), f_copyFrom v (us ((k - 1 + r) % 6))) := by
  unfold f_SpopInto
  rw [if_neg (nI_nle h0 (by omega)), if_neg (by rw [c_6]; exact nI_nlt hk (by omega))]
  rcases mod6 (k - 1 + r) with e | e | e | e | e | e <;> rw [e] <;> rfl
theorem saves_it (m : BS) (N : Nat) : (∀ j, it N (f_Msaves_L11 m) m 2 j = if j < N then m 2 (j + 39) else m 2 j) ∧ (∀ r, r ≠ 2 → it N (f_Msaves_L11 m) m r = m r) := by
  induction N with
  | zero => exact ⟨fun j => by rw [it_0, if_neg (by omega)], fun r _ => rfl⟩
  | succ N ih =>
    obtain ⟨h1, h2⟩ := ih
    rw [it_s]
    generalize it N (f_Msaves_L11 m) m = Z at h1 h2 ⊢
    unfold f_Msaves_L11
    refine ⟨?_, ?_⟩
    · intro j
      rw [h1 (N + 39), if_neg (by omega)]
      by_cases e : j = N
      · subst e
        rw [upA_s, if_pos (by omega)]
      · rw [upA_ne e, h1 j]
        by_cases c : j < N
        · rw [if_pos c, if_pos (by omega)]
        · rw [if_neg c, if_neg (by omega)]
    · intro r hr
      rw [upA_o hr]
      exact h2 r hr
theorem Msaves_o (m : BS) {r : Nat} (h2 : r ≠ 2) (h3 : r ≠ 3) : f_Msaves m r = m r := by
  unfold f_Msaves
  by_cases h : (nI ((m 3 0).toNatClampNeg)) = (6 : Int32)
  · rw [if_pos h, upA_o h3, upR_o h2, upA_o h3]
    exact (saves_it m 195).2 r h2
  · rw [if_neg h, upA_o h3, upR_o h2]
theorem B_saves {sv : SS} {m : BS} {un : BS} (h : SV sv (m 3 0) (m 2)) (hz : BZ un (m 0)) : SV (f_Spush sv.1 sv.2.1 sv.2.2 un) (f_Msaves m 3 0) (f_Msaves m 2) := by
  obtain ⟨r, k, us⟩ := sv
  obtain ⟨hr, hk, hc, hi⟩ := h
  dsimp only at hr hk hc hi ⊢
  have hcl : (m 3 0).toNatClampNeg = k := by rw [hc, nI_clamp (by omega)]
  rcases Nat.lt_or_ge k 6 with h6 | h6
  · rw [push_lt us un h6]
    unfold f_Msaves
    rw [hcl, if_neg (by rw [c_6, nI_eq (by omega) (by omega)]; omega), upA_s, upA_o (by decide), upR_s]
    refine ⟨hr, by dsimp only; omega, rfl, ?_⟩
    dsimp only
    intro i hik
    rcases Nat.lt_or_ge i k with q | q
    · rw [upB_o (by omega)]
      refine BZ_ext (hi i q) ?_
      intro j hj
      exact copies_out _ _ _ (.inl (by omega))
    · obtain rfl : i = k := by omega
      rw [upB_s]
      refine BZ_copy (BZ_ext hz ?_)
      intro j hj
      have := copies_in (f := m 0) (m 2) 0 (39 * i) hj
      rw [this, Nat.zero_add]
  · obtain rfl : k = 6 := by omega
    rw [push_6 us un]
    unfold f_Msaves
    rw [hcl, if_pos (by decide), upA_s, upA_o (by decide), upR_s]
    refine ⟨by dsimp only; omega, by dsimp only; omega, rfl, ?_⟩
    dsimp only
    intro i hik
    rcases Nat.lt_or_ge i 5 with q | q
    · rw [upB_o (by omega)]
      have e : (i + (r + 1) % 6) % 6 = (i + 1 + r) % 6 := by omega
      rw [e]
      refine BZ_ext (hi (i + 1) (by omega)) ?_
      intro j hj
      rw [copies_out _ _ _ (.inl (by omega)), (saves_it m 195).1, if_pos (by omega), show 39 * i + j + 39 = 39 * (i + 1) + j by omega]
    · obtain rfl : i = 5 := by omega
      rw [upB_s]
      refine BZ_copy (BZ_ext hz ?_)
      intro j hj
      have := copies_in (f := m 0) (it 195 (f_Msaves_L11 m) m 2) 0 (39 * (6 - 1)) hj
      rw [show 39 * 5 + j = 39 * (6 - 1) + j by omega, this, Nat.zero_add]
section SIM
variable {fl : Nat → Int32} {un ut u0 u1 : BS} {sv : SS} {x r : BS} {m : BS}
theorem Sim_8 (h : Sim fl un u0 u1 sv x m) (v : Int32) : Sim fl un u0 u1 sv x (upA m 8 0 v) := h
theorem Sim_1 (h : Sim fl un u0 u1 sv x m) (g : Nat → Int32) : Sim fl un u0 u1 sv x (upR m 1 g) := h
theorem Sim_rows (h : Sim fl un u0 u1 sv x m) {m' : BS} (e : ∀ r, r = 0 ∨ r = 2 ∨ r = 3 ∨ r = 4 ∨ r = 5 ∨ r = 6 ∨ r = 7 → m' r = m r) : Sim fl un u0 u1 sv x m' := by
  unfold Sim TX
  rw [e 0 (by omega), e 2 (by omega), e 3 (by omega), e 4 (by omega), e 5 (by omega), e 6 (by omega), e 7 (by omega)]
  exact h
theorem Sim_now (h : Sim fl un u0 u1 sv x m) {un' : BS} {f' : Nat → Int32} (hz : BZ un' f') : Sim fl un' u0 u1 sv x (upR m 0 f') := ⟨hz, h.2⟩
theorem Sim_save (h : Sim fl un u0 u1 sv x m) : Sim fl un u0 u1 (f_Spush sv.1 sv.2.1 sv.2.2 un) x (f_Msaves m) := by
  obtain ⟨h1, h2, h3, h4, h5, h6⟩ := h
  unfold Sim TX
  rw [Msaves_o m (r := 0) (by decide) (by decide), Msaves_o m (r := 4) (by decide) (by decide), Msaves_o m (r := 5) (by decide) (by decide), Msaves_o m (r := 6) (by decide) (by decide), Msaves_o m (r := 7) (by decide) (by decide)]
  exact ⟨h1, B_saves h2 h1, h3, h4, h5, h6⟩
theorem upA_upR (u : BS) (k j : Nat) (v : Int32) : upA u k j v = upR u k (upd (u k) j v) := by
  funext i
  by_cases e : i = k
  · rw [e, upA_r, upR_s]
  · rw [upA_o e, upR_o e]
theorem upR_upR (u : BS) (k : Nat) (f g : Nat → Int32) : upR (upR u k f) k g = upR u k g := by
  funext i
  by_cases e : i = k
  · rw [e, upR_s, upR_s]
  · rw [upR_o e, upR_o e, upR_o e]
theorem upR_self (u : BS) (k : Nat) : upR u k (u k) = u := by
  funext i
  by_cases e : i = k
  · rw [e, upR_s]
  · rw [upR_o e]
/-- saved first, then the bench set anew -/
theorem Sim_push (h : Sim fl un u0 u1 sv x m) {un' : BS} {f' : Nat → Int32} (hz : BZ un' f') (v : Int32) : Sim fl un' u0 u1 (f_Spush sv.1 sv.2.1 sv.2.2 un) x (upR (f_Msaves (upA m 8 0 v)) 0 f') := Sim_now (Sim_save (Sim_8 h v)) hz
theorem saves8 (m : BS) (v : Int32) : f_Msaves (upA m 8 0 v) 8 0 = v := by
  rw [Msaves_o _ (by decide) (by decide), upA_s]
theorem saves0 (m : BS) (v : Int32) : f_Msaves (upA m 8 0 v) 0 = m 0 := by
  rw [Msaves_o _ (by decide) (by decide), upA_o (by decide)]
theorem XMin : f_XisWithin = f_Min := rfl
theorem Min_of {a b c : Int32} (h : f_Min a b c = true) : b.toInt ≤ a.toInt ∧ a.toInt ≤ c.toInt := by
  unfold f_Min at h
  by_cases h1 : a < b
  · rw [if_pos h1] at h; cases h
  · rw [if_neg h1] at h
    by_cases h2 : c < a
    · rw [if_pos h2] at h; cases h
    · exact ⟨ti_le.mp (Int32.not_lt.mp h1), ti_le.mp (Int32.not_lt.mp h2)⟩
/-! the bench's own changes -/
theorem BZ_beat {u : BS} {f : Nat → Int32} (h : BZ u f) (k : Nat) {v : Int32} (hv : 40 ≤ v.toInt ∧ v.toInt ≤ 208) : BZ (upA u 0 k v) (upd f (9 + 5 * k) v) := by
  obtain ⟨n, h1, h2, h3⟩ := h
  refine ⟨n, BR_upw h1 (r := 0) (by omega) k v, ?_, h3⟩
  obtain ⟨i1, i2, i3, i4, i5⟩ := h2
  refine ⟨i1, i2, i3, i4, ?_⟩
  intro k' hk'
  refine ⟨?_, (i5 k' hk').2⟩
  by_cases e : k' = k
  · rw [e, upA_s]; exact hv
  · rw [upA_ne e]; exact (i5 k' hk').1
theorem BZ_spring {u : BS} {f : Nat → Int32} (h : BZ u f) (k : Nat) (v : Int32) : BZ (upA u 2 k v) (upd f (9 + 5 * k + 2) v) := by
  obtain ⟨n, h1, h2, h3⟩ := h
  exact ⟨n, BR_upw h1 (r := 2) (by omega) k v, BI_o h2 k v (by decide), h3⟩
theorem BZ_held {u : BS} {f : Nat → Int32} (h : BZ u f) (k : Nat) {v : Int32} (hv : v = 0 ∨ v = 1) : BZ (upA u 3 k v) (upd f (9 + 5 * k + 3) v) := by
  obtain ⟨n, h1, h2, h3⟩ := h
  refine ⟨n, BR_upw h1 (r := 3) (by omega) k v, ?_, h3⟩
  obtain ⟨i1, i2, i3, i4, i5⟩ := h2
  refine ⟨i1, i2, i3, i4, ?_⟩
  intro k' hk'
  refine ⟨(i5 k' hk').1, (i5 k' hk').2.1, ?_⟩
  by_cases e : k' = k
  · rw [e, upA_s]; exact hv
  · rw [upA_ne e]; exact (i5 k' hk').2.2
/-- hold or let go, told alike -/
theorem B_hold {n : Nat} {u : BS} {f : Nat → Int32} (h1 : BR n u f) (h2 : BI n u) (h3 : BT u) {k : Nat} (hk : k < n) : (f_holdOrLetGo u (nI k)).1 = 1 - f (9 + 5 * k + 3) ∧ BZ (f_holdOrLetGo u (nI k)).2 (upd f (9 + 5 * k + 3) (1 - f (9 + 5 * k + 3))) := by
  have hn := BR_n h1
  have hz : BZ u f := ⟨n, h1, h2, h3⟩
  have e3 := (BR_row h1 hk).2.2.2.1
  unfold f_holdOrLetGo
  rw [if_pos (B_hask h1 hk), nI_clamp (by omega), e3]
  rcases (BI_row h2 hk).2.2 with q | q
  · rw [q, if_pos rfl, if_neg (by decide)]
    exact ⟨(show (1 : Int32) = 1 - 0 by decide), BZ_held hz k (.inr rfl)⟩
  · rw [q, if_neg (by decide), if_pos rfl]
    exact ⟨(show (0 : Int32) = 1 - 1 by decide), BZ_held hz k (.inl rfl)⟩
/-- the reference's row of one that comes -/
def mcomes (f : Nat → Int32) (n : Nat) (b p s : Int32) : Nat → Int32 := upd (upd (upd (upd (upd (upd f (9 + 5 * n) b) (9 + 5 * n + 1) p) (9 + 5 * n + 2) s) (9 + 5 * n + 3) 0) (9 + 5 * n + 4) 0) 3 (f 3 + 1)
theorem comes_M (u : BS) (n : Nat) (hn : (u 0 3).toNatClampNeg = n) (b p s : Int32) : f_Mcomes u b p s = ((u 0 3 + 1) - 1, upR u 0 (mcomes (u 0) n b p s)) := by
  have e3 : ∀ w : Nat → Int32, ∀ k : Nat, ∀ z : Int32, upd w (9 + 5 * n + k) z 3 = w 3 := fun w k z => pk_un (by omega)
  have e3' : ∀ w : Nat → Int32, ∀ z : Int32, upd w (9 + 5 * n) z 3 = w 3 := fun w z => pk_un (by omega)
  unfold f_Mcomes mcomes
  rw [hn]
  simp only [upA_upR, upR_s, upR_upR, e3, e3']
theorem B_add {n : Nat} {u : BS} {f : Nat → Int32} (h1 : BR n u f) (h2 : BI n u) (h3 : BT u) (hn : n < 6) {b p s : Int32} (hb : 40 ≤ b.toInt ∧ b.toInt ≤ 208) (hp : 0 ≤ p.toInt ∧ p.toInt ≤ 3599) : (f_add u b p s).1 = nI n ∧ BZ (f_add u b p s).2 (mcomes f n b p s) := by
  obtain ⟨q, eq, rfl⟩ := ti_of hp.1
  have hw := @BR_w _ _ _ h1
  obtain ⟨hn', h5, h3', h0, h1', h2', h4, h5', h6, h7, h8, hr⟩ := h1
  obtain ⟨i1, i2, i3, i4, i5⟩ := h2
  unfold f_add
  rw [h5, if_neg (nI_pos (by omega)), if_pos (by rw [c_6]; exact nI_lt hn (by omega)), nI_clamp (by omega)]
  dsimp only
  refine ⟨rfl, n + 1, ?_, ?_, h3⟩
  · refine ⟨by omega, nI_1 n, ?_, ?_, ?_, ?_, ?_, ?_, ?_, ?_, ?_, ?_⟩
    · show upd _ 3 _ 3 = _
      rw [pk_us, h3', nI_1]
    all_goals first | (unfold mcomes; rw [pk_un (by omega), pk_un (by omega), pk_un (by omega), pk_un (by omega), pk_un (by omega), pk_un (by omega)]; assumption) | skip
    intro k hk
    refine BR_ofw ?_
    intro w hw5
    have rows : upA (upA (upA (upA (upA (upA u 0 n b) 1 n (nI q)) 2 n s) 3 n 0) 4 n 0) 5 0 (nI n + 1) w k = if k = n then (if w = 0 then b else if w = 1 then nI q else if w = 2 then s else 0) else u w k := by
      rw [upA_o (by omega)]
      by_cases e : k = n
      · rw [if_pos e, e]
        rcases (show w = 0 ∨ w = 1 ∨ w = 2 ∨ w = 3 ∨ w = 4 by omega) with rfl | rfl | rfl | rfl | rfl
        · rw [upA_o (by decide), upA_o (by decide), upA_o (by decide), upA_o (by decide), upA_s]; rfl
        · rw [upA_o (by decide), upA_o (by decide), upA_o (by decide), upA_s]; rfl
        · rw [upA_o (by decide), upA_o (by decide), upA_s]; rfl
        · rw [upA_o (by decide), upA_s]; rfl
        · rw [upA_s]; rfl
      · rw [if_neg e, upA_ne e, upA_ne e, upA_ne e, upA_ne e, upA_ne e]
    rw [rows]
    unfold mcomes
    rw [pk_un (by omega)]
    by_cases e : k = n
    · rw [if_pos e, e]
      rcases (show w = 0 ∨ w = 1 ∨ w = 2 ∨ w = 3 ∨ w = 4 by omega) with rfl | rfl | rfl | rfl | rfl
      · rw [pk_un (by omega), pk_un (by omega), pk_un (by omega), pk_un (by omega)]; exact pk_us
      · rw [pk_un (by omega), pk_un (by omega), pk_un (by omega)]; exact pk_us
      · rw [pk_un (by omega), pk_un (by omega)]; exact pk_us
      · rw [pk_un (by omega)]; exact pk_us
      · exact pk_us
    · rw [if_neg e, pk_un (by omega), pk_un (by omega), pk_un (by omega), pk_un (by omega), pk_un (by omega)]
      exact hw (by omega) hw5
  · refine ⟨i1, i2, i3, i4, ?_⟩
    intro k hk
    by_cases e : k = n
    · rw [e]
      refine ⟨?_, ⟨q, by omega, ?_⟩, .inl ?_⟩
      · rw [upA_o (by decide), upA_o (by decide), upA_o (by decide), upA_o (by decide), upA_o (by decide), upA_s]; exact hb
      · rw [upA_o (by decide), upA_o (by decide), upA_o (by decide), upA_o (by decide), upA_s]
      · rw [upA_o (by decide), upA_o (by decide), upA_s]
    · rw [upA_o (k1 := 0) (by decide), upA_ne e, upA_ne e, upA_ne e, upA_ne e, upA_ne e, upA_o (k1 := 1) (by decide), upA_ne e, upA_ne e, upA_ne e, upA_ne e, upA_ne e, upA_o (k1 := 3) (by decide), upA_ne e, upA_ne e, upA_ne e, upA_ne e, upA_ne e]
      exact i5 k (by omega)
end SIM

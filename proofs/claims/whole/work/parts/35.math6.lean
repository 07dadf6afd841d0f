/-! MATH 6: the looks -/
section SIML
variable {fl : Nat → Int32} {un ut u0 u1 : BS} {sv : SS} {x r : BS} {m : BS}
theorem Min_nI {p : Int32} {N : Nat} (hN : N < 2 ^ 31) (h : f_Min p 0 (nI N) = true) : ∃ q, q ≤ N ∧ p = nI q := by
  have h1 := Min_of h
  have e0 : (0 : Int32).toInt = 0 := by decide
  rw [nI_toInt hN] at h1
  obtain ⟨q, eq, rfl⟩ := ti_of (a := p) (by omega)
  exact ⟨q, by omega, rfl⟩
theorem L_arm {n : Nat} {u : BS} (h1 : BR n u (m 0)) (h2 : BI n u) {k : Nat} (hk : k < n) {p : Int32} (hp : f_Min p 0 8 = true) : f_property u (nI k) p = f_MofArm m k p := by
  have hn := BR_n h1
  obtain ⟨a0, a1, a2, a3, a4⟩ := BR_row h1 hk
  obtain ⟨q, hq, rfl⟩ := Min_nI (N := 8) (by omega) hp
  obtain ⟨-, ⟨z, hz, ez⟩, hh⟩ := BI_row h2 hk
  have hpl := B_pull' h1 h2 hk
  unfold f_property f_MofArm
  rw [if_pos (B_hask h1 hk), nI_clamp (by omega), B_goes' h1 hk]
  unfold f_Mof
  rw [a1, a4, hpl, ez, sw_N hz, tu_N hz, Msw_N hz, Mtu_N hz]
  rcases (show q = 0 ∨ q = 1 ∨ q = 2 ∨ q = 3 ∨ q = 4 ∨ q = 5 ∨ q = 6 ∨ q = 7 ∨ q = 8 by omega) with rfl | rfl | rfl | rfl | rfl | rfl | rfl | rfl | rfl
  · rw [if_pos (show nI 0 = (0 : Int32) from rfl), if_neg (show ¬ nI 0 = (4 : Int32) by decide), if_neg (show ¬ nI 0 = (5 : Int32) by decide), if_neg (show ¬ nI 0 = (6 : Int32) by decide), if_neg (show ¬ nI 0 = (7 : Int32) by decide), if_neg (show ¬ nI 0 = (8 : Int32) by decide)]
    exact a0.symm
  · rw [if_neg (show ¬ nI 1 = (0 : Int32) by decide), if_pos (show nI 1 = (1 : Int32) from rfl), if_neg (show ¬ nI 1 = (4 : Int32) by decide), if_neg (show ¬ nI 1 = (5 : Int32) by decide), if_neg (show ¬ nI 1 = (6 : Int32) by decide), if_neg (show ¬ nI 1 = (7 : Int32) by decide), if_neg (show ¬ nI 1 = (8 : Int32) by decide)]
    show nI z = m 0 (9 + 5 * k + 1)
    rw [a1, ez]
  · rw [if_neg (show ¬ nI 2 = (0 : Int32) by decide), if_neg (show ¬ nI 2 = (1 : Int32) by decide), if_pos (show nI 2 = (2 : Int32) from rfl), if_neg (show ¬ nI 2 = (4 : Int32) by decide), if_neg (show ¬ nI 2 = (5 : Int32) by decide), if_neg (show ¬ nI 2 = (6 : Int32) by decide), if_neg (show ¬ nI 2 = (7 : Int32) by decide), if_neg (show ¬ nI 2 = (8 : Int32) by decide)]
    exact a2.symm
  · rw [if_neg (show ¬ nI 3 = (0 : Int32) by decide), if_neg (show ¬ nI 3 = (1 : Int32) by decide), if_neg (show ¬ nI 3 = (2 : Int32) by decide), if_pos (show nI 3 = (3 : Int32) from rfl), if_neg (show ¬ nI 3 = (4 : Int32) by decide), if_neg (show ¬ nI 3 = (5 : Int32) by decide), if_neg (show ¬ nI 3 = (6 : Int32) by decide), if_neg (show ¬ nI 3 = (7 : Int32) by decide), if_neg (show ¬ nI 3 = (8 : Int32) by decide)]
    show _ = m 0 (9 + 5 * k + 3)
    rw [a3]
    rcases hh with e | e <;> rw [e] <;> rfl
  · rw [if_neg (show ¬ nI 4 = (0 : Int32) by decide), if_neg (show ¬ nI 4 = (1 : Int32) by decide), if_neg (show ¬ nI 4 = (2 : Int32) by decide), if_neg (show ¬ nI 4 = (3 : Int32) by decide), if_pos (show nI 4 = (4 : Int32) from rfl), if_pos (show nI 4 = (4 : Int32) from rfl)]
  · rw [if_neg (show ¬ nI 5 = (0 : Int32) by decide), if_neg (show ¬ nI 5 = (1 : Int32) by decide), if_neg (show ¬ nI 5 = (2 : Int32) by decide), if_neg (show ¬ nI 5 = (3 : Int32) by decide), if_neg (show ¬ nI 5 = (4 : Int32) by decide), if_pos (show nI 5 = (5 : Int32) from rfl), if_neg (show ¬ nI 5 = (4 : Int32) by decide), if_pos (show nI 5 = (5 : Int32) from rfl)]
  · rw [if_neg (show ¬ nI 6 = (0 : Int32) by decide), if_neg (show ¬ nI 6 = (1 : Int32) by decide), if_neg (show ¬ nI 6 = (2 : Int32) by decide), if_neg (show ¬ nI 6 = (3 : Int32) by decide), if_neg (show ¬ nI 6 = (4 : Int32) by decide), if_neg (show ¬ nI 6 = (5 : Int32) by decide), if_pos (show nI 6 = (6 : Int32) from rfl), if_neg (show ¬ nI 6 = (4 : Int32) by decide), if_neg (show ¬ nI 6 = (5 : Int32) by decide), if_pos (show nI 6 = (6 : Int32) from rfl)]
  · rw [if_neg (show ¬ nI 7 = (0 : Int32) by decide), if_neg (show ¬ nI 7 = (1 : Int32) by decide), if_neg (show ¬ nI 7 = (2 : Int32) by decide), if_neg (show ¬ nI 7 = (3 : Int32) by decide), if_neg (show ¬ nI 7 = (4 : Int32) by decide), if_neg (show ¬ nI 7 = (5 : Int32) by decide), if_neg (show ¬ nI 7 = (6 : Int32) by decide), if_pos (show nI 7 = (7 : Int32) from rfl), if_neg (show ¬ nI 7 = (4 : Int32) by decide), if_neg (show ¬ nI 7 = (5 : Int32) by decide), if_neg (show ¬ nI 7 = (6 : Int32) by decide), if_pos (show nI 7 = (7 : Int32) from rfl)]
  · rw [if_neg (show ¬ nI 8 = (0 : Int32) by decide), if_neg (show ¬ nI 8 = (1 : Int32) by decide), if_neg (show ¬ nI 8 = (2 : Int32) by decide), if_neg (show ¬ nI 8 = (3 : Int32) by decide), if_neg (show ¬ nI 8 = (4 : Int32) by decide), if_neg (show ¬ nI 8 = (5 : Int32) by decide), if_neg (show ¬ nI 8 = (6 : Int32) by decide), if_neg (show ¬ nI 8 = (7 : Int32) by decide), if_neg (show ¬ nI 8 = (4 : Int32) by decide), if_neg (show ¬ nI 8 = (5 : Int32) by decide), if_neg (show ¬ nI 8 = (6 : Int32) by decide), if_neg (show ¬ nI 8 = (7 : Int32) by decide), if_pos (show nI 8 = (8 : Int32) from rfl)]
theorem S_arm (h : Sim fl un u0 u1 sv x m) (p0 p1 : Int32) : SimX (f_Xarm fl un ut u0 u1 sv x r p0 p1) cdIA (fun z => z) (fun _ => Sim fl un u0 u1 sv x) (Sim fl un u0 u1 sv x) (f_Marm m p0 p1) := by
  obtain ⟨n, h1, h2, h3⟩ := h.1
  unfold f_Xarm f_Marm
  rw [isArm_has h1, XMin]
  by_cases c : f_has un p0 = true
  · rw [if_pos c, if_pos c]
    obtain ⟨k, hk, rfl⟩ := B_hasof h1 c
    have hn := BR_n h1
    by_cases c2 : f_Min p1 0 8 = true
    · rw [if_pos c2, if_pos c2, nI_clamp (by omega)]
      try dsimp only
      exact SimX_okp (L_arm (m := upA m 8 0 0) h1 h2 hk c2).symm upA_s (Sim_8 h 0)
    · rw [if_neg c2, if_neg c2]
      exact SimX_er (f8 _ _) (by decide) (Sim_f h _ _)
  · rw [if_neg c, if_neg c]
    exact SimX_er (f8 _ _) (by decide) (Sim_f h _ _)
theorem S_apart (h : Sim fl un u0 u1 sv x m) (p0 p1 : Int32) : SimX (f_Xapart fl un ut u0 u1 sv x r p0 p1) cdIA (fun z => z) (fun _ => Sim fl un u0 u1 sv x) (Sim fl un u0 u1 sv x) (f_Mapart m p0 p1) := by
  obtain ⟨n, h1, h2, h3⟩ := h.1
  unfold f_Xapart f_Mapart
  rw [isArm_has h1, isArm_has h1]
  by_cases c : f_has un p0 = true
  · rw [if_pos c, if_pos c]
    by_cases c2 : f_has un p1 = true
    · rw [if_pos c2, if_pos c2]
      by_cases c3 : p0 = p1
      · rw [if_pos c3, if_pos c3]
        exact SimX_er (f8 _ _) (by decide) (Sim_f h _ _)
      · rw [if_neg c3, if_neg c3]
        obtain ⟨k, hk, rfl⟩ := B_hasof h1 c
        obtain ⟨k', hk', rfl⟩ := B_hasof h1 c2
        have hn := BR_n h1
        rw [nI_clamp (by omega), nI_clamp (by omega)]
        try dsimp only
        exact SimX_okp (B_dist h1 h2 hk hk').symm upA_s (Sim_8 h 0)
    · rw [if_neg c2, if_neg c2]
      exact SimX_er (f8 _ _) (by decide) (Sim_f h _ _)
  · rw [if_neg c, if_neg c]
    exact SimX_er (f8 _ _) (by decide) (Sim_f h _ _)
theorem L_count {n : Nat} (h1 : BR n un (m 0)) (h2 : BI n un) (hs : m 3 0 = nI sv.2.1) {p : Int32} (hp : f_Min p 0 11 = true) : f_Xfigure fl un ut u0 u1 sv x r p = f_Mcounted m p := by
  obtain ⟨q, hq, rfl⟩ := Min_nI (N := 11) (by omega) hp
  have e1 := B_going h1
  have e2 := B_Mgoing h1
  have e3 := B_order h1 h2
  have e4 := B_pairs h1 h2
  have e5 := B_great h1 h2
  have e6 := B_inStep h1 h2
  obtain ⟨hn', b5, b3, b0, b1, b2, b4, b5', b6, b7, b8, hr⟩ := h1
  unfold f_Xfigure f_Mcounted f_figureOf f_Ssize
  rw [e1, e2, e3, e4, e5, e6]
  rcases (show q = 0 ∨ q = 1 ∨ q = 2 ∨ q = 3 ∨ q = 4 ∨ q = 5 ∨ q = 6 ∨ q = 7 ∨ q = 8 ∨ q = 9 ∨ q = 10 ∨ q = 11 by omega) with rfl | rfl | rfl | rfl | rfl | rfl | rfl | rfl | rfl | rfl | rfl | rfl
  · rw [if_neg (show ¬ nI 0 = (11 : Int32) by decide), if_pos (show nI 0 = (0 : Int32) from rfl), if_pos (show nI 0 = (0 : Int32) from rfl)]
    exact b5.trans b3.symm
  · rw [if_neg (show ¬ nI 1 = (11 : Int32) by decide), if_neg (show ¬ nI 1 = (0 : Int32) by decide), if_pos (show nI 1 = (1 : Int32) from rfl), if_neg (show ¬ nI 1 = (0 : Int32) by decide), if_pos (show nI 1 = (1 : Int32) from rfl)]
  · rw [if_neg (show ¬ nI 2 = (11 : Int32) by decide), if_neg (show ¬ nI 2 = (0 : Int32) by decide), if_neg (show ¬ nI 2 = (1 : Int32) by decide), if_pos (show nI 2 = (2 : Int32) from rfl), if_neg (show ¬ nI 2 = (0 : Int32) by decide), if_neg (show ¬ nI 2 = (1 : Int32) by decide), if_pos (show nI 2 = (2 : Int32) from rfl)]
    exact b4.symm
  · rw [if_neg (show ¬ nI 3 = (11 : Int32) by decide), if_neg (show ¬ nI 3 = (0 : Int32) by decide), if_neg (show ¬ nI 3 = (1 : Int32) by decide), if_neg (show ¬ nI 3 = (2 : Int32) by decide), if_pos (show nI 3 = (3 : Int32) from rfl), if_neg (show ¬ nI 3 = (0 : Int32) by decide), if_neg (show ¬ nI 3 = (1 : Int32) by decide), if_neg (show ¬ nI 3 = (2 : Int32) by decide), if_pos (show nI 3 = (3 : Int32) from rfl)]
    exact b5'.symm
  · rw [if_neg (show ¬ nI 4 = (11 : Int32) by decide), if_neg (show ¬ nI 4 = (0 : Int32) by decide), if_neg (show ¬ nI 4 = (1 : Int32) by decide), if_neg (show ¬ nI 4 = (2 : Int32) by decide), if_neg (show ¬ nI 4 = (3 : Int32) by decide), if_pos (show nI 4 = (4 : Int32) from rfl), if_neg (show ¬ nI 4 = (0 : Int32) by decide), if_neg (show ¬ nI 4 = (1 : Int32) by decide), if_neg (show ¬ nI 4 = (2 : Int32) by decide), if_neg (show ¬ nI 4 = (3 : Int32) by decide), if_pos (show nI 4 = (4 : Int32) from rfl)]
    exact congrArg (· + (1000 : Int32)) b7.symm
  · rw [if_neg (show ¬ nI 5 = (11 : Int32) by decide), if_neg (show ¬ nI 5 = (0 : Int32) by decide), if_neg (show ¬ nI 5 = (1 : Int32) by decide), if_neg (show ¬ nI 5 = (2 : Int32) by decide), if_neg (show ¬ nI 5 = (3 : Int32) by decide), if_neg (show ¬ nI 5 = (4 : Int32) by decide), if_pos (show nI 5 = (5 : Int32) from rfl), if_neg (show ¬ nI 5 = (0 : Int32) by decide), if_neg (show ¬ nI 5 = (1 : Int32) by decide), if_neg (show ¬ nI 5 = (2 : Int32) by decide), if_neg (show ¬ nI 5 = (3 : Int32) by decide), if_neg (show ¬ nI 5 = (4 : Int32) by decide), if_pos (show nI 5 = (5 : Int32) from rfl)]
    exact congrArg (· + (1000 : Int32)) b8.symm
  · rw [if_neg (show ¬ nI 6 = (11 : Int32) by decide), if_neg (show ¬ nI 6 = (0 : Int32) by decide), if_neg (show ¬ nI 6 = (1 : Int32) by decide), if_neg (show ¬ nI 6 = (2 : Int32) by decide), if_neg (show ¬ nI 6 = (3 : Int32) by decide), if_neg (show ¬ nI 6 = (4 : Int32) by decide), if_neg (show ¬ nI 6 = (5 : Int32) by decide), if_pos (show nI 6 = (6 : Int32) from rfl), if_neg (show ¬ nI 6 = (0 : Int32) by decide), if_neg (show ¬ nI 6 = (1 : Int32) by decide), if_neg (show ¬ nI 6 = (2 : Int32) by decide), if_neg (show ¬ nI 6 = (3 : Int32) by decide), if_neg (show ¬ nI 6 = (4 : Int32) by decide), if_neg (show ¬ nI 6 = (5 : Int32) by decide), if_pos (show nI 6 = (6 : Int32) from rfl)]
  · rw [if_neg (show ¬ nI 7 = (11 : Int32) by decide), if_neg (show ¬ nI 7 = (0 : Int32) by decide), if_neg (show ¬ nI 7 = (1 : Int32) by decide), if_neg (show ¬ nI 7 = (2 : Int32) by decide), if_neg (show ¬ nI 7 = (3 : Int32) by decide), if_neg (show ¬ nI 7 = (4 : Int32) by decide), if_neg (show ¬ nI 7 = (5 : Int32) by decide), if_neg (show ¬ nI 7 = (6 : Int32) by decide), if_pos (show nI 7 = (7 : Int32) from rfl), if_neg (show ¬ nI 7 = (0 : Int32) by decide), if_neg (show ¬ nI 7 = (1 : Int32) by decide), if_neg (show ¬ nI 7 = (2 : Int32) by decide), if_neg (show ¬ nI 7 = (3 : Int32) by decide), if_neg (show ¬ nI 7 = (4 : Int32) by decide), if_neg (show ¬ nI 7 = (5 : Int32) by decide), if_neg (show ¬ nI 7 = (6 : Int32) by decide), if_pos (show nI 7 = (7 : Int32) from rfl)]
  · rw [if_neg (show ¬ nI 8 = (11 : Int32) by decide), if_neg (show ¬ nI 8 = (0 : Int32) by decide), if_neg (show ¬ nI 8 = (1 : Int32) by decide), if_neg (show ¬ nI 8 = (2 : Int32) by decide), if_neg (show ¬ nI 8 = (3 : Int32) by decide), if_neg (show ¬ nI 8 = (4 : Int32) by decide), if_neg (show ¬ nI 8 = (5 : Int32) by decide), if_neg (show ¬ nI 8 = (6 : Int32) by decide), if_neg (show ¬ nI 8 = (7 : Int32) by decide), if_pos (show nI 8 = (8 : Int32) from rfl), if_neg (show ¬ nI 8 = (0 : Int32) by decide), if_neg (show ¬ nI 8 = (1 : Int32) by decide), if_neg (show ¬ nI 8 = (2 : Int32) by decide), if_neg (show ¬ nI 8 = (3 : Int32) by decide), if_neg (show ¬ nI 8 = (4 : Int32) by decide), if_neg (show ¬ nI 8 = (5 : Int32) by decide), if_neg (show ¬ nI 8 = (6 : Int32) by decide), if_neg (show ¬ nI 8 = (7 : Int32) by decide), if_pos (show nI 8 = (8 : Int32) from rfl)]
  · rw [if_neg (show ¬ nI 9 = (11 : Int32) by decide), if_neg (show ¬ nI 9 = (0 : Int32) by decide), if_neg (show ¬ nI 9 = (1 : Int32) by decide), if_neg (show ¬ nI 9 = (2 : Int32) by decide), if_neg (show ¬ nI 9 = (3 : Int32) by decide), if_neg (show ¬ nI 9 = (4 : Int32) by decide), if_neg (show ¬ nI 9 = (5 : Int32) by decide), if_neg (show ¬ nI 9 = (6 : Int32) by decide), if_neg (show ¬ nI 9 = (7 : Int32) by decide), if_neg (show ¬ nI 9 = (8 : Int32) by decide), if_pos (show nI 9 = (9 : Int32) from rfl), if_neg (show ¬ nI 9 = (0 : Int32) by decide), if_neg (show ¬ nI 9 = (1 : Int32) by decide), if_neg (show ¬ nI 9 = (2 : Int32) by decide), if_neg (show ¬ nI 9 = (3 : Int32) by decide), if_neg (show ¬ nI 9 = (4 : Int32) by decide), if_neg (show ¬ nI 9 = (5 : Int32) by decide), if_neg (show ¬ nI 9 = (6 : Int32) by decide), if_neg (show ¬ nI 9 = (7 : Int32) by decide), if_neg (show ¬ nI 9 = (8 : Int32) by decide), if_pos (show nI 9 = (9 : Int32) from rfl)]
  · rw [if_neg (show ¬ nI 10 = (11 : Int32) by decide), if_neg (show ¬ nI 10 = (0 : Int32) by decide), if_neg (show ¬ nI 10 = (1 : Int32) by decide), if_neg (show ¬ nI 10 = (2 : Int32) by decide), if_neg (show ¬ nI 10 = (3 : Int32) by decide), if_neg (show ¬ nI 10 = (4 : Int32) by decide), if_neg (show ¬ nI 10 = (5 : Int32) by decide), if_neg (show ¬ nI 10 = (6 : Int32) by decide), if_neg (show ¬ nI 10 = (7 : Int32) by decide), if_neg (show ¬ nI 10 = (8 : Int32) by decide), if_neg (show ¬ nI 10 = (9 : Int32) by decide), if_neg (show ¬ nI 10 = (0 : Int32) by decide), if_neg (show ¬ nI 10 = (1 : Int32) by decide), if_neg (show ¬ nI 10 = (2 : Int32) by decide), if_neg (show ¬ nI 10 = (3 : Int32) by decide), if_neg (show ¬ nI 10 = (4 : Int32) by decide), if_neg (show ¬ nI 10 = (5 : Int32) by decide), if_neg (show ¬ nI 10 = (6 : Int32) by decide), if_neg (show ¬ nI 10 = (7 : Int32) by decide), if_neg (show ¬ nI 10 = (8 : Int32) by decide), if_neg (show ¬ nI 10 = (9 : Int32) by decide), if_pos (show nI 10 = (10 : Int32) from rfl)]
    exact b6.symm
  · rw [if_pos (show nI 11 = (11 : Int32) from rfl), if_neg (show ¬ nI 11 = (0 : Int32) by decide), if_neg (show ¬ nI 11 = (1 : Int32) by decide), if_neg (show ¬ nI 11 = (2 : Int32) by decide), if_neg (show ¬ nI 11 = (3 : Int32) by decide), if_neg (show ¬ nI 11 = (4 : Int32) by decide), if_neg (show ¬ nI 11 = (5 : Int32) by decide), if_neg (show ¬ nI 11 = (6 : Int32) by decide), if_neg (show ¬ nI 11 = (7 : Int32) by decide), if_neg (show ¬ nI 11 = (8 : Int32) by decide), if_neg (show ¬ nI 11 = (9 : Int32) by decide), if_neg (show ¬ nI 11 = (10 : Int32) by decide)]
    exact hs.symm
theorem S_count (h : Sim fl un u0 u1 sv x m) (p0 : Int32) : SimX (f_Xcount fl un ut u0 u1 sv x r p0) cdA (fun z => z) (fun _ => Sim fl un u0 u1 sv x) (Sim fl un u0 u1 sv x) (f_Mcount m p0) := by
  obtain ⟨n, h1, h2, h3⟩ := h.1
  unfold f_Xcount f_Mcount
  rw [XMin]
  by_cases c : f_Min p0 0 11 = true
  · rw [if_pos c, if_pos c]
    try dsimp only
    exact SimX_okp (L_count (m := upA m 8 0 0) h1 h2 h.2.1.2.2.1 c).symm upA_s (Sim_8 h 0)
  · rw [if_neg c, if_neg c]
    exact SimX_er (f8 _ _) (by decide) (Sim_f h _ _)
theorem L_setting {n : Nat} {u : BS} {f : Nat → Int32} (h1 : BR n u f) {p : Int32} (hp : f_Min p 0 2 = true) : f_settingValue u p = f p.toNatClampNeg := by
  unfold f_settingValue
  rcases Min012 hp with rfl | rfl | rfl
  · rw [if_pos rfl]
    exact h1.2.2.2.1.symm
  · rw [if_neg (by decide), if_pos rfl]
    exact h1.2.2.2.2.1.symm
  · rw [if_neg (by decide), if_neg (by decide)]
    exact h1.2.2.2.2.2.1.symm
theorem S_setting (h : Sim fl un u0 u1 sv x m) (p0 : Int32) : SimX (f_Xsetting fl un ut u0 u1 sv x r p0) cdI (fun z => z) (fun _ => Sim fl un u0 u1 sv x) (Sim fl un u0 u1 sv x) (f_Msetting m p0) := by
  obtain ⟨n, h1, h2, h3⟩ := h.1
  unfold f_Xsetting f_Msetting f_XisSetting
  rw [XMin]
  by_cases c : f_Min p0 0 2 = true
  · rw [if_pos c, if_pos c]
    try dsimp only
    exact SimX_okp (L_setting h1 c).symm upA_s (Sim_8 h 0)
  · rw [if_neg c, if_neg c]
    exact SimX_er (f8 _ _) (by decide) (Sim_f h _ _)
/-! what would be -/
theorem tries_M (m : BS) (p0 p1 : Int32) : f_Mtries m p0 p1 = upR m 1 (f_Msteps (upd (f_Mcopies (m 0) (m 1) 0 0) 1 p1) p0) := by
  unfold f_Mtries
  rw [upA_upR _ 1 1 p1, upR_s, upR_upR, upR_s, upR_upR]
theorem byRun_2 (m : BS) (p0 p1 p2 : Int32) : (f_MbyRunning m p0 p1 p2).2 = f_Mtries m p0 p1 := by
  unfold f_MbyRunning
  by_cases c0 : p2 = 0
  · rw [if_pos c0]
  · rw [if_neg c0]
    by_cases c1 : p2 = 1
    · rw [if_pos c1]
    · rw [if_neg c1]
      by_cases c2 : p2 = 2
      · rw [if_pos c2]
      · rw [if_neg c2]
        by_cases c3 : p2 = 3
        · rw [if_pos c3]
        · rw [if_neg c3]
theorem copies0 (f g : Nat → Int32) : ∀ j, j < 39 → f_Mcopies f g 0 0 j = f j := by
  intro j hj
  have := copies_in (f := f) g 0 0 hj
  rw [Nat.zero_add] at this
  exact this
theorem chg9 (C : BS) (v : Int32) : (f_changeSetting C (1 : Int32) v).2 = upA C 9 0 v := by
  unfold f_changeSetting
  rw [if_neg (show ¬ (1 : Int32) = 0 by decide), if_pos rfl]
theorem try_eq (p0 p1 : Int32) : f_XtryOut fl un ut u0 u1 sv x r p0 p1 = it p0.toNatClampNeg (f_XtryOut_L23 fl un ut u0 u1 sv x r p0 p1) (upA (f_copyFrom ut un) 9 0 p1) := by
  unfold f_XtryOut
  rw [chg9]
theorem BI_9 {n : Nat} {C : BS} (h : BI n C) {p1 : Int32} (hp : 0 ≤ p1.toInt ∧ p1.toInt ≤ 99) : BI n (upA C 9 0 p1) := by
  obtain ⟨i1, i2, i3, i4, i5⟩ := h
  exact ⟨i1, hp, i3, i4, i5⟩
theorem B_try2 {n : Nat} {C : BS} {g : Nat → Int32} (h1 : BR n C g) (h2 : BI n C) (p0 : Int32) {p1 : Int32} (hp : 0 ≤ p1.toInt ∧ p1.toInt ≤ 99) (c : Nat → BS → BS) (hc : ∀ j x, c j x = f_step x) : BR n (it p0.toNatClampNeg c (upA C 9 0 p1)) (f_Msteps (upd g 1 p1) p0) ∧ BI n (it p0.toNatClampNeg c (upA C 9 0 p1)) := by
  obtain ⟨q1, q2, -⟩ := B_steps (BR_sc9 h1 p1) (BI_9 h2 hp) p0 c hc
  exact ⟨q1, q2⟩
theorem L23 (p0 p1 : Int32) (j : Nat) (z : BS) : f_XtryOut_L23 fl un ut u0 u1 sv x r p0 p1 j z = f_step z := by
  unfold f_XtryOut_L23
  rfl
theorem B_try {n : Nat} (h1 : BR n un (m 0)) (h2 : BI n un) (p0 : Int32) {p1 : Int32} (hp : 0 ≤ p1.toInt ∧ p1.toInt ≤ 99) : BR n (f_XtryOut fl un ut u0 u1 sv x r p0 p1) (f_Mtries m p0 p1 1) ∧ BI n (f_XtryOut fl un ut u0 u1 sv x r p0 p1) := by
  rw [tries_M, upR_s, try_eq]
  obtain ⟨k1, k2⟩ := B_copy (u := ut) h1 h2
  exact B_try2 (BR_ext k1 (copies0 (m 0) (m 1))) k2 p0 hp _ (L23 p0 p1)
theorem L_out {n : Nat} (h1 : BR n un (m 0)) (h2 : BI n un) (p0 : Int32) {p1 : Int32} (hp : 0 ≤ p1.toInt ∧ p1.toInt ≤ 99) (p2 : Int32) (ut' : BS) (sv' : SS) (hu : ut' = f_XtryOut fl un ut u0 u1 sv x r p0 p1) : f_Xoutcome fl un ut' u0 u1 sv x r p2 = (f_MbyRunning m p0 p1 p2).1 := by
  obtain ⟨q1, q2⟩ := B_try (fl := fl) (ut := ut) (u0 := u0) (u1 := u1) (sv := sv) (x := x) (r := r) h1 h2 p0 hp
  rw [← hu] at q1 q2
  have e1 : (m 0) 5 = un 12 0 := h1.2.2.2.2.2.2.2.1
  have e2 := q1.2.2.2.2.2.2.2.1
  have e3 : (m 0) 6 = un 13 0 := h1.2.2.2.2.2.2.2.2.1
  have e4 := q1.2.2.2.2.2.2.2.2.1
  have e5 := B_order q1 q2
  have e6 := B_great q1 q2
  have e7 := B_going q1
  have e8 := B_Mgoing q1
  unfold f_Xoutcome f_MbyRunning f_allTicks f_stepsTogether
  rw [e1, e2, e3, e4, e5, e6, e7, e8]
  by_cases c0 : p2 = 0
  · rw [if_pos c0, if_pos c0]
  · rw [if_neg c0, if_neg c0]
    by_cases c1 : p2 = 1
    · rw [if_pos c1, if_pos c1]
    · rw [if_neg c1, if_neg c1]
      by_cases c2 : p2 = 2
      · rw [if_pos c2, if_pos c2]
      · rw [if_neg c2, if_neg c2]
        by_cases c3 : p2 = 3
        · rw [if_pos c3, if_pos c3]
        · rw [if_neg c3, if_neg c3]
theorem S_ifRun (h : Sim fl un u0 u1 sv x m) (p0 p1 p2 : Int32) : SimX (f_XifRun fl un ut u0 u1 sv x r p0 p1 p2) cdA (fun z => z.1) (fun _ => Sim fl un u0 u1 sv x) (Sim fl un u0 u1 sv x) (f_MifRun m p0 p1 p2) := by
  obtain ⟨n, h1, h2, h3⟩ := h.1
  unfold f_XifRun f_MifRun
  rw [XMin]
  by_cases c : f_Min p0 1 500 = true
  · rw [if_pos c, if_pos c]
    by_cases c2 : f_Min p1 0 99 = true
    · rw [if_pos c2, if_pos c2]
      by_cases c3 : f_Min p2 0 4 = true
      · rw [if_pos c3, if_pos c3]
        try dsimp only
        refine SimX_okp (L_out (m := upA m 8 0 0) h1 h2 p0 (Min_of c2) p2 _ sv rfl).symm ?_ ?_
        · rw [byRun_2, tries_M]
          rfl
        · rw [byRun_2, tries_M]
          exact Sim_1 (Sim_8 h 0) _
      · rw [if_neg c3, if_neg c3]
        exact SimX_er (f8 _ _) (by decide) (Sim_f h _ _)
    · rw [if_neg c2, if_neg c2]
      exact SimX_er (f8 _ _) (by decide) (Sim_f h _ _)
  · rw [if_neg c, if_neg c]
    exact SimX_er (f8 _ _) (by decide) (Sim_f h _ _)
theorem U_stop {n : Nat} {k : Nat} (hk : k < n) (ux : BS) : ∀ (N j : Nat) (y : BS) (Y : BS), BR n y (Y 1) → BI n y → (f_XstepsUntilStopped_R13 fl un ut u0 u1 sv x r (nI k) N j y).1 = (f_Muntil_R15 ux (nI k) N j Y).1 ∧ ∃ g, (f_Muntil_R15 ux (nI k) N j Y).2 = upR Y 1 g := by
  intro N
  induction N with
  | zero =>
    intro j y Y h1 h2
    exact ⟨rfl, Y 1, (upR_self Y 1).symm⟩
  | succ N ih =>
    intro j y Y h1 h2
    have hn := BR_n h1
    rw [f_XstepsUntilStopped_R13, f_Muntil_R15]
    have d : ¬ nI k = (-1 : Int32) := by
      intro e
      have h1 := congrArg Int32.toInt e
      rw [nI_toInt (by omega)] at h1
      have h2 : (-1 : Int32).toInt = -1 := by decide
      omega
    rw [if_neg d, B_goes' h1 hk, nI_clamp (by omega)]
    by_cases c : f_Mgoes (Y 1) k = true
    · rw [if_pos c, if_pos c]
      obtain ⟨k1, k2, -⟩ := B_step h1 h2
      obtain ⟨q1, g, q2⟩ := ih (j + 1) (f_step y) (upR Y 1 (f_Mstep (Y 1))) (by rw [upR_s]; exact k1) k2
      exact ⟨q1, g, by rw [q2, upR_upR]⟩
    · rw [if_neg c, if_neg c]
      exact ⟨rfl, Y 1, (upR_self Y 1).symm⟩
theorem U_step {n : Nat} (ux : BS) : ∀ (N j : Nat) (y : BS) (Y : BS), BR n y (Y 1) → BI n y → (f_XuntilStep_R13 fl un ut u0 u1 sv x r N j y).1 = (f_Muntil_R15 ux (-1) N j Y).1 ∧ ∃ g, (f_Muntil_R15 ux (-1) N j Y).2 = upR Y 1 g := by
  intro N
  induction N with
  | zero =>
    intro j y Y h1 h2
    exact ⟨rfl, Y 1, (upR_self Y 1).symm⟩
  | succ N ih =>
    intro j y Y h1 h2
    have hn := BR_n h1
    rw [f_XuntilStep_R13, f_Muntil_R15]
    rw [if_pos rfl, B_inStep h1 h2]
    by_cases c : f_MareInStep (Y 1) = true
    · rw [if_pos c, if_pos c]
      exact ⟨rfl, Y 1, (upR_self Y 1).symm⟩
    · rw [if_neg c, if_neg c]
      obtain ⟨k1, k2, -⟩ := B_step h1 h2
      obtain ⟨q1, g, q2⟩ := ih (j + 1) (f_step y) (upR Y 1 (f_Mstep (Y 1))) (by rw [upR_s]; exact k1) k2
      exact ⟨q1, g, by rw [q2, upR_upR]⟩
theorem L_stops {n : Nat} (h1 : BR n un (m 0)) (h2 : BI n un) {k : Nat} (hk : k < n) : (f_XstepsUntilStopped fl un ut u0 u1 sv x r (nI k)).1 = (f_Muntil m (nI k)).1 ∧ ∃ g, (f_Muntil m (nI k)).2 = upR m 1 g := by
  unfold f_XstepsUntilStopped f_Muntil
  obtain ⟨k1, k2⟩ := B_copy (u := ut) h1 h2
  obtain ⟨q1, g, q2⟩ := U_stop (fl := fl) (un := un) (ut := ut) (u0 := u0) (u1 := u1) (sv := sv) (x := x) (r := r) hk m 501 0 (f_copyFrom ut un) (upR m 1 (f_Mcopies (m 0) (m 1) 0 0)) (by rw [upR_s]; exact BR_ext k1 (copies0 _ _)) k2
  exact ⟨q1, g, by rw [q2, upR_upR]⟩
theorem L_until {n : Nat} (h1 : BR n un (m 0)) (h2 : BI n un) : (f_XuntilStep fl un ut u0 u1 sv x r).1 = (f_Muntil m (-1)).1 ∧ ∃ g, (f_Muntil m (-1)).2 = upR m 1 g := by
  unfold f_XuntilStep f_Muntil
  obtain ⟨k1, k2⟩ := B_copy (u := ut) h1 h2
  obtain ⟨q1, g, q2⟩ := U_step (fl := fl) (un := un) (ut := ut) (u0 := u0) (u1 := u1) (sv := sv) (x := x) (r := r) m 501 0 (f_copyFrom ut un) (upR m 1 (f_Mcopies (m 0) (m 1) 0 0)) (by rw [upR_s]; exact BR_ext k1 (copies0 _ _)) k2
  exact ⟨q1, g, by rw [q2, upR_upR]⟩
theorem S_until (h : Sim fl un u0 u1 sv x m) : (f_MuntilStep m).1 = (f_XuntilStep fl un ut u0 u1 sv x r).1 ∧ Sim fl un u0 u1 sv x (f_MuntilStep m).2 := by
  obtain ⟨n, h1, h2, h3⟩ := h.1
  obtain ⟨q1, g, q2⟩ := L_until (fl := fl) (ut := ut) (u0 := u0) (u1 := u1) (sv := sv) (x := x) (r := r) (m := upA m 8 0 0) h1 h2
  unfold f_MuntilStep
  refine ⟨q1.symm, ?_⟩
  show Sim fl un u0 u1 sv x (f_Muntil (upA m 8 0 0) (-1)).2
  rw [q2]
  exact Sim_1 (Sim_8 h 0) g
theorem S_stopsIn (h : Sim fl un u0 u1 sv x m) (p0 : Int32) : SimX (f_XstopsIn fl un ut u0 u1 sv x r p0) cdI (fun z => z.1) (fun _ => Sim fl un u0 u1 sv x) (Sim fl un u0 u1 sv x) (f_MstopsIn m p0) := by
  obtain ⟨n, h1, h2, h3⟩ := h.1
  unfold f_XstopsIn f_MstopsIn
  rw [isArm_has h1]
  by_cases c : f_has un p0 = true
  · rw [if_pos c, if_pos c]
    obtain ⟨k, hk, rfl⟩ := B_hasof h1 c
    obtain ⟨q1, g, q2⟩ := L_stops (fl := fl) (ut := ut) (u0 := u0) (u1 := u1) (sv := sv) (x := x) (r := r) (m := upA m 8 0 0) h1 h2 hk
    generalize f_XstepsUntilStopped fl un ut u0 u1 sv x r (nI k) = P at q1 ⊢
    generalize f_Muntil (upA m 8 0 0) (nI k) = Q at q1 q2 ⊢
    try dsimp only
    refine SimX_okp q1.symm ?_ ?_
    · rw [q2]
      rfl
    · rw [q2]
      exact Sim_1 (Sim_8 h 0) g
  · rw [if_neg c, if_neg c]
    exact SimX_er (f8 _ _) (by decide) (Sim_f h _ _)
theorem L_best {n : Nat} (h1 : BR n un (m 0)) (h2 : BI n un) (p0 : Int32) : (f_XstrengthOfGreatestOrder fl un ut u0 u1 sv x r p0).1 = (f_Mbest m p0).1 ∧ ∃ g, (f_Mbest m p0).2 = upR m 1 g := by
  unfold f_XstrengthOfGreatestOrder f_Mbest
  have key : (fun (_ : Nat) (a : Int32 × Int32 × BS) (b : Int32 × Int32 × BS) => a.1 = b.1 ∧ a.2.1 = b.2.1 ∧ ∃ g, b.2.2 = upR m 1 g) 20 (it 20 (f_XstrengthOfGreatestOrder_L7 fl un ut u0 u1 sv x r p0) ((0 : Int32), (-1 : Int32), ut)) (it 20 (f_Mbest_L7 m p0) ((0 : Int32), (-1 : Int32), m)) := by
    refine it_rel (fun (_ : Nat) (a : Int32 × Int32 × BS) (b : Int32 × Int32 × BS) => a.1 = b.1 ∧ a.2.1 = b.2.1 ∧ ∃ g, b.2.2 = upR m 1 g) ⟨rfl, rfl, m 1, (upR_self m 1).symm⟩ ?_
    rintro j ⟨a1, a2, a3⟩ ⟨b1, b2, b3⟩ hj ⟨e1, e2, g, e3⟩
    dsimp only at e1 e2 e3
    subst e1 e2 e3
    have hb : 0 ≤ (nI (5 * j)).toInt ∧ (nI (5 * j)).toInt ≤ 99 := by rw [nI_toInt (by omega)]; omega
    have h1' : BR n un (upR m 1 g 0) := by rw [upR_o (by decide)]; exact h1
    have k1 := L_out (fl := fl) (ut := a3) (u0 := u0) (u1 := u1) (sv := sv) (x := x) (r := r) (m := upR m 1 g) h1' h2 p0 hb 1 _ sv rfl
    unfold f_Xoutcome at k1
    rw [if_neg (show ¬ (1 : Int32) = 0 by decide), if_pos rfl] at k1
    unfold f_XstrengthOfGreatestOrder_L7 f_Mbest_L7
    dsimp only
    rw [k1, byRun_2]
    have k2 : ∃ g', f_Mtries (upR m 1 g) p0 (nI (5 * j)) = upR m 1 g' := ⟨_, by rw [tries_M, upR_upR]⟩
    by_cases c : (f_MbyRunning (upR m 1 g) p0 (nI (5 * j)) 1).1 ≤ a2
    · rw [if_pos c, if_pos c]
      exact ⟨rfl, rfl, k2⟩
    · rw [if_neg c, if_neg c]
      exact ⟨rfl, rfl, k2⟩
  dsimp only
  generalize it 20 (f_XstrengthOfGreatestOrder_L7 fl un ut u0 u1 sv x r p0) ((0 : Int32), (-1 : Int32), ut) = P at key ⊢
  generalize it 20 (f_Mbest_L7 m p0) ((0 : Int32), (-1 : Int32), m) = Q at key ⊢
  exact ⟨key.1, key.2.2⟩
theorem S_best (h : Sim fl un u0 u1 sv x m) (p0 : Int32) : SimX (f_XbestStrength fl un ut u0 u1 sv x r p0) cdA (fun z => z.1) (fun _ => Sim fl un u0 u1 sv x) (Sim fl un u0 u1 sv x) (f_MbestStrength m p0) := by
  obtain ⟨n, h1, h2, h3⟩ := h.1
  unfold f_XbestStrength f_MbestStrength
  rw [XMin]
  by_cases c : f_Min p0 1 300 = true
  · rw [if_pos c, if_pos c]
    obtain ⟨q1, g, q2⟩ := L_best (fl := fl) (ut := ut) (u0 := u0) (u1 := u1) (sv := sv) (x := x) (r := r) (m := upA m 8 0 0) h1 h2 p0
    generalize f_XstrengthOfGreatestOrder fl un ut u0 u1 sv x r p0 = P at q1 ⊢
    generalize f_Mbest (upA m 8 0 0) p0 = Q at q1 q2 ⊢
    try dsimp only
    refine SimX_okp q1.symm ?_ ?_
    · rw [q2]
      rfl
    · rw [q2]
      exact Sim_1 (Sim_8 h 0) g
  · rw [if_neg c, if_neg c]
    exact SimX_er (f8 _ _) (by decide) (Sim_f h _ _)
theorem L_far {n : Nat} (h1 : BR n un (m 0)) (h2 : BI n un) (p : Bool) : f_farthestOfGoing un p = f_Mfar m p := B_far h1 h2 p
theorem S_far (h : Sim fl un u0 u1 sv x m) (p : Bool) : (f_Mfarthest m p).1 = f_Xfarthest fl un ut u0 u1 sv x r p ∧ Sim fl un u0 u1 sv x (f_Mfarthest m p).2 := by
  obtain ⟨n, h1, h2, h3⟩ := h.1
  exact ⟨(L_far (m := upA m 8 0 0) h1 h2 p).symm, Sim_8 h 0⟩
theorem L_share {u : BS} (h : BZ u (m 0)) : f_shareTogether u = f_Mshare m := by
  obtain ⟨n, h1, h2, ⟨b1, b2, b3⟩⟩ := h
  have e4 : m 0 4 = u 11 0 := h1.2.2.2.2.2.2.1
  have e6 : m 0 6 = u 13 0 := h1.2.2.2.2.2.2.2.2.1
  unfold f_shareTogether f_Mshare
  rw [e4, e6]
  have z : (0 : Int32).toInt = 0 := by decide
  by_cases c : u 11 0 = 0
  · rw [if_pos c, if_pos (by rw [c]; decide)]
  · rw [if_neg c, if_neg]
    intro q
    have q1 := ti_le.mp q
    have q2 : (u 11 0).toInt = 0 := by omega
    exact c (Int32.toInt_inj.mp (by rw [q2, z]))
theorem S_share (h : Sim fl un u0 u1 sv x m) : (f_MtogetherShare m).1 = f_XtogetherShare fl un ut u0 u1 sv x r ∧ Sim fl un u0 u1 sv x (f_MtogetherShare m).2 :=
  ⟨(L_share (m := upA m 8 0 0) h.1).symm, Sim_8 h 0⟩
end SIML

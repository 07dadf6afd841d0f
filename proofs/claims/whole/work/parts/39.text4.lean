/-! MATH 10: play -/
section TXP
variable {fl : Nat → Int32} {un ut u0 u1 : BS} {sv : SS} {x r0 : BS} {m : BS}
theorem Told_cg {g g' : Nat → Int32} {r : BS} (h : ∀ w, w < 4 → g' w = g w) (ht : Told g r) : Told g' r := by
  unfold Told
  rw [h 0 (by omega), h 1 (by omega), h 2 (by omega), h 3 (by omega)]
  exact ht
theorem do_order {fl' : Nat → Int32} {ut' u0' u1' : BS} {sv' : SS} {x' : BS} {y r : BS} {Y : BS} {i : Nat} (hz : BZ y (Y 0)) (ht : Told (fun w => Y 12 (4 * i + w)) r) : (f_XdoOrder fl' y ut' u0' u1' sv' x' r).1 = (f_Mdoes Y i).1 ∧ BZ (f_XdoOrder fl' y ut' u0' u1' sv' x' r).2 ((f_Mdoes Y i).2 0) ∧ ∀ k, k ≠ 0 → (f_Mdoes Y i).2 k = Y k := by
  obtain ⟨n, h1, h2, h3⟩ := hz
  have hz : BZ y (Y 0) := ⟨n, h1, h2, h3⟩
  have hn := BR_n h1
  obtain ⟨t5, ht⟩ := ht
  unfold f_XdoOrder f_Mdoes f_Rkind f_Rbeat f_Rphase f_Rspring f_Rnumber
  rw [t5]
  show _ ∧ _ ∧ _
  rcases ht with ⟨g0, g1, g2, g3, g4, g5⟩ | ⟨g0, g1, g2⟩ | ⟨g0, g1⟩
  · have g0' : Y 12 (4 * i) = 109 := g0
    rw [if_pos (show (fun w => Y 12 (4 * i + w)) 0 = 109 from g0), if_pos g0', BR_3 h1]
    unfold f_isFull
    rw [h1.2.1]
    by_cases c4 : n = 6
    · subst c4
      rw [if_pos (by decide), if_pos (by decide)]
      exact ⟨rfl, hz, fun _ _ => rfl⟩
    · have c5 : n < 6 := by omega
      rw [if_neg (by rw [c_6, if_pos (nI_lt c5 (by omega))]; decide), if_neg (by rw [c_6, nI_eq (by omega) (by omega)]; exact c4)]
      rw [comes_M Y n (BR_3 h1), g1, g2, g3]
      refine ⟨rfl, ?_, fun k hk => upR_o hk⟩
      show BZ _ (upR Y 0 _ 0)
      rw [upR_s]
      exact (B_add h1 h2 h3 c5 g4 g5).2
  · have g0' : Y 12 (4 * i) = 115 := g0
    rw [if_neg (show ¬ (fun w => Y 12 (4 * i + w)) 0 = 109 by rw [g0]; decide), if_neg (show ¬ Y 12 (4 * i) = 109 by rw [g0']; decide), if_pos (show (fun w => Y 12 (4 * i + w)) 0 = 115 from g0), if_pos g0', g1]
    have te : f_MmayRun Y (Y 12 (4 * i + 1)) = f_hasTimeFor y (Y 12 (4 * i + 1)) := by
      unfold f_MmayRun f_hasTimeFor
      have e4 : Y 0 4 = y 11 0 := h1.2.2.2.2.2.2.1
      rw [e4]
    rw [te]
    show (if f_hasTimeFor y (Y 12 (4 * i + 1)) = true then (true, (f_letGoBy y (Y 12 (4 * i + 1))).2) else (false, y)).1 = _ ∧ BZ (if f_hasTimeFor y (Y 12 (4 * i + 1)) = true then (true, (f_letGoBy y (Y 12 (4 * i + 1))).2) else (false, y)).2 _ ∧ _
    by_cases c : f_hasTimeFor y (Y 12 (4 * i + 1)) = true
    · rw [if_pos c, if_pos c]
      refine ⟨rfl, ?_, fun k hk => upR_o hk⟩
      show BZ _ (upR Y 0 _ 0)
      rw [upR_s]
      refine (B_run h1 h2 h3 ?_ (time_of c)).2
      have q : 1 ≤ (Y 12 (4 * i + 1)).toInt ∧ (Y 12 (4 * i + 1)).toInt ≤ 500 := g2
      omega
    · rw [if_neg c, if_neg c]
      exact ⟨rfl, hz, fun _ _ => rfl⟩
  · have g0' : Y 12 (4 * i) = 104 := g0
    rw [if_neg (show ¬ (fun w => Y 12 (4 * i + w)) 0 = 109 by rw [g0]; decide), if_neg (show ¬ Y 12 (4 * i) = 109 by rw [g0']; decide), if_neg (show ¬ (fun w => Y 12 (4 * i + w)) 0 = 115 by rw [g0]; decide), if_neg (show ¬ Y 12 (4 * i) = 115 by rw [g0']; decide), g1]
    have te : f_MisArm Y (Y 12 (4 * i + 1)) = f_has y (Y 12 (4 * i + 1)) := (B_has h1 _).symm
    rw [te]
    show (if f_has y (Y 12 (4 * i + 1)) = true then (true, (f_holdOrLetGo y (Y 12 (4 * i + 1))).2) else (false, y)).1 = _ ∧ BZ (if f_has y (Y 12 (4 * i + 1)) = true then (true, (f_holdOrLetGo y (Y 12 (4 * i + 1))).2) else (false, y)).2 _ ∧ _
    by_cases c : f_has y (Y 12 (4 * i + 1)) = true
    · rw [if_pos c, if_pos c]
      obtain ⟨k, hk, ek⟩ := B_hasof h1 c
      rw [ek, nI_clamp (by omega)]
      unfold f_Mholds
      rw [upA_upR]
      refine ⟨rfl, ?_, fun k hk => upR_o hk⟩
      show BZ _ (upR Y 0 _ 0)
      rw [upR_s]
      exact (B_hold h1 h2 h3 hk).2
    · rw [if_neg c, if_neg c]
      exact ⟨rfl, hz, fun _ _ => rfl⟩
theorem pe_mid {y : BS} {S : SS} {t : Nat} (h1 : x 1 0 = nI t) (ht : t ≤ 60) {q : Nat} (hq : q < t) {r : BS} (h2 : (f_Rreads r (x 0 q)).1 = true) (h3 : ¬ x 0 q = 59) : f_XreadsEndOfOrder fl y ut u0 u1 S x r (nI q) = (false, (f_Rreads r (x 0 q)).2) := by
  unfold f_XreadsEndOfOrder
  rw [sign_N h1 ht hq, if_neg (show ¬ f_Tsize x ≤ nI q by unfold f_Tsize; rw [h1]; exact nI_ge hq (by omega)), if_pos h2, if_neg h3]
theorem pe_end {y : BS} {S : SS} {t : Nat} (h1 : x 1 0 = nI t) (ht : t ≤ 60) {e : Nat} {r r'' : BS} (h2 : f_Rreads r 59 = (true, r'')) (h3 : e = t ∨ (e < t ∧ x 0 e = 59)) : f_XreadsEndOfOrder fl y ut u0 u1 S x r (nI e) = (true, r'') := by
  unfold f_XreadsEndOfOrder
  rcases h3 with rfl | ⟨h3, h4⟩
  · rw [if_pos (show f_Tsize x ≤ nI e by unfold f_Tsize; rw [h1]; exact Int32.le_refl _), h2]
    rfl
  · rw [if_neg (show ¬ f_Tsize x ≤ nI e by unfold f_Tsize; rw [h1]; exact nI_ge h3 (by omega)), sign_N h1 ht h3, h4, h2]
    rfl
theorem play_R {t : Nat} (h1 : x 1 0 = nI t) (ht : t ≤ 60) : ∀ (c q k : Nat) (d : Int32) (y r r' : BS), Rd x c q r r' → q + c ≤ t → (∀ j, q ≤ j → j < q + c → ¬ x 0 j = 59) → f_Xplay_R41 fl un ut u0 u1 sv x r0 (c + k) q d true y r = f_Xplay_R41 fl un ut u0 u1 sv x r0 k (q + c) d true y r'
  | 0, q, k, d, y, r, r', h, hq, _ => by
    have e : r' = r := h
    rw [e, Nat.zero_add, Nat.add_zero]
  | c + 1, q, k, d, y, r, r', h, hq, hn => by
    rw [show c + 1 + k = (c + k) + 1 by omega, f_Xplay_R41, if_pos rfl, pe_mid h1 ht (by omega) h.1 (hn q (by omega) (by omega)), if_neg (show ¬ false = true by decide), play_R h1 ht c (q + 1) k d y _ r' h.2 (by omega) (fun j j1 j2 => hn j (by omega) (by omega)), show q + 1 + c = q + (c + 1) by omega]
theorem play_stop (k j : Nat) (d : Int32) (y r : BS) : f_Xplay_R41 fl un ut u0 u1 sv x r0 k j d false y r = .ok (d, y, f_Spush sv.1 sv.2.1 sv.2.2 un, (f_Tempty x).2, r) := by
  cases k with
  | zero => rw [f_Xplay_R41]
  | succ k => rw [f_Xplay_R41, if_neg (by decide)]
theorem play_main {t : Nat} (hT : TT x t) (h1 : x 1 0 = nI t) (g : Nat → Int32) (ux : BS) : ∀ (c i p : Nat) (y Y r : BS), Chain x t g c i p → Y 12 = g → BZ y (Y 0) → r 0 0 = 0 → p ≤ t → ∃ y' r', f_Xplay_R41 fl un ut u0 u1 sv x r0 (t + 1 - p) p (nI i) true y r = .ok ((f_Mplay_R29 ux c i Y).1, y', f_Spush sv.1 sv.2.1 sv.2.2 un, (f_Tempty x).2, r') ∧ BZ y' ((f_Mplay_R29 ux c i Y).2 0) ∧ ∀ k, k ≠ 0 → (f_Mplay_R29 ux c i Y).2 k = Y k := by
  intro c
  induction c with
  | zero => intro i p y Y r h; exact absurd h (fun q => q)
  | succ c ih =>
    intro i p y Y r h hg hz hr hp
    have ht := hT.1
    obtain ⟨Z, z1, z2, z3, z4, e, z5, z6, z7, z8, z9⟩ := h
    have hT' := hT
    rcases order_spec hT z1 z2 z3 hr with ⟨_, hM, e', r1, a1, a2, a3, a4, a5, a6, a7, ⟨r2, b1, b2, b3⟩, a9⟩ | hF
    · obtain rfl : e' = e := by
        have := a6.symm.trans z5
        rw [nI_eq (by omega) (by omega)] at this
        exact this
      have hte : e' = t ∨ (e' < t ∧ x 0 e' = 59) := by
        rcases z9 with q | q
        · exact .inl q.2
        · exact .inr ⟨q.2.1, q.2.2.1⟩
      have walk := play_R (fl := fl) (un := un) (ut := ut) (u0 := u0) (u1 := u1) (sv := sv) (r0 := r0) h1 ht (e' - p) p (t - e' + 1) (nI i) y r r1 a3 (by omega) (fun j j1 j2 => a4 j j1 (by omega))
      rw [show e' - p + (t - e' + 1) = t + 1 - p by omega, show p + (e' - p) = e' by omega] at walk
      have told : Told (fun w => Y 12 (4 * i + w)) r2 := Told_cg (fun w hw => by rw [hg]; exact z8 w hw) b3
      obtain ⟨d1, d2, d3⟩ := do_order (fl' := fl) (ut' := ut) (u0' := u0) (u1' := u1) (sv' := f_Spush sv.1 sv.2.1 sv.2.2 un) (x' := x) hz told
      rw [walk, f_Xplay_R41, if_pos rfl, pe_end h1 ht b1 hte, if_pos rfl, d1, f_Mplay_R29]
      generalize f_XdoOrder fl y ut u0 u1 (f_Spush sv.1 sv.2.1 sv.2.2 un) x (true, r2).2 = D at d1 d2 ⊢
      by_cases able : (f_Mdoes Y i).1 = true
      · rw [if_pos able, if_pos able, able, nI_1]
        rcases z9 with ⟨q1, q2⟩ | ⟨q1, q2, q3, q4⟩
        · subst q1 q2
          rw [Nat.sub_self, f_Xplay_R41, f_Mplay_R29]
          exact ⟨_, _, rfl, d2, d3⟩
        · obtain ⟨y', r', k1, k2, k3⟩ := ih (i + 1) (e' + 1) D.2 (f_Mdoes Y i).2 r2 q4 (by rw [d3 12 (by omega)]; exact hg) d2 b2 (by omega)
          rw [show t - e' = t + 1 - (e' + 1) by omega]
          exact ⟨y', r', k1, k2, fun k hk => (k3 k hk).trans (d3 k hk)⟩
      · have able' : (f_Mdoes Y i).1 = false := by
          cases h : (f_Mdoes Y i).1
          · rfl
          · exact absurd h able
        rw [if_neg able, if_neg able, able', play_stop, Int32.add_zero]
        exact ⟨_, _, rfl, d2, d3⟩
    · rw [hF.1] at z4
      cases z4
theorem S_play (h : Sim fl un u0 u1 sv x m) : SimX (f_Xplay fl un ut u0 u1 sv x r0) cdA (fun z => z.1) (fun z => Sim fl z.2.1 u0 u1 z.2.2.1 z.2.2.2.1) (Sim fl un u0 u1 sv x) (f_Mplay m) := by
  obtain ⟨t, hT, e1, e7, e6⟩ := TX_TT h.2.2.2.2.2
  have ht := hT.1
  obtain ⟨k1, k2⟩ := text_spec hT (Y := upA m 8 0 0) (r := f_RbeginText r0) e7 e6 (begin_0 r0)
  have k0 : KT (upA m 8 0 0) (f_MisText (upA m 8 0 0)).2 := KT.tr (KT0 _) k1
  obtain ⟨t1, t2⟩ := tells (fl := fl) (un := un) (ut := ut) (u0 := u0) (u1 := u1) (sv := sv) (r0 := r0) e1 ht rfl
  unfold f_Xplay f_Mplay
  have hS := Sim_kt (Sim_8 h 0) k0
  have h8 : (f_MisText (upA m 8 0 0)).2 8 0 = 0 := by
    rw [k0 8 (by omega) (by omega) (by omega) (by omega) (by omega)]
    exact upA_s
  generalize f_MisText (upA m 8 0 0) = M at k1 k2 k0 hS h8 ⊢
  rcases k2 with ⟨m1, -, c, c1, c2, c3, r', d4, d5⟩ | ⟨m1, p', r', -, d2, d3, d4, d5, d6, d7⟩
  · rw [if_pos (t1 r' d4 d5), if_pos m1, c1, Nat.zero_add, nI_clamp (by omega), show (f_Tsize x).toNatClampNeg = t by unfold f_Tsize; rw [e1, nI_clamp (by omega)]]
    rw [Nat.zero_add] at c1 c2
    have hz : BZ un (upA (f_Msaves M.2) 7 0 0 0) := by
      rw [upA_o (by decide), Msaves_o _ (by decide) (by decide)]
      exact hS.1
    have h12 : upA (f_Msaves M.2) 7 0 0 12 = M.2 12 := by
      rw [upA_o (by decide), Msaves_o _ (by decide) (by decide)]
    obtain ⟨y', r1, q1, q2, q3⟩ := play_main (fl := fl) (un := un) (ut := ut) (u0 := u0) (u1 := u1) (sv := sv) (r0 := r0) hT e1 (M.2 12) m c 0 0 un (upA (f_Msaves M.2) 7 0 0) (f_RbeginText (f_XtellsBench fl un ut u0 u1 sv x r0).2) c3 h12 hz (begin_0 _) (Nat.zero_le _)
    rw [Nat.sub_zero, show nI 0 = (0 : Int32) from rfl] at q1
    rw [q1]
    refine SimX_ok rfl ?_ ?_
    · rw [q3 8 (by omega), upA_o (by decide), Msaves_o _ (by decide) (by decide)]
      exact h8
    · obtain ⟨s1, s2, s3, s4, s5, s6⟩ := Sim_save hS
      unfold Sim TX
      dsimp only
      rw [q3 2 (by omega), q3 3 (by omega), q3 4 (by omega), q3 5 (by omega), q3 6 (by omega), q3 7 (by omega)]
      refine ⟨q2, s2, s3, s4, s5, 0, by omega, rfl, rfl, fun j hj => absurd hj (Nat.not_lt_zero _)⟩
  · rw [if_neg (by rw [t2 p' r' d2 d3 d6 d7]; decide), if_neg (by rw [m1]; decide)]
    exact SimX_er rfl (by decide) hS
end TXP

/-! MATH 2: the two that are apart most; in step -/
section BR2
variable {n : Nat} {u : BS} {f : Nat → Int32}
theorem c_8 : (8 : Int32) = nI 8 := rfl
theorem most_body (h : BR n u f) {i j : Nat} (hj : i + 1 + j < 6) (x : Int32) : f_Mmost_L4 f (i * 6 + (i + 1 + j)) x = (if i + 1 + j < n then (if f_Mgoes f i = true then (if f_Mgoes f (i + 1 + j) = true then (if x = (-1 : Int32) then (nI (8 * i + (i + 1 + j))) else if (f_MapartBy f i (i + 1 + j)) ≤ (f_MapartBy f ((x / (8 : Int32)).toNatClampNeg) ((x - x / (8 : Int32) * (8 : Int32)).toNatClampNeg)) then x else nI (8 * i + (i + 1 + j))) else x) else x) else x) := by
  have hn := BR_n h
  have e1 : (i * 6 + (i + 1 + j)) / 6 = i := by omega
  have e2 : (i * 6 + (i + 1 + j)) % 6 = i + 1 + j := by omega
  unfold f_Mmost_L4
  rw [e1, e2, h.2.2.1, if_neg (nI_ge (by omega) (by omega))]
  by_cases hk : i + 1 + j < n
  · rw [if_neg (nI_ge hk (by omega)), if_pos hk]
  · rw [if_pos (nI_le (by omega) (by omega)), if_neg hk]
theorem most_skip (h : BR n u f) {i j : Nat} (hi : i < 6) (hj : j < i + 1) (x : Int32) : f_Mmost_L4 f (i * 6 + j) x = x := by
  have e1 : (i * 6 + j) / 6 = i := by omega
  have e2 : (i * 6 + j) % 6 = j := by omega
  unfold f_Mmost_L4
  rw [e1, e2, if_pos (nI_le (by omega) (by omega))]
theorem most_it (h : BR n u f) : f_Mmost f = it 6 (fun i x => it (6 - (i + 1)) (fun j => f_Mmost_L4 f (i * 6 + (i + 1 + j))) x) (-1 : Int32) := by
  unfold f_Mmost
  rw [show 36 = 6 * 6 from rfl, it_mul]
  refine it_cong ?_ _
  intro i hi x
  have e : it 6 (fun j => f_Mmost_L4 f (i * 6 + j)) x = it ((i + 1) + (6 - (i + 1))) (fun j => f_Mmost_L4 f (i * 6 + j)) x := by
    rw [show (i + 1) + (6 - (i + 1)) = 6 by omega]
  rw [e, it_plus, it_id (fun j hj x => most_skip h hi hj x)]
theorem code_a {a b : Nat} (hb : b < 6) (ha : a < 6) : (nI (8 * a + b) / (8 : Int32)).toNatClampNeg = a := by
  rw [c_8, pk_div (by omega) (by omega) (by omega), nI_clamp (by omega)]
  omega
theorem code_b {a b : Nat} (hb : b < 6) (ha : a < 6) : (nI (8 * a + b) - nI (8 * a + b) / (8 : Int32) * (8 : Int32)).toNatClampNeg = b := by
  rw [c_8, pk_rem (by omega) (by omega) (by omega), nI_clamp (by omega)]
  omega
theorem code_ne {a b : Nat} (hb : b < 6) (ha : a < 6) : ¬ nI (8 * a + b) = (-1 : Int32) := by
  intro e
  have h1 := congrArg Int32.toInt e
  rw [nI_toInt (by omega)] at h1
  have h2 : (-1 : Int32).toInt = -1 := by decide
  omega
/-- what the walk over the pairs keeps: class's answer x beside the reference's y -/
def GP (n : Nat) (f : Nat → Int32) (x y : Int32) : Prop := (x = 0 ∧ y = -1) ∨ ∃ a b, a < b ∧ b < n ∧ y = nI (8 * a + b) ∧ x = f_MapartBy f a b
theorem great_GP (h : BR n u f) (hi : BI n u) : GP n f (f_greatestDistance u) (f_Mmost f) := by
  have hn := BR_n h
  rw [most_it h]
  unfold f_greatestDistance
  refine it_rel (fun _ x y => GP n f x y) (.inl ⟨rfl, rfl⟩) ?_
  intro i x y hi6 hP
  unfold f_greatestDistance_L4
  refine it_rel (fun _ x y => GP n f x y) hP ?_
  intro j x' y' hj hP'
  have hj6 : i + 1 + j < 6 := by omega
  show GP n f (f_greatestDistance_L14 u i x j x') (f_Mmost_L4 f (i * 6 + (i + 1 + j)) y')
  rw [most_body h hj6]
  unfold f_greatestDistance_L14
  rw [B_goes h hi6, B_goes h hj6]
  by_cases hk : i + 1 + j < n
  · have hin : i < n := by omega
    rw [if_pos hk, if_pos hk, if_pos hin]
    by_cases g1 : f_Mgoes f i = true
    · rw [if_pos g1, if_pos g1]
      by_cases g2 : f_Mgoes f (i + 1 + j) = true
      · rw [if_pos g2, if_pos g2, B_dist h hi hin hk]
        obtain ⟨d, hd, ed⟩ := B_apb h hi hin hk
        rcases hP' with ⟨rfl, rfl⟩ | ⟨a, b, hab, hb, rfl, rfl⟩
        · rw [if_pos rfl]
          refine .inr ⟨i, i + 1 + j, by omega, hk, rfl, ?_⟩
          rw [ed]
          unfold jmax
          by_cases hz : (0 : Int32) < nI d
          · rw [if_pos hz]
          · rw [if_neg hz]
            have : d = 0 := by
              rcases Nat.eq_zero_or_pos d with z | z
              · exact z
              · exact absurd (nI_lt (a := 0) (b := d) z (by omega)) hz
            rw [this]; rfl
        · obtain ⟨d2, hd2, ed2⟩ := B_apb h hi (show a < n by omega) hb
          rw [if_neg (code_ne (by omega) (by omega)), code_a (by omega) (by omega), code_b (by omega) (by omega), ed, ed2]
          unfold jmax
          by_cases hz : d ≤ d2
          · rw [if_pos (nI_le hz (by omega)), if_neg (nI_nlt hz (by omega))]
            exact .inr ⟨a, b, hab, hb, rfl, ed2.symm⟩
          · rw [if_neg (nI_ge (by omega) (by omega)), if_pos (nI_lt (by omega) (by omega))]
            exact .inr ⟨i, i + 1 + j, by omega, hk, rfl, ed.symm⟩
      · rw [if_neg g2, if_neg g2]; exact hP'
    · rw [if_neg g1, if_neg g1]; exact hP'
  · rw [if_neg hk, if_neg hk, if_neg (show ¬ false = true by decide)]
    by_cases hx : (if i < n then f_Mgoes f i else false) = true
    · rw [if_pos hx]; exact hP'
    · rw [if_neg hx]; exact hP'
theorem B_great (h : BR n u f) (hi : BI n u) : f_greatestDistance u = f_Mgreatest f := by
  have hn := BR_n h
  unfold f_Mgreatest
  rcases great_GP h hi with ⟨h1, h2⟩ | ⟨a, b, hab, hb, h1, h2⟩
  · rw [if_pos h2, h1]
  · rw [h1, if_neg (code_ne (by omega) (by omega)), code_a (by omega) (by omega), code_b (by omega) (by omega), h2]
def FP2 (n : Nat) (f : Nat → Int32) (p : Bool) (x : Int32 × Int32) (y : Int32) : Prop := (x = (-1, -1) ∧ y = -1) ∨ ∃ a b, a < b ∧ b < n ∧ y = nI (8 * a + b) ∧ x = (f_MapartBy f a b, if p = true then nI b else nI a)
theorem far_FP (h : BR n u f) (hi : BI n u) (p : Bool) : FP2 n f p (it 6 (f_farthestOfGoing_L7 u p) ((-1 : Int32), (-1 : Int32))) (f_Mmost f) := by
  have hn := BR_n h
  rw [most_it h]
  refine it_rel (fun _ x y => FP2 n f p x y) (.inl ⟨rfl, rfl⟩) ?_
  intro i x y hi6 hP
  unfold f_farthestOfGoing_L7
  show FP2 n f p (it (6 - (i + 1)) (f_farthestOfGoing_L20 u p i x) x) _
  refine it_rel (fun _ x y => FP2 n f p x y) hP ?_
  intro j x' y' hj hP'
  have hj6 : i + 1 + j < 6 := by omega
  show FP2 n f p (f_farthestOfGoing_L20 u p i x j x') (f_Mmost_L4 f (i * 6 + (i + 1 + j)) y')
  rw [most_body h hj6]
  unfold f_farthestOfGoing_L20
  rw [B_goes h hi6, B_goes h hj6]
  by_cases hk : i + 1 + j < n
  · have hin : i < n := by omega
    rw [if_pos hk, if_pos hk, if_pos hin]
    by_cases g1 : f_Mgoes f i = true
    · rw [if_pos g1, if_pos g1]
      by_cases g2 : f_Mgoes f (i + 1 + j) = true
      · rw [if_pos g2, if_pos g2, B_dist h hi hin hk]
        obtain ⟨d, hd, ed⟩ := B_apb h hi hin hk
        rcases hP' with ⟨rfl, rfl⟩ | ⟨a, b, hab, hb, rfl, rfl⟩
        · rw [if_pos rfl]
          have hz : ¬ f_MapartBy f i (i + 1 + j) ≤ (-1, -1).1 := by
            rw [ed]
            intro hz
            have h1 := ti_le.mp hz
            rw [nI_toInt (by omega)] at h1
            have h2 : ((-1 : Int32), (-1 : Int32)).1.toInt = -1 := by decide
            omega
          rw [if_neg hz]
          refine .inr ⟨i, i + 1 + j, by omega, hk, rfl, ?_⟩
          cases p
          · rw [if_neg (by decide), if_neg (by decide)]
          · rw [if_pos rfl, if_pos rfl]
        · obtain ⟨d2, hd2, ed2⟩ := B_apb h hi (show a < n by omega) hb
          rw [if_neg (code_ne (by omega) (by omega)), code_a (by omega) (by omega), code_b (by omega) (by omega)]
          by_cases hz : f_MapartBy f i (i + 1 + j) ≤ f_MapartBy f a b
          · rw [if_pos hz, if_pos hz]
            exact .inr ⟨a, b, hab, hb, rfl, rfl⟩
          · rw [if_neg hz, if_neg hz]
            refine .inr ⟨i, i + 1 + j, by omega, hk, rfl, ?_⟩
            cases p
            · rw [if_neg (by decide), if_neg (by decide)]
            · rw [if_pos rfl, if_pos rfl]
      · rw [if_neg g2, if_neg g2]; exact hP'
    · rw [if_neg g1, if_neg g1]; exact hP'
  · rw [if_neg hk, if_neg hk, if_neg (show ¬ false = true by decide)]
    by_cases hx : (if i < n then f_Mgoes f i else false) = true
    · rw [if_pos hx]; exact hP'
    · rw [if_neg hx]; exact hP'
theorem B_far (h : BR n u f) (hi : BI n u) (p : Bool) : f_farthestOfGoing u p = if (f_Mmost f) = (-1 : Int32) then (-1 : Int32) else if p = true then ((f_Mmost f) - (f_Mmost f) / (8 : Int32) * (8 : Int32)) else (f_Mmost f) / (8 : Int32) := by
  have hn := BR_n h
  unfold f_farthestOfGoing
  rcases far_FP h hi p with ⟨h1, h2⟩ | ⟨a, b, hab, hb, h1, h2⟩
  · rw [if_pos h2, h1]
  · rw [h1, if_neg (code_ne (by omega) (by omega)), h2, c_8, pk_rem (by omega) (by omega) (by omega), pk_div (by omega) (by omega) (by omega), show (8 * a + b) % 8 = b by omega, show (8 * a + b) / 8 = a by omega]
/-- none is found just where fewer than two go -/
def NP (n : Nat) (f : Nat → Int32) (S : Nat → Nat → Prop) (y : Int32) : Prop := (y = -1 ∨ ∃ a b, a < b ∧ b < n ∧ f_Mgoes f a = true ∧ f_Mgoes f b = true ∧ y = nI (8 * a + b)) ∧ (∀ a b, S a b → a < b → b < n → f_Mgoes f a = true → f_Mgoes f b = true → ¬ y = -1)
theorem most_NP (h : BR n u f) : NP n f (fun a _ => a < 6) (f_Mmost f) := by
  have hn := BR_n h
  rw [most_it h]
  refine it_inv (fun i y => NP n f (fun a _ => a < i) y) ⟨.inl rfl, fun a b h1 => absurd h1 (Nat.not_lt_zero _)⟩ ?_
  intro i y hi6 hP
  have key : NP n f (fun a b => a < i ∨ (a = i ∧ b < i + 1 + (6 - (i + 1)))) (it (6 - (i + 1)) (fun j => f_Mmost_L4 f (i * 6 + (i + 1 + j))) y) := by
    refine it_inv (fun j y => NP n f (fun a b => a < i ∨ (a = i ∧ b < i + 1 + j)) y) ⟨hP.1, ?_⟩ ?_
    · intro a b h1 h2 h3
      rcases h1 with h1 | ⟨h1, h4⟩
      · exact hP.2 a b h1 h2 h3
      · omega
    · intro j y' hj hP'
      have hj6 : i + 1 + j < 6 := by omega
      show NP n f _ (f_Mmost_L4 f (i * 6 + (i + 1 + j)) y')
      rw [most_body h hj6]
      have old : ∀ {z : Int32}, z = y' → (¬ (i + 1 + j < n) ∨ ¬ f_Mgoes f i = true ∨ ¬ f_Mgoes f (i + 1 + j) = true ∨ ¬ y' = -1) → NP n f (fun a b => a < i ∨ (a = i ∧ b < i + 1 + (j + 1))) z := by
        rintro z rfl hor
        refine ⟨hP'.1, ?_⟩
        intro a b h1 h2 h3 g1 g2
        by_cases he : a = i ∧ b = i + 1 + j
        · obtain ⟨rfl, rfl⟩ := he
          rcases hor with q | q | q | q
          · exact absurd h3 q
          · exact absurd g1 q
          · exact absurd g2 q
          · exact q
        · refine hP'.2 a b ?_ h2 h3 g1 g2
          rcases h1 with h1 | ⟨h1, h4⟩
          · exact .inl h1
          · exact .inr ⟨h1, by omega⟩
      by_cases hk : i + 1 + j < n
      · rw [if_pos hk]
        by_cases g1 : f_Mgoes f i = true
        · rw [if_pos g1]
          by_cases g2 : f_Mgoes f (i + 1 + j) = true
          · rw [if_pos g2]
            have new : NP n f (fun a b => a < i ∨ (a = i ∧ b < i + 1 + (j + 1))) (nI (8 * i + (i + 1 + j))) :=
              ⟨.inr ⟨i, i + 1 + j, by omega, hk, g1, g2, rfl⟩, fun _ _ _ _ _ _ _ => code_ne (by omega) (by omega)⟩
            by_cases hz : y' = -1
            · rw [if_pos hz]; exact new
            · rw [if_neg hz]
              by_cases hw : (f_MapartBy f i (i + 1 + j)) ≤ (f_MapartBy f ((y' / (8 : Int32)).toNatClampNeg) ((y' - y' / (8 : Int32) * (8 : Int32)).toNatClampNeg))
              · rw [if_pos hw]; exact old rfl (.inr (.inr (.inr hz)))
              · rw [if_neg hw]; exact new
          · rw [if_neg g2]; exact old rfl (.inr (.inr (.inl g2)))
        · rw [if_neg g1]; exact old rfl (.inr (.inl g1))
      · rw [if_neg hk]; exact old rfl (.inl hk)
  refine ⟨key.1, fun a b h1 h2 h3 => key.2 a b ?_ h2 h3⟩
  rcases Nat.lt_or_ge a i with q | q
  · exact .inl q
  · exact .inr ⟨by omega, by omega⟩
theorem B_inStep (h : BR n u f) (hi : BI n u) : f_isInStep u = f_MareInStep f := by
  have hn := BR_n h
  have hc := cnt_le (f := f) n
  unfold f_isInStep f_MareInStep
  rw [B_going h, B_great h hi, h.2.2.2.2.2.1]
  rcases most_NP h with ⟨h1 | ⟨a, b, hab, hb, g1, g2, h1⟩, h2⟩
  · have h3 : cnt f n ≤ 1 := cnt_lt2 n (fun i k hik hk gi gk => h2 i k (by omega) hik hk gi gk h1)
    rw [if_pos h1, if_pos (by rw [show (2 : Int32) = nI 2 from rfl]; exact nI_lt (by omega) (by omega))]
  · have h3 : 2 ≤ cnt f n := cnt_two n a b hab hb g1 g2
    rw [if_neg (show ¬ f_Mmost f = -1 by rw [h1]; exact code_ne (by omega) (by omega)), if_neg (show ¬ nI (cnt f n) < 2 by rw [show (2 : Int32) = nI 2 from rfl]; exact nI_nlt h3 (by omega))]
end BR2

/-! doubles: a share of two ints is no NaN -/
theorem n64_of {a : UInt64} (h : Jvm.FP.Core.val64 a ≠ .nan) : vf_n64 a := by
  unfold vf_n64
  rw [UInt64.le_iff_toNat_le]
  rcases Nat.lt_or_ge (0x7ff0000000000000 : UInt64).toNat (a &&& 0x7fffffffffffffff).toNat with q | q
  · exfalso
    apply h
    rw [UInt64.toNat_and, show (0x7fffffffffffffff : UInt64).toNat = 2 ^ 63 - 1 from rfl, Nat.and_two_pow_sub_one_eq_mod, show (0x7ff0000000000000 : UInt64).toNat = 2047 * 4503599627370496 from rfl] at q
    have hT : Jvm.FP.Core.fieldT Jvm.FP.Core.b64 a.toNat = a.toNat % 4503599627370496 := rfl
    have hE : Jvm.FP.Core.fieldE Jvm.FP.Core.b64 a.toNat = a.toNat / 4503599627370496 % 2048 := rfl
    show Jvm.FP.Core.decode Jvm.FP.Core.b64 a.toNat = .nan
    unfold Jvm.FP.Core.decode
    rw [hT, hE, show Jvm.FP.Core.b64.exps - 1 = 2047 from rfl, if_pos (by omega), if_neg (by omega)]
  · exact q
theorem rr_fin {s : Bool} {c : Nat} {d : Nat} {e : Int} : Jvm.FP.Core.roundRatio Jvm.FP.Core.b64 s c d e ≠ .nan := by
  unfold Jvm.FP.Core.roundRatio
  split
  · exact fun h => by cases h
  · unfold Jvm.FP.Core.roundAt Jvm.FP.Core.settle Jvm.FP.Core.bound
    repeat' split
    all_goals exact fun h => by cases h
/-- an int as a double: a number, not zero where the int isn't -/
theorem i2d_shape (x : Int32) : ∃ (s : Bool) (c : Nat) (q : Int), Jvm.FP.Core.val64 (FP.i2d x) = .fin s c q ∧ (¬ x = 0 → c ≠ 0) := by
  have h : Jvm.FP.Core.val64 (FP.i2d x) = Jvm.FP.Core.val64 (FP.l2d x.toInt64) := congrArg _ (Jvm.FP.Core.i2d_l2d x)
  obtain ⟨c, q, h2⟩ := Jvm.FP.Core.l2d_shape x.toInt64
  have hs : Jvm.FP.Core.Small53 x.toInt64 := by
    have h1 := Int32.toInt_lt x
    have h2 := Int32.le_toInt x
    unfold Jvm.FP.Core.Small53
    rw [Int32.toInt_toInt64]
    omega
  refine ⟨_, c, q, h.trans h2, fun hx hc => ?_⟩
  have hw := Jvm.FP.Core.l2d_whole hs
  rw [h2, hc] at hw
  unfold Jvm.FP.Core.Whole at hw
  dsimp only at hw
  rw [Nat.zero_mul, Jvm.FP.Core.signed_zero] at hw
  have h3 : x.toInt64.toInt ≠ 0 := by
    rw [Int32.toInt_toInt64]
    exact fun z => hx (Int32.toInt_inj.mp (by rw [z]; decide))
  have h4 : ((2 ^ (-q).toNat : Nat) : Int) ≠ 0 := by
    have := Nat.two_pow_pos (-q).toNat
    omega
  exact (Int.mul_ne_zero h3 h4) hw.symm
theorem fp_share {x y : Int32} (hy : ¬ y = 0) : vf_n64 (FP.ddiv (FP.i2d x) (FP.i2d y)) := by
  apply n64_of
  obtain ⟨s, c, q, h1, -⟩ := i2d_shape x
  obtain ⟨t, d, r, h2, h3⟩ := i2d_shape y
  rw [show Jvm.FP.Core.val64 (FP.ddiv (FP.i2d x) (FP.i2d y)) = _ from Jvm.FP.Core.val64_ddiv _ _, h1, h2]
  unfold Jvm.FP.Core.quotient
  dsimp only
  rw [if_neg (h3 hy)]
  exact rr_fin
/-- a double that is a number is equal to itself -/
theorem fp_self {a : UInt64} (h : vf_n64 a) : Jvm.FP.dcmp a a = some .eq := by
  have h2 : Jvm.FP.Core.val64 a ≠ .nan := by
    unfold vf_n64 at h
    rw [UInt64.le_iff_toNat_le, UInt64.toNat_and, show (0x7fffffffffffffff : UInt64).toNat = 2 ^ 63 - 1 from rfl, Nat.and_two_pow_sub_one_eq_mod, show (0x7ff0000000000000 : UInt64).toNat = 2047 * 4503599627370496 from rfl] at h
    have hT : Jvm.FP.Core.fieldT Jvm.FP.Core.b64 a.toNat = a.toNat % 4503599627370496 := rfl
    have hE : Jvm.FP.Core.fieldE Jvm.FP.Core.b64 a.toNat = a.toNat / 4503599627370496 % 2048 := rfl
    show Jvm.FP.Core.decode Jvm.FP.Core.b64 a.toNat ≠ .nan
    unfold Jvm.FP.Core.decode
    rw [hT, hE, show Jvm.FP.Core.b64.exps - 1 = 2047 from rfl]
    split
    · rw [if_pos (by omega)]; exact fun h => by cases h
    · split
      · exact fun h => by cases h
      · exact fun h => by cases h
  exact (show Jvm.FP.dcmp a a = some .eq from Jvm.FP.Core.dcmp_self h2)
theorem fp_self0 {a : UInt64} (h : vf_n64 a) (op : CmpOp) : Op.cmpValue (Jvm.FP.dcmp a a) op = 0 := by
  rw [fp_self h]; rfl

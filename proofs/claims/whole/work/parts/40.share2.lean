/-! MATH 11: the bits of a share -/
theorem sh_int (x : Int32) {t : Nat} (hx : x.toInt = (t : Int)) : ∃ (c : Nat) (q : Int), Jvm.FP.Core.val64 (FP.i2d x) = .fin false c q ∧ c * 2 ^ q.toNat = t * 2 ^ (-q).toNat := by
  have h1 := Jvm.FP.Core.i2d_int x
  have h : Jvm.FP.Core.val64 (FP.i2d x) = Jvm.FP.Core.val64 (FP.l2d x.toInt64) := congrArg _ (Jvm.FP.Core.i2d_l2d x)
  obtain ⟨c, q, h2⟩ := Jvm.FP.Core.l2d_shape x.toInt64
  have h3 : Jvm.FP.Core.val64 (FP.i2d x) = .fin false c q := by
    refine h.trans (h2.trans ?_)
    rw [Int32.toInt_toInt64, hx, decide_eq_false (by omega)]
  refine ⟨c, q, h3, ?_⟩
  unfold Jvm.FP.Core.DInt at h1
  rw [show Jvm.FP.Core.val64 (Jvm.FP.Core.i2d x) = .fin false c q from h3, hx] at h1
  have h4 : ((c * 2 ^ q.toNat : Nat) : Int) = (t : Int) * ((2 ^ (-q).toNat : Nat) : Int) := h1
  rw [← Int.natCast_mul] at h4
  exact Int.ofNat_inj.mp h4
theorem sh_div {x y : Int32} {t s : Nat} (hx : x.toInt = (t : Int)) (hy : y.toInt = (s : Int)) (hs : 0 < s) : Jvm.FP.Core.val64 (FP.ddiv (FP.i2d x) (FP.i2d y)) = Jvm.FP.Core.roundRatio Jvm.FP.Core.b64 false t s 0 := by
  obtain ⟨c, q, h1, h2⟩ := sh_int x hx
  obtain ⟨d, r, h3, h4⟩ := sh_int y hy
  have hd : 0 < d := by
    rcases Nat.eq_zero_or_pos d with z | z
    · rw [z, Nat.zero_mul] at h4
      have := Nat.mul_pos hs (Nat.two_pow_pos (-r).toNat)
      omega
    · exact z
  rw [show Jvm.FP.Core.val64 (FP.ddiv (FP.i2d x) (FP.i2d y)) = _ from Jvm.FP.Core.val64_ddiv _ _, show Jvm.FP.Core.val64 (Jvm.FP.Core.i2d x) = _ from h1, show Jvm.FP.Core.val64 (Jvm.FP.Core.i2d y) = _ from h3]
  unfold Jvm.FP.Core.quotient
  dsimp only
  rw [if_neg (by omega)]
  refine Jvm.FP.Core.roundRatio_congr hd hs ?_
  rw [Int.sub_zero, Int.zero_sub]
  have e1 : (q - r).toNat + (-q).toNat + r.toNat = (-(q - r)).toNat + q.toNat + (-r).toNat := by omega
  generalize (q - r).toNat = a at e1 ⊢
  generalize (-(q - r)).toNat = b at e1 ⊢
  generalize q.toNat = qp at e1 h2
  generalize (-q).toNat = qm at e1 h2
  generalize r.toNat = rp at e1 h4
  generalize (-r).toNat = rm at e1 h4
  have hp : 0 < 2 ^ (qp + rm) := Nat.two_pow_pos _
  refine Nat.eq_of_mul_eq_mul_right hp ?_
  calc c * s * 2 ^ a * 2 ^ (qp + rm) = (c * 2 ^ qp) * (s * 2 ^ rm) * 2 ^ a := by rw [Nat.pow_add]; ac_rfl
    _ = (t * 2 ^ qm) * (d * 2 ^ rp) * 2 ^ a := by rw [h2, ← h4]
    _ = t * d * 2 ^ (a + qm + rp) := by rw [Nat.pow_add, Nat.pow_add]; ac_rfl
    _ = t * d * 2 ^ (b + qp + rm) := by rw [e1]
    _ = t * d * 2 ^ b * 2 ^ (qp + rm) := by rw [Nat.add_assoc, Nat.pow_add]; ac_rfl
theorem sh_mono {s t K : Nat} (h : s ≤ 2 ^ 17 * t) : K * s ≤ t * (K * 2 ^ 17) := by
  have h1 : K * s ≤ K * (2 ^ 17 * t) := Nat.mul_le_mul (Nat.le_refl _) h
  have h2 : K * (2 ^ 17 * t) = t * (K * 2 ^ 17) := by ac_rfl
  omega
theorem sh_bits {P : UInt64} {t s : Nat} (h1 : 1 ≤ t) (h2 : t ≤ s) (h3 : s ≤ 99999) (h : Jvm.FP.Core.val64 P = Jvm.FP.Core.roundRatio Jvm.FP.Core.b64 false t s 0) : 1006 * 2 ^ 52 ≤ P.toNat ∧ P.toNat ≤ 1023 * 2 ^ 52 := by
  have hn : Jvm.FP.Core.val64 P ≠ .nan := by rw [h]; exact Jvm.FP.Core.roundRatio_ne_nan _ _ _ _ _
  have hs := Jvm.FP.Core.sgn_bits hn
  rw [h, Jvm.FP.Core.sgn_roundRatio] at hs
  have hlt : P.toNat < 2 ^ 63 := by
    rcases Nat.lt_or_ge P.toNat (2 ^ 63) with q | q
    · exact q
    · rw [decide_eq_true q] at hs; cases hs
  have hm : Jvm.FP.Core.mag Jvm.FP.Core.b64 P.toNat = P.toNat := by rw [Jvm.FP.Core.mag_toNat64]; omega
  have hq : (0 - Jvm.FP.Core.b64.qmin).toNat = 1074 := by rw [Jvm.FP.Core.qmin_b64]; rfl
  have hq0 : (Jvm.FP.Core.b64.qmin - Jvm.FP.Core.b64.qmin).toNat = 0 := by rw [Int.sub_self]; rfl
  have hle : Jvm.FP.Core.b64.qmin ≤ 0 := by rw [Jvm.FP.Core.qmin_b64]; decide
  have hpow : (2 : Nat) ^ 1074 = 2 ^ 52 * 2 ^ 1022 := by rw [← Nat.pow_add]
  have hpow2 : (2 : Nat) ^ 1074 = 2 ^ 52 * 2 ^ 1005 * 2 ^ 17 := by rw [← Nat.pow_add, ← Nat.pow_add]
  have k1 := Jvm.FP.Core.mag_le Jvm.FP.Core.good_b64 (n := P.toNat) (m := 1023 * Jvm.FP.Core.b64.tails) (A := t) (B := s) (e := 0) (e0 := Jvm.FP.Core.b64.qmin) h (by omega) (Int.le_refl _) hle (by
    unfold Jvm.FP.Core.inUnits
    rw [Jvm.FP.Core.unitsOf_start (by omega), hq, hq0, Nat.pow_zero, Nat.mul_one, Jvm.FP.Core.tails_b64, show 1023 - 1 = 1022 from rfl, ← hpow, Nat.mul_comm]
    exact Nat.mul_le_mul (Nat.le_refl _) h2)
  have k2 := Jvm.FP.Core.mag_ge Jvm.FP.Core.good_b64 (n := P.toNat) (m := 1006 * Jvm.FP.Core.b64.tails) (A := t) (B := s) (e := 0) (e0 := Jvm.FP.Core.b64.qmin) h (by omega) (Int.le_refl _) hle (by rw [Jvm.FP.Core.infBits_b64, Jvm.FP.Core.tails_b64]; omega) (by
    unfold Jvm.FP.Core.inUnits
    rw [Jvm.FP.Core.unitsOf_start (by omega), hq, hq0, Nat.pow_zero, Nat.mul_one, Jvm.FP.Core.tails_b64, show 1006 - 1 = 1005 from rfl, hpow2]
    exact sh_mono (by omega))
  rw [hm, Jvm.FP.Core.tails_b64] at k1 k2
  exact ⟨k2, k1⟩
/-- the number that such bits stand for -/
theorem sh_val {P : UInt64} (h1 : 1006 * 2 ^ 52 ≤ P.toNat) (h2 : P.toNat ≤ 1023 * 2 ^ 52) : Jvm.FP.Core.val64 P = .fin false (2 ^ 52 + P.toNat % 2 ^ 52) ((P.toNat / 2 ^ 52 : Nat) - 1075) := by
  have hT : Jvm.FP.Core.fieldT Jvm.FP.Core.b64 P.toNat = P.toNat % 2 ^ 52 := rfl
  have hE : Jvm.FP.Core.fieldE Jvm.FP.Core.b64 P.toNat = P.toNat / 2 ^ 52 % 2048 := rfl
  have hS : Jvm.FP.Core.fieldS Jvm.FP.Core.b64 P.toNat = (P.toNat / 2 ^ 52 / 2048 % 2 == 1) := rfl
  show Jvm.FP.Core.decode Jvm.FP.Core.b64 P.toNat = _
  unfold Jvm.FP.Core.decode
  rw [hT, hE, hS, Jvm.FP.Core.exps_b64, Jvm.FP.Core.tails_b64, Jvm.FP.Core.qmin_b64]
  have hd : P.toNat / 2 ^ 52 % 2048 = P.toNat / 2 ^ 52 := by omega
  rw [hd, if_neg (by omega), if_neg (by omega), show P.toNat / 2 ^ 52 / 2048 % 2 = 0 by omega]
  congr 1
  omega
theorem fits_b {c : Nat} {q : Int} (h1 : 2 ^ 52 ≤ c) (h2 : c < 2 ^ 53) (h3 : -1074 ≤ q) (h4 : q ≤ 971) : Jvm.FP.Core.fits Jvm.FP.Core.b64 (.fin false c q) := by
  refine ⟨h2, by rw [Jvm.FP.Core.qmin_b64]; exact h3, ?_, .inr (by rw [Jvm.FP.Core.tails_b64]; exact h1)⟩
  have : Jvm.FP.Core.b64.qmax = 971 := by decide
  rw [this]; exact h4
theorem sh_two {y : UInt64} {c : Nat} {q : Int} (h : Jvm.FP.Core.val64 y = .fin false c q) (h1 : 2 ^ 52 ≤ c) (h2 : c < 2 ^ 53) (h3 : -1074 ≤ q) (h4 : q < -52) : Jvm.FP.Core.val64 (FP.dmul y (4611686018427387904 : UInt64)) = .fin false c (q + 1) := by
  have k : Jvm.FP.Core.val64 (4611686018427387904 : UInt64) = .fin false (2 ^ 52) (-51) := by decide +kernel
  rw [show Jvm.FP.Core.val64 (FP.dmul y (4611686018427387904 : UInt64)) = _ from Jvm.FP.Core.val64_dmul _ _, h, k]
  show Jvm.FP.Core.roundRatio Jvm.FP.Core.b64 false (c * 2 ^ 52) 1 (q + -51) = _
  refine Jvm.FP.Core.roundRatio_exact Jvm.FP.Core.good_b64 (by decide) (fits_b h1 h2 (by omega) (by omega)) ?_
  rw [show (q + -51 - (q + 1)).toNat = 0 by omega, show (q + 1 - (q + -51)).toNat = 52 by omega, Nat.pow_zero, Nat.mul_one, Nat.mul_one]
theorem sh_lt {y : UInt64} {c : Nat} {q : Int} (h : Jvm.FP.Core.val64 y = .fin false c q) (h2 : c < 2 ^ 53) (h4 : q < -52) : ¬ 0 ≤ (Op.cmpValue (FP.dcmp y FP.dconst1) CmpOp.g) := by
  have e : FP.dcmp y FP.dconst1 = Jvm.FP.Core.order (Jvm.FP.Core.val64 y) (Jvm.FP.Core.val64 Jvm.FP.Core.dconst1) := rfl
  rw [e, h, Jvm.FP.Core.val64_dconst1]
  have hm : min q (-52 : Int) = q := by omega
  show ¬ 0 ≤ Op.cmpValue (some (compare (Jvm.FP.Core.signed false (c * 2 ^ (q - min q (-52)).toNat)) (Jvm.FP.Core.signed false (2 ^ 52 * 2 ^ (-52 - min q (-52)).toNat)))) CmpOp.g
  rw [hm, Int.sub_self, Jvm.FP.Core.compare_ite]
  obtain ⟨j, hj⟩ : ∃ j, (-52 - q).toNat = j + 1 := ⟨(-52 - q).toNat - 1, by omega⟩
  rw [hj, show 2 ^ (j + 1) = 2 ^ j * 2 from Nat.pow_succ 2 j]
  have hp := Nat.two_pow_pos j
  have h5 : 2 ^ 53 ≤ 2 ^ 52 * (2 ^ j * 2) := by
    rw [Nat.mul_comm (2 ^ j) 2, ← Nat.mul_assoc]
    exact Nat.le_mul_of_pos_right _ hp
  generalize 2 ^ 52 * (2 ^ j * 2) = Z at h5
  rw [if_pos (by
    show ((c * 2 ^ (0 : Int).toNat : Nat) : Int) < ((Z : Nat) : Int)
    rw [show (0 : Int).toNat = 0 from rfl, Nat.pow_zero, Nat.mul_one]
    omega)]
  decide
theorem sh_ge {y : UInt64} {c : Nat} (h : Jvm.FP.Core.val64 y = .fin false c (-52)) (h1 : 2 ^ 52 ≤ c) : 0 ≤ (Op.cmpValue (FP.dcmp y FP.dconst1) CmpOp.g) := by
  have e : FP.dcmp y FP.dconst1 = Jvm.FP.Core.order (Jvm.FP.Core.val64 y) (Jvm.FP.Core.val64 Jvm.FP.Core.dconst1) := rfl
  rw [e, h, Jvm.FP.Core.val64_dconst1]
  show 0 ≤ Op.cmpValue (some (compare (Jvm.FP.Core.signed false (c * 2 ^ 0)) (Jvm.FP.Core.signed false (2 ^ 52 * 2 ^ 0)))) CmpOp.g
  rw [Nat.pow_zero, Nat.mul_one, Nat.mul_one, Jvm.FP.Core.compare_ite]
  rw [if_neg (by
    show ¬ (c : Int) < ((2 ^ 52 : Nat) : Int)
    omega)]
  by_cases z : Jvm.FP.Core.signed false c = Jvm.FP.Core.signed false (2 ^ 52)
  · rw [if_pos z]; decide
  · rw [if_neg z]; decide
theorem lN_toI {n : Nat} (h : n < 2 ^ 63) : (lN n).toInt = (n : Int) := pk_lT h
theorem sh_cn {c' T a b d m k w : Nat} (hw : w = m + k) (e3 : a + b = d + w) (r2 : c' * 2 ^ a = T * 2 ^ k) : c' * 2 ^ m * 2 ^ d = T * 2 ^ b := by
  have hp := Nat.two_pow_pos k
  refine Nat.eq_of_mul_eq_mul_right hp ?_
  have l : c' * 2 ^ m * 2 ^ d * 2 ^ k = c' * 2 ^ a * 2 ^ b := by
    rw [Nat.mul_assoc, Nat.mul_assoc, ← Nat.pow_add, ← Nat.pow_add, Nat.mul_assoc, ← Nat.pow_add, show m + (d + k) = a + b by omega]
  rw [l, r2]
  ac_rfl
theorem sh_end {y : UInt64} {c : Nat} (h : Jvm.FP.Core.val64 y = .fin false c (-52)) (h1 : 2 ^ 52 ≤ c) (h2 : c < 2 ^ 53) : FP.d2l (FP.dmul (FP.dsub y FP.dconst1) (4841369599423283200 : UInt64)) = lN (c - 2 ^ 52) := by
  obtain ⟨T, hT⟩ : ∃ T, c = 2 ^ 52 + T := ⟨c - 2 ^ 52, by omega⟩
  have hT2 : T < 2 ^ 52 := by omega
  rw [show c - 2 ^ 52 = T by omega]
  refine Jvm.FP.Core.d2l_int (a := lN T) (b := FP.dmul (FP.dsub y FP.dconst1) (4841369599423283200 : UInt64)) ?_
  rw [lN_toI (by omega)]
  have k : Jvm.FP.Core.val64 (4841369599423283200 : UInt64) = .fin false (2 ^ 52) 0 := by decide +kernel
  unfold Jvm.FP.Core.DInt
  rw [show Jvm.FP.Core.val64 (FP.dmul (FP.dsub y FP.dconst1) (4841369599423283200 : UInt64)) = _ from Jvm.FP.Core.val64_dmul _ _, k, show Jvm.FP.Core.val64 (FP.dsub y FP.dconst1) = _ from Jvm.FP.Core.val64_dsub _ _, h, show Jvm.FP.Core.val64 FP.dconst1 = _ from Jvm.FP.Core.val64_dconst1]
  have e1 : Jvm.FP.Core.exactSum (.fin false c (-52)) (Jvm.FP.Core.negate (.fin false (2 ^ 52) (-52))) = .fin false T (-52) := by
    have e2 : Jvm.FP.Core.sumUnits false c (-52) true (2 ^ 52) (-52) (min (-52) (-52)) = (T : Int) := by
      show ((c * 2 ^ 0 : Nat) : Int) + -((2 ^ 52 * 2 ^ 0 : Nat) : Int) = _
      rw [Nat.pow_zero, Nat.mul_one, Nat.mul_one]
      omega
    show Jvm.FP.Core.Datum.fin (Jvm.FP.Core.sumSign false true (Jvm.FP.Core.sumUnits false c (-52) true (2 ^ 52) (-52) (min (-52) (-52)))) (Jvm.FP.Core.sumUnits false c (-52) true (2 ^ 52) (-52) (min (-52) (-52))).natAbs (min (-52) (-52)) = _
    rw [e2]
    unfold Jvm.FP.Core.sumSign
    by_cases z : (T : Int) = 0
    · rw [if_pos z]; rfl
    · rw [if_neg z, decide_eq_false (by omega)]; rfl
  rw [e1]
  obtain ⟨c', q', r1, r2⟩ := Jvm.FP.Core.round_exact Jvm.FP.Core.good_b64 false (c := T) (q := -52) (show T < 2 ^ 53 by omega) (by rw [Jvm.FP.Core.qmin_b64]; decide) (by decide)
  have rf := Jvm.FP.Core.round_fits Jvm.FP.Core.good_b64 (.fin false T (-52))
  rw [r1] at rf ⊢
  obtain ⟨-, rq, -, -⟩ := rf
  rw [Jvm.FP.Core.qmin_b64] at rq r2
  unfold Jvm.FP.Core.inUnits at r2
  rw [show (-52 - -1074 : Int).toNat = 1022 from rfl] at r2
  refine Jvm.FP.Core.whole_round Jvm.FP.Core.good_b64 Jvm.FP.Core.wide_b64 (by rw [Int.natAbs_natCast]; exact Nat.le_trans (Nat.le_of_lt hT2) (by decide)) ?_
  show ((c' * 2 ^ 52 * 2 ^ (q' + 0).toNat : Nat) : Int) = (T : Int) * ((2 ^ (-(q' + 0)).toNat : Nat) : Int)
  rw [Int.add_zero, ← Int.natCast_mul]
  refine congrArg _ ?_
  have e3 : (q' - -1074).toNat + (-q').toNat = q'.toNat + 1074 := by omega
  exact sh_cn (w := 1074) rfl e3 r2
theorem sh_loop (p0 : UInt64) : ∀ (N j : Nat) (y : UInt64) (k : Nat) (c : Nat) (q : Int), Jvm.FP.Core.val64 y = .fin false c q → 2 ^ 52 ≤ c → c < 2 ^ 53 → q ≤ -52 → -1074 ≤ q → (-52 - q).toNat ≤ N → (-52 - q).toNat ≤ k → f_XbitsOfShare_R18 p0 N j y (lN k) = (lN (k - (-52 - q).toNat) <<< ((52 : Int32).toInt64 &&& 63)) + lN (c - 2 ^ 52) := by
  intro N
  induction N with
  | zero =>
    intro j y k c q h h1 h2 h3 h4 h5 h6
    obtain rfl : q = -52 := by omega
    rw [f_XbitsOfShare_R18, sh_end h h1 h2, show (-52 - -52 : Int).toNat = 0 from rfl, Nat.sub_zero]
  | succ N ih =>
    intro j y k c q h h1 h2 h3 h4 h5 h6
    rw [f_XbitsOfShare_R18]
    by_cases hq : q = -52
    · subst hq
      rw [if_pos (sh_ge h h1), sh_end h h1 h2, show (-52 - -52 : Int).toNat = 0 from rfl, Nat.sub_zero]
    · rw [if_neg (sh_lt h h2 (by omega))]
      have e1 : lN k - 1 = lN (k - 1) := lN_sub (a := k) (b := 1) (by omega)
      rw [e1, ih (j + 1) _ (k - 1) c (q + 1) (sh_two h h1 h2 h4 (by omega)) h1 h2 (by omega) (by omega) (by omega) (by omega)]
      rw [show k - 1 - (-52 - (q + 1)).toNat = k - (-52 - q).toNat by omega]
theorem sh_shl {E : Nat} (h1 : 1006 ≤ E) (h2 : E ≤ 1023) : lN E <<< ((52 : Int32).toInt64 &&& 63) = lN (E * 2 ^ 52) := by
  obtain ⟨d, rfl⟩ : ∃ d, E = 1006 + d := ⟨E - 1006, by omega⟩
  have hd : d < 18 := by omega
  have key : ∀ d, d < 18 → lN (1006 + d) <<< ((52 : Int32).toInt64 &&& 63) = lN ((1006 + d) * 2 ^ 52) := by decide +kernel
  exact key d hd
theorem toInt64_lN (P : UInt64) : P.toInt64 = lN P.toNat := by
  unfold lN
  show Int64.ofUInt64 P = Int64.ofNat P.toNat
  apply Int64.toBitVec_inj.mp
  show P.toBitVec = BitVec.ofNat 64 P.toNat
  rw [← BitVec.toNat_inj, BitVec.toNat_ofNat]
  exact (Nat.mod_eq_of_lt P.toNat_lt).symm
theorem sh_all {P : UInt64} (h1 : 1006 * 2 ^ 52 ≤ P.toNat) (h2 : P.toNat ≤ 1023 * 2 ^ 52) : f_XbitsOfShare P = P.toInt64 := by
  have hv := sh_val h1 h2
  have hE1 : 1006 ≤ P.toNat / 2 ^ 52 := by omega
  have hE2 : P.toNat / 2 ^ 52 ≤ 1023 := by omega
  unfold f_XbitsOfShare
  have hn : Jvm.FP.Core.val64 P ≠ .nan := by rw [hv]; exact fun h => by cases h
  have hc : FP.dcmp P FP.dconst0 = some .gt := by
    refine (Jvm.FP.Core.mono_bits hn (b := Jvm.FP.Core.dconst0) (by rw [Jvm.FP.Core.val64_dconst0]; exact fun h => by cases h) (by omega) (by decide)).2.2.mpr ?_
    show (0 : UInt64).toNat < P.toNat
    rw [show (0 : UInt64).toNat = 0 from rfl]
    omega
  rw [hc, if_pos (by decide), show (1023 : Int64) = lN 1023 from rfl, sh_loop P 1022 0 P 1023 _ _ hv (by omega) (by omega) (by omega) (by omega) (by omega) (by omega)]
  rw [show 1023 - (-52 - (((P.toNat / 2 ^ 52 : Nat) : Int) - 1075)).toNat = P.toNat / 2 ^ 52 by omega, sh_shl hE1 hE2, lN_add, toInt64_lN]
  refine congrArg lN ?_
  omega
theorem JNaN {P : UInt64} (h : Jvm.FP.Core.val64 P ≠ .nan) : f_JdoubleToLongBits P = P.toInt64 := by
  unfold f_JdoubleToLongBits f_JisNaN
  rw [show FP.dcmp P P = some .eq from Jvm.FP.Core.dcmp_self h, if_pos (show Op.cmpValue (some .eq) CmpOp.l = 0 from rfl), if_neg (by decide)]
/-- the class's bits of the share are the reference's -/
theorem share_bits {u : BS} (h : BT u) : f_XbitsOfShare (f_shareTogether u) = f_JdoubleToLongBits (f_shareTogether u) := by
  obtain ⟨b1, b2, b3⟩ := h
  unfold f_shareTogether
  by_cases c : u 11 0 ≤ 0
  · rw [if_pos c]
    decide +kernel
  · rw [if_neg c]
    obtain ⟨t, et, -⟩ := ti_of (a := u 13 0) b1
    obtain ⟨s, es, -⟩ := ti_of (a := u 11 0) (by omega)
    have hs : 0 < s := by
      rcases Nat.eq_zero_or_pos s with z | z
      · exfalso
        apply c
        rw [ti_le, es, z]
        decide
      · exact z
    have hv := sh_div et es hs
    rw [JNaN (by rw [hv]; exact Jvm.FP.Core.roundRatio_ne_nan _ _ _ _ _)]
    rcases Nat.eq_zero_or_pos t with z | z
    · have e0 : FP.ddiv (FP.i2d (u 13 0)) (FP.i2d (u 11 0)) = FP.dconst0 := by
        refine Jvm.FP.Core.val64_inj (by rw [hv]; exact Jvm.FP.Core.roundRatio_ne_nan _ _ _ _ _) ?_
        rw [hv, z]
        unfold Jvm.FP.Core.roundRatio
        rw [if_pos rfl]
        exact Jvm.FP.Core.val64_dconst0.symm
      rw [e0]
      decide +kernel
    · obtain ⟨k1, k2⟩ := sh_bits (t := t) (s := s) z (by omega) (by omega) hv
      exact sh_all k1 k2

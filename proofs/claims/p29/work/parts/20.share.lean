/-! doubles that are numbers stay numbers -/
theorem val_of64 {a : UInt64} (h : vf_n64 a) : Jvm.FP.Core.val64 a ≠ .nan := by
  unfold vf_n64 at h
  rw [UInt64.le_iff_toNat_le, UInt64.toNat_and, show (0x7fffffffffffffff : UInt64).toNat = 2 ^ 63 - 1 from rfl, Nat.and_two_pow_sub_one_eq_mod, show (0x7ff0000000000000 : UInt64).toNat = 2047 * 4503599627370496 from rfl] at h
  have hT : Jvm.FP.Core.fieldT Jvm.FP.Core.b64 a.toNat = a.toNat % 4503599627370496 := rfl
  have hE : Jvm.FP.Core.fieldE Jvm.FP.Core.b64 a.toNat = a.toNat / 4503599627370496 % 2048 := rfl
  show Jvm.FP.Core.decode Jvm.FP.Core.b64 a.toNat ≠ .nan
  unfold Jvm.FP.Core.decode
  rw [hT, hE, show Jvm.FP.Core.b64.exps - 1 = 2047 from rfl]
  split
  · rw [if_pos (by omega)]; exact fun h => by cases h
  · split
    · exact fun h => by cases h
    · exact fun h => by cases h
theorem n64_mul {a k : UInt64} (h : vf_n64 a) (hk : ∃ t d r, Jvm.FP.Core.val64 k = .fin t d r ∧ d ≠ 0) : vf_n64 (FP.dmul a k) := by
  obtain ⟨t, d, r, h1, h2⟩ := hk
  have h3 := val_of64 h
  apply n64_of
  rw [show Jvm.FP.Core.val64 (FP.dmul a k) = _ from Jvm.FP.Core.val64_dmul _ _, h1]
  generalize Jvm.FP.Core.val64 a = v at h3
  match v, h3 with
  | .nan, h3 => exact absurd rfl h3
  | .inf s, _ =>
    show Jvm.FP.Core.round _ (if d = 0 then .nan else .inf (s != t)) ≠ .nan
    rw [if_neg h2]
    exact fun h => by cases h
  | .fin s c q, _ => exact rr_fin
theorem n64_sub {a k : UInt64} (h : vf_n64 a) (hk : ∃ t d r, Jvm.FP.Core.val64 k = .fin t d r ∧ d ≠ 0) : vf_n64 (FP.dsub a k) := by
  obtain ⟨t, d, r, h1, -⟩ := hk
  have h3 := val_of64 h
  apply n64_of
  rw [show Jvm.FP.Core.val64 (FP.dsub a k) = _ from Jvm.FP.Core.val64_dsub _ _, h1]
  generalize Jvm.FP.Core.val64 a = v at h3
  match v, h3 with
  | .nan, h3 => exact absurd rfl h3
  | .inf s, _ => exact fun h => by cases h
  | .fin s c q, _ => exact rr_fin
theorem k2_fin : ∃ t d r, Jvm.FP.Core.val64 (4611686018427387904 : UInt64) = .fin t d r ∧ d ≠ 0 := ⟨false, 4503599627370496, -51, by decide +kernel, by decide⟩
theorem k52_fin : ∃ t d r, Jvm.FP.Core.val64 (4841369599423283200 : UInt64) = .fin t d r ∧ d ≠ 0 := ⟨false, 4503599627370496, 0, by decide +kernel, by decide⟩
theorem k1_fin : ∃ t d r, Jvm.FP.Core.val64 FP.dconst1 = .fin t d r ∧ d ≠ 0 := ⟨false, 4503599627370496, -52, by decide +kernel, by decide⟩
theorem n64_0 : vf_n64 FP.dconst0 := by unfold vf_n64; decide

def f_XbitsOfShare_R18 (p0 : UInt64) : Nat → Nat → UInt64 → Int64 → Int64
  | 0, j18_, y18_0, y18_1 => (y18_1 <<< ((52 : Int32).toInt64 &&& 63)) + (FP.d2l (FP.dmul (FP.dsub y18_0 FP.dconst1) (4841369599423283200 : UInt64)))
  | n + 1, j18_, y18_0, y18_1 => if 0 ≤ (Op.cmpValue (FP.dcmp y18_0 FP.dconst1) CmpOp.g) then ((y18_1 <<< ((52 : Int32).toInt64 &&& 63)) + (FP.d2l (FP.dmul (FP.dsub y18_0 FP.dconst1) (4841369599423283200 : UInt64)))) else f_XbitsOfShare_R18 p0 n (j18_ + 1) (FP.dmul y18_0 (4611686018427387904 : UInt64)) (y18_1 - (1 : Int64))
def rm_X0_shareTogether : Room := { frames := 0, cells := 0, slots := 0, locals := 0 }
theorem mi_X0_shareTogether : kM yX0_shareTogether wsX0_shareTogether cX0_shareTogether 1 (some .double) 0 := ⟨⟨_, rfl⟩, by decide, by decide, by decide +kernel⟩
def f_shareTogether (u : BS) : UInt64 := if (u 11 0) ≤ 0 then FP.dconst0 else FP.ddiv (FP.i2d (u 13 0)) (FP.i2d (u 11 0))
set_option maxHeartbeats 1000000 in
set_option maxRecDepth 100000 in
theorem c_X0_shareTogether (l : Launch) (dC : Nat → ClassId) (dI : Nat → Nat → Nat) (cI cZ cO : ClassId) (h0 : Nat) (q : Nat → Nat) (u : BS) : Met l yX0_shareTogether wsX0_shareTogether rm_X0_shareTogether (va_Pc [.ref h0] (fun U => va_P (dC, dI) vwCl (BW cI cZ h0 q u) U.heap ∧ va_K (dC, dI) vwCl (TY cI cZ cO) U)) (kQ (some (.double (f_shareTogether u)))) 0 0 (fun _ => False) := by
  refine kofR (cc := cX0_shareTogether) (maxL := 1) (ret := some .double) (by decide) rfl (Nat.le_of_ble_eq_true rfl) ?_
  intro p e s m args below meth c ls S hr hlk hP hK hl
  obtain ⟨hx, hb, hml, hown, hts⟩ := id S
  have inX0 : ∀ w ∈ wsX00, w ∈ wsX0_shareTogether := fun w h => List.mem_cons_of_mem _ (List.mem_append_right _ h)
  have hl : lv_has ls 1 [(0, .ref h0)] := hl
  refine lv_aload_n hx hb dX0_shareTogether_0 rfl (lv_at hl 0 rfl) ?_
  refine va_get (D := (dC, dI)) (ci := 0) (v := .int (u 11 0)) (C := RX0) (T := TX0) (N := 14) hx hb hts inX0 hown hK hP 0 rfl rfl 11 (by decide) (hts (.fieldLink RX0 47 "BoardMetronomes$Bench" "steps" "I") (by decide +kernel)) (fun _ h9 => h9) rfl dX0_shareTogether_1 ?_
  refine lv_if_le (tgt := 21) hx hb dX0_shareTogether_4 (by decide) (fun c_4 => ?_) (fun c_4 => ?_)
  · refine lv_dconst0 hx hb dX0_shareTogether_21 ?_
    have r1 : f_shareTogether u = FP.dconst0 := by
      rw [f_shareTogether, if_pos c_4]
    exact kr_d hx hb hr hlk dX0_shareTogether_22 r1.symm
  · refine lv_aload_n hx hb dX0_shareTogether_7 rfl (lv_at hl 0 rfl) ?_
    refine va_get (D := (dC, dI)) (ci := 0) (v := .int (u 13 0)) (C := RX0) (T := TX0) (N := 14) hx hb hts inX0 hown hK hP 0 rfl rfl 13 (by decide) (hts (.fieldLink RX0 53 "BoardMetronomes$Bench" "stepsTogether" "I") (by decide +kernel)) (fun _ h9 => h9) rfl dX0_shareTogether_8 ?_
    refine lv_i2d hx hb dX0_shareTogether_11 ?_
    refine lv_aload_n hx hb dX0_shareTogether_12 rfl (lv_at hl 0 rfl) ?_
    refine va_get (D := (dC, dI)) (ci := 0) (v := .int (u 11 0)) (C := RX0) (T := TX0) (N := 14) hx hb hts inX0 hown hK hP 0 rfl rfl 11 (by decide) (hts (.fieldLink RX0 47 "BoardMetronomes$Bench" "steps" "I") (by decide +kernel)) (fun _ h9 => h9) rfl dX0_shareTogether_13 ?_
    refine lv_i2d hx hb dX0_shareTogether_16 ?_
    refine lv_ddiv hx hb dX0_shareTogether_17 (fp_share (kne_le c_4)) ?_
    refine lv_goto (tgt := 22) hx hb dX0_shareTogether_18 (by decide) ?_
    have r2 : f_shareTogether u = FP.ddiv (FP.i2d (u 13 0)) (FP.i2d (u 11 0)) := by
      rw [f_shareTogether, if_neg c_4]
    exact kr_d hx hb hr hlk dX0_shareTogether_22 r2.symm

theorem f_shareTogether_n {u : BS} : vf_n64 (f_shareTogether u) := by
  unfold f_shareTogether
  split
  · exact n64_0
  · rename_i h
    exact fp_share (kne_le h)

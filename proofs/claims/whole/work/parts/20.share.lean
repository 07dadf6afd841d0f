/-! doubles that are numbers stay numbers -/
theorem val_of64 {a : UInt64} (h : vf_n64 a) : Jvm.FP.Core.val64 a ≠ .nan := by
  unfold vf_n64 at h
  rw [UInt64.le_iff_toNat_le, UInt64.toNat_and, show (0x7fffffffffffffff : UInt64).toNat = 2 ^ 63 - 1 from rfl, Nat.and_two_pow_sub_one_eq_mod, show (0x7ff0000000000000 : UInt64).toNat = 2047 * 4503599627370496 from rfl] at h
  have hT : Jvm.FP.Core.fieldT Jvm.FP.Core.b64 a.toNat = a.toNat % 4503599627370496 := rfl
  have hE : Jvm.FP.Core.fieldE Jvm.FP.Core.b64 a.toNat = a.toNat / 4503599627370496 % 2048 := rfl
  show Jvm.FP.Core.decode Jvm.FP.Core.b64 a.toNat ≠ .nan
  unfold Jvm.FP.Core.decode
  rw [hT, hE, show Jvm.FP.Core.b64.exps - 1 = 2047 from rfl]
  split
  · rw [if_pos (by omega)]; exact fun h => by cases h
  · split
    · exact fun h => by cases h
    · exact fun h => by cases h
theorem n64_mul {a k : UInt64} (h : vf_n64 a) (hk : ∃ t d r, Jvm.FP.Core.val64 k = .fin t d r ∧ d ≠ 0) : vf_n64 (FP.dmul a k) := by
  obtain ⟨t, d, r, h1, h2⟩ := hk
  have h3 := val_of64 h
  apply n64_of
  rw [show Jvm.FP.Core.val64 (FP.dmul a k) = _ from Jvm.FP.Core.val64_dmul _ _, h1]
  generalize Jvm.FP.Core.val64 a = v at h3
  match v, h3 with
  | .nan, h3 => exact absurd rfl h3
  | .inf s, _ =>
    show Jvm.FP.Core.round _ (if d = 0 then .nan else .inf (s != t)) ≠ .nan
    rw [if_neg h2]
    exact fun h => by cases h
  | .fin s c q, _ => exact rr_fin
theorem n64_sub {a k : UInt64} (h : vf_n64 a) (hk : ∃ t d r, Jvm.FP.Core.val64 k = .fin t d r ∧ d ≠ 0) : vf_n64 (FP.dsub a k) := by
  obtain ⟨t, d, r, h1, -⟩ := hk
  have h3 := val_of64 h
  apply n64_of
  rw [show Jvm.FP.Core.val64 (FP.dsub a k) = _ from Jvm.FP.Core.val64_dsub _ _, h1]
  generalize Jvm.FP.Core.val64 a = v at h3
  match v, h3 with
  | .nan, h3 => exact absurd rfl h3
  | .inf s, _ => exact fun h => by cases h
  | .fin s c q, _ => exact rr_fin
theorem k2_fin : ∃ t d r, Jvm.FP.Core.val64 (4611686018427387904 : UInt64) = .fin t d r ∧ d ≠ 0 := ⟨false, 4503599627370496, -51, by decide +kernel, by decide⟩
theorem k52_fin : ∃ t d r, Jvm.FP.Core.val64 (4841369599423283200 : UInt64) = .fin t d r ∧ d ≠ 0 := ⟨false, 4503599627370496, 0, by decide +kernel, by decide⟩
theorem k1_fin : ∃ t d r, Jvm.FP.Core.val64 FP.dconst1 = .fin t d r ∧ d ≠ 0 := ⟨false, 4503599627370496, -52, by decide +kernel, by decide⟩
theorem n64_0 : vf_n64 FP.dconst0 := by unfold vf_n64; decide

def rm_X4_bitsOfShare : Room := { frames := 0, cells := 0, slots := 0, locals := 0 }
theorem mi_X4_bitsOfShare : kM yX4_bitsOfShare wsX4_bitsOfShare cX4_bitsOfShare 8 (some .long) 1 := ⟨⟨_, rfl⟩, by decide, by decide, by decide +kernel⟩
def f_XbitsOfShare_R18 (p0 : UInt64) : Nat → Nat → UInt64 → Int64 → Int64
  | 0, j18_, y18_0, y18_1 => (y18_1 <<< ((52 : Int32).toInt64 &&& 63)) + (FP.d2l (FP.dmul (FP.dsub y18_0 FP.dconst1) (4841369599423283200 : UInt64)))
  | n + 1, j18_, y18_0, y18_1 => if 0 ≤ (Op.cmpValue (FP.dcmp y18_0 FP.dconst1) CmpOp.g) then ((y18_1 <<< ((52 : Int32).toInt64 &&& 63)) + (FP.d2l (FP.dmul (FP.dsub y18_0 FP.dconst1) (4841369599423283200 : UInt64)))) else f_XbitsOfShare_R18 p0 n (j18_ + 1) (FP.dmul y18_0 (4611686018427387904 : UInt64)) (y18_1 - (1 : Int64))
def f_XbitsOfShare (p0 : UInt64) : Int64 := if 0 < (Op.cmpValue (FP.dcmp p0 FP.dconst0) CmpOp.g) then (f_XbitsOfShare_R18 p0 1022 0 p0 (1023 : Int64)) else (0 : Int64)
set_option maxHeartbeats 1000000 in
set_option maxRecDepth 100000 in
theorem c_X4_bitsOfShare (l : Launch) (p0 : UInt64) (hn : vf_n64 p0) : Met l yX4_bitsOfShare wsX4_bitsOfShare rm_X4_bitsOfShare (va_Pc [.double p0] (fun _ => True)) (kQ (some (.long (f_XbitsOfShare p0)))) 0 0 (fun _ => False) := by
  refine kofP (cc := cX4_bitsOfShare) (maxL := 8) (ret := some .long) (by decide) rfl (Nat.le_of_ble_eq_true rfl) ?_
  intro p e s m args below meth c ls S hr hlk hl
  obtain ⟨hx, hb, hml, hown, hts⟩ := id S
  have hl : lv_has ls 8 [(0, .double p0)] := hl
  refine lv_dload_n hx hb dX4_bitsOfShare_0 rfl (lv_at hl 0 rfl) ?_
  refine lv_dconst0 hx hb dX4_bitsOfShare_1 ?_
  refine lv_dcmp hx hb dX4_bitsOfShare_2 ?_
  refine lv_if_gt (tgt := 8) hx hb dX4_bitsOfShare_3 (by decide) (fun c_3 => ?_) (fun c_3 => ?_)
  · refine lv_dload_n hx hb dX4_bitsOfShare_8 rfl (lv_at hl 0 rfl) ?_
    refine lv_dstore_n (lv' := [(2, .double p0), (0, .double p0)]) hx hb dX4_bitsOfShare_9 rfl hl (by decide) rfl (fun ls hl => ?_)
    refine lv_ldc2 (v := (1023 : Int64)) hx hb hown (hts (.constantLong RX4 308 (1023)) (by decide +kernel)) dX4_bitsOfShare_10 ?_
    refine lv_lstore (lv' := [(4, .long (1023 : Int64)), (2, .double p0), (0, .double p0)]) hx hb dX4_bitsOfShare_13 hl (by decide) rfl (fun ls hl => ?_)
    refine lv_iconst (v := (0 : Int32)) hx hb dX4_bitsOfShare_15 (by decide) ?_
    refine lv_istore (lv' := [(6, .int (0 : Int32)), (4, .long (1023 : Int64)), (2, .double p0), (0, .double p0)]) hx hb dX4_bitsOfShare_16 hl (by decide) rfl (fun ls hl => ?_)
    have L1 : ∀ (n j18_ : Nat), j18_ + n = 1022 → ∀ (y18_0 : UInt64) (y18_1 : Int64), vf_n64 y18_0 → f_XbitsOfShare p0 = f_XbitsOfShare_R18 p0 n j18_ y18_0 y18_1 → ∀ (ls : Array Slot), lv_has ls 8 [(0, .double p0), (2, .double y18_0), (4, .long y18_1), (6, .int (nI j18_))] → W p l e rm_X4_bitsOfShare s m args below meth c s.heap [] 0 0 (MQ below (kQ (some (.long (f_XbitsOfShare p0)))) args s 0 0 (fun _ => False)) (F0 m 18 ls []) := by
      intro n
      induction n with
      | zero =>
        intro j18_ hj1 y18_0 y18_1 hinv hv1 ls hl
        refine lv_iload hx hb dX4_bitsOfShare_18 (lv_at hl 3 rfl) ?_
        refine lv_sipush (v := (1022 : Int32)) hx hb dX4_bitsOfShare_20 (by decide) ?_
        refine lv_icmp_ge (tgt := 50) hx hb dX4_bitsOfShare_23 (by decide) (fun c_23 => ?_) (fun c_23 => ?_)
        · refine lv_dload_n hx hb dX4_bitsOfShare_50 rfl (lv_at hl 1 rfl) ?_
          refine lv_dconst1 hx hb dX4_bitsOfShare_51 ?_
          refine lv_dsub hx hb dX4_bitsOfShare_52 (n64_sub hinv k1_fin) ?_
          refine lv_ldc2d (v := (4841369599423283200 : UInt64)) hx hb hown (hts (.constantDouble RX4 312 (4841369599423283200)) (by decide +kernel)) dX4_bitsOfShare_53 ?_
          refine lv_dmul hx hb dX4_bitsOfShare_56 (n64_mul (n64_sub hinv k1_fin) k52_fin) ?_
          refine lv_d2l hx hb dX4_bitsOfShare_57 ?_
          refine lv_lstore (lv' := [(6, .long (FP.d2l (FP.dmul (FP.dsub y18_0 FP.dconst1) (4841369599423283200 : UInt64)))), (0, .double p0), (2, .double y18_0), (4, .long y18_1)]) hx hb dX4_bitsOfShare_58 hl (by decide) rfl (fun ls hl => ?_)
          refine lv_lload hx hb dX4_bitsOfShare_60 (lv_at hl 3 rfl) ?_
          refine lv_bipush (v := (52 : Int32)) hx hb dX4_bitsOfShare_62 (by decide) ?_
          refine lv_lshl hx hb dX4_bitsOfShare_64 rfl ?_
          refine lv_lload hx hb dX4_bitsOfShare_65 (lv_at hl 0 rfl) ?_
          refine lv_ladd hx hb dX4_bitsOfShare_67 ?_
          have r2 : f_XbitsOfShare p0 = (y18_1 <<< ((52 : Int32).toInt64 &&& 63)) + (FP.d2l (FP.dmul (FP.dsub y18_0 FP.dconst1) (4841369599423283200 : UInt64))) := by
            rw [hv1, f_XbitsOfShare_R18]
          exact kr_l hx hb hr hlk dX4_bitsOfShare_68 r2.symm
        · exact absurd (nI_le (a := 1022) (by omega) (by omega)) c_23
      | succ n ih1 =>
        intro j18_ hj1 y18_0 y18_1 hinv hv1 ls hl
        refine lv_iload hx hb dX4_bitsOfShare_18 (lv_at hl 3 rfl) ?_
        refine lv_sipush (v := (1022 : Int32)) hx hb dX4_bitsOfShare_20 (by decide) ?_
        refine lv_icmp_ge (tgt := 50) hx hb dX4_bitsOfShare_23 (by decide) (fun c_23 => ?_) (fun c_23 => ?_)
        · exact absurd c_23 (nI_ge (b := 1022) (by omega) (by decide))
        · refine lv_dload_n hx hb dX4_bitsOfShare_26 rfl (lv_at hl 1 rfl) ?_
          refine lv_dconst1 hx hb dX4_bitsOfShare_27 ?_
          refine lv_dcmp hx hb dX4_bitsOfShare_28 ?_
          refine lv_if_ge (tgt := 50) hx hb dX4_bitsOfShare_29 (by decide) (fun c_29 => ?_) (fun c_29 => ?_)
          · refine lv_dload_n hx hb dX4_bitsOfShare_50 rfl (lv_at hl 1 rfl) ?_
            refine lv_dconst1 hx hb dX4_bitsOfShare_51 ?_
            refine lv_dsub hx hb dX4_bitsOfShare_52 (n64_sub hinv k1_fin) ?_
            refine lv_ldc2d (v := (4841369599423283200 : UInt64)) hx hb hown (hts (.constantDouble RX4 312 (4841369599423283200)) (by decide +kernel)) dX4_bitsOfShare_53 ?_
            refine lv_dmul hx hb dX4_bitsOfShare_56 (n64_mul (n64_sub hinv k1_fin) k52_fin) ?_
            refine lv_d2l hx hb dX4_bitsOfShare_57 ?_
            refine lv_lstore (lv' := [(6, .long (FP.d2l (FP.dmul (FP.dsub y18_0 FP.dconst1) (4841369599423283200 : UInt64)))), (0, .double p0), (2, .double y18_0), (4, .long y18_1)]) hx hb dX4_bitsOfShare_58 hl (by decide) rfl (fun ls hl => ?_)
            refine lv_lload hx hb dX4_bitsOfShare_60 (lv_at hl 3 rfl) ?_
            refine lv_bipush (v := (52 : Int32)) hx hb dX4_bitsOfShare_62 (by decide) ?_
            refine lv_lshl hx hb dX4_bitsOfShare_64 rfl ?_
            refine lv_lload hx hb dX4_bitsOfShare_65 (lv_at hl 0 rfl) ?_
            refine lv_ladd hx hb dX4_bitsOfShare_67 ?_
            have r3 : f_XbitsOfShare p0 = (y18_1 <<< ((52 : Int32).toInt64 &&& 63)) + (FP.d2l (FP.dmul (FP.dsub y18_0 FP.dconst1) (4841369599423283200 : UInt64))) := by
              rw [hv1, f_XbitsOfShare_R18, if_pos c_29]
            exact kr_l hx hb hr hlk dX4_bitsOfShare_68 r3.symm
          · refine lv_dload_n hx hb dX4_bitsOfShare_32 rfl (lv_at hl 1 rfl) ?_
            refine lv_ldc2d (v := (4611686018427387904 : UInt64)) hx hb hown (hts (.constantDouble RX4 310 (4611686018427387904)) (by decide +kernel)) dX4_bitsOfShare_33 ?_
            refine lv_dmul hx hb dX4_bitsOfShare_36 (n64_mul hinv k2_fin) ?_
            refine lv_dstore_n (lv' := [(2, .double (FP.dmul y18_0 (4611686018427387904 : UInt64))), (0, .double p0), (4, .long y18_1), (6, .int (nI j18_))]) hx hb dX4_bitsOfShare_37 rfl hl (by decide) rfl (fun ls hl => ?_)
            refine lv_lload hx hb dX4_bitsOfShare_38 (lv_at hl 2 rfl) ?_
            refine lv_lconst (v := (1 : Int64)) hx hb dX4_bitsOfShare_40 (by decide) ?_
            refine lv_lsub hx hb dX4_bitsOfShare_41 ?_
            refine lv_lstore (lv' := [(4, .long (y18_1 - (1 : Int64))), (2, .double (FP.dmul y18_0 (4611686018427387904 : UInt64))), (0, .double p0), (6, .int (nI j18_))]) hx hb dX4_bitsOfShare_42 hl (by decide) rfl (fun ls hl => ?_)
            refine lv_iinc (v := nI (j18_ + 1)) (lv' := [(6, .int (nI (j18_ + 1))), (4, .long (y18_1 - (1 : Int64))), (2, .double (FP.dmul y18_0 (4611686018427387904 : UInt64))), (0, .double p0)]) hx hb dX4_bitsOfShare_44 hl (k := 3) rfl (nI_add j18_ 1) (by decide) rfl (fun ls hl => ?_)
            refine lv_goto (tgt := 18) hx hb dX4_bitsOfShare_47 (by decide) ?_
            exact ih1 (j18_ + 1) (by omega) (FP.dmul y18_0 (4611686018427387904 : UInt64)) (y18_1 - (1 : Int64)) (n64_mul hinv k2_fin) (by rw [hv1, f_XbitsOfShare_R18, if_neg c_29]) ls (lv_sub hl [3, 2, 1, 0] rfl)
    exact L1 1022 0 (by omega) p0 (1023 : Int64) hn (by rw [f_XbitsOfShare, if_pos c_3]) ls (lv_sub hl [3, 2, 1, 0] rfl)
  · refine lv_lconst (v := (0 : Int64)) hx hb dX4_bitsOfShare_6 (by decide) ?_
    have r4 : f_XbitsOfShare p0 = (0 : Int64) := by
      rw [f_XbitsOfShare, if_neg c_3]
    exact kr_l hx hb hr hlk dX4_bitsOfShare_7 r4.symm

def rm_X0_shareTogether : Room := { frames := 0, cells := 0, slots := 0, locals := 0 }
theorem mi_X0_shareTogether : kM yX0_shareTogether wsX0_shareTogether cX0_shareTogether 1 (some .double) 0 := ⟨⟨_, rfl⟩, by decide, by decide, by decide +kernel⟩
def f_shareTogether (u : BS) : UInt64 := if (u 11 0) ≤ 0 then FP.dconst0 else FP.ddiv (FP.i2d (u 13 0)) (FP.i2d (u 11 0))
set_option maxHeartbeats 1000000 in
set_option maxRecDepth 100000 in
theorem c_X0_shareTogether (l : Launch) (dC : Nat → ClassId) (dI : Nat → Nat → Nat) (cI cZ cO : ClassId) (h0 : Nat) (q : Nat → Nat) (u : BS) : Met l yX0_shareTogether wsX0_shareTogether rm_X0_shareTogether (va_Pc [.ref h0] (fun U => va_P (dC, dI) vwCl (BW cI cZ h0 q u) U.heap ∧ va_K (dC, dI) vwCl (TY cI cZ cO) U)) (kQ (some (.double (f_shareTogether u)))) 0 0 (fun _ => False) := by
  refine kofR (cc := cX0_shareTogether) (maxL := 1) (ret := some .double) (by decide) rfl (Nat.le_of_ble_eq_true rfl) ?_
  intro p e s m args below meth c ls S hr hlk hP hK hl
  obtain ⟨hx, hb, hml, hown, hts⟩ := id S
  have inX0 : ∀ w ∈ wsX00, w ∈ wsX0_shareTogether := fun w h => List.mem_cons_of_mem _ (List.mem_append_right _ h)
  have hl : lv_has ls 1 [(0, .ref h0)] := hl
  refine lv_aload_n hx hb dX0_shareTogether_0 rfl (lv_at hl 0 rfl) ?_
  refine va_get (D := (dC, dI)) (ci := 0) (v := .int (u 11 0)) (C := RX0) (T := TX0) (N := 14) hx hb hts inX0 hown hK hP 0 rfl rfl 11 (by decide) (hts (.fieldLink RX0 47 "BoardMetronomes$Bench" "steps" "I") (by decide +kernel)) (fun _ h9 => h9) rfl dX0_shareTogether_1 ?_
  refine lv_if_le (tgt := 21) hx hb dX0_shareTogether_4 (by decide) (fun c_4 => ?_) (fun c_4 => ?_)
  · refine lv_dconst0 hx hb dX0_shareTogether_21 ?_
    have r1 : f_shareTogether u = FP.dconst0 := by
      rw [f_shareTogether, if_pos c_4]
    exact kr_d hx hb hr hlk dX0_shareTogether_22 r1.symm
  · refine lv_aload_n hx hb dX0_shareTogether_7 rfl (lv_at hl 0 rfl) ?_
    refine va_get (D := (dC, dI)) (ci := 0) (v := .int (u 13 0)) (C := RX0) (T := TX0) (N := 14) hx hb hts inX0 hown hK hP 0 rfl rfl 13 (by decide) (hts (.fieldLink RX0 53 "BoardMetronomes$Bench" "stepsTogether" "I") (by decide +kernel)) (fun _ h9 => h9) rfl dX0_shareTogether_8 ?_
    refine lv_i2d hx hb dX0_shareTogether_11 ?_
    refine lv_aload_n hx hb dX0_shareTogether_12 rfl (lv_at hl 0 rfl) ?_
    refine va_get (D := (dC, dI)) (ci := 0) (v := .int (u 11 0)) (C := RX0) (T := TX0) (N := 14) hx hb hts inX0 hown hK hP 0 rfl rfl 11 (by decide) (hts (.fieldLink RX0 47 "BoardMetronomes$Bench" "steps" "I") (by decide +kernel)) (fun _ h9 => h9) rfl dX0_shareTogether_13 ?_
    refine lv_i2d hx hb dX0_shareTogether_16 ?_
    refine lv_ddiv hx hb dX0_shareTogether_17 (fp_share (kne_le c_4)) ?_
    refine lv_goto (tgt := 22) hx hb dX0_shareTogether_18 (by decide) ?_
    have r2 : f_shareTogether u = FP.ddiv (FP.i2d (u 13 0)) (FP.i2d (u 11 0)) := by
      rw [f_shareTogether, if_neg c_4]
    exact kr_d hx hb hr hlk dX0_shareTogether_22 r2.symm

theorem f_shareTogether_n {u : BS} : vf_n64 (f_shareTogether u) := by
  unfold f_shareTogether
  split
  · exact n64_0
  · rename_i h
    exact fp_share (kne_le h)

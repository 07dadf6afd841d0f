/-! the law: its loop -/
section LAWL
variable {p : Program} {l : Launch} {e : Env} {s : State} {m : MethodId} {below : List Frame} {meth : Method} {c : Code} {b L : Nat} {xs : Nat → Int32} {dC : Nat → ClassId} {dI : Nat → Nat → Nat} {cI cZ cO cL : ClassId} {A : Nat → Nat} {Q : Nat → Nat → Nat} {hm o : Nat} {q : Nat → Nat}
theorem law_1440 {i cells slots : Nat} (S : CallFix p m c cL_law 9 s #[Value.ref b] wsL_law RL) (hk : LwK p l e s m below meth c b dC dI cI cZ cO cL A Q hm o q (i + 4) cells slots 23) : LwK p l e s m below meth c b dC dI cI cZ cO cL A Q hm o q i cells slots 1440 := by
  intro fl un ut u0 u1 sv x r f u H locs ls hSim hP hD hS hl
  obtain ⟨hx, hb, hml, hown, hts⟩ := id S
  refine lv_iinc (v := nI (i + 4)) (lv' := [(4, .int (nI (i + 4))), (0, .ref b), (1, .ref (A 0)), (2, .ref hm), (3, .ref o)]) hx hb dL_law_1440 hl (k := 4) rfl (nI_add i 4) (by decide) rfl (fun ls hl => ?_)
  refine lv_goto (tgt := 23) hx hb dL_law_1443 (by decide) ?_
  exact hk fl un ut u0 u1 sv x r f u H locs ls hSim hP hD hS (lv_sub hl [1, 2, 3, 4, 0] rfl)
theorem law_le {i L : Nat} (hi : i < 4096) (hL : L ≤ 2048) (h : ¬ Int32.ofNat L - 4 < nI i) : i + 4 ≤ L := by
  have h1 : (Int32.ofNat L - 4).toInt = (L : Int) - 4 := by
    show (nI L - nI 4).toInt = _
    rw [Int32.toInt_sub, show (nI L).toInt = (L : Int) from ?_, show (nI 4).toInt = (4 : Int) from rfl]
    · exact Int.bmod_eq_of_le (by omega) (by omega)
    · exact Int32.toInt_ofNat_of_lt (by omega)
  have h2 : (nI i).toInt = (i : Int) := Int32.toInt_ofNat_of_lt (by omega)
  have h3 := Int32.not_lt.mp h
  have h4 := Int32.le_iff_toInt_le.mp h3
  rw [h1, h2] at h4
  omega
set_option maxRecDepth 100000 in
theorem law_loop (hst : l.stackTraces = false) (S : CallFix p m c cL_law 9 s #[Value.ref b] wsL_law RL) (hr : meth.sig.returnType = ret) (hlk : meth.locks = false) (hX : va_X b L xs s s.heap) (hbl : b < s.heap.size) (hK : va_K (dC, dI) vwCl (TY cI cZ cO ++ [(cL, .long)]) s) (hXX : HXk (fun z => s.heap.size ≤ z) s s.heap) (hL : L ≤ 2048) :
    ∀ (n i cells slots : Nat), L ≤ i + 4 * n + 3 → i ≤ L + 3 → cells + n ≤ 626727 → slots + 6 * n ≤ 7215922 → LwK p l e s m below meth c b dC dI cI cZ cO cL A Q hm o q i cells slots 23
  | n, i, cells, slots => fun hn hi hc1 hc2 => by
    have step : i + 4 ≤ L → ∀ cells' slots', cells' ≤ cells + 1 → slots' ≤ slots + 6 → LwK p l e s m below meth c b dC dI cI cZ cO cL A Q hm o q i cells' slots' 1440 := by
      intro hi4 cells' slots' h1 h2
      match n, hn, hc1, hc2 with
      | 0, hn, _, _ => omega
      | n + 1, hn, hc1, hc2 => exact law_1440 S (law_loop hst S hr hlk hX hbl hK hXX hL n (i + 4) cells' slots' (by omega) (by omega) (by omega) (by omega))
    intro fl un ut u0 u1 sv x r f u H locs ls hSim hP hD hS hl
    obtain ⟨hx, hb, hml, hown, hts⟩ := id S
    have hbA : ¬ (fun z : Nat => s.heap.size ≤ z) b := Nat.not_le.mpr hbl
    refine lv_iload hx hb dL_law_23 (lv_at hl 4 rfl) ?_
    refine lv_aload_n hx hb dL_law_25 rfl (lv_at hl 0 rfl) ?_
    refine va_slen hx hb hX hbl hbA hS dL_law_26 ?_
    refine lv_iconst (v := (4 : Int32)) hx hb dL_law_27 (by decide) ?_
    refine lv_isub hx hb dL_law_28 ?_
    refine lv_icmp_gt (tgt := 1446) hx hb dL_law_29 (by decide) (fun _ => ?_) (fun hle => ?_)
    · refine lv_iconst (v := (1 : Int32)) hx hb dL_law_1446 (by decide) ?_
      refine va_forget (fun q9 hq => hS.2.2 q9 hq) ?_
      refine W.widen (k := 626727) (n := 7215922) (by omega) (by omega) ?_
      refine W.base ?_
      exact lw_ret (Drawn.sameBut.refl s.drawn lw_cs) hx hb hr hlk dL_law_1447
    have hi4 := law_le (by omega) hL hle
    have hn1 : 1 ≤ n := by omega
    have hin : ∀ j, j < 4 → vp_in (nI i + nI j) L := fun j hj => by
      rw [nI_add]
      exact vp_in_nI (by omega) (by omega)
    refine lv_aload_n hx hb dL_law_32 rfl (lv_at hl 0 rfl) ?_
    refine lv_iload hx hb dL_law_33 (lv_at hl 4 rfl) ?_
    refine va_sld hx hb hX hbl hbA hS (vp_in_nI (by omega) (by omega)) dL_law_35 ?_
    refine lv_bipush (v := (31 : Int32)) hx hb dL_law_36 (by decide) ?_
    refine lv_iand hx hb dL_law_38 ?_
    obtain ⟨j, hj, ej⟩ := pk_andE (xs (nI i).toNatClampNeg) (m := 31) 5 rfl
    rw [ej]
    have hj : j < 32 := hj
    by_cases hj25 : j ≤ 25
    · match j, hj25 with
      | 0, _ =>
        refine lv_tableIn (tgt := 156) (off := 117) hx hb dL_law_39 (by decide) (by decide) rfl (by decide) ?_
        exact law_c0 hst S hX hbl hK hXX hin (by omega) (by omega) (step hi4 _ _ (Nat.le_refl _) (Nat.le_refl _)) fl un ut u0 u1 sv x r f u H locs ls hSim hP hD hS hl
      | 1, _ =>
        refine lv_tableIn (tgt := 236) (off := 197) hx hb dL_law_39 (by decide) (by decide) rfl (by decide) ?_
        exact law_c1 hst S hX hbl hK hXX hin (by omega) (by omega) (step hi4 _ _ (Nat.le_refl _) (Nat.le_refl _)) fl un ut u0 u1 sv x r f u H locs ls hSim hP hD hS hl
      | 2, _ =>
        refine lv_tableIn (tgt := 304) (off := 265) hx hb dL_law_39 (by decide) (by decide) rfl (by decide) ?_
        exact law_c2 hst S hX hbl hK hXX hin (by omega) (by omega) (step hi4 _ _ (Nat.le_refl _) (Nat.le_refl _)) fl un ut u0 u1 sv x r f u H locs ls hSim hP hD hS hl
      | 3, _ =>
        refine lv_tableIn (tgt := 372) (off := 333) hx hb dL_law_39 (by decide) (by decide) rfl (by decide) ?_
        exact law_c3 hst S hX hbl hK hXX hin (by omega) (by omega) (step hi4 _ _ (Nat.le_refl _) (Nat.le_refl _)) fl un ut u0 u1 sv x r f u H locs ls hSim hP hD hS hl
      | 4, _ =>
        refine lv_tableIn (tgt := 428) (off := 389) hx hb dL_law_39 (by decide) (by decide) rfl (by decide) ?_
        exact law_c4 hst S hX hbl hK hXX hin (by omega) (by omega) (step hi4 _ _ (Nat.le_refl _) (Nat.le_refl _)) fl un ut u0 u1 sv x r f u H locs ls hSim hP hD hS hl
      | 5, _ =>
        refine lv_tableIn (tgt := 472) (off := 433) hx hb dL_law_39 (by decide) (by decide) rfl (by decide) ?_
        exact law_c5 hst S hX hbl hK hXX hin (by omega) (by omega) (step hi4 _ _ (Nat.le_refl _) (Nat.le_refl _)) fl un ut u0 u1 sv x r f u H locs ls hSim hP hD hS hl
      | 6, _ =>
        refine lv_tableIn (tgt := 528) (off := 489) hx hb dL_law_39 (by decide) (by decide) rfl (by decide) ?_
        exact law_c6 hst S hX hbl hK hXX hin (by omega) (by omega) (step hi4 _ _ (Nat.le_refl _) (Nat.le_refl _)) fl un ut u0 u1 sv x r f u H locs ls hSim hP hD hS hl
      | 7, _ =>
        refine lv_tableIn (tgt := 541) (off := 502) hx hb dL_law_39 (by decide) (by decide) rfl (by decide) ?_
        exact law_c7 hst S hX hbl hK hXX hin (by omega) (by omega) (step hi4 _ _ (Nat.le_refl _) (Nat.le_refl _)) fl un ut u0 u1 sv x r f u H locs ls hSim hP hD hS hl
      | 8, _ =>
        refine lv_tableIn (tgt := 609) (off := 570) hx hb dL_law_39 (by decide) (by decide) rfl (by decide) ?_
        exact law_c8 hst S hX hbl hK hXX hin (by omega) (by omega) (step hi4 _ _ (Nat.le_refl _) (Nat.le_refl _)) fl un ut u0 u1 sv x r f u H locs ls hSim hP hD hS hl
      | 9, _ =>
        refine lv_tableIn (tgt := 665) (off := 626) hx hb dL_law_39 (by decide) (by decide) rfl (by decide) ?_
        exact law_c9 hst S hX hbl hK hXX hin (by omega) (by omega) (step hi4 _ _ (Nat.le_refl _) (Nat.le_refl _)) fl un ut u0 u1 sv x r f u H locs ls hSim hP hD hS hl
      | 10, _ =>
        refine lv_tableIn (tgt := 678) (off := 639) hx hb dL_law_39 (by decide) (by decide) rfl (by decide) ?_
        exact law_c10 hst S hX hbl hK hXX hin (by omega) (by omega) (step hi4 _ _ (Nat.le_refl _) (Nat.le_refl _)) fl un ut u0 u1 sv x r f u H locs ls hSim hP hD hS hl
      | 11, _ =>
        refine lv_tableIn (tgt := 691) (off := 652) hx hb dL_law_39 (by decide) (by decide) rfl (by decide) ?_
        exact law_c11 hst S hX hbl hK hXX hin (by omega) (by omega) (step hi4 _ _ (Nat.le_refl _) (Nat.le_refl _)) fl un ut u0 u1 sv x r f u H locs ls hSim hP hD hS hl
      | 12, _ =>
        refine lv_tableIn (tgt := 735) (off := 696) hx hb dL_law_39 (by decide) (by decide) rfl (by decide) ?_
        exact law_c12 hst S hX hbl hK hXX hin (by omega) (by omega) (step hi4 _ _ (Nat.le_refl _) (Nat.le_refl _)) fl un ut u0 u1 sv x r f u H locs ls hSim hP hD hS hl
      | 13, _ =>
        refine lv_tableIn (tgt := 791) (off := 752) hx hb dL_law_39 (by decide) (by decide) rfl (by decide) ?_
        exact law_c13 hst S hX hbl hK hXX hin (by omega) (by omega) (step hi4 _ _ (Nat.le_refl _) (Nat.le_refl _)) fl un ut u0 u1 sv x r f u H locs ls hSim hP hD hS hl
      | 14, _ =>
        refine lv_tableIn (tgt := 847) (off := 808) hx hb dL_law_39 (by decide) (by decide) rfl (by decide) ?_
        exact law_c14 hst S hX hbl hK hXX hin (by omega) (by omega) (step hi4 _ _ (Nat.le_refl _) (Nat.le_refl _)) fl un ut u0 u1 sv x r f u H locs ls hSim hP hD hS hl
      | 15, _ =>
        refine lv_tableIn (tgt := 891) (off := 852) hx hb dL_law_39 (by decide) (by decide) rfl (by decide) ?_
        exact law_c15 hst S hX hbl hK hXX hin (by omega) (by omega) (step hi4 _ _ (Nat.le_refl _) (Nat.le_refl _)) fl un ut u0 u1 sv x r f u H locs ls hSim hP hD hS hl
      | 16, _ =>
        refine lv_tableIn (tgt := 959) (off := 920) hx hb dL_law_39 (by decide) (by decide) rfl (by decide) ?_
        exact law_c16 hst S hX hbl hK hXX hin (by omega) (by omega) (step hi4 _ _ (Nat.le_refl _) (Nat.le_refl _)) fl un ut u0 u1 sv x r f u H locs ls hSim hP hD hS hl
      | 17, _ =>
        refine lv_tableIn (tgt := 1027) (off := 988) hx hb dL_law_39 (by decide) (by decide) rfl (by decide) ?_
        exact law_c17 hst S hX hbl hK hXX hin (by omega) (by omega) (step hi4 _ _ (Nat.le_refl _) (Nat.le_refl _)) fl un ut u0 u1 sv x r f u H locs ls hSim hP hD hS hl
      | 18, _ =>
        refine lv_tableIn (tgt := 1083) (off := 1044) hx hb dL_law_39 (by decide) (by decide) rfl (by decide) ?_
        exact law_c18 hst S hX hbl hK hXX hin (by omega) (by omega) (step hi4 _ _ (Nat.le_refl _) (Nat.le_refl _)) fl un ut u0 u1 sv x r f u H locs ls hSim hP hD hS hl
      | 19, _ =>
        refine lv_tableIn (tgt := 1139) (off := 1100) hx hb dL_law_39 (by decide) (by decide) rfl (by decide) ?_
        exact law_c19 hst S hX hbl hK hXX hin (by omega) (by omega) (step hi4 _ _ (Nat.le_refl _) (Nat.le_refl _)) fl un ut u0 u1 sv x r f u H locs ls hSim hP hD hS hl
      | 20, _ =>
        refine lv_tableIn (tgt := 1219) (off := 1180) hx hb dL_law_39 (by decide) (by decide) rfl (by decide) ?_
        exact law_c20 hst S hX hbl hK hXX hin (by omega) (by omega) (step hi4 _ _ (Nat.le_refl _) (Nat.le_refl _)) fl un ut u0 u1 sv x r f u H locs ls hSim hP hD hS hl
      | 21, _ =>
        refine lv_tableIn (tgt := 1232) (off := 1193) hx hb dL_law_39 (by decide) (by decide) rfl (by decide) ?_
        exact law_c21 hst S hX hbl hK hXX hin (by omega) (by omega) (step hi4 _ _ (Nat.le_refl _) (Nat.le_refl _)) fl un ut u0 u1 sv x r f u H locs ls hSim hP hD hS hl
      | 22, _ =>
        refine lv_tableIn (tgt := 1288) (off := 1249) hx hb dL_law_39 (by decide) (by decide) rfl (by decide) ?_
        exact law_c22 hst S hX hbl hK hXX hin (by omega) (by omega) (step hi4 _ _ (Nat.le_refl _) (Nat.le_refl _)) fl un ut u0 u1 sv x r f u H locs ls hSim hP hD hS hl
      | 23, _ =>
        refine lv_tableIn (tgt := 1344) (off := 1305) hx hb dL_law_39 (by decide) (by decide) rfl (by decide) ?_
        exact law_c23 hst S hX hbl hK hXX hin (by omega) (by omega) (step hi4 _ _ (Nat.le_refl _) (Nat.le_refl _)) fl un ut u0 u1 sv x r f u H locs ls hSim hP hD hS hl
      | 24, _ =>
        refine lv_tableIn (tgt := 1385) (off := 1346) hx hb dL_law_39 (by decide) (by decide) rfl (by decide) ?_
        exact law_c24 hst S hX hbl hK hXX hin (by omega) (by omega) (step hi4 _ _ (Nat.le_refl _) (Nat.le_refl _)) fl un ut u0 u1 sv x r f u H locs ls hSim hP hD hS hl
      | 25, _ =>
        refine lv_tableIn (tgt := 1426) (off := 1387) hx hb dL_law_39 (by decide) (by decide) rfl (by decide) ?_
        exact law_c25 hst S hX hbl hK hXX hin (by omega) (by omega) (step hi4 _ _ (Nat.le_refl _) (Nat.le_refl _)) fl un ut u0 u1 sv x r f u H locs ls hSim hP hD hS hl
      | k + 26, h26 => omega
    · have ej2 : (nI j).toInt = (j : Int) := Int32.toInt_ofNat_of_lt (by omega)
      refine lv_tableOut (tgt := 1440) hx hb dL_law_39 (.inr (by rw [ej2]; omega)) (by decide) ?_
      exact step hi4 cells slots (by omega) (by omega) fl un ut u0 u1 sv x r f u H locs ls hSim hP hD hS hl
termination_by n => n
end LAWL

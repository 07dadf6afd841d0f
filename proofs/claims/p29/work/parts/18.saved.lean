theorem SX_n {cI cZ cO : ClassId} {A : Nat → Nat} {Q : Nat → Nat → Nat} {g : Nat → Option Nat} {n : Int32} {us : Nat → BS} {v : Int32} : (SX cI cZ cO A Q g n us).set 0 (A 6, .inr (2, ([.ref (A 7), .int n] : List Value).set 1 (.int v))) = SX cI cZ cO A Q g v us := rfl
theorem SX_n' {cI cZ cO : ClassId} {A : Nat → Nat} {Q : Nat → Nat → Nat} {g : Nat → Option Nat} {n : Int32} {us : Nat → BS} {v : Int32} {w : va_W} : (SX cI cZ cO A Q g n us ++ w).set 0 (A 6, .inr (2, ([.ref (A 7), .int n] : List Value).set 1 (.int v))) = SX cI cZ cO A Q g v us ++ w := rfl
theorem SX_g {cI cZ cO : ClassId} {A : Nat → Nat} {Q : Nat → Nat → Nat} {g : Nat → Option Nat} {n : Int32} {us : Nat → BS} {g1 : Nat → Option Nat} : (SX cI cZ cO A Q g n us).set 1 (A 7, .inl (cO, 6, .inr (.inr (.inr (.inr g1))))) = SX cI cZ cO A Q g1 n us := rfl
theorem SX_cong {D : va_G} {cl : List vw_C} {cI cZ cO : ClassId} {A : Nat → Nat} {Q : Nat → Nat → Nat} {g : Nat → Option Nat} {n : Int32} {us : Nat → BS} {g1 : Nat → Option Nat} {H : Heap} (h : ∀ i : Nat, i < 6 → g i = g1 i) (hP : va_P D cl (SX cI cZ cO A Q g n us) H) : va_P D cl (SX cI cZ cO A Q g1 n us) H := by
  have hc : vp_cell cO (6, .inr (.inr (.inr (.inr g)))) = vp_cell cO (6, .inr (.inr (.inr (.inr g1)))) := by
    show arrV cO 6 (fun j => va_rf (g j)) = arrV cO 6 (fun j => va_rf (g1 j))
    unfold arrV
    congr 1
    refine congrArg _ (funext fun j => ?_)
    show va_rf (g j.val) = va_rf (g1 j.val)
    rw [h j.val j.isLt]
  intro k q hk
  match k, hk with
  | 0, hk => exact hP 0 q hk
  | 1, hk =>
    cases hk
    have h1 := hP 1 _ rfl
    show H[A 7]? = some (vp_cell cO (6, .inr (.inr (.inr (.inr g1)))))
    rw [← hc]
    exact h1
  | k + 2, hk => exact hP (k + 2) q hk
theorem SX_alla0 {cI cZ cO : ClassId} {A : Nat → Nat} {Q : Nat → Nat → Nat} {g : Nat → Option Nat} {n : Int32} {us : Nat → BS} {h : Nat} {q : Nat → Nat} {v : BS} : ([2, 3, 4, 5, 6, 7] : List Nat).map (fun i => (SX cI cZ cO A Q g n us ++ BW cI cZ h q v)[i]?) = (BW cI cZ (A 10) (Q 10) (us 0)).map some := by
  have h := kget_mid (BW cI cZ (A 10) (Q 10) (us 0)) ([(A 6, .inr (2, [.ref (A 7), .int n])), (A 7, .inl (cO, 6, .inr (.inr (.inr (.inr g)))))]) (BW cI cZ (A 11) (Q 11) (us 1) ++ (BW cI cZ (A 12) (Q 12) (us 2) ++ (BW cI cZ (A 13) (Q 13) (us 3) ++ (BW cI cZ (A 14) (Q 14) (us 4) ++ (BW cI cZ (A 15) (Q 15) (us 5) ++ (BW cI cZ h q v))))))
  try simp only [List.append_assoc] at h
  exact h
theorem SX_ksa0 {cI cZ cO : ClassId} {A : Nat → Nat} {Q : Nat → Nat → Nat} {g : Nat → Option Nat} {n : Int32} {us : Nat → BS} {h : Nat} {q : Nat → Nat} {v w : BS} : ksets (SX cI cZ cO A Q g n us ++ BW cI cZ h q v) [2, 3, 4, 5, 6, 7] (BW cI cZ (A 10) (Q 10) w) = SX cI cZ cO A Q g n (upB us 0 w) ++ BW cI cZ h q v := by
  have h := kset_mid (BW cI cZ (A 10) (Q 10) (us 0)) (BW cI cZ (A 10) (Q 10) w) ([(A 6, .inr (2, [.ref (A 7), .int n])), (A 7, .inl (cO, 6, .inr (.inr (.inr (.inr g)))))]) (BW cI cZ (A 11) (Q 11) (us 1) ++ (BW cI cZ (A 12) (Q 12) (us 2) ++ (BW cI cZ (A 13) (Q 13) (us 3) ++ (BW cI cZ (A 14) (Q 14) (us 4) ++ (BW cI cZ (A 15) (Q 15) (us 5) ++ (BW cI cZ h q v)))))) rfl
  try simp only [List.append_assoc] at h
  exact h
theorem SX_alla1 {cI cZ cO : ClassId} {A : Nat → Nat} {Q : Nat → Nat → Nat} {g : Nat → Option Nat} {n : Int32} {us : Nat → BS} {h : Nat} {q : Nat → Nat} {v : BS} : ([8, 9, 10, 11, 12, 13] : List Nat).map (fun i => (SX cI cZ cO A Q g n us ++ BW cI cZ h q v)[i]?) = (BW cI cZ (A 11) (Q 11) (us 1)).map some := by
  have h := kget_mid (BW cI cZ (A 11) (Q 11) (us 1)) ([(A 6, .inr (2, [.ref (A 7), .int n])), (A 7, .inl (cO, 6, .inr (.inr (.inr (.inr g)))))] ++ (BW cI cZ (A 10) (Q 10) (us 0))) (BW cI cZ (A 12) (Q 12) (us 2) ++ (BW cI cZ (A 13) (Q 13) (us 3) ++ (BW cI cZ (A 14) (Q 14) (us 4) ++ (BW cI cZ (A 15) (Q 15) (us 5) ++ (BW cI cZ h q v)))))
  try simp only [List.append_assoc] at h
  exact h
theorem SX_ksa1 {cI cZ cO : ClassId} {A : Nat → Nat} {Q : Nat → Nat → Nat} {g : Nat → Option Nat} {n : Int32} {us : Nat → BS} {h : Nat} {q : Nat → Nat} {v w : BS} : ksets (SX cI cZ cO A Q g n us ++ BW cI cZ h q v) [8, 9, 10, 11, 12, 13] (BW cI cZ (A 11) (Q 11) w) = SX cI cZ cO A Q g n (upB us 1 w) ++ BW cI cZ h q v := by
  have h := kset_mid (BW cI cZ (A 11) (Q 11) (us 1)) (BW cI cZ (A 11) (Q 11) w) ([(A 6, .inr (2, [.ref (A 7), .int n])), (A 7, .inl (cO, 6, .inr (.inr (.inr (.inr g)))))] ++ (BW cI cZ (A 10) (Q 10) (us 0))) (BW cI cZ (A 12) (Q 12) (us 2) ++ (BW cI cZ (A 13) (Q 13) (us 3) ++ (BW cI cZ (A 14) (Q 14) (us 4) ++ (BW cI cZ (A 15) (Q 15) (us 5) ++ (BW cI cZ h q v))))) rfl
  try simp only [List.append_assoc] at h
  exact h
theorem SX_alla2 {cI cZ cO : ClassId} {A : Nat → Nat} {Q : Nat → Nat → Nat} {g : Nat → Option Nat} {n : Int32} {us : Nat → BS} {h : Nat} {q : Nat → Nat} {v : BS} : ([14, 15, 16, 17, 18, 19] : List Nat).map (fun i => (SX cI cZ cO A Q g n us ++ BW cI cZ h q v)[i]?) = (BW cI cZ (A 12) (Q 12) (us 2)).map some := by
  have h := kget_mid (BW cI cZ (A 12) (Q 12) (us 2)) ([(A 6, .inr (2, [.ref (A 7), .int n])), (A 7, .inl (cO, 6, .inr (.inr (.inr (.inr g)))))] ++ (BW cI cZ (A 10) (Q 10) (us 0) ++ (BW cI cZ (A 11) (Q 11) (us 1)))) (BW cI cZ (A 13) (Q 13) (us 3) ++ (BW cI cZ (A 14) (Q 14) (us 4) ++ (BW cI cZ (A 15) (Q 15) (us 5) ++ (BW cI cZ h q v))))
  try simp only [List.append_assoc] at h
  exact h
theorem SX_ksa2 {cI cZ cO : ClassId} {A : Nat → Nat} {Q : Nat → Nat → Nat} {g : Nat → Option Nat} {n : Int32} {us : Nat → BS} {h : Nat} {q : Nat → Nat} {v w : BS} : ksets (SX cI cZ cO A Q g n us ++ BW cI cZ h q v) [14, 15, 16, 17, 18, 19] (BW cI cZ (A 12) (Q 12) w) = SX cI cZ cO A Q g n (upB us 2 w) ++ BW cI cZ h q v := by
  have h := kset_mid (BW cI cZ (A 12) (Q 12) (us 2)) (BW cI cZ (A 12) (Q 12) w) ([(A 6, .inr (2, [.ref (A 7), .int n])), (A 7, .inl (cO, 6, .inr (.inr (.inr (.inr g)))))] ++ (BW cI cZ (A 10) (Q 10) (us 0) ++ (BW cI cZ (A 11) (Q 11) (us 1)))) (BW cI cZ (A 13) (Q 13) (us 3) ++ (BW cI cZ (A 14) (Q 14) (us 4) ++ (BW cI cZ (A 15) (Q 15) (us 5) ++ (BW cI cZ h q v)))) rfl
  try simp only [List.append_assoc] at h
  exact h
theorem SX_alla3 {cI cZ cO : ClassId} {A : Nat → Nat} {Q : Nat → Nat → Nat} {g : Nat → Option Nat} {n : Int32} {us : Nat → BS} {h : Nat} {q : Nat → Nat} {v : BS} : ([20, 21, 22, 23, 24, 25] : List Nat).map (fun i => (SX cI cZ cO A Q g n us ++ BW cI cZ h q v)[i]?) = (BW cI cZ (A 13) (Q 13) (us 3)).map some := by
  have h := kget_mid (BW cI cZ (A 13) (Q 13) (us 3)) ([(A 6, .inr (2, [.ref (A 7), .int n])), (A 7, .inl (cO, 6, .inr (.inr (.inr (.inr g)))))] ++ (BW cI cZ (A 10) (Q 10) (us 0) ++ (BW cI cZ (A 11) (Q 11) (us 1) ++ (BW cI cZ (A 12) (Q 12) (us 2))))) (BW cI cZ (A 14) (Q 14) (us 4) ++ (BW cI cZ (A 15) (Q 15) (us 5) ++ (BW cI cZ h q v)))
  try simp only [List.append_assoc] at h
  exact h
theorem SX_ksa3 {cI cZ cO : ClassId} {A : Nat → Nat} {Q : Nat → Nat → Nat} {g : Nat → Option Nat} {n : Int32} {us : Nat → BS} {h : Nat} {q : Nat → Nat} {v w : BS} : ksets (SX cI cZ cO A Q g n us ++ BW cI cZ h q v) [20, 21, 22, 23, 24, 25] (BW cI cZ (A 13) (Q 13) w) = SX cI cZ cO A Q g n (upB us 3 w) ++ BW cI cZ h q v := by
  have h := kset_mid (BW cI cZ (A 13) (Q 13) (us 3)) (BW cI cZ (A 13) (Q 13) w) ([(A 6, .inr (2, [.ref (A 7), .int n])), (A 7, .inl (cO, 6, .inr (.inr (.inr (.inr g)))))] ++ (BW cI cZ (A 10) (Q 10) (us 0) ++ (BW cI cZ (A 11) (Q 11) (us 1) ++ (BW cI cZ (A 12) (Q 12) (us 2))))) (BW cI cZ (A 14) (Q 14) (us 4) ++ (BW cI cZ (A 15) (Q 15) (us 5) ++ (BW cI cZ h q v))) rfl
  try simp only [List.append_assoc] at h
  exact h
theorem SX_alla4 {cI cZ cO : ClassId} {A : Nat → Nat} {Q : Nat → Nat → Nat} {g : Nat → Option Nat} {n : Int32} {us : Nat → BS} {h : Nat} {q : Nat → Nat} {v : BS} : ([26, 27, 28, 29, 30, 31] : List Nat).map (fun i => (SX cI cZ cO A Q g n us ++ BW cI cZ h q v)[i]?) = (BW cI cZ (A 14) (Q 14) (us 4)).map some := by
  have h := kget_mid (BW cI cZ (A 14) (Q 14) (us 4)) ([(A 6, .inr (2, [.ref (A 7), .int n])), (A 7, .inl (cO, 6, .inr (.inr (.inr (.inr g)))))] ++ (BW cI cZ (A 10) (Q 10) (us 0) ++ (BW cI cZ (A 11) (Q 11) (us 1) ++ (BW cI cZ (A 12) (Q 12) (us 2) ++ (BW cI cZ (A 13) (Q 13) (us 3)))))) (BW cI cZ (A 15) (Q 15) (us 5) ++ (BW cI cZ h q v))
  try simp only [List.append_assoc] at h
  exact h
theorem SX_ksa4 {cI cZ cO : ClassId} {A : Nat → Nat} {Q : Nat → Nat → Nat} {g : Nat → Option Nat} {n : Int32} {us : Nat → BS} {h : Nat} {q : Nat → Nat} {v w : BS} : ksets (SX cI cZ cO A Q g n us ++ BW cI cZ h q v) [26, 27, 28, 29, 30, 31] (BW cI cZ (A 14) (Q 14) w) = SX cI cZ cO A Q g n (upB us 4 w) ++ BW cI cZ h q v := by
  have h := kset_mid (BW cI cZ (A 14) (Q 14) (us 4)) (BW cI cZ (A 14) (Q 14) w) ([(A 6, .inr (2, [.ref (A 7), .int n])), (A 7, .inl (cO, 6, .inr (.inr (.inr (.inr g)))))] ++ (BW cI cZ (A 10) (Q 10) (us 0) ++ (BW cI cZ (A 11) (Q 11) (us 1) ++ (BW cI cZ (A 12) (Q 12) (us 2) ++ (BW cI cZ (A 13) (Q 13) (us 3)))))) (BW cI cZ (A 15) (Q 15) (us 5) ++ (BW cI cZ h q v)) rfl
  try simp only [List.append_assoc] at h
  exact h
theorem SX_alla5 {cI cZ cO : ClassId} {A : Nat → Nat} {Q : Nat → Nat → Nat} {g : Nat → Option Nat} {n : Int32} {us : Nat → BS} {h : Nat} {q : Nat → Nat} {v : BS} : ([32, 33, 34, 35, 36, 37] : List Nat).map (fun i => (SX cI cZ cO A Q g n us ++ BW cI cZ h q v)[i]?) = (BW cI cZ (A 15) (Q 15) (us 5)).map some := by
  have h := kget_mid (BW cI cZ (A 15) (Q 15) (us 5)) ([(A 6, .inr (2, [.ref (A 7), .int n])), (A 7, .inl (cO, 6, .inr (.inr (.inr (.inr g)))))] ++ (BW cI cZ (A 10) (Q 10) (us 0) ++ (BW cI cZ (A 11) (Q 11) (us 1) ++ (BW cI cZ (A 12) (Q 12) (us 2) ++ (BW cI cZ (A 13) (Q 13) (us 3) ++ (BW cI cZ (A 14) (Q 14) (us 4))))))) (BW cI cZ h q v)
  try simp only [List.append_assoc] at h
  exact h
theorem SX_ksa5 {cI cZ cO : ClassId} {A : Nat → Nat} {Q : Nat → Nat → Nat} {g : Nat → Option Nat} {n : Int32} {us : Nat → BS} {h : Nat} {q : Nat → Nat} {v w : BS} : ksets (SX cI cZ cO A Q g n us ++ BW cI cZ h q v) [32, 33, 34, 35, 36, 37] (BW cI cZ (A 15) (Q 15) w) = SX cI cZ cO A Q g n (upB us 5 w) ++ BW cI cZ h q v := by
  have h := kset_mid (BW cI cZ (A 15) (Q 15) (us 5)) (BW cI cZ (A 15) (Q 15) w) ([(A 6, .inr (2, [.ref (A 7), .int n])), (A 7, .inl (cO, 6, .inr (.inr (.inr (.inr g)))))] ++ (BW cI cZ (A 10) (Q 10) (us 0) ++ (BW cI cZ (A 11) (Q 11) (us 1) ++ (BW cI cZ (A 12) (Q 12) (us 2) ++ (BW cI cZ (A 13) (Q 13) (us 3) ++ (BW cI cZ (A 14) (Q 14) (us 4))))))) (BW cI cZ h q v) rfl
  try simp only [List.append_assoc] at h
  exact h
theorem SX_allb {cI cZ cO : ClassId} {A : Nat → Nat} {Q : Nat → Nat → Nat} {g : Nat → Option Nat} {n : Int32} {us : Nat → BS} {h : Nat} {q : Nat → Nat} {v : BS} : ([38, 39, 40, 41, 42, 43] : List Nat).map (fun i => (SX cI cZ cO A Q g n us ++ BW cI cZ h q v)[i]?) = (BW cI cZ h q v).map some := by
  have h := kget_mid (BW cI cZ h q v) (SX cI cZ cO A Q g n us) []
  rw [List.append_nil] at h
  exact h
theorem SX_ksb {cI cZ cO : ClassId} {A : Nat → Nat} {Q : Nat → Nat → Nat} {g : Nat → Option Nat} {n : Int32} {us : Nat → BS} {h : Nat} {q : Nat → Nat} {v w : BS} : ksets (SX cI cZ cO A Q g n us ++ BW cI cZ h q v) [38, 39, 40, 41, 42, 43] (BW cI cZ h q w) = SX cI cZ cO A Q g n us ++ BW cI cZ h q w := by
  have h := kset_mid (BW cI cZ h q v) (BW cI cZ h q w) (SX cI cZ cO A Q g n us) [] rfl
  rw [List.append_nil, List.append_nil] at h
  exact h
theorem upB_id {us : Nat → BS} {p : Nat} : upB us p (us p) = us := by
  funext i
  unfold upB
  split
  · rename_i h; rw [h]
  · rfl
theorem SX_all0_b {cI cZ cO : ClassId} {A : Nat → Nat} {Q : Nat → Nat → Nat} {g : Nat → Option Nat} {n : Int32} {us : Nat → BS} {h : Nat} {q : Nat → Nat} {v : BS} : ([2, 3, 4, 5, 6, 7] ++ [38, 39, 40, 41, 42, 43] : List Nat).map (fun i => (SX cI cZ cO A Q g n us ++ BW cI cZ h q v)[i]?) = (BW cI cZ (A 10) (Q 10) (us 0) ++ BW cI cZ h q v).map some := by
  rw [List.map_append, List.map_append, SX_alla0, SX_allb]
theorem SX_ks0_b {cI cZ cO : ClassId} {A : Nat → Nat} {Q : Nat → Nat → Nat} {g : Nat → Option Nat} {n : Int32} {us : Nat → BS} {h : Nat} {q : Nat → Nat} {v w : BS} : ksets (SX cI cZ cO A Q g n us ++ BW cI cZ h q v) ([2, 3, 4, 5, 6, 7] ++ [38, 39, 40, 41, 42, 43]) (BW cI cZ (A 10) (Q 10) w ++ BW cI cZ h q v) = SX cI cZ cO A Q g n (upB us 0 w) ++ BW cI cZ h q v := by
  rw [ksets_app _ _ _ _ _ rfl, SX_ksa0, SX_ksb]
theorem SX_allb_0 {cI cZ cO : ClassId} {A : Nat → Nat} {Q : Nat → Nat → Nat} {g : Nat → Option Nat} {n : Int32} {us : Nat → BS} {h : Nat} {q : Nat → Nat} {v : BS} : ([38, 39, 40, 41, 42, 43] ++ [2, 3, 4, 5, 6, 7] : List Nat).map (fun i => (SX cI cZ cO A Q g n us ++ BW cI cZ h q v)[i]?) = (BW cI cZ h q v ++ BW cI cZ (A 10) (Q 10) (us 0)).map some := by
  rw [List.map_append, List.map_append, SX_alla0, SX_allb]
theorem SX_ksb_0 {cI cZ cO : ClassId} {A : Nat → Nat} {Q : Nat → Nat → Nat} {g : Nat → Option Nat} {n : Int32} {us : Nat → BS} {h : Nat} {q : Nat → Nat} {v w : BS} : ksets (SX cI cZ cO A Q g n us ++ BW cI cZ h q v) ([38, 39, 40, 41, 42, 43] ++ [2, 3, 4, 5, 6, 7]) (BW cI cZ h q w ++ BW cI cZ (A 10) (Q 10) (us 0)) = SX cI cZ cO A Q g n us ++ BW cI cZ h q w := by
  rw [ksets_app _ _ _ _ _ rfl, SX_ksb, SX_ksa0, upB_id]
theorem SX_all1_b {cI cZ cO : ClassId} {A : Nat → Nat} {Q : Nat → Nat → Nat} {g : Nat → Option Nat} {n : Int32} {us : Nat → BS} {h : Nat} {q : Nat → Nat} {v : BS} : ([8, 9, 10, 11, 12, 13] ++ [38, 39, 40, 41, 42, 43] : List Nat).map (fun i => (SX cI cZ cO A Q g n us ++ BW cI cZ h q v)[i]?) = (BW cI cZ (A 11) (Q 11) (us 1) ++ BW cI cZ h q v).map some := by
  rw [List.map_append, List.map_append, SX_alla1, SX_allb]
theorem SX_ks1_b {cI cZ cO : ClassId} {A : Nat → Nat} {Q : Nat → Nat → Nat} {g : Nat → Option Nat} {n : Int32} {us : Nat → BS} {h : Nat} {q : Nat → Nat} {v w : BS} : ksets (SX cI cZ cO A Q g n us ++ BW cI cZ h q v) ([8, 9, 10, 11, 12, 13] ++ [38, 39, 40, 41, 42, 43]) (BW cI cZ (A 11) (Q 11) w ++ BW cI cZ h q v) = SX cI cZ cO A Q g n (upB us 1 w) ++ BW cI cZ h q v := by
  rw [ksets_app _ _ _ _ _ rfl, SX_ksa1, SX_ksb]
theorem SX_allb_1 {cI cZ cO : ClassId} {A : Nat → Nat} {Q : Nat → Nat → Nat} {g : Nat → Option Nat} {n : Int32} {us : Nat → BS} {h : Nat} {q : Nat → Nat} {v : BS} : ([38, 39, 40, 41, 42, 43] ++ [8, 9, 10, 11, 12, 13] : List Nat).map (fun i => (SX cI cZ cO A Q g n us ++ BW cI cZ h q v)[i]?) = (BW cI cZ h q v ++ BW cI cZ (A 11) (Q 11) (us 1)).map some := by
  rw [List.map_append, List.map_append, SX_alla1, SX_allb]
theorem SX_ksb_1 {cI cZ cO : ClassId} {A : Nat → Nat} {Q : Nat → Nat → Nat} {g : Nat → Option Nat} {n : Int32} {us : Nat → BS} {h : Nat} {q : Nat → Nat} {v w : BS} : ksets (SX cI cZ cO A Q g n us ++ BW cI cZ h q v) ([38, 39, 40, 41, 42, 43] ++ [8, 9, 10, 11, 12, 13]) (BW cI cZ h q w ++ BW cI cZ (A 11) (Q 11) (us 1)) = SX cI cZ cO A Q g n us ++ BW cI cZ h q w := by
  rw [ksets_app _ _ _ _ _ rfl, SX_ksb, SX_ksa1, upB_id]
theorem SX_all2_b {cI cZ cO : ClassId} {A : Nat → Nat} {Q : Nat → Nat → Nat} {g : Nat → Option Nat} {n : Int32} {us : Nat → BS} {h : Nat} {q : Nat → Nat} {v : BS} : ([14, 15, 16, 17, 18, 19] ++ [38, 39, 40, 41, 42, 43] : List Nat).map (fun i => (SX cI cZ cO A Q g n us ++ BW cI cZ h q v)[i]?) = (BW cI cZ (A 12) (Q 12) (us 2) ++ BW cI cZ h q v).map some := by
  rw [List.map_append, List.map_append, SX_alla2, SX_allb]
theorem SX_ks2_b {cI cZ cO : ClassId} {A : Nat → Nat} {Q : Nat → Nat → Nat} {g : Nat → Option Nat} {n : Int32} {us : Nat → BS} {h : Nat} {q : Nat → Nat} {v w : BS} : ksets (SX cI cZ cO A Q g n us ++ BW cI cZ h q v) ([14, 15, 16, 17, 18, 19] ++ [38, 39, 40, 41, 42, 43]) (BW cI cZ (A 12) (Q 12) w ++ BW cI cZ h q v) = SX cI cZ cO A Q g n (upB us 2 w) ++ BW cI cZ h q v := by
  rw [ksets_app _ _ _ _ _ rfl, SX_ksa2, SX_ksb]
theorem SX_allb_2 {cI cZ cO : ClassId} {A : Nat → Nat} {Q : Nat → Nat → Nat} {g : Nat → Option Nat} {n : Int32} {us : Nat → BS} {h : Nat} {q : Nat → Nat} {v : BS} : ([38, 39, 40, 41, 42, 43] ++ [14, 15, 16, 17, 18, 19] : List Nat).map (fun i => (SX cI cZ cO A Q g n us ++ BW cI cZ h q v)[i]?) = (BW cI cZ h q v ++ BW cI cZ (A 12) (Q 12) (us 2)).map some := by
  rw [List.map_append, List.map_append, SX_alla2, SX_allb]
theorem SX_ksb_2 {cI cZ cO : ClassId} {A : Nat → Nat} {Q : Nat → Nat → Nat} {g : Nat → Option Nat} {n : Int32} {us : Nat → BS} {h : Nat} {q : Nat → Nat} {v w : BS} : ksets (SX cI cZ cO A Q g n us ++ BW cI cZ h q v) ([38, 39, 40, 41, 42, 43] ++ [14, 15, 16, 17, 18, 19]) (BW cI cZ h q w ++ BW cI cZ (A 12) (Q 12) (us 2)) = SX cI cZ cO A Q g n us ++ BW cI cZ h q w := by
  rw [ksets_app _ _ _ _ _ rfl, SX_ksb, SX_ksa2, upB_id]
theorem SX_all3_b {cI cZ cO : ClassId} {A : Nat → Nat} {Q : Nat → Nat → Nat} {g : Nat → Option Nat} {n : Int32} {us : Nat → BS} {h : Nat} {q : Nat → Nat} {v : BS} : ([20, 21, 22, 23, 24, 25] ++ [38, 39, 40, 41, 42, 43] : List Nat).map (fun i => (SX cI cZ cO A Q g n us ++ BW cI cZ h q v)[i]?) = (BW cI cZ (A 13) (Q 13) (us 3) ++ BW cI cZ h q v).map some := by
  rw [List.map_append, List.map_append, SX_alla3, SX_allb]
theorem SX_ks3_b {cI cZ cO : ClassId} {A : Nat → Nat} {Q : Nat → Nat → Nat} {g : Nat → Option Nat} {n : Int32} {us : Nat → BS} {h : Nat} {q : Nat → Nat} {v w : BS} : ksets (SX cI cZ cO A Q g n us ++ BW cI cZ h q v) ([20, 21, 22, 23, 24, 25] ++ [38, 39, 40, 41, 42, 43]) (BW cI cZ (A 13) (Q 13) w ++ BW cI cZ h q v) = SX cI cZ cO A Q g n (upB us 3 w) ++ BW cI cZ h q v := by
  rw [ksets_app _ _ _ _ _ rfl, SX_ksa3, SX_ksb]
theorem SX_allb_3 {cI cZ cO : ClassId} {A : Nat → Nat} {Q : Nat → Nat → Nat} {g : Nat → Option Nat} {n : Int32} {us : Nat → BS} {h : Nat} {q : Nat → Nat} {v : BS} : ([38, 39, 40, 41, 42, 43] ++ [20, 21, 22, 23, 24, 25] : List Nat).map (fun i => (SX cI cZ cO A Q g n us ++ BW cI cZ h q v)[i]?) = (BW cI cZ h q v ++ BW cI cZ (A 13) (Q 13) (us 3)).map some := by
  rw [List.map_append, List.map_append, SX_alla3, SX_allb]
theorem SX_ksb_3 {cI cZ cO : ClassId} {A : Nat → Nat} {Q : Nat → Nat → Nat} {g : Nat → Option Nat} {n : Int32} {us : Nat → BS} {h : Nat} {q : Nat → Nat} {v w : BS} : ksets (SX cI cZ cO A Q g n us ++ BW cI cZ h q v) ([38, 39, 40, 41, 42, 43] ++ [20, 21, 22, 23, 24, 25]) (BW cI cZ h q w ++ BW cI cZ (A 13) (Q 13) (us 3)) = SX cI cZ cO A Q g n us ++ BW cI cZ h q w := by
  rw [ksets_app _ _ _ _ _ rfl, SX_ksb, SX_ksa3, upB_id]
theorem SX_all4_b {cI cZ cO : ClassId} {A : Nat → Nat} {Q : Nat → Nat → Nat} {g : Nat → Option Nat} {n : Int32} {us : Nat → BS} {h : Nat} {q : Nat → Nat} {v : BS} : ([26, 27, 28, 29, 30, 31] ++ [38, 39, 40, 41, 42, 43] : List Nat).map (fun i => (SX cI cZ cO A Q g n us ++ BW cI cZ h q v)[i]?) = (BW cI cZ (A 14) (Q 14) (us 4) ++ BW cI cZ h q v).map some := by
  rw [List.map_append, List.map_append, SX_alla4, SX_allb]
theorem SX_ks4_b {cI cZ cO : ClassId} {A : Nat → Nat} {Q : Nat → Nat → Nat} {g : Nat → Option Nat} {n : Int32} {us : Nat → BS} {h : Nat} {q : Nat → Nat} {v w : BS} : ksets (SX cI cZ cO A Q g n us ++ BW cI cZ h q v) ([26, 27, 28, 29, 30, 31] ++ [38, 39, 40, 41, 42, 43]) (BW cI cZ (A 14) (Q 14) w ++ BW cI cZ h q v) = SX cI cZ cO A Q g n (upB us 4 w) ++ BW cI cZ h q v := by
  rw [ksets_app _ _ _ _ _ rfl, SX_ksa4, SX_ksb]
theorem SX_allb_4 {cI cZ cO : ClassId} {A : Nat → Nat} {Q : Nat → Nat → Nat} {g : Nat → Option Nat} {n : Int32} {us : Nat → BS} {h : Nat} {q : Nat → Nat} {v : BS} : ([38, 39, 40, 41, 42, 43] ++ [26, 27, 28, 29, 30, 31] : List Nat).map (fun i => (SX cI cZ cO A Q g n us ++ BW cI cZ h q v)[i]?) = (BW cI cZ h q v ++ BW cI cZ (A 14) (Q 14) (us 4)).map some := by
  rw [List.map_append, List.map_append, SX_alla4, SX_allb]
theorem SX_ksb_4 {cI cZ cO : ClassId} {A : Nat → Nat} {Q : Nat → Nat → Nat} {g : Nat → Option Nat} {n : Int32} {us : Nat → BS} {h : Nat} {q : Nat → Nat} {v w : BS} : ksets (SX cI cZ cO A Q g n us ++ BW cI cZ h q v) ([38, 39, 40, 41, 42, 43] ++ [26, 27, 28, 29, 30, 31]) (BW cI cZ h q w ++ BW cI cZ (A 14) (Q 14) (us 4)) = SX cI cZ cO A Q g n us ++ BW cI cZ h q w := by
  rw [ksets_app _ _ _ _ _ rfl, SX_ksb, SX_ksa4, upB_id]
theorem SX_all5_b {cI cZ cO : ClassId} {A : Nat → Nat} {Q : Nat → Nat → Nat} {g : Nat → Option Nat} {n : Int32} {us : Nat → BS} {h : Nat} {q : Nat → Nat} {v : BS} : ([32, 33, 34, 35, 36, 37] ++ [38, 39, 40, 41, 42, 43] : List Nat).map (fun i => (SX cI cZ cO A Q g n us ++ BW cI cZ h q v)[i]?) = (BW cI cZ (A 15) (Q 15) (us 5) ++ BW cI cZ h q v).map some := by
  rw [List.map_append, List.map_append, SX_alla5, SX_allb]
theorem SX_ks5_b {cI cZ cO : ClassId} {A : Nat → Nat} {Q : Nat → Nat → Nat} {g : Nat → Option Nat} {n : Int32} {us : Nat → BS} {h : Nat} {q : Nat → Nat} {v w : BS} : ksets (SX cI cZ cO A Q g n us ++ BW cI cZ h q v) ([32, 33, 34, 35, 36, 37] ++ [38, 39, 40, 41, 42, 43]) (BW cI cZ (A 15) (Q 15) w ++ BW cI cZ h q v) = SX cI cZ cO A Q g n (upB us 5 w) ++ BW cI cZ h q v := by
  rw [ksets_app _ _ _ _ _ rfl, SX_ksa5, SX_ksb]
theorem SX_allb_5 {cI cZ cO : ClassId} {A : Nat → Nat} {Q : Nat → Nat → Nat} {g : Nat → Option Nat} {n : Int32} {us : Nat → BS} {h : Nat} {q : Nat → Nat} {v : BS} : ([38, 39, 40, 41, 42, 43] ++ [32, 33, 34, 35, 36, 37] : List Nat).map (fun i => (SX cI cZ cO A Q g n us ++ BW cI cZ h q v)[i]?) = (BW cI cZ h q v ++ BW cI cZ (A 15) (Q 15) (us 5)).map some := by
  rw [List.map_append, List.map_append, SX_alla5, SX_allb]
theorem SX_ksb_5 {cI cZ cO : ClassId} {A : Nat → Nat} {Q : Nat → Nat → Nat} {g : Nat → Option Nat} {n : Int32} {us : Nat → BS} {h : Nat} {q : Nat → Nat} {v w : BS} : ksets (SX cI cZ cO A Q g n us ++ BW cI cZ h q v) ([38, 39, 40, 41, 42, 43] ++ [32, 33, 34, 35, 36, 37]) (BW cI cZ h q w ++ BW cI cZ (A 15) (Q 15) (us 5)) = SX cI cZ cO A Q g n us ++ BW cI cZ h q w := by
  rw [ksets_app _ _ _ _ _ rfl, SX_ksb, SX_ksa5, upB_id]

def rm_X2_size : Room := { frames := 0, cells := 0, slots := 0, locals := 0 }
theorem mi_X2_size : kM yX2_size wsX2_size cX2_size 1 (some .int) 0 := ⟨⟨_, rfl⟩, by decide, by decide, by decide +kernel⟩
def f_Ssize (sv : SS) : Int32 := nI sv.2.1
set_option maxHeartbeats 1000000 in
set_option maxRecDepth 100000 in
theorem c_X2_size (l : Launch) (dC : Nat → ClassId) (dI : Nat → Nat → Nat) (cI cZ cO : ClassId) (A : Nat → Nat) (Q : Nat → Nat → Nat) (sv : SS) : Met l yX2_size wsX2_size rm_X2_size (va_Pc [.ref (A 6)] (fun U => va_P (dC, dI) vwCl (SW cI cZ cO A Q sv) U.heap ∧ va_K (dC, dI) vwCl (TY cI cZ cO) U)) (kQ (some (.int (f_Ssize sv)))) 0 0 (fun _ => False) := by
  refine kofR (cc := cX2_size) (maxL := 1) (ret := some .int) (by decide) rfl (Nat.le_of_ble_eq_true rfl) ?_
  intro p e s m args below meth c ls S hr hlk hP hK hl
  obtain ⟨hx, hb, hml, hown, hts⟩ := id S
  have inX2 : ∀ w ∈ wsX20, w ∈ wsX2_size := fun w h => List.mem_cons_of_mem _ (List.mem_append_right _ h)
  have hl : lv_has ls 1 [(0, .ref (A 6))] := hl
  refine lv_aload_n hx hb dX2_size_0 rfl (lv_at hl 0 rfl) ?_
  refine va_get (D := (dC, dI)) (ci := 2) (v := .int (nI sv.2.1)) (C := RX2) (T := TX2) (N := 2) hx hb hts inX2 hown hK hP 0 rfl rfl 1 (by decide) (hts (.fieldLink RX2 18 "BoardMetronomes$SavedStates" "size" "I") (by decide +kernel)) (fun _ h9 => h9) rfl dX2_size_1 ?_
  have r1 : f_Ssize sv = nI sv.2.1 := by
    rw [f_Ssize]
  exact kr_i hx hb hr hlk dX2_size_4 r1.symm

def rm_X2_dropOldest : Room := { frames := 0, cells := 0, slots := 0, locals := 0 }
theorem mi_X2_dropOldest : kM yX2_dropOldest wsX2_dropOldest cX2_dropOldest 3 none 0 := ⟨⟨_, rfl⟩, by decide, by decide, by decide +kernel⟩
set_option maxHeartbeats 1000000 in
set_option maxRecDepth 100000 in
theorem c_X2_drop0 (l : Launch) (dC : Nat → ClassId) (dI : Nat → Nat → Nat) (cI cZ cO : ClassId) (A : Nat → Nat) (Q : Nat → Nat → Nat) (k : Nat) (us : Nat → BS) (sz : Nat) : Met l yX2_dropOldest wsX2_dropOldest rm_X2_dropOldest (va_Pc [.ref (A 6)] (fun U => U.heap.size = sz ∧ va_P (dC, dI) vwCl (SX cI cZ cO A Q (SRow A 0) (nI k) us) U.heap ∧ va_K (dC, dI) vwCl (TY cI cZ cO) U ∧ va_D (fun _ => True) (SX cI cZ cO A Q (SRow A 0) (nI k) us))) (kQw none (dC, dI) vwCl (SX cI cZ cO A Q (SRow A 1) (5 : Int32) us) (va_A (SX cI cZ cO A Q (SRow A 0) (nI k) us) sz)) 0 0 (va_A (SX cI cZ cO A Q (SRow A 0) (nI k) us) sz) := by
  refine kofW (cc := cX2_dropOldest) (maxL := 3) (ret := none) (by decide) rfl (Nat.le_of_ble_eq_true rfl) ?_
  intro p e s m args below meth c ls S hr hlk hnm hsz hP hK hD hS hA hl
  generalize hA0 : va_A (SX cI cZ cO A Q (SRow A 0) (nI k) us) sz = A0 at hD hS hA ⊢
  subst hsz
  obtain ⟨hx, hb, hml, hown, hts⟩ := id S
  have inX2 : ∀ w ∈ wsX20, w ∈ wsX2_dropOldest := fun w h => List.mem_cons_of_mem _ (List.mem_append_right _ h)
  have hl : lv_has ls 3 [(0, .ref (A 6))] := hl
  refine lv_aload_n hx hb dX2_dropOldest_0 rfl (lv_at hl 0 rfl) ?_
  refine va_get (D := (dC, dI)) (ci := 2) (v := .ref (A 7)) (C := RX2) (T := TX2) (N := 2) hx hb hts inX2 hown hK hP 0 rfl rfl 0 (by decide) (hts (.fieldLink RX2 11 "BoardMetronomes$SavedStates" "states" "[LBoardMetronomes$Bench;") (by decide +kernel)) (fun _ h9 => h9) rfl dX2_dropOldest_1 ?_
  refine lv_iconst (v := (0 : Int32)) hx hb dX2_dropOldest_4 (by decide) ?_
  refine va_aldq (D := (dC, dI)) hx hb hK hP 1 2 rfl rfl (vp_in_nI (n := 0) (by omega) (by decide)) dX2_dropOldest_5 ?_
  refine W.eq (g2 := F0 m 6 ls [.ref (A 10)]) rfl ?_
  refine lv_astore_n (lv' := [(1, .ref (A 10)), (0, .ref (A 6))]) hx hb dX2_dropOldest_6 rfl hl (by decide) rfl (fun ls hl => ?_)
  refine lv_iconst (v := (1 : Int32)) hx hb dX2_dropOldest_7 (by decide) ?_
  refine lv_istore_n (lv' := [(2, .int (1 : Int32)), (1, .ref (A 10)), (0, .ref (A 6))]) hx hb dX2_dropOldest_8 rfl hl (by decide) rfl (fun ls hl => ?_)
  refine lv_iload_n hx hb dX2_dropOldest_9 rfl (lv_at hl 0 rfl) ?_
  refine lv_bipush (v := (6 : Int32)) hx hb dX2_dropOldest_10 (by decide) ?_
  refine lv_icmp_ge (tgt := 35) hx hb dX2_dropOldest_12 (by decide) (fun c_12 => ?_) (fun c_12 => ?_)
  · exact absurd c_12 (by decide)
  · refine lv_aload_n hx hb dX2_dropOldest_15 rfl (lv_at hl 2 rfl) ?_
    refine va_get (D := (dC, dI)) (ci := 2) (v := .ref (A 7)) (C := RX2) (T := TX2) (N := 2) hx hb hts inX2 hown hK hP 0 rfl rfl 0 (by decide) (hts (.fieldLink RX2 11 "BoardMetronomes$SavedStates" "states" "[LBoardMetronomes$Bench;") (by decide +kernel)) (fun _ h9 => h9) rfl dX2_dropOldest_16 ?_
    refine lv_iload_n hx hb dX2_dropOldest_19 rfl (lv_at hl 0 rfl) ?_
    refine lv_iconst (v := (1 : Int32)) hx hb dX2_dropOldest_20 (by decide) ?_
    refine lv_isub hx hb dX2_dropOldest_21 ?_
    refine kt_i (y := (0 : Int32)) (by decide) ?_
    refine lv_aload_n hx hb dX2_dropOldest_22 rfl (lv_at hl 2 rfl) ?_
    refine va_get (D := (dC, dI)) (ci := 2) (v := .ref (A 7)) (C := RX2) (T := TX2) (N := 2) hx hb hts inX2 hown hK hP 0 rfl rfl 0 (by decide) (hts (.fieldLink RX2 11 "BoardMetronomes$SavedStates" "states" "[LBoardMetronomes$Bench;") (by decide +kernel)) (fun _ h9 => h9) rfl dX2_dropOldest_23 ?_
    refine lv_iload_n hx hb dX2_dropOldest_26 rfl (lv_at hl 0 rfl) ?_
    refine va_aldq (D := (dC, dI)) hx hb hK hP 1 2 rfl rfl (vp_in_nI (n := 1) (by omega) (by decide)) dX2_dropOldest_27 ?_
    refine W.eq (g2 := F0 m 28 ls [.ref (A 11), .int (0 : Int32), .ref (A 7)]) rfl ?_
    refine va_astq (D := (dC, dI)) hx hb hK hP hD hS 1 2 8 0 (r := (RX0, TX0, 14)) rfl rfl rfl rfl (vp_in_nI (n := 0) (by omega) (by decide)) dX2_dropOldest_28 (fun H locs hP hD hS => ?_)
    have hP : va_P (dC, dI) vwCl (SX cI cZ cO A Q (va_up (SRow A 0) (0 : Int32).toNatClampNeg (some (A 11))) (nI k) us) H := Eq.mp (congrArg (fun w => va_P (dC, dI) vwCl w H) SX_g) hP
    have hD : va_D A0 (SX cI cZ cO A Q (va_up (SRow A 0) (0 : Int32).toNatClampNeg (some (A 11))) (nI k) us) := Eq.mp (congrArg (fun w => va_D A0 w) SX_g) hD
    refine lv_iinc (v := (2 : Int32)) (lv' := [(2, .int (2 : Int32)), (1, .ref (A 10)), (0, .ref (A 6))]) hx hb dX2_dropOldest_29 hl (k := 0) rfl (by decide) (by decide) rfl (fun ls hl => ?_)
    refine lv_goto (tgt := 9) hx hb dX2_dropOldest_32 (by decide) ?_
    refine lv_iload_n hx hb dX2_dropOldest_9 rfl (lv_at hl 0 rfl) ?_
    refine lv_bipush (v := (6 : Int32)) hx hb dX2_dropOldest_10 (by decide) ?_
    refine lv_icmp_ge (tgt := 35) hx hb dX2_dropOldest_12 (by decide) (fun c_12 => ?_) (fun c_12 => ?_)
    · exact absurd c_12 (by decide)
    · refine lv_aload_n hx hb dX2_dropOldest_15 rfl (lv_at hl 2 rfl) ?_
      refine va_get (D := (dC, dI)) (ci := 2) (v := .ref (A 7)) (C := RX2) (T := TX2) (N := 2) hx hb hts inX2 hown hK hP 0 rfl rfl 0 (by decide) (hts (.fieldLink RX2 11 "BoardMetronomes$SavedStates" "states" "[LBoardMetronomes$Bench;") (by decide +kernel)) (fun _ h9 => h9) rfl dX2_dropOldest_16 ?_
      refine lv_iload_n hx hb dX2_dropOldest_19 rfl (lv_at hl 0 rfl) ?_
      refine lv_iconst (v := (1 : Int32)) hx hb dX2_dropOldest_20 (by decide) ?_
      refine lv_isub hx hb dX2_dropOldest_21 ?_
      refine kt_i (y := (1 : Int32)) (by decide) ?_
      refine lv_aload_n hx hb dX2_dropOldest_22 rfl (lv_at hl 2 rfl) ?_
      refine va_get (D := (dC, dI)) (ci := 2) (v := .ref (A 7)) (C := RX2) (T := TX2) (N := 2) hx hb hts inX2 hown hK hP 0 rfl rfl 0 (by decide) (hts (.fieldLink RX2 11 "BoardMetronomes$SavedStates" "states" "[LBoardMetronomes$Bench;") (by decide +kernel)) (fun _ h9 => h9) rfl dX2_dropOldest_23 ?_
      refine lv_iload_n hx hb dX2_dropOldest_26 rfl (lv_at hl 0 rfl) ?_
      refine va_aldq (D := (dC, dI)) hx hb hK hP 1 2 rfl rfl (vp_in_nI (n := 2) (by omega) (by decide)) dX2_dropOldest_27 ?_
      refine W.eq (g2 := F0 m 28 ls [.ref (A 12), .int (1 : Int32), .ref (A 7)]) rfl ?_
      refine va_astq (D := (dC, dI)) hx hb hK hP hD hS 1 2 14 0 (r := (RX0, TX0, 14)) rfl rfl rfl rfl (vp_in_nI (n := 1) (by omega) (by decide)) dX2_dropOldest_28 (fun H locs hP hD hS => ?_)
      have hP : va_P (dC, dI) vwCl (SX cI cZ cO A Q (va_up (va_up (SRow A 0) (0 : Int32).toNatClampNeg (some (A 11))) (1 : Int32).toNatClampNeg (some (A 12))) (nI k) us) H := Eq.mp (congrArg (fun w => va_P (dC, dI) vwCl w H) SX_g) hP
      have hD : va_D A0 (SX cI cZ cO A Q (va_up (va_up (SRow A 0) (0 : Int32).toNatClampNeg (some (A 11))) (1 : Int32).toNatClampNeg (some (A 12))) (nI k) us) := Eq.mp (congrArg (fun w => va_D A0 w) SX_g) hD
      refine lv_iinc (v := (3 : Int32)) (lv' := [(2, .int (3 : Int32)), (1, .ref (A 10)), (0, .ref (A 6))]) hx hb dX2_dropOldest_29 hl (k := 0) rfl (by decide) (by decide) rfl (fun ls hl => ?_)
      refine lv_goto (tgt := 9) hx hb dX2_dropOldest_32 (by decide) ?_
      refine lv_iload_n hx hb dX2_dropOldest_9 rfl (lv_at hl 0 rfl) ?_
      refine lv_bipush (v := (6 : Int32)) hx hb dX2_dropOldest_10 (by decide) ?_
      refine lv_icmp_ge (tgt := 35) hx hb dX2_dropOldest_12 (by decide) (fun c_12 => ?_) (fun c_12 => ?_)
      · exact absurd c_12 (by decide)
      · refine lv_aload_n hx hb dX2_dropOldest_15 rfl (lv_at hl 2 rfl) ?_
        refine va_get (D := (dC, dI)) (ci := 2) (v := .ref (A 7)) (C := RX2) (T := TX2) (N := 2) hx hb hts inX2 hown hK hP 0 rfl rfl 0 (by decide) (hts (.fieldLink RX2 11 "BoardMetronomes$SavedStates" "states" "[LBoardMetronomes$Bench;") (by decide +kernel)) (fun _ h9 => h9) rfl dX2_dropOldest_16 ?_
        refine lv_iload_n hx hb dX2_dropOldest_19 rfl (lv_at hl 0 rfl) ?_
        refine lv_iconst (v := (1 : Int32)) hx hb dX2_dropOldest_20 (by decide) ?_
        refine lv_isub hx hb dX2_dropOldest_21 ?_
        refine kt_i (y := (2 : Int32)) (by decide) ?_
        refine lv_aload_n hx hb dX2_dropOldest_22 rfl (lv_at hl 2 rfl) ?_
        refine va_get (D := (dC, dI)) (ci := 2) (v := .ref (A 7)) (C := RX2) (T := TX2) (N := 2) hx hb hts inX2 hown hK hP 0 rfl rfl 0 (by decide) (hts (.fieldLink RX2 11 "BoardMetronomes$SavedStates" "states" "[LBoardMetronomes$Bench;") (by decide +kernel)) (fun _ h9 => h9) rfl dX2_dropOldest_23 ?_
        refine lv_iload_n hx hb dX2_dropOldest_26 rfl (lv_at hl 0 rfl) ?_
        refine va_aldq (D := (dC, dI)) hx hb hK hP 1 2 rfl rfl (vp_in_nI (n := 3) (by omega) (by decide)) dX2_dropOldest_27 ?_
        refine W.eq (g2 := F0 m 28 ls [.ref (A 13), .int (2 : Int32), .ref (A 7)]) rfl ?_
        refine va_astq (D := (dC, dI)) hx hb hK hP hD hS 1 2 20 0 (r := (RX0, TX0, 14)) rfl rfl rfl rfl (vp_in_nI (n := 2) (by omega) (by decide)) dX2_dropOldest_28 (fun H locs hP hD hS => ?_)
        have hP : va_P (dC, dI) vwCl (SX cI cZ cO A Q (va_up (va_up (va_up (SRow A 0) (0 : Int32).toNatClampNeg (some (A 11))) (1 : Int32).toNatClampNeg (some (A 12))) (2 : Int32).toNatClampNeg (some (A 13))) (nI k) us) H := Eq.mp (congrArg (fun w => va_P (dC, dI) vwCl w H) SX_g) hP
        have hD : va_D A0 (SX cI cZ cO A Q (va_up (va_up (va_up (SRow A 0) (0 : Int32).toNatClampNeg (some (A 11))) (1 : Int32).toNatClampNeg (some (A 12))) (2 : Int32).toNatClampNeg (some (A 13))) (nI k) us) := Eq.mp (congrArg (fun w => va_D A0 w) SX_g) hD
        refine lv_iinc (v := (4 : Int32)) (lv' := [(2, .int (4 : Int32)), (1, .ref (A 10)), (0, .ref (A 6))]) hx hb dX2_dropOldest_29 hl (k := 0) rfl (by decide) (by decide) rfl (fun ls hl => ?_)
        refine lv_goto (tgt := 9) hx hb dX2_dropOldest_32 (by decide) ?_
        refine lv_iload_n hx hb dX2_dropOldest_9 rfl (lv_at hl 0 rfl) ?_
        refine lv_bipush (v := (6 : Int32)) hx hb dX2_dropOldest_10 (by decide) ?_
        refine lv_icmp_ge (tgt := 35) hx hb dX2_dropOldest_12 (by decide) (fun c_12 => ?_) (fun c_12 => ?_)
        · exact absurd c_12 (by decide)
        · refine lv_aload_n hx hb dX2_dropOldest_15 rfl (lv_at hl 2 rfl) ?_
          refine va_get (D := (dC, dI)) (ci := 2) (v := .ref (A 7)) (C := RX2) (T := TX2) (N := 2) hx hb hts inX2 hown hK hP 0 rfl rfl 0 (by decide) (hts (.fieldLink RX2 11 "BoardMetronomes$SavedStates" "states" "[LBoardMetronomes$Bench;") (by decide +kernel)) (fun _ h9 => h9) rfl dX2_dropOldest_16 ?_
          refine lv_iload_n hx hb dX2_dropOldest_19 rfl (lv_at hl 0 rfl) ?_
          refine lv_iconst (v := (1 : Int32)) hx hb dX2_dropOldest_20 (by decide) ?_
          refine lv_isub hx hb dX2_dropOldest_21 ?_
          refine kt_i (y := (3 : Int32)) (by decide) ?_
          refine lv_aload_n hx hb dX2_dropOldest_22 rfl (lv_at hl 2 rfl) ?_
          refine va_get (D := (dC, dI)) (ci := 2) (v := .ref (A 7)) (C := RX2) (T := TX2) (N := 2) hx hb hts inX2 hown hK hP 0 rfl rfl 0 (by decide) (hts (.fieldLink RX2 11 "BoardMetronomes$SavedStates" "states" "[LBoardMetronomes$Bench;") (by decide +kernel)) (fun _ h9 => h9) rfl dX2_dropOldest_23 ?_
          refine lv_iload_n hx hb dX2_dropOldest_26 rfl (lv_at hl 0 rfl) ?_
          refine va_aldq (D := (dC, dI)) hx hb hK hP 1 2 rfl rfl (vp_in_nI (n := 4) (by omega) (by decide)) dX2_dropOldest_27 ?_
          refine W.eq (g2 := F0 m 28 ls [.ref (A 14), .int (3 : Int32), .ref (A 7)]) rfl ?_
          refine va_astq (D := (dC, dI)) hx hb hK hP hD hS 1 2 26 0 (r := (RX0, TX0, 14)) rfl rfl rfl rfl (vp_in_nI (n := 3) (by omega) (by decide)) dX2_dropOldest_28 (fun H locs hP hD hS => ?_)
          have hP : va_P (dC, dI) vwCl (SX cI cZ cO A Q (va_up (va_up (va_up (va_up (SRow A 0) (0 : Int32).toNatClampNeg (some (A 11))) (1 : Int32).toNatClampNeg (some (A 12))) (2 : Int32).toNatClampNeg (some (A 13))) (3 : Int32).toNatClampNeg (some (A 14))) (nI k) us) H := Eq.mp (congrArg (fun w => va_P (dC, dI) vwCl w H) SX_g) hP
          have hD : va_D A0 (SX cI cZ cO A Q (va_up (va_up (va_up (va_up (SRow A 0) (0 : Int32).toNatClampNeg (some (A 11))) (1 : Int32).toNatClampNeg (some (A 12))) (2 : Int32).toNatClampNeg (some (A 13))) (3 : Int32).toNatClampNeg (some (A 14))) (nI k) us) := Eq.mp (congrArg (fun w => va_D A0 w) SX_g) hD
          refine lv_iinc (v := (5 : Int32)) (lv' := [(2, .int (5 : Int32)), (1, .ref (A 10)), (0, .ref (A 6))]) hx hb dX2_dropOldest_29 hl (k := 0) rfl (by decide) (by decide) rfl (fun ls hl => ?_)
          refine lv_goto (tgt := 9) hx hb dX2_dropOldest_32 (by decide) ?_
          refine lv_iload_n hx hb dX2_dropOldest_9 rfl (lv_at hl 0 rfl) ?_
          refine lv_bipush (v := (6 : Int32)) hx hb dX2_dropOldest_10 (by decide) ?_
          refine lv_icmp_ge (tgt := 35) hx hb dX2_dropOldest_12 (by decide) (fun c_12 => ?_) (fun c_12 => ?_)
          · exact absurd c_12 (by decide)
          · refine lv_aload_n hx hb dX2_dropOldest_15 rfl (lv_at hl 2 rfl) ?_
            refine va_get (D := (dC, dI)) (ci := 2) (v := .ref (A 7)) (C := RX2) (T := TX2) (N := 2) hx hb hts inX2 hown hK hP 0 rfl rfl 0 (by decide) (hts (.fieldLink RX2 11 "BoardMetronomes$SavedStates" "states" "[LBoardMetronomes$Bench;") (by decide +kernel)) (fun _ h9 => h9) rfl dX2_dropOldest_16 ?_
            refine lv_iload_n hx hb dX2_dropOldest_19 rfl (lv_at hl 0 rfl) ?_
            refine lv_iconst (v := (1 : Int32)) hx hb dX2_dropOldest_20 (by decide) ?_
            refine lv_isub hx hb dX2_dropOldest_21 ?_
            refine kt_i (y := (4 : Int32)) (by decide) ?_
            refine lv_aload_n hx hb dX2_dropOldest_22 rfl (lv_at hl 2 rfl) ?_
            refine va_get (D := (dC, dI)) (ci := 2) (v := .ref (A 7)) (C := RX2) (T := TX2) (N := 2) hx hb hts inX2 hown hK hP 0 rfl rfl 0 (by decide) (hts (.fieldLink RX2 11 "BoardMetronomes$SavedStates" "states" "[LBoardMetronomes$Bench;") (by decide +kernel)) (fun _ h9 => h9) rfl dX2_dropOldest_23 ?_
            refine lv_iload_n hx hb dX2_dropOldest_26 rfl (lv_at hl 0 rfl) ?_
            refine va_aldq (D := (dC, dI)) hx hb hK hP 1 2 rfl rfl (vp_in_nI (n := 5) (by omega) (by decide)) dX2_dropOldest_27 ?_
            refine W.eq (g2 := F0 m 28 ls [.ref (A 15), .int (4 : Int32), .ref (A 7)]) rfl ?_
            refine va_astq (D := (dC, dI)) hx hb hK hP hD hS 1 2 32 0 (r := (RX0, TX0, 14)) rfl rfl rfl rfl (vp_in_nI (n := 4) (by omega) (by decide)) dX2_dropOldest_28 (fun H locs hP hD hS => ?_)
            have hP : va_P (dC, dI) vwCl (SX cI cZ cO A Q (va_up (va_up (va_up (va_up (va_up (SRow A 0) (0 : Int32).toNatClampNeg (some (A 11))) (1 : Int32).toNatClampNeg (some (A 12))) (2 : Int32).toNatClampNeg (some (A 13))) (3 : Int32).toNatClampNeg (some (A 14))) (4 : Int32).toNatClampNeg (some (A 15))) (nI k) us) H := Eq.mp (congrArg (fun w => va_P (dC, dI) vwCl w H) SX_g) hP
            have hD : va_D A0 (SX cI cZ cO A Q (va_up (va_up (va_up (va_up (va_up (SRow A 0) (0 : Int32).toNatClampNeg (some (A 11))) (1 : Int32).toNatClampNeg (some (A 12))) (2 : Int32).toNatClampNeg (some (A 13))) (3 : Int32).toNatClampNeg (some (A 14))) (4 : Int32).toNatClampNeg (some (A 15))) (nI k) us) := Eq.mp (congrArg (fun w => va_D A0 w) SX_g) hD
            refine lv_iinc (v := (6 : Int32)) (lv' := [(2, .int (6 : Int32)), (1, .ref (A 10)), (0, .ref (A 6))]) hx hb dX2_dropOldest_29 hl (k := 0) rfl (by decide) (by decide) rfl (fun ls hl => ?_)
            refine lv_goto (tgt := 9) hx hb dX2_dropOldest_32 (by decide) ?_
            refine lv_iload_n hx hb dX2_dropOldest_9 rfl (lv_at hl 0 rfl) ?_
            refine lv_bipush (v := (6 : Int32)) hx hb dX2_dropOldest_10 (by decide) ?_
            refine lv_icmp_ge (tgt := 35) hx hb dX2_dropOldest_12 (by decide) (fun c_12 => ?_) (fun c_12 => ?_)
            · refine lv_aload_n hx hb dX2_dropOldest_35 rfl (lv_at hl 2 rfl) ?_
              refine va_get (D := (dC, dI)) (ci := 2) (v := .ref (A 7)) (C := RX2) (T := TX2) (N := 2) hx hb hts inX2 hown hK hP 0 rfl rfl 0 (by decide) (hts (.fieldLink RX2 11 "BoardMetronomes$SavedStates" "states" "[LBoardMetronomes$Bench;") (by decide +kernel)) (fun _ h9 => h9) rfl dX2_dropOldest_36 ?_
              refine lv_iconst (v := (5 : Int32)) hx hb dX2_dropOldest_39 (by decide) ?_
              refine lv_aload_n hx hb dX2_dropOldest_40 rfl (lv_at hl 1 rfl) ?_
              refine va_astq (D := (dC, dI)) hx hb hK hP hD hS 1 2 2 0 (r := (RX0, TX0, 14)) rfl rfl rfl rfl (vp_in_nI (n := 5) (by omega) (by decide)) dX2_dropOldest_41 (fun H locs hP hD hS => ?_)
              have hP : va_P (dC, dI) vwCl (SX cI cZ cO A Q (va_up (va_up (va_up (va_up (va_up (va_up (SRow A 0) (0 : Int32).toNatClampNeg (some (A 11))) (1 : Int32).toNatClampNeg (some (A 12))) (2 : Int32).toNatClampNeg (some (A 13))) (3 : Int32).toNatClampNeg (some (A 14))) (4 : Int32).toNatClampNeg (some (A 15))) (5 : Int32).toNatClampNeg (some (A 10))) (nI k) us) H := Eq.mp (congrArg (fun w => va_P (dC, dI) vwCl w H) SX_g) hP
              have hD : va_D A0 (SX cI cZ cO A Q (va_up (va_up (va_up (va_up (va_up (va_up (SRow A 0) (0 : Int32).toNatClampNeg (some (A 11))) (1 : Int32).toNatClampNeg (some (A 12))) (2 : Int32).toNatClampNeg (some (A 13))) (3 : Int32).toNatClampNeg (some (A 14))) (4 : Int32).toNatClampNeg (some (A 15))) (5 : Int32).toNatClampNeg (some (A 10))) (nI k) us) := Eq.mp (congrArg (fun w => va_D A0 w) SX_g) hD
              refine lv_aload_n hx hb dX2_dropOldest_42 rfl (lv_at hl 2 rfl) ?_
              refine lv_iconst (v := (5 : Int32)) hx hb dX2_dropOldest_43 (by decide) ?_
              refine va_put (D := (dC, dI)) (ci := 2) (v := .int (5 : Int32)) (ty := .int) (C := RX2) (T := TX2) (N := 2) hx hb hts inX2 tyX2 tyX2_ok nmX2 hown hK hP hD hS 0 rfl rfl 1 (by decide) (hts (.fieldLink RX2 18 "BoardMetronomes$SavedStates" "size" "I") (by decide +kernel)) (fun _ h9 => h9) rfl (by decide +kernel) rfl rfl (Nat.le_of_ble_eq_true rfl) dX2_dropOldest_44 (fun H locs hP hD hS => ?_)
              have hP : va_P (dC, dI) vwCl (SX cI cZ cO A Q (va_up (va_up (va_up (va_up (va_up (va_up (SRow A 0) (0 : Int32).toNatClampNeg (some (A 11))) (1 : Int32).toNatClampNeg (some (A 12))) (2 : Int32).toNatClampNeg (some (A 13))) (3 : Int32).toNatClampNeg (some (A 14))) (4 : Int32).toNatClampNeg (some (A 15))) (5 : Int32).toNatClampNeg (some (A 10))) (5 : Int32) us) H := Eq.mp (congrArg (fun w => va_P (dC, dI) vwCl w H) SX_n) hP
              have hD : va_D A0 (SX cI cZ cO A Q (va_up (va_up (va_up (va_up (va_up (va_up (SRow A 0) (0 : Int32).toNatClampNeg (some (A 11))) (1 : Int32).toNatClampNeg (some (A 12))) (2 : Int32).toNatClampNeg (some (A 13))) (3 : Int32).toNatClampNeg (some (A 14))) (4 : Int32).toNatClampNeg (some (A 15))) (5 : Int32).toNatClampNeg (some (A 10))) (5 : Int32) us) := Eq.mp (congrArg (fun w => va_D A0 w) SX_n) hD
              have hP := SX_cong (g1 := SRow A 1) (fun i hi => by match i, hi with | 0, _ => rfl | 1, _ => rfl | 2, _ => rfl | 3, _ => rfl | 4, _ => rfl | 5, _ => rfl | i + 6, hi => omega) hP
              exact kw_v hx hb hr hlk hP hS dX2_dropOldest_47 rfl
            · exact absurd (by decide) c_12

set_option maxHeartbeats 1000000 in
set_option maxRecDepth 100000 in
theorem c_X2_drop1 (l : Launch) (dC : Nat → ClassId) (dI : Nat → Nat → Nat) (cI cZ cO : ClassId) (A : Nat → Nat) (Q : Nat → Nat → Nat) (k : Nat) (us : Nat → BS) (sz : Nat) : Met l yX2_dropOldest wsX2_dropOldest rm_X2_dropOldest (va_Pc [.ref (A 6)] (fun U => U.heap.size = sz ∧ va_P (dC, dI) vwCl (SX cI cZ cO A Q (SRow A 1) (nI k) us) U.heap ∧ va_K (dC, dI) vwCl (TY cI cZ cO) U ∧ va_D (fun _ => True) (SX cI cZ cO A Q (SRow A 1) (nI k) us))) (kQw none (dC, dI) vwCl (SX cI cZ cO A Q (SRow A 2) (5 : Int32) us) (va_A (SX cI cZ cO A Q (SRow A 1) (nI k) us) sz)) 0 0 (va_A (SX cI cZ cO A Q (SRow A 1) (nI k) us) sz) := by
  refine kofW (cc := cX2_dropOldest) (maxL := 3) (ret := none) (by decide) rfl (Nat.le_of_ble_eq_true rfl) ?_
  intro p e s m args below meth c ls S hr hlk hnm hsz hP hK hD hS hA hl
  generalize hA0 : va_A (SX cI cZ cO A Q (SRow A 1) (nI k) us) sz = A0 at hD hS hA ⊢
  subst hsz
  obtain ⟨hx, hb, hml, hown, hts⟩ := id S
  have inX2 : ∀ w ∈ wsX20, w ∈ wsX2_dropOldest := fun w h => List.mem_cons_of_mem _ (List.mem_append_right _ h)
  have hl : lv_has ls 3 [(0, .ref (A 6))] := hl
  refine lv_aload_n hx hb dX2_dropOldest_0 rfl (lv_at hl 0 rfl) ?_
  refine va_get (D := (dC, dI)) (ci := 2) (v := .ref (A 7)) (C := RX2) (T := TX2) (N := 2) hx hb hts inX2 hown hK hP 0 rfl rfl 0 (by decide) (hts (.fieldLink RX2 11 "BoardMetronomes$SavedStates" "states" "[LBoardMetronomes$Bench;") (by decide +kernel)) (fun _ h9 => h9) rfl dX2_dropOldest_1 ?_
  refine lv_iconst (v := (0 : Int32)) hx hb dX2_dropOldest_4 (by decide) ?_
  refine va_aldq (D := (dC, dI)) hx hb hK hP 1 2 rfl rfl (vp_in_nI (n := 0) (by omega) (by decide)) dX2_dropOldest_5 ?_
  refine W.eq (g2 := F0 m 6 ls [.ref (A 11)]) rfl ?_
  refine lv_astore_n (lv' := [(1, .ref (A 11)), (0, .ref (A 6))]) hx hb dX2_dropOldest_6 rfl hl (by decide) rfl (fun ls hl => ?_)
  refine lv_iconst (v := (1 : Int32)) hx hb dX2_dropOldest_7 (by decide) ?_
  refine lv_istore_n (lv' := [(2, .int (1 : Int32)), (1, .ref (A 11)), (0, .ref (A 6))]) hx hb dX2_dropOldest_8 rfl hl (by decide) rfl (fun ls hl => ?_)
  refine lv_iload_n hx hb dX2_dropOldest_9 rfl (lv_at hl 0 rfl) ?_
  refine lv_bipush (v := (6 : Int32)) hx hb dX2_dropOldest_10 (by decide) ?_
  refine lv_icmp_ge (tgt := 35) hx hb dX2_dropOldest_12 (by decide) (fun c_12 => ?_) (fun c_12 => ?_)
  · exact absurd c_12 (by decide)
  · refine lv_aload_n hx hb dX2_dropOldest_15 rfl (lv_at hl 2 rfl) ?_
    refine va_get (D := (dC, dI)) (ci := 2) (v := .ref (A 7)) (C := RX2) (T := TX2) (N := 2) hx hb hts inX2 hown hK hP 0 rfl rfl 0 (by decide) (hts (.fieldLink RX2 11 "BoardMetronomes$SavedStates" "states" "[LBoardMetronomes$Bench;") (by decide +kernel)) (fun _ h9 => h9) rfl dX2_dropOldest_16 ?_
    refine lv_iload_n hx hb dX2_dropOldest_19 rfl (lv_at hl 0 rfl) ?_
    refine lv_iconst (v := (1 : Int32)) hx hb dX2_dropOldest_20 (by decide) ?_
    refine lv_isub hx hb dX2_dropOldest_21 ?_
    refine kt_i (y := (0 : Int32)) (by decide) ?_
    refine lv_aload_n hx hb dX2_dropOldest_22 rfl (lv_at hl 2 rfl) ?_
    refine va_get (D := (dC, dI)) (ci := 2) (v := .ref (A 7)) (C := RX2) (T := TX2) (N := 2) hx hb hts inX2 hown hK hP 0 rfl rfl 0 (by decide) (hts (.fieldLink RX2 11 "BoardMetronomes$SavedStates" "states" "[LBoardMetronomes$Bench;") (by decide +kernel)) (fun _ h9 => h9) rfl dX2_dropOldest_23 ?_
    refine lv_iload_n hx hb dX2_dropOldest_26 rfl (lv_at hl 0 rfl) ?_
    refine va_aldq (D := (dC, dI)) hx hb hK hP 1 2 rfl rfl (vp_in_nI (n := 1) (by omega) (by decide)) dX2_dropOldest_27 ?_
    refine W.eq (g2 := F0 m 28 ls [.ref (A 12), .int (0 : Int32), .ref (A 7)]) rfl ?_
    refine va_astq (D := (dC, dI)) hx hb hK hP hD hS 1 2 14 0 (r := (RX0, TX0, 14)) rfl rfl rfl rfl (vp_in_nI (n := 0) (by omega) (by decide)) dX2_dropOldest_28 (fun H locs hP hD hS => ?_)
    have hP : va_P (dC, dI) vwCl (SX cI cZ cO A Q (va_up (SRow A 1) (0 : Int32).toNatClampNeg (some (A 12))) (nI k) us) H := Eq.mp (congrArg (fun w => va_P (dC, dI) vwCl w H) SX_g) hP
    have hD : va_D A0 (SX cI cZ cO A Q (va_up (SRow A 1) (0 : Int32).toNatClampNeg (some (A 12))) (nI k) us) := Eq.mp (congrArg (fun w => va_D A0 w) SX_g) hD
    refine lv_iinc (v := (2 : Int32)) (lv' := [(2, .int (2 : Int32)), (1, .ref (A 11)), (0, .ref (A 6))]) hx hb dX2_dropOldest_29 hl (k := 0) rfl (by decide) (by decide) rfl (fun ls hl => ?_)
    refine lv_goto (tgt := 9) hx hb dX2_dropOldest_32 (by decide) ?_
    refine lv_iload_n hx hb dX2_dropOldest_9 rfl (lv_at hl 0 rfl) ?_
    refine lv_bipush (v := (6 : Int32)) hx hb dX2_dropOldest_10 (by decide) ?_
    refine lv_icmp_ge (tgt := 35) hx hb dX2_dropOldest_12 (by decide) (fun c_12 => ?_) (fun c_12 => ?_)
    · exact absurd c_12 (by decide)
    · refine lv_aload_n hx hb dX2_dropOldest_15 rfl (lv_at hl 2 rfl) ?_
      refine va_get (D := (dC, dI)) (ci := 2) (v := .ref (A 7)) (C := RX2) (T := TX2) (N := 2) hx hb hts inX2 hown hK hP 0 rfl rfl 0 (by decide) (hts (.fieldLink RX2 11 "BoardMetronomes$SavedStates" "states" "[LBoardMetronomes$Bench;") (by decide +kernel)) (fun _ h9 => h9) rfl dX2_dropOldest_16 ?_
      refine lv_iload_n hx hb dX2_dropOldest_19 rfl (lv_at hl 0 rfl) ?_
      refine lv_iconst (v := (1 : Int32)) hx hb dX2_dropOldest_20 (by decide) ?_
      refine lv_isub hx hb dX2_dropOldest_21 ?_
      refine kt_i (y := (1 : Int32)) (by decide) ?_
      refine lv_aload_n hx hb dX2_dropOldest_22 rfl (lv_at hl 2 rfl) ?_
      refine va_get (D := (dC, dI)) (ci := 2) (v := .ref (A 7)) (C := RX2) (T := TX2) (N := 2) hx hb hts inX2 hown hK hP 0 rfl rfl 0 (by decide) (hts (.fieldLink RX2 11 "BoardMetronomes$SavedStates" "states" "[LBoardMetronomes$Bench;") (by decide +kernel)) (fun _ h9 => h9) rfl dX2_dropOldest_23 ?_
      refine lv_iload_n hx hb dX2_dropOldest_26 rfl (lv_at hl 0 rfl) ?_
      refine va_aldq (D := (dC, dI)) hx hb hK hP 1 2 rfl rfl (vp_in_nI (n := 2) (by omega) (by decide)) dX2_dropOldest_27 ?_
      refine W.eq (g2 := F0 m 28 ls [.ref (A 13), .int (1 : Int32), .ref (A 7)]) rfl ?_
      refine va_astq (D := (dC, dI)) hx hb hK hP hD hS 1 2 20 0 (r := (RX0, TX0, 14)) rfl rfl rfl rfl (vp_in_nI (n := 1) (by omega) (by decide)) dX2_dropOldest_28 (fun H locs hP hD hS => ?_)
      have hP : va_P (dC, dI) vwCl (SX cI cZ cO A Q (va_up (va_up (SRow A 1) (0 : Int32).toNatClampNeg (some (A 12))) (1 : Int32).toNatClampNeg (some (A 13))) (nI k) us) H := Eq.mp (congrArg (fun w => va_P (dC, dI) vwCl w H) SX_g) hP
      have hD : va_D A0 (SX cI cZ cO A Q (va_up (va_up (SRow A 1) (0 : Int32).toNatClampNeg (some (A 12))) (1 : Int32).toNatClampNeg (some (A 13))) (nI k) us) := Eq.mp (congrArg (fun w => va_D A0 w) SX_g) hD
      refine lv_iinc (v := (3 : Int32)) (lv' := [(2, .int (3 : Int32)), (1, .ref (A 11)), (0, .ref (A 6))]) hx hb dX2_dropOldest_29 hl (k := 0) rfl (by decide) (by decide) rfl (fun ls hl => ?_)
      refine lv_goto (tgt := 9) hx hb dX2_dropOldest_32 (by decide) ?_
      refine lv_iload_n hx hb dX2_dropOldest_9 rfl (lv_at hl 0 rfl) ?_
      refine lv_bipush (v := (6 : Int32)) hx hb dX2_dropOldest_10 (by decide) ?_
      refine lv_icmp_ge (tgt := 35) hx hb dX2_dropOldest_12 (by decide) (fun c_12 => ?_) (fun c_12 => ?_)
      · exact absurd c_12 (by decide)
      · refine lv_aload_n hx hb dX2_dropOldest_15 rfl (lv_at hl 2 rfl) ?_
        refine va_get (D := (dC, dI)) (ci := 2) (v := .ref (A 7)) (C := RX2) (T := TX2) (N := 2) hx hb hts inX2 hown hK hP 0 rfl rfl 0 (by decide) (hts (.fieldLink RX2 11 "BoardMetronomes$SavedStates" "states" "[LBoardMetronomes$Bench;") (by decide +kernel)) (fun _ h9 => h9) rfl dX2_dropOldest_16 ?_
        refine lv_iload_n hx hb dX2_dropOldest_19 rfl (lv_at hl 0 rfl) ?_
        refine lv_iconst (v := (1 : Int32)) hx hb dX2_dropOldest_20 (by decide) ?_
        refine lv_isub hx hb dX2_dropOldest_21 ?_
        refine kt_i (y := (2 : Int32)) (by decide) ?_
        refine lv_aload_n hx hb dX2_dropOldest_22 rfl (lv_at hl 2 rfl) ?_
        refine va_get (D := (dC, dI)) (ci := 2) (v := .ref (A 7)) (C := RX2) (T := TX2) (N := 2) hx hb hts inX2 hown hK hP 0 rfl rfl 0 (by decide) (hts (.fieldLink RX2 11 "BoardMetronomes$SavedStates" "states" "[LBoardMetronomes$Bench;") (by decide +kernel)) (fun _ h9 => h9) rfl dX2_dropOldest_23 ?_
        refine lv_iload_n hx hb dX2_dropOldest_26 rfl (lv_at hl 0 rfl) ?_
        refine va_aldq (D := (dC, dI)) hx hb hK hP 1 2 rfl rfl (vp_in_nI (n := 3) (by omega) (by decide)) dX2_dropOldest_27 ?_
        refine W.eq (g2 := F0 m 28 ls [.ref (A 14), .int (2 : Int32), .ref (A 7)]) rfl ?_
        refine va_astq (D := (dC, dI)) hx hb hK hP hD hS 1 2 26 0 (r := (RX0, TX0, 14)) rfl rfl rfl rfl (vp_in_nI (n := 2) (by omega) (by decide)) dX2_dropOldest_28 (fun H locs hP hD hS => ?_)
        have hP : va_P (dC, dI) vwCl (SX cI cZ cO A Q (va_up (va_up (va_up (SRow A 1) (0 : Int32).toNatClampNeg (some (A 12))) (1 : Int32).toNatClampNeg (some (A 13))) (2 : Int32).toNatClampNeg (some (A 14))) (nI k) us) H := Eq.mp (congrArg (fun w => va_P (dC, dI) vwCl w H) SX_g) hP
        have hD : va_D A0 (SX cI cZ cO A Q (va_up (va_up (va_up (SRow A 1) (0 : Int32).toNatClampNeg (some (A 12))) (1 : Int32).toNatClampNeg (some (A 13))) (2 : Int32).toNatClampNeg (some (A 14))) (nI k) us) := Eq.mp (congrArg (fun w => va_D A0 w) SX_g) hD
        refine lv_iinc (v := (4 : Int32)) (lv' := [(2, .int (4 : Int32)), (1, .ref (A 11)), (0, .ref (A 6))]) hx hb dX2_dropOldest_29 hl (k := 0) rfl (by decide) (by decide) rfl (fun ls hl => ?_)
        refine lv_goto (tgt := 9) hx hb dX2_dropOldest_32 (by decide) ?_
        refine lv_iload_n hx hb dX2_dropOldest_9 rfl (lv_at hl 0 rfl) ?_
        refine lv_bipush (v := (6 : Int32)) hx hb dX2_dropOldest_10 (by decide) ?_
        refine lv_icmp_ge (tgt := 35) hx hb dX2_dropOldest_12 (by decide) (fun c_12 => ?_) (fun c_12 => ?_)
        · exact absurd c_12 (by decide)
        · refine lv_aload_n hx hb dX2_dropOldest_15 rfl (lv_at hl 2 rfl) ?_
          refine va_get (D := (dC, dI)) (ci := 2) (v := .ref (A 7)) (C := RX2) (T := TX2) (N := 2) hx hb hts inX2 hown hK hP 0 rfl rfl 0 (by decide) (hts (.fieldLink RX2 11 "BoardMetronomes$SavedStates" "states" "[LBoardMetronomes$Bench;") (by decide +kernel)) (fun _ h9 => h9) rfl dX2_dropOldest_16 ?_
          refine lv_iload_n hx hb dX2_dropOldest_19 rfl (lv_at hl 0 rfl) ?_
          refine lv_iconst (v := (1 : Int32)) hx hb dX2_dropOldest_20 (by decide) ?_
          refine lv_isub hx hb dX2_dropOldest_21 ?_
          refine kt_i (y := (3 : Int32)) (by decide) ?_
          refine lv_aload_n hx hb dX2_dropOldest_22 rfl (lv_at hl 2 rfl) ?_
          refine va_get (D := (dC, dI)) (ci := 2) (v := .ref (A 7)) (C := RX2) (T := TX2) (N := 2) hx hb hts inX2 hown hK hP 0 rfl rfl 0 (by decide) (hts (.fieldLink RX2 11 "BoardMetronomes$SavedStates" "states" "[LBoardMetronomes$Bench;") (by decide +kernel)) (fun _ h9 => h9) rfl dX2_dropOldest_23 ?_
          refine lv_iload_n hx hb dX2_dropOldest_26 rfl (lv_at hl 0 rfl) ?_
          refine va_aldq (D := (dC, dI)) hx hb hK hP 1 2 rfl rfl (vp_in_nI (n := 4) (by omega) (by decide)) dX2_dropOldest_27 ?_
          refine W.eq (g2 := F0 m 28 ls [.ref (A 15), .int (3 : Int32), .ref (A 7)]) rfl ?_
          refine va_astq (D := (dC, dI)) hx hb hK hP hD hS 1 2 32 0 (r := (RX0, TX0, 14)) rfl rfl rfl rfl (vp_in_nI (n := 3) (by omega) (by decide)) dX2_dropOldest_28 (fun H locs hP hD hS => ?_)
          have hP : va_P (dC, dI) vwCl (SX cI cZ cO A Q (va_up (va_up (va_up (va_up (SRow A 1) (0 : Int32).toNatClampNeg (some (A 12))) (1 : Int32).toNatClampNeg (some (A 13))) (2 : Int32).toNatClampNeg (some (A 14))) (3 : Int32).toNatClampNeg (some (A 15))) (nI k) us) H := Eq.mp (congrArg (fun w => va_P (dC, dI) vwCl w H) SX_g) hP
          have hD : va_D A0 (SX cI cZ cO A Q (va_up (va_up (va_up (va_up (SRow A 1) (0 : Int32).toNatClampNeg (some (A 12))) (1 : Int32).toNatClampNeg (some (A 13))) (2 : Int32).toNatClampNeg (some (A 14))) (3 : Int32).toNatClampNeg (some (A 15))) (nI k) us) := Eq.mp (congrArg (fun w => va_D A0 w) SX_g) hD
          refine lv_iinc (v := (5 : Int32)) (lv' := [(2, .int (5 : Int32)), (1, .ref (A 11)), (0, .ref (A 6))]) hx hb dX2_dropOldest_29 hl (k := 0) rfl (by decide) (by decide) rfl (fun ls hl => ?_)
          refine lv_goto (tgt := 9) hx hb dX2_dropOldest_32 (by decide) ?_
          refine lv_iload_n hx hb dX2_dropOldest_9 rfl (lv_at hl 0 rfl) ?_
          refine lv_bipush (v := (6 : Int32)) hx hb dX2_dropOldest_10 (by decide) ?_
          refine lv_icmp_ge (tgt := 35) hx hb dX2_dropOldest_12 (by decide) (fun c_12 => ?_) (fun c_12 => ?_)
          · exact absurd c_12 (by decide)
          · refine lv_aload_n hx hb dX2_dropOldest_15 rfl (lv_at hl 2 rfl) ?_
            refine va_get (D := (dC, dI)) (ci := 2) (v := .ref (A 7)) (C := RX2) (T := TX2) (N := 2) hx hb hts inX2 hown hK hP 0 rfl rfl 0 (by decide) (hts (.fieldLink RX2 11 "BoardMetronomes$SavedStates" "states" "[LBoardMetronomes$Bench;") (by decide +kernel)) (fun _ h9 => h9) rfl dX2_dropOldest_16 ?_
            refine lv_iload_n hx hb dX2_dropOldest_19 rfl (lv_at hl 0 rfl) ?_
            refine lv_iconst (v := (1 : Int32)) hx hb dX2_dropOldest_20 (by decide) ?_
            refine lv_isub hx hb dX2_dropOldest_21 ?_
            refine kt_i (y := (4 : Int32)) (by decide) ?_
            refine lv_aload_n hx hb dX2_dropOldest_22 rfl (lv_at hl 2 rfl) ?_
            refine va_get (D := (dC, dI)) (ci := 2) (v := .ref (A 7)) (C := RX2) (T := TX2) (N := 2) hx hb hts inX2 hown hK hP 0 rfl rfl 0 (by decide) (hts (.fieldLink RX2 11 "BoardMetronomes$SavedStates" "states" "[LBoardMetronomes$Bench;") (by decide +kernel)) (fun _ h9 => h9) rfl dX2_dropOldest_23 ?_
            refine lv_iload_n hx hb dX2_dropOldest_26 rfl (lv_at hl 0 rfl) ?_
            refine va_aldq (D := (dC, dI)) hx hb hK hP 1 2 rfl rfl (vp_in_nI (n := 5) (by omega) (by decide)) dX2_dropOldest_27 ?_
            refine W.eq (g2 := F0 m 28 ls [.ref (A 10), .int (4 : Int32), .ref (A 7)]) rfl ?_
            refine va_astq (D := (dC, dI)) hx hb hK hP hD hS 1 2 2 0 (r := (RX0, TX0, 14)) rfl rfl rfl rfl (vp_in_nI (n := 4) (by omega) (by decide)) dX2_dropOldest_28 (fun H locs hP hD hS => ?_)
            have hP : va_P (dC, dI) vwCl (SX cI cZ cO A Q (va_up (va_up (va_up (va_up (va_up (SRow A 1) (0 : Int32).toNatClampNeg (some (A 12))) (1 : Int32).toNatClampNeg (some (A 13))) (2 : Int32).toNatClampNeg (some (A 14))) (3 : Int32).toNatClampNeg (some (A 15))) (4 : Int32).toNatClampNeg (some (A 10))) (nI k) us) H := Eq.mp (congrArg (fun w => va_P (dC, dI) vwCl w H) SX_g) hP
            have hD : va_D A0 (SX cI cZ cO A Q (va_up (va_up (va_up (va_up (va_up (SRow A 1) (0 : Int32).toNatClampNeg (some (A 12))) (1 : Int32).toNatClampNeg (some (A 13))) (2 : Int32).toNatClampNeg (some (A 14))) (3 : Int32).toNatClampNeg (some (A 15))) (4 : Int32).toNatClampNeg (some (A 10))) (nI k) us) := Eq.mp (congrArg (fun w => va_D A0 w) SX_g) hD
            refine lv_iinc (v := (6 : Int32)) (lv' := [(2, .int (6 : Int32)), (1, .ref (A 11)), (0, .ref (A 6))]) hx hb dX2_dropOldest_29 hl (k := 0) rfl (by decide) (by decide) rfl (fun ls hl => ?_)
            refine lv_goto (tgt := 9) hx hb dX2_dropOldest_32 (by decide) ?_
            refine lv_iload_n hx hb dX2_dropOldest_9 rfl (lv_at hl 0 rfl) ?_
            refine lv_bipush (v := (6 : Int32)) hx hb dX2_dropOldest_10 (by decide) ?_
            refine lv_icmp_ge (tgt := 35) hx hb dX2_dropOldest_12 (by decide) (fun c_12 => ?_) (fun c_12 => ?_)
            · refine lv_aload_n hx hb dX2_dropOldest_35 rfl (lv_at hl 2 rfl) ?_
              refine va_get (D := (dC, dI)) (ci := 2) (v := .ref (A 7)) (C := RX2) (T := TX2) (N := 2) hx hb hts inX2 hown hK hP 0 rfl rfl 0 (by decide) (hts (.fieldLink RX2 11 "BoardMetronomes$SavedStates" "states" "[LBoardMetronomes$Bench;") (by decide +kernel)) (fun _ h9 => h9) rfl dX2_dropOldest_36 ?_
              refine lv_iconst (v := (5 : Int32)) hx hb dX2_dropOldest_39 (by decide) ?_
              refine lv_aload_n hx hb dX2_dropOldest_40 rfl (lv_at hl 1 rfl) ?_
              refine va_astq (D := (dC, dI)) hx hb hK hP hD hS 1 2 8 0 (r := (RX0, TX0, 14)) rfl rfl rfl rfl (vp_in_nI (n := 5) (by omega) (by decide)) dX2_dropOldest_41 (fun H locs hP hD hS => ?_)
              have hP : va_P (dC, dI) vwCl (SX cI cZ cO A Q (va_up (va_up (va_up (va_up (va_up (va_up (SRow A 1) (0 : Int32).toNatClampNeg (some (A 12))) (1 : Int32).toNatClampNeg (some (A 13))) (2 : Int32).toNatClampNeg (some (A 14))) (3 : Int32).toNatClampNeg (some (A 15))) (4 : Int32).toNatClampNeg (some (A 10))) (5 : Int32).toNatClampNeg (some (A 11))) (nI k) us) H := Eq.mp (congrArg (fun w => va_P (dC, dI) vwCl w H) SX_g) hP
              have hD : va_D A0 (SX cI cZ cO A Q (va_up (va_up (va_up (va_up (va_up (va_up (SRow A 1) (0 : Int32).toNatClampNeg (some (A 12))) (1 : Int32).toNatClampNeg (some (A 13))) (2 : Int32).toNatClampNeg (some (A 14))) (3 : Int32).toNatClampNeg (some (A 15))) (4 : Int32).toNatClampNeg (some (A 10))) (5 : Int32).toNatClampNeg (some (A 11))) (nI k) us) := Eq.mp (congrArg (fun w => va_D A0 w) SX_g) hD
              refine lv_aload_n hx hb dX2_dropOldest_42 rfl (lv_at hl 2 rfl) ?_
              refine lv_iconst (v := (5 : Int32)) hx hb dX2_dropOldest_43 (by decide) ?_
              refine va_put (D := (dC, dI)) (ci := 2) (v := .int (5 : Int32)) (ty := .int) (C := RX2) (T := TX2) (N := 2) hx hb hts inX2 tyX2 tyX2_ok nmX2 hown hK hP hD hS 0 rfl rfl 1 (by decide) (hts (.fieldLink RX2 18 "BoardMetronomes$SavedStates" "size" "I") (by decide +kernel)) (fun _ h9 => h9) rfl (by decide +kernel) rfl rfl (Nat.le_of_ble_eq_true rfl) dX2_dropOldest_44 (fun H locs hP hD hS => ?_)
              have hP : va_P (dC, dI) vwCl (SX cI cZ cO A Q (va_up (va_up (va_up (va_up (va_up (va_up (SRow A 1) (0 : Int32).toNatClampNeg (some (A 12))) (1 : Int32).toNatClampNeg (some (A 13))) (2 : Int32).toNatClampNeg (some (A 14))) (3 : Int32).toNatClampNeg (some (A 15))) (4 : Int32).toNatClampNeg (some (A 10))) (5 : Int32).toNatClampNeg (some (A 11))) (5 : Int32) us) H := Eq.mp (congrArg (fun w => va_P (dC, dI) vwCl w H) SX_n) hP
              have hD : va_D A0 (SX cI cZ cO A Q (va_up (va_up (va_up (va_up (va_up (va_up (SRow A 1) (0 : Int32).toNatClampNeg (some (A 12))) (1 : Int32).toNatClampNeg (some (A 13))) (2 : Int32).toNatClampNeg (some (A 14))) (3 : Int32).toNatClampNeg (some (A 15))) (4 : Int32).toNatClampNeg (some (A 10))) (5 : Int32).toNatClampNeg (some (A 11))) (5 : Int32) us) := Eq.mp (congrArg (fun w => va_D A0 w) SX_n) hD
              have hP := SX_cong (g1 := SRow A 2) (fun i hi => by match i, hi with | 0, _ => rfl | 1, _ => rfl | 2, _ => rfl | 3, _ => rfl | 4, _ => rfl | 5, _ => rfl | i + 6, hi => omega) hP
              exact kw_v hx hb hr hlk hP hS dX2_dropOldest_47 rfl
            · exact absurd (by decide) c_12

set_option maxHeartbeats 1000000 in
set_option maxRecDepth 100000 in
theorem c_X2_drop2 (l : Launch) (dC : Nat → ClassId) (dI : Nat → Nat → Nat) (cI cZ cO : ClassId) (A : Nat → Nat) (Q : Nat → Nat → Nat) (k : Nat) (us : Nat → BS) (sz : Nat) : Met l yX2_dropOldest wsX2_dropOldest rm_X2_dropOldest (va_Pc [.ref (A 6)] (fun U => U.heap.size = sz ∧ va_P (dC, dI) vwCl (SX cI cZ cO A Q (SRow A 2) (nI k) us) U.heap ∧ va_K (dC, dI) vwCl (TY cI cZ cO) U ∧ va_D (fun _ => True) (SX cI cZ cO A Q (SRow A 2) (nI k) us))) (kQw none (dC, dI) vwCl (SX cI cZ cO A Q (SRow A 3) (5 : Int32) us) (va_A (SX cI cZ cO A Q (SRow A 2) (nI k) us) sz)) 0 0 (va_A (SX cI cZ cO A Q (SRow A 2) (nI k) us) sz) := by
  refine kofW (cc := cX2_dropOldest) (maxL := 3) (ret := none) (by decide) rfl (Nat.le_of_ble_eq_true rfl) ?_
  intro p e s m args below meth c ls S hr hlk hnm hsz hP hK hD hS hA hl
  generalize hA0 : va_A (SX cI cZ cO A Q (SRow A 2) (nI k) us) sz = A0 at hD hS hA ⊢
  subst hsz
  obtain ⟨hx, hb, hml, hown, hts⟩ := id S
  have inX2 : ∀ w ∈ wsX20, w ∈ wsX2_dropOldest := fun w h => List.mem_cons_of_mem _ (List.mem_append_right _ h)
  have hl : lv_has ls 3 [(0, .ref (A 6))] := hl
  refine lv_aload_n hx hb dX2_dropOldest_0 rfl (lv_at hl 0 rfl) ?_
  refine va_get (D := (dC, dI)) (ci := 2) (v := .ref (A 7)) (C := RX2) (T := TX2) (N := 2) hx hb hts inX2 hown hK hP 0 rfl rfl 0 (by decide) (hts (.fieldLink RX2 11 "BoardMetronomes$SavedStates" "states" "[LBoardMetronomes$Bench;") (by decide +kernel)) (fun _ h9 => h9) rfl dX2_dropOldest_1 ?_
  refine lv_iconst (v := (0 : Int32)) hx hb dX2_dropOldest_4 (by decide) ?_
  refine va_aldq (D := (dC, dI)) hx hb hK hP 1 2 rfl rfl (vp_in_nI (n := 0) (by omega) (by decide)) dX2_dropOldest_5 ?_
  refine W.eq (g2 := F0 m 6 ls [.ref (A 12)]) rfl ?_
  refine lv_astore_n (lv' := [(1, .ref (A 12)), (0, .ref (A 6))]) hx hb dX2_dropOldest_6 rfl hl (by decide) rfl (fun ls hl => ?_)
  refine lv_iconst (v := (1 : Int32)) hx hb dX2_dropOldest_7 (by decide) ?_
  refine lv_istore_n (lv' := [(2, .int (1 : Int32)), (1, .ref (A 12)), (0, .ref (A 6))]) hx hb dX2_dropOldest_8 rfl hl (by decide) rfl (fun ls hl => ?_)
  refine lv_iload_n hx hb dX2_dropOldest_9 rfl (lv_at hl 0 rfl) ?_
  refine lv_bipush (v := (6 : Int32)) hx hb dX2_dropOldest_10 (by decide) ?_
  refine lv_icmp_ge (tgt := 35) hx hb dX2_dropOldest_12 (by decide) (fun c_12 => ?_) (fun c_12 => ?_)
  · exact absurd c_12 (by decide)
  · refine lv_aload_n hx hb dX2_dropOldest_15 rfl (lv_at hl 2 rfl) ?_
    refine va_get (D := (dC, dI)) (ci := 2) (v := .ref (A 7)) (C := RX2) (T := TX2) (N := 2) hx hb hts inX2 hown hK hP 0 rfl rfl 0 (by decide) (hts (.fieldLink RX2 11 "BoardMetronomes$SavedStates" "states" "[LBoardMetronomes$Bench;") (by decide +kernel)) (fun _ h9 => h9) rfl dX2_dropOldest_16 ?_
    refine lv_iload_n hx hb dX2_dropOldest_19 rfl (lv_at hl 0 rfl) ?_
    refine lv_iconst (v := (1 : Int32)) hx hb dX2_dropOldest_20 (by decide) ?_
    refine lv_isub hx hb dX2_dropOldest_21 ?_
    refine kt_i (y := (0 : Int32)) (by decide) ?_
    refine lv_aload_n hx hb dX2_dropOldest_22 rfl (lv_at hl 2 rfl) ?_
    refine va_get (D := (dC, dI)) (ci := 2) (v := .ref (A 7)) (C := RX2) (T := TX2) (N := 2) hx hb hts inX2 hown hK hP 0 rfl rfl 0 (by decide) (hts (.fieldLink RX2 11 "BoardMetronomes$SavedStates" "states" "[LBoardMetronomes$Bench;") (by decide +kernel)) (fun _ h9 => h9) rfl dX2_dropOldest_23 ?_
    refine lv_iload_n hx hb dX2_dropOldest_26 rfl (lv_at hl 0 rfl) ?_
    refine va_aldq (D := (dC, dI)) hx hb hK hP 1 2 rfl rfl (vp_in_nI (n := 1) (by omega) (by decide)) dX2_dropOldest_27 ?_
    refine W.eq (g2 := F0 m 28 ls [.ref (A 13), .int (0 : Int32), .ref (A 7)]) rfl ?_
    refine va_astq (D := (dC, dI)) hx hb hK hP hD hS 1 2 20 0 (r := (RX0, TX0, 14)) rfl rfl rfl rfl (vp_in_nI (n := 0) (by omega) (by decide)) dX2_dropOldest_28 (fun H locs hP hD hS => ?_)
    have hP : va_P (dC, dI) vwCl (SX cI cZ cO A Q (va_up (SRow A 2) (0 : Int32).toNatClampNeg (some (A 13))) (nI k) us) H := Eq.mp (congrArg (fun w => va_P (dC, dI) vwCl w H) SX_g) hP
    have hD : va_D A0 (SX cI cZ cO A Q (va_up (SRow A 2) (0 : Int32).toNatClampNeg (some (A 13))) (nI k) us) := Eq.mp (congrArg (fun w => va_D A0 w) SX_g) hD
    refine lv_iinc (v := (2 : Int32)) (lv' := [(2, .int (2 : Int32)), (1, .ref (A 12)), (0, .ref (A 6))]) hx hb dX2_dropOldest_29 hl (k := 0) rfl (by decide) (by decide) rfl (fun ls hl => ?_)
    refine lv_goto (tgt := 9) hx hb dX2_dropOldest_32 (by decide) ?_
    refine lv_iload_n hx hb dX2_dropOldest_9 rfl (lv_at hl 0 rfl) ?_
    refine lv_bipush (v := (6 : Int32)) hx hb dX2_dropOldest_10 (by decide) ?_
    refine lv_icmp_ge (tgt := 35) hx hb dX2_dropOldest_12 (by decide) (fun c_12 => ?_) (fun c_12 => ?_)
    · exact absurd c_12 (by decide)
    · refine lv_aload_n hx hb dX2_dropOldest_15 rfl (lv_at hl 2 rfl) ?_
      refine va_get (D := (dC, dI)) (ci := 2) (v := .ref (A 7)) (C := RX2) (T := TX2) (N := 2) hx hb hts inX2 hown hK hP 0 rfl rfl 0 (by decide) (hts (.fieldLink RX2 11 "BoardMetronomes$SavedStates" "states" "[LBoardMetronomes$Bench;") (by decide +kernel)) (fun _ h9 => h9) rfl dX2_dropOldest_16 ?_
      refine lv_iload_n hx hb dX2_dropOldest_19 rfl (lv_at hl 0 rfl) ?_
      refine lv_iconst (v := (1 : Int32)) hx hb dX2_dropOldest_20 (by decide) ?_
      refine lv_isub hx hb dX2_dropOldest_21 ?_
      refine kt_i (y := (1 : Int32)) (by decide) ?_
      refine lv_aload_n hx hb dX2_dropOldest_22 rfl (lv_at hl 2 rfl) ?_
      refine va_get (D := (dC, dI)) (ci := 2) (v := .ref (A 7)) (C := RX2) (T := TX2) (N := 2) hx hb hts inX2 hown hK hP 0 rfl rfl 0 (by decide) (hts (.fieldLink RX2 11 "BoardMetronomes$SavedStates" "states" "[LBoardMetronomes$Bench;") (by decide +kernel)) (fun _ h9 => h9) rfl dX2_dropOldest_23 ?_
      refine lv_iload_n hx hb dX2_dropOldest_26 rfl (lv_at hl 0 rfl) ?_
      refine va_aldq (D := (dC, dI)) hx hb hK hP 1 2 rfl rfl (vp_in_nI (n := 2) (by omega) (by decide)) dX2_dropOldest_27 ?_
      refine W.eq (g2 := F0 m 28 ls [.ref (A 14), .int (1 : Int32), .ref (A 7)]) rfl ?_
      refine va_astq (D := (dC, dI)) hx hb hK hP hD hS 1 2 26 0 (r := (RX0, TX0, 14)) rfl rfl rfl rfl (vp_in_nI (n := 1) (by omega) (by decide)) dX2_dropOldest_28 (fun H locs hP hD hS => ?_)
      have hP : va_P (dC, dI) vwCl (SX cI cZ cO A Q (va_up (va_up (SRow A 2) (0 : Int32).toNatClampNeg (some (A 13))) (1 : Int32).toNatClampNeg (some (A 14))) (nI k) us) H := Eq.mp (congrArg (fun w => va_P (dC, dI) vwCl w H) SX_g) hP
      have hD : va_D A0 (SX cI cZ cO A Q (va_up (va_up (SRow A 2) (0 : Int32).toNatClampNeg (some (A 13))) (1 : Int32).toNatClampNeg (some (A 14))) (nI k) us) := Eq.mp (congrArg (fun w => va_D A0 w) SX_g) hD
      refine lv_iinc (v := (3 : Int32)) (lv' := [(2, .int (3 : Int32)), (1, .ref (A 12)), (0, .ref (A 6))]) hx hb dX2_dropOldest_29 hl (k := 0) rfl (by decide) (by decide) rfl (fun ls hl => ?_)
      refine lv_goto (tgt := 9) hx hb dX2_dropOldest_32 (by decide) ?_
      refine lv_iload_n hx hb dX2_dropOldest_9 rfl (lv_at hl 0 rfl) ?_
      refine lv_bipush (v := (6 : Int32)) hx hb dX2_dropOldest_10 (by decide) ?_
      refine lv_icmp_ge (tgt := 35) hx hb dX2_dropOldest_12 (by decide) (fun c_12 => ?_) (fun c_12 => ?_)
      · exact absurd c_12 (by decide)
      · refine lv_aload_n hx hb dX2_dropOldest_15 rfl (lv_at hl 2 rfl) ?_
        refine va_get (D := (dC, dI)) (ci := 2) (v := .ref (A 7)) (C := RX2) (T := TX2) (N := 2) hx hb hts inX2 hown hK hP 0 rfl rfl 0 (by decide) (hts (.fieldLink RX2 11 "BoardMetronomes$SavedStates" "states" "[LBoardMetronomes$Bench;") (by decide +kernel)) (fun _ h9 => h9) rfl dX2_dropOldest_16 ?_
        refine lv_iload_n hx hb dX2_dropOldest_19 rfl (lv_at hl 0 rfl) ?_
        refine lv_iconst (v := (1 : Int32)) hx hb dX2_dropOldest_20 (by decide) ?_
        refine lv_isub hx hb dX2_dropOldest_21 ?_
        refine kt_i (y := (2 : Int32)) (by decide) ?_
        refine lv_aload_n hx hb dX2_dropOldest_22 rfl (lv_at hl 2 rfl) ?_
        refine va_get (D := (dC, dI)) (ci := 2) (v := .ref (A 7)) (C := RX2) (T := TX2) (N := 2) hx hb hts inX2 hown hK hP 0 rfl rfl 0 (by decide) (hts (.fieldLink RX2 11 "BoardMetronomes$SavedStates" "states" "[LBoardMetronomes$Bench;") (by decide +kernel)) (fun _ h9 => h9) rfl dX2_dropOldest_23 ?_
        refine lv_iload_n hx hb dX2_dropOldest_26 rfl (lv_at hl 0 rfl) ?_
        refine va_aldq (D := (dC, dI)) hx hb hK hP 1 2 rfl rfl (vp_in_nI (n := 3) (by omega) (by decide)) dX2_dropOldest_27 ?_
        refine W.eq (g2 := F0 m 28 ls [.ref (A 15), .int (2 : Int32), .ref (A 7)]) rfl ?_
        refine va_astq (D := (dC, dI)) hx hb hK hP hD hS 1 2 32 0 (r := (RX0, TX0, 14)) rfl rfl rfl rfl (vp_in_nI (n := 2) (by omega) (by decide)) dX2_dropOldest_28 (fun H locs hP hD hS => ?_)
        have hP : va_P (dC, dI) vwCl (SX cI cZ cO A Q (va_up (va_up (va_up (SRow A 2) (0 : Int32).toNatClampNeg (some (A 13))) (1 : Int32).toNatClampNeg (some (A 14))) (2 : Int32).toNatClampNeg (some (A 15))) (nI k) us) H := Eq.mp (congrArg (fun w => va_P (dC, dI) vwCl w H) SX_g) hP
        have hD : va_D A0 (SX cI cZ cO A Q (va_up (va_up (va_up (SRow A 2) (0 : Int32).toNatClampNeg (some (A 13))) (1 : Int32).toNatClampNeg (some (A 14))) (2 : Int32).toNatClampNeg (some (A 15))) (nI k) us) := Eq.mp (congrArg (fun w => va_D A0 w) SX_g) hD
        refine lv_iinc (v := (4 : Int32)) (lv' := [(2, .int (4 : Int32)), (1, .ref (A 12)), (0, .ref (A 6))]) hx hb dX2_dropOldest_29 hl (k := 0) rfl (by decide) (by decide) rfl (fun ls hl => ?_)
        refine lv_goto (tgt := 9) hx hb dX2_dropOldest_32 (by decide) ?_
        refine lv_iload_n hx hb dX2_dropOldest_9 rfl (lv_at hl 0 rfl) ?_
        refine lv_bipush (v := (6 : Int32)) hx hb dX2_dropOldest_10 (by decide) ?_
        refine lv_icmp_ge (tgt := 35) hx hb dX2_dropOldest_12 (by decide) (fun c_12 => ?_) (fun c_12 => ?_)
        · exact absurd c_12 (by decide)
        · refine lv_aload_n hx hb dX2_dropOldest_15 rfl (lv_at hl 2 rfl) ?_
          refine va_get (D := (dC, dI)) (ci := 2) (v := .ref (A 7)) (C := RX2) (T := TX2) (N := 2) hx hb hts inX2 hown hK hP 0 rfl rfl 0 (by decide) (hts (.fieldLink RX2 11 "BoardMetronomes$SavedStates" "states" "[LBoardMetronomes$Bench;") (by decide +kernel)) (fun _ h9 => h9) rfl dX2_dropOldest_16 ?_
          refine lv_iload_n hx hb dX2_dropOldest_19 rfl (lv_at hl 0 rfl) ?_
          refine lv_iconst (v := (1 : Int32)) hx hb dX2_dropOldest_20 (by decide) ?_
          refine lv_isub hx hb dX2_dropOldest_21 ?_
          refine kt_i (y := (3 : Int32)) (by decide) ?_
          refine lv_aload_n hx hb dX2_dropOldest_22 rfl (lv_at hl 2 rfl) ?_
          refine va_get (D := (dC, dI)) (ci := 2) (v := .ref (A 7)) (C := RX2) (T := TX2) (N := 2) hx hb hts inX2 hown hK hP 0 rfl rfl 0 (by decide) (hts (.fieldLink RX2 11 "BoardMetronomes$SavedStates" "states" "[LBoardMetronomes$Bench;") (by decide +kernel)) (fun _ h9 => h9) rfl dX2_dropOldest_23 ?_
          refine lv_iload_n hx hb dX2_dropOldest_26 rfl (lv_at hl 0 rfl) ?_
          refine va_aldq (D := (dC, dI)) hx hb hK hP 1 2 rfl rfl (vp_in_nI (n := 4) (by omega) (by decide)) dX2_dropOldest_27 ?_
          refine W.eq (g2 := F0 m 28 ls [.ref (A 10), .int (3 : Int32), .ref (A 7)]) rfl ?_
          refine va_astq (D := (dC, dI)) hx hb hK hP hD hS 1 2 2 0 (r := (RX0, TX0, 14)) rfl rfl rfl rfl (vp_in_nI (n := 3) (by omega) (by decide)) dX2_dropOldest_28 (fun H locs hP hD hS => ?_)
          have hP : va_P (dC, dI) vwCl (SX cI cZ cO A Q (va_up (va_up (va_up (va_up (SRow A 2) (0 : Int32).toNatClampNeg (some (A 13))) (1 : Int32).toNatClampNeg (some (A 14))) (2 : Int32).toNatClampNeg (some (A 15))) (3 : Int32).toNatClampNeg (some (A 10))) (nI k) us) H := Eq.mp (congrArg (fun w => va_P (dC, dI) vwCl w H) SX_g) hP
          have hD : va_D A0 (SX cI cZ cO A Q (va_up (va_up (va_up (va_up (SRow A 2) (0 : Int32).toNatClampNeg (some (A 13))) (1 : Int32).toNatClampNeg (some (A 14))) (2 : Int32).toNatClampNeg (some (A 15))) (3 : Int32).toNatClampNeg (some (A 10))) (nI k) us) := Eq.mp (congrArg (fun w => va_D A0 w) SX_g) hD
          refine lv_iinc (v := (5 : Int32)) (lv' := [(2, .int (5 : Int32)), (1, .ref (A 12)), (0, .ref (A 6))]) hx hb dX2_dropOldest_29 hl (k := 0) rfl (by decide) (by decide) rfl (fun ls hl => ?_)
          refine lv_goto (tgt := 9) hx hb dX2_dropOldest_32 (by decide) ?_
          refine lv_iload_n hx hb dX2_dropOldest_9 rfl (lv_at hl 0 rfl) ?_
          refine lv_bipush (v := (6 : Int32)) hx hb dX2_dropOldest_10 (by decide) ?_
          refine lv_icmp_ge (tgt := 35) hx hb dX2_dropOldest_12 (by decide) (fun c_12 => ?_) (fun c_12 => ?_)
          · exact absurd c_12 (by decide)
          · refine lv_aload_n hx hb dX2_dropOldest_15 rfl (lv_at hl 2 rfl) ?_
            refine va_get (D := (dC, dI)) (ci := 2) (v := .ref (A 7)) (C := RX2) (T := TX2) (N := 2) hx hb hts inX2 hown hK hP 0 rfl rfl 0 (by decide) (hts (.fieldLink RX2 11 "BoardMetronomes$SavedStates" "states" "[LBoardMetronomes$Bench;") (by decide +kernel)) (fun _ h9 => h9) rfl dX2_dropOldest_16 ?_
            refine lv_iload_n hx hb dX2_dropOldest_19 rfl (lv_at hl 0 rfl) ?_
            refine lv_iconst (v := (1 : Int32)) hx hb dX2_dropOldest_20 (by decide) ?_
            refine lv_isub hx hb dX2_dropOldest_21 ?_
            refine kt_i (y := (4 : Int32)) (by decide) ?_
            refine lv_aload_n hx hb dX2_dropOldest_22 rfl (lv_at hl 2 rfl) ?_
            refine va_get (D := (dC, dI)) (ci := 2) (v := .ref (A 7)) (C := RX2) (T := TX2) (N := 2) hx hb hts inX2 hown hK hP 0 rfl rfl 0 (by decide) (hts (.fieldLink RX2 11 "BoardMetronomes$SavedStates" "states" "[LBoardMetronomes$Bench;") (by decide +kernel)) (fun _ h9 => h9) rfl dX2_dropOldest_23 ?_
            refine lv_iload_n hx hb dX2_dropOldest_26 rfl (lv_at hl 0 rfl) ?_
            refine va_aldq (D := (dC, dI)) hx hb hK hP 1 2 rfl rfl (vp_in_nI (n := 5) (by omega) (by decide)) dX2_dropOldest_27 ?_
            refine W.eq (g2 := F0 m 28 ls [.ref (A 11), .int (4 : Int32), .ref (A 7)]) rfl ?_
            refine va_astq (D := (dC, dI)) hx hb hK hP hD hS 1 2 8 0 (r := (RX0, TX0, 14)) rfl rfl rfl rfl (vp_in_nI (n := 4) (by omega) (by decide)) dX2_dropOldest_28 (fun H locs hP hD hS => ?_)
            have hP : va_P (dC, dI) vwCl (SX cI cZ cO A Q (va_up (va_up (va_up (va_up (va_up (SRow A 2) (0 : Int32).toNatClampNeg (some (A 13))) (1 : Int32).toNatClampNeg (some (A 14))) (2 : Int32).toNatClampNeg (some (A 15))) (3 : Int32).toNatClampNeg (some (A 10))) (4 : Int32).toNatClampNeg (some (A 11))) (nI k) us) H := Eq.mp (congrArg (fun w => va_P (dC, dI) vwCl w H) SX_g) hP
            have hD : va_D A0 (SX cI cZ cO A Q (va_up (va_up (va_up (va_up (va_up (SRow A 2) (0 : Int32).toNatClampNeg (some (A 13))) (1 : Int32).toNatClampNeg (some (A 14))) (2 : Int32).toNatClampNeg (some (A 15))) (3 : Int32).toNatClampNeg (some (A 10))) (4 : Int32).toNatClampNeg (some (A 11))) (nI k) us) := Eq.mp (congrArg (fun w => va_D A0 w) SX_g) hD
            refine lv_iinc (v := (6 : Int32)) (lv' := [(2, .int (6 : Int32)), (1, .ref (A 12)), (0, .ref (A 6))]) hx hb dX2_dropOldest_29 hl (k := 0) rfl (by decide) (by decide) rfl (fun ls hl => ?_)
            refine lv_goto (tgt := 9) hx hb dX2_dropOldest_32 (by decide) ?_
            refine lv_iload_n hx hb dX2_dropOldest_9 rfl (lv_at hl 0 rfl) ?_
            refine lv_bipush (v := (6 : Int32)) hx hb dX2_dropOldest_10 (by decide) ?_
            refine lv_icmp_ge (tgt := 35) hx hb dX2_dropOldest_12 (by decide) (fun c_12 => ?_) (fun c_12 => ?_)
            · refine lv_aload_n hx hb dX2_dropOldest_35 rfl (lv_at hl 2 rfl) ?_
              refine va_get (D := (dC, dI)) (ci := 2) (v := .ref (A 7)) (C := RX2) (T := TX2) (N := 2) hx hb hts inX2 hown hK hP 0 rfl rfl 0 (by decide) (hts (.fieldLink RX2 11 "BoardMetronomes$SavedStates" "states" "[LBoardMetronomes$Bench;") (by decide +kernel)) (fun _ h9 => h9) rfl dX2_dropOldest_36 ?_
              refine lv_iconst (v := (5 : Int32)) hx hb dX2_dropOldest_39 (by decide) ?_
              refine lv_aload_n hx hb dX2_dropOldest_40 rfl (lv_at hl 1 rfl) ?_
              refine va_astq (D := (dC, dI)) hx hb hK hP hD hS 1 2 14 0 (r := (RX0, TX0, 14)) rfl rfl rfl rfl (vp_in_nI (n := 5) (by omega) (by decide)) dX2_dropOldest_41 (fun H locs hP hD hS => ?_)
              have hP : va_P (dC, dI) vwCl (SX cI cZ cO A Q (va_up (va_up (va_up (va_up (va_up (va_up (SRow A 2) (0 : Int32).toNatClampNeg (some (A 13))) (1 : Int32).toNatClampNeg (some (A 14))) (2 : Int32).toNatClampNeg (some (A 15))) (3 : Int32).toNatClampNeg (some (A 10))) (4 : Int32).toNatClampNeg (some (A 11))) (5 : Int32).toNatClampNeg (some (A 12))) (nI k) us) H := Eq.mp (congrArg (fun w => va_P (dC, dI) vwCl w H) SX_g) hP
              have hD : va_D A0 (SX cI cZ cO A Q (va_up (va_up (va_up (va_up (va_up (va_up (SRow A 2) (0 : Int32).toNatClampNeg (some (A 13))) (1 : Int32).toNatClampNeg (some (A 14))) (2 : Int32).toNatClampNeg (some (A 15))) (3 : Int32).toNatClampNeg (some (A 10))) (4 : Int32).toNatClampNeg (some (A 11))) (5 : Int32).toNatClampNeg (some (A 12))) (nI k) us) := Eq.mp (congrArg (fun w => va_D A0 w) SX_g) hD
              refine lv_aload_n hx hb dX2_dropOldest_42 rfl (lv_at hl 2 rfl) ?_
              refine lv_iconst (v := (5 : Int32)) hx hb dX2_dropOldest_43 (by decide) ?_
              refine va_put (D := (dC, dI)) (ci := 2) (v := .int (5 : Int32)) (ty := .int) (C := RX2) (T := TX2) (N := 2) hx hb hts inX2 tyX2 tyX2_ok nmX2 hown hK hP hD hS 0 rfl rfl 1 (by decide) (hts (.fieldLink RX2 18 "BoardMetronomes$SavedStates" "size" "I") (by decide +kernel)) (fun _ h9 => h9) rfl (by decide +kernel) rfl rfl (Nat.le_of_ble_eq_true rfl) dX2_dropOldest_44 (fun H locs hP hD hS => ?_)
              have hP : va_P (dC, dI) vwCl (SX cI cZ cO A Q (va_up (va_up (va_up (va_up (va_up (va_up (SRow A 2) (0 : Int32).toNatClampNeg (some (A 13))) (1 : Int32).toNatClampNeg (some (A 14))) (2 : Int32).toNatClampNeg (some (A 15))) (3 : Int32).toNatClampNeg (some (A 10))) (4 : Int32).toNatClampNeg (some (A 11))) (5 : Int32).toNatClampNeg (some (A 12))) (5 : Int32) us) H := Eq.mp (congrArg (fun w => va_P (dC, dI) vwCl w H) SX_n) hP
              have hD : va_D A0 (SX cI cZ cO A Q (va_up (va_up (va_up (va_up (va_up (va_up (SRow A 2) (0 : Int32).toNatClampNeg (some (A 13))) (1 : Int32).toNatClampNeg (some (A 14))) (2 : Int32).toNatClampNeg (some (A 15))) (3 : Int32).toNatClampNeg (some (A 10))) (4 : Int32).toNatClampNeg (some (A 11))) (5 : Int32).toNatClampNeg (some (A 12))) (5 : Int32) us) := Eq.mp (congrArg (fun w => va_D A0 w) SX_n) hD
              have hP := SX_cong (g1 := SRow A 3) (fun i hi => by match i, hi with | 0, _ => rfl | 1, _ => rfl | 2, _ => rfl | 3, _ => rfl | 4, _ => rfl | 5, _ => rfl | i + 6, hi => omega) hP
              exact kw_v hx hb hr hlk hP hS dX2_dropOldest_47 rfl
            · exact absurd (by decide) c_12

set_option maxHeartbeats 1000000 in
set_option maxRecDepth 100000 in
theorem c_X2_drop3 (l : Launch) (dC : Nat → ClassId) (dI : Nat → Nat → Nat) (cI cZ cO : ClassId) (A : Nat → Nat) (Q : Nat → Nat → Nat) (k : Nat) (us : Nat → BS) (sz : Nat) : Met l yX2_dropOldest wsX2_dropOldest rm_X2_dropOldest (va_Pc [.ref (A 6)] (fun U => U.heap.size = sz ∧ va_P (dC, dI) vwCl (SX cI cZ cO A Q (SRow A 3) (nI k) us) U.heap ∧ va_K (dC, dI) vwCl (TY cI cZ cO) U ∧ va_D (fun _ => True) (SX cI cZ cO A Q (SRow A 3) (nI k) us))) (kQw none (dC, dI) vwCl (SX cI cZ cO A Q (SRow A 4) (5 : Int32) us) (va_A (SX cI cZ cO A Q (SRow A 3) (nI k) us) sz)) 0 0 (va_A (SX cI cZ cO A Q (SRow A 3) (nI k) us) sz) := by
  refine kofW (cc := cX2_dropOldest) (maxL := 3) (ret := none) (by decide) rfl (Nat.le_of_ble_eq_true rfl) ?_
  intro p e s m args below meth c ls S hr hlk hnm hsz hP hK hD hS hA hl
  generalize hA0 : va_A (SX cI cZ cO A Q (SRow A 3) (nI k) us) sz = A0 at hD hS hA ⊢
  subst hsz
  obtain ⟨hx, hb, hml, hown, hts⟩ := id S
  have inX2 : ∀ w ∈ wsX20, w ∈ wsX2_dropOldest := fun w h => List.mem_cons_of_mem _ (List.mem_append_right _ h)
  have hl : lv_has ls 3 [(0, .ref (A 6))] := hl
  refine lv_aload_n hx hb dX2_dropOldest_0 rfl (lv_at hl 0 rfl) ?_
  refine va_get (D := (dC, dI)) (ci := 2) (v := .ref (A 7)) (C := RX2) (T := TX2) (N := 2) hx hb hts inX2 hown hK hP 0 rfl rfl 0 (by decide) (hts (.fieldLink RX2 11 "BoardMetronomes$SavedStates" "states" "[LBoardMetronomes$Bench;") (by decide +kernel)) (fun _ h9 => h9) rfl dX2_dropOldest_1 ?_
  refine lv_iconst (v := (0 : Int32)) hx hb dX2_dropOldest_4 (by decide) ?_
  refine va_aldq (D := (dC, dI)) hx hb hK hP 1 2 rfl rfl (vp_in_nI (n := 0) (by omega) (by decide)) dX2_dropOldest_5 ?_
  refine W.eq (g2 := F0 m 6 ls [.ref (A 13)]) rfl ?_
  refine lv_astore_n (lv' := [(1, .ref (A 13)), (0, .ref (A 6))]) hx hb dX2_dropOldest_6 rfl hl (by decide) rfl (fun ls hl => ?_)
  refine lv_iconst (v := (1 : Int32)) hx hb dX2_dropOldest_7 (by decide) ?_
  refine lv_istore_n (lv' := [(2, .int (1 : Int32)), (1, .ref (A 13)), (0, .ref (A 6))]) hx hb dX2_dropOldest_8 rfl hl (by decide) rfl (fun ls hl => ?_)
  refine lv_iload_n hx hb dX2_dropOldest_9 rfl (lv_at hl 0 rfl) ?_
  refine lv_bipush (v := (6 : Int32)) hx hb dX2_dropOldest_10 (by decide) ?_
  refine lv_icmp_ge (tgt := 35) hx hb dX2_dropOldest_12 (by decide) (fun c_12 => ?_) (fun c_12 => ?_)
  · exact absurd c_12 (by decide)
  · refine lv_aload_n hx hb dX2_dropOldest_15 rfl (lv_at hl 2 rfl) ?_
    refine va_get (D := (dC, dI)) (ci := 2) (v := .ref (A 7)) (C := RX2) (T := TX2) (N := 2) hx hb hts inX2 hown hK hP 0 rfl rfl 0 (by decide) (hts (.fieldLink RX2 11 "BoardMetronomes$SavedStates" "states" "[LBoardMetronomes$Bench;") (by decide +kernel)) (fun _ h9 => h9) rfl dX2_dropOldest_16 ?_
    refine lv_iload_n hx hb dX2_dropOldest_19 rfl (lv_at hl 0 rfl) ?_
    refine lv_iconst (v := (1 : Int32)) hx hb dX2_dropOldest_20 (by decide) ?_
    refine lv_isub hx hb dX2_dropOldest_21 ?_
    refine kt_i (y := (0 : Int32)) (by decide) ?_
    refine lv_aload_n hx hb dX2_dropOldest_22 rfl (lv_at hl 2 rfl) ?_
    refine va_get (D := (dC, dI)) (ci := 2) (v := .ref (A 7)) (C := RX2) (T := TX2) (N := 2) hx hb hts inX2 hown hK hP 0 rfl rfl 0 (by decide) (hts (.fieldLink RX2 11 "BoardMetronomes$SavedStates" "states" "[LBoardMetronomes$Bench;") (by decide +kernel)) (fun _ h9 => h9) rfl dX2_dropOldest_23 ?_
    refine lv_iload_n hx hb dX2_dropOldest_26 rfl (lv_at hl 0 rfl) ?_
    refine va_aldq (D := (dC, dI)) hx hb hK hP 1 2 rfl rfl (vp_in_nI (n := 1) (by omega) (by decide)) dX2_dropOldest_27 ?_
    refine W.eq (g2 := F0 m 28 ls [.ref (A 14), .int (0 : Int32), .ref (A 7)]) rfl ?_
    refine va_astq (D := (dC, dI)) hx hb hK hP hD hS 1 2 26 0 (r := (RX0, TX0, 14)) rfl rfl rfl rfl (vp_in_nI (n := 0) (by omega) (by decide)) dX2_dropOldest_28 (fun H locs hP hD hS => ?_)
    have hP : va_P (dC, dI) vwCl (SX cI cZ cO A Q (va_up (SRow A 3) (0 : Int32).toNatClampNeg (some (A 14))) (nI k) us) H := Eq.mp (congrArg (fun w => va_P (dC, dI) vwCl w H) SX_g) hP
    have hD : va_D A0 (SX cI cZ cO A Q (va_up (SRow A 3) (0 : Int32).toNatClampNeg (some (A 14))) (nI k) us) := Eq.mp (congrArg (fun w => va_D A0 w) SX_g) hD
    refine lv_iinc (v := (2 : Int32)) (lv' := [(2, .int (2 : Int32)), (1, .ref (A 13)), (0, .ref (A 6))]) hx hb dX2_dropOldest_29 hl (k := 0) rfl (by decide) (by decide) rfl (fun ls hl => ?_)
    refine lv_goto (tgt := 9) hx hb dX2_dropOldest_32 (by decide) ?_
    refine lv_iload_n hx hb dX2_dropOldest_9 rfl (lv_at hl 0 rfl) ?_
    refine lv_bipush (v := (6 : Int32)) hx hb dX2_dropOldest_10 (by decide) ?_
    refine lv_icmp_ge (tgt := 35) hx hb dX2_dropOldest_12 (by decide) (fun c_12 => ?_) (fun c_12 => ?_)
    · exact absurd c_12 (by decide)
    · refine lv_aload_n hx hb dX2_dropOldest_15 rfl (lv_at hl 2 rfl) ?_
      refine va_get (D := (dC, dI)) (ci := 2) (v := .ref (A 7)) (C := RX2) (T := TX2) (N := 2) hx hb hts inX2 hown hK hP 0 rfl rfl 0 (by decide) (hts (.fieldLink RX2 11 "BoardMetronomes$SavedStates" "states" "[LBoardMetronomes$Bench;") (by decide +kernel)) (fun _ h9 => h9) rfl dX2_dropOldest_16 ?_
      refine lv_iload_n hx hb dX2_dropOldest_19 rfl (lv_at hl 0 rfl) ?_
      refine lv_iconst (v := (1 : Int32)) hx hb dX2_dropOldest_20 (by decide) ?_
      refine lv_isub hx hb dX2_dropOldest_21 ?_
      refine kt_i (y := (1 : Int32)) (by decide) ?_
      refine lv_aload_n hx hb dX2_dropOldest_22 rfl (lv_at hl 2 rfl) ?_
      refine va_get (D := (dC, dI)) (ci := 2) (v := .ref (A 7)) (C := RX2) (T := TX2) (N := 2) hx hb hts inX2 hown hK hP 0 rfl rfl 0 (by decide) (hts (.fieldLink RX2 11 "BoardMetronomes$SavedStates" "states" "[LBoardMetronomes$Bench;") (by decide +kernel)) (fun _ h9 => h9) rfl dX2_dropOldest_23 ?_
      refine lv_iload_n hx hb dX2_dropOldest_26 rfl (lv_at hl 0 rfl) ?_
      refine va_aldq (D := (dC, dI)) hx hb hK hP 1 2 rfl rfl (vp_in_nI (n := 2) (by omega) (by decide)) dX2_dropOldest_27 ?_
      refine W.eq (g2 := F0 m 28 ls [.ref (A 15), .int (1 : Int32), .ref (A 7)]) rfl ?_
      refine va_astq (D := (dC, dI)) hx hb hK hP hD hS 1 2 32 0 (r := (RX0, TX0, 14)) rfl rfl rfl rfl (vp_in_nI (n := 1) (by omega) (by decide)) dX2_dropOldest_28 (fun H locs hP hD hS => ?_)
      have hP : va_P (dC, dI) vwCl (SX cI cZ cO A Q (va_up (va_up (SRow A 3) (0 : Int32).toNatClampNeg (some (A 14))) (1 : Int32).toNatClampNeg (some (A 15))) (nI k) us) H := Eq.mp (congrArg (fun w => va_P (dC, dI) vwCl w H) SX_g) hP
      have hD : va_D A0 (SX cI cZ cO A Q (va_up (va_up (SRow A 3) (0 : Int32).toNatClampNeg (some (A 14))) (1 : Int32).toNatClampNeg (some (A 15))) (nI k) us) := Eq.mp (congrArg (fun w => va_D A0 w) SX_g) hD
      refine lv_iinc (v := (3 : Int32)) (lv' := [(2, .int (3 : Int32)), (1, .ref (A 13)), (0, .ref (A 6))]) hx hb dX2_dropOldest_29 hl (k := 0) rfl (by decide) (by decide) rfl (fun ls hl => ?_)
      refine lv_goto (tgt := 9) hx hb dX2_dropOldest_32 (by decide) ?_
      refine lv_iload_n hx hb dX2_dropOldest_9 rfl (lv_at hl 0 rfl) ?_
      refine lv_bipush (v := (6 : Int32)) hx hb dX2_dropOldest_10 (by decide) ?_
      refine lv_icmp_ge (tgt := 35) hx hb dX2_dropOldest_12 (by decide) (fun c_12 => ?_) (fun c_12 => ?_)
      · exact absurd c_12 (by decide)
      · refine lv_aload_n hx hb dX2_dropOldest_15 rfl (lv_at hl 2 rfl) ?_
        refine va_get (D := (dC, dI)) (ci := 2) (v := .ref (A 7)) (C := RX2) (T := TX2) (N := 2) hx hb hts inX2 hown hK hP 0 rfl rfl 0 (by decide) (hts (.fieldLink RX2 11 "BoardMetronomes$SavedStates" "states" "[LBoardMetronomes$Bench;") (by decide +kernel)) (fun _ h9 => h9) rfl dX2_dropOldest_16 ?_
        refine lv_iload_n hx hb dX2_dropOldest_19 rfl (lv_at hl 0 rfl) ?_
        refine lv_iconst (v := (1 : Int32)) hx hb dX2_dropOldest_20 (by decide) ?_
        refine lv_isub hx hb dX2_dropOldest_21 ?_
        refine kt_i (y := (2 : Int32)) (by decide) ?_
        refine lv_aload_n hx hb dX2_dropOldest_22 rfl (lv_at hl 2 rfl) ?_
        refine va_get (D := (dC, dI)) (ci := 2) (v := .ref (A 7)) (C := RX2) (T := TX2) (N := 2) hx hb hts inX2 hown hK hP 0 rfl rfl 0 (by decide) (hts (.fieldLink RX2 11 "BoardMetronomes$SavedStates" "states" "[LBoardMetronomes$Bench;") (by decide +kernel)) (fun _ h9 => h9) rfl dX2_dropOldest_23 ?_
        refine lv_iload_n hx hb dX2_dropOldest_26 rfl (lv_at hl 0 rfl) ?_
        refine va_aldq (D := (dC, dI)) hx hb hK hP 1 2 rfl rfl (vp_in_nI (n := 3) (by omega) (by decide)) dX2_dropOldest_27 ?_
        refine W.eq (g2 := F0 m 28 ls [.ref (A 10), .int (2 : Int32), .ref (A 7)]) rfl ?_
        refine va_astq (D := (dC, dI)) hx hb hK hP hD hS 1 2 2 0 (r := (RX0, TX0, 14)) rfl rfl rfl rfl (vp_in_nI (n := 2) (by omega) (by decide)) dX2_dropOldest_28 (fun H locs hP hD hS => ?_)
        have hP : va_P (dC, dI) vwCl (SX cI cZ cO A Q (va_up (va_up (va_up (SRow A 3) (0 : Int32).toNatClampNeg (some (A 14))) (1 : Int32).toNatClampNeg (some (A 15))) (2 : Int32).toNatClampNeg (some (A 10))) (nI k) us) H := Eq.mp (congrArg (fun w => va_P (dC, dI) vwCl w H) SX_g) hP
        have hD : va_D A0 (SX cI cZ cO A Q (va_up (va_up (va_up (SRow A 3) (0 : Int32).toNatClampNeg (some (A 14))) (1 : Int32).toNatClampNeg (some (A 15))) (2 : Int32).toNatClampNeg (some (A 10))) (nI k) us) := Eq.mp (congrArg (fun w => va_D A0 w) SX_g) hD
        refine lv_iinc (v := (4 : Int32)) (lv' := [(2, .int (4 : Int32)), (1, .ref (A 13)), (0, .ref (A 6))]) hx hb dX2_dropOldest_29 hl (k := 0) rfl (by decide) (by decide) rfl (fun ls hl => ?_)
        refine lv_goto (tgt := 9) hx hb dX2_dropOldest_32 (by decide) ?_
        refine lv_iload_n hx hb dX2_dropOldest_9 rfl (lv_at hl 0 rfl) ?_
        refine lv_bipush (v := (6 : Int32)) hx hb dX2_dropOldest_10 (by decide) ?_
        refine lv_icmp_ge (tgt := 35) hx hb dX2_dropOldest_12 (by decide) (fun c_12 => ?_) (fun c_12 => ?_)
        · exact absurd c_12 (by decide)
        · refine lv_aload_n hx hb dX2_dropOldest_15 rfl (lv_at hl 2 rfl) ?_
          refine va_get (D := (dC, dI)) (ci := 2) (v := .ref (A 7)) (C := RX2) (T := TX2) (N := 2) hx hb hts inX2 hown hK hP 0 rfl rfl 0 (by decide) (hts (.fieldLink RX2 11 "BoardMetronomes$SavedStates" "states" "[LBoardMetronomes$Bench;") (by decide +kernel)) (fun _ h9 => h9) rfl dX2_dropOldest_16 ?_
          refine lv_iload_n hx hb dX2_dropOldest_19 rfl (lv_at hl 0 rfl) ?_
          refine lv_iconst (v := (1 : Int32)) hx hb dX2_dropOldest_20 (by decide) ?_
          refine lv_isub hx hb dX2_dropOldest_21 ?_
          refine kt_i (y := (3 : Int32)) (by decide) ?_
          refine lv_aload_n hx hb dX2_dropOldest_22 rfl (lv_at hl 2 rfl) ?_
          refine va_get (D := (dC, dI)) (ci := 2) (v := .ref (A 7)) (C := RX2) (T := TX2) (N := 2) hx hb hts inX2 hown hK hP 0 rfl rfl 0 (by decide) (hts (.fieldLink RX2 11 "BoardMetronomes$SavedStates" "states" "[LBoardMetronomes$Bench;") (by decide +kernel)) (fun _ h9 => h9) rfl dX2_dropOldest_23 ?_
          refine lv_iload_n hx hb dX2_dropOldest_26 rfl (lv_at hl 0 rfl) ?_
          refine va_aldq (D := (dC, dI)) hx hb hK hP 1 2 rfl rfl (vp_in_nI (n := 4) (by omega) (by decide)) dX2_dropOldest_27 ?_
          refine W.eq (g2 := F0 m 28 ls [.ref (A 11), .int (3 : Int32), .ref (A 7)]) rfl ?_
          refine va_astq (D := (dC, dI)) hx hb hK hP hD hS 1 2 8 0 (r := (RX0, TX0, 14)) rfl rfl rfl rfl (vp_in_nI (n := 3) (by omega) (by decide)) dX2_dropOldest_28 (fun H locs hP hD hS => ?_)
          have hP : va_P (dC, dI) vwCl (SX cI cZ cO A Q (va_up (va_up (va_up (va_up (SRow A 3) (0 : Int32).toNatClampNeg (some (A 14))) (1 : Int32).toNatClampNeg (some (A 15))) (2 : Int32).toNatClampNeg (some (A 10))) (3 : Int32).toNatClampNeg (some (A 11))) (nI k) us) H := Eq.mp (congrArg (fun w => va_P (dC, dI) vwCl w H) SX_g) hP
          have hD : va_D A0 (SX cI cZ cO A Q (va_up (va_up (va_up (va_up (SRow A 3) (0 : Int32).toNatClampNeg (some (A 14))) (1 : Int32).toNatClampNeg (some (A 15))) (2 : Int32).toNatClampNeg (some (A 10))) (3 : Int32).toNatClampNeg (some (A 11))) (nI k) us) := Eq.mp (congrArg (fun w => va_D A0 w) SX_g) hD
          refine lv_iinc (v := (5 : Int32)) (lv' := [(2, .int (5 : Int32)), (1, .ref (A 13)), (0, .ref (A 6))]) hx hb dX2_dropOldest_29 hl (k := 0) rfl (by decide) (by decide) rfl (fun ls hl => ?_)
          refine lv_goto (tgt := 9) hx hb dX2_dropOldest_32 (by decide) ?_
          refine lv_iload_n hx hb dX2_dropOldest_9 rfl (lv_at hl 0 rfl) ?_
          refine lv_bipush (v := (6 : Int32)) hx hb dX2_dropOldest_10 (by decide) ?_
          refine lv_icmp_ge (tgt := 35) hx hb dX2_dropOldest_12 (by decide) (fun c_12 => ?_) (fun c_12 => ?_)
          · exact absurd c_12 (by decide)
          · refine lv_aload_n hx hb dX2_dropOldest_15 rfl (lv_at hl 2 rfl) ?_
            refine va_get (D := (dC, dI)) (ci := 2) (v := .ref (A 7)) (C := RX2) (T := TX2) (N := 2) hx hb hts inX2 hown hK hP 0 rfl rfl 0 (by decide) (hts (.fieldLink RX2 11 "BoardMetronomes$SavedStates" "states" "[LBoardMetronomes$Bench;") (by decide +kernel)) (fun _ h9 => h9) rfl dX2_dropOldest_16 ?_
            refine lv_iload_n hx hb dX2_dropOldest_19 rfl (lv_at hl 0 rfl) ?_
            refine lv_iconst (v := (1 : Int32)) hx hb dX2_dropOldest_20 (by decide) ?_
            refine lv_isub hx hb dX2_dropOldest_21 ?_
            refine kt_i (y := (4 : Int32)) (by decide) ?_
            refine lv_aload_n hx hb dX2_dropOldest_22 rfl (lv_at hl 2 rfl) ?_
            refine va_get (D := (dC, dI)) (ci := 2) (v := .ref (A 7)) (C := RX2) (T := TX2) (N := 2) hx hb hts inX2 hown hK hP 0 rfl rfl 0 (by decide) (hts (.fieldLink RX2 11 "BoardMetronomes$SavedStates" "states" "[LBoardMetronomes$Bench;") (by decide +kernel)) (fun _ h9 => h9) rfl dX2_dropOldest_23 ?_
            refine lv_iload_n hx hb dX2_dropOldest_26 rfl (lv_at hl 0 rfl) ?_
            refine va_aldq (D := (dC, dI)) hx hb hK hP 1 2 rfl rfl (vp_in_nI (n := 5) (by omega) (by decide)) dX2_dropOldest_27 ?_
            refine W.eq (g2 := F0 m 28 ls [.ref (A 12), .int (4 : Int32), .ref (A 7)]) rfl ?_
            refine va_astq (D := (dC, dI)) hx hb hK hP hD hS 1 2 14 0 (r := (RX0, TX0, 14)) rfl rfl rfl rfl (vp_in_nI (n := 4) (by omega) (by decide)) dX2_dropOldest_28 (fun H locs hP hD hS => ?_)
            have hP : va_P (dC, dI) vwCl (SX cI cZ cO A Q (va_up (va_up (va_up (va_up (va_up (SRow A 3) (0 : Int32).toNatClampNeg (some (A 14))) (1 : Int32).toNatClampNeg (some (A 15))) (2 : Int32).toNatClampNeg (some (A 10))) (3 : Int32).toNatClampNeg (some (A 11))) (4 : Int32).toNatClampNeg (some (A 12))) (nI k) us) H := Eq.mp (congrArg (fun w => va_P (dC, dI) vwCl w H) SX_g) hP
            have hD : va_D A0 (SX cI cZ cO A Q (va_up (va_up (va_up (va_up (va_up (SRow A 3) (0 : Int32).toNatClampNeg (some (A 14))) (1 : Int32).toNatClampNeg (some (A 15))) (2 : Int32).toNatClampNeg (some (A 10))) (3 : Int32).toNatClampNeg (some (A 11))) (4 : Int32).toNatClampNeg (some (A 12))) (nI k) us) := Eq.mp (congrArg (fun w => va_D A0 w) SX_g) hD
            refine lv_iinc (v := (6 : Int32)) (lv' := [(2, .int (6 : Int32)), (1, .ref (A 13)), (0, .ref (A 6))]) hx hb dX2_dropOldest_29 hl (k := 0) rfl (by decide) (by decide) rfl (fun ls hl => ?_)
            refine lv_goto (tgt := 9) hx hb dX2_dropOldest_32 (by decide) ?_
            refine lv_iload_n hx hb dX2_dropOldest_9 rfl (lv_at hl 0 rfl) ?_
            refine lv_bipush (v := (6 : Int32)) hx hb dX2_dropOldest_10 (by decide) ?_
            refine lv_icmp_ge (tgt := 35) hx hb dX2_dropOldest_12 (by decide) (fun c_12 => ?_) (fun c_12 => ?_)
            · refine lv_aload_n hx hb dX2_dropOldest_35 rfl (lv_at hl 2 rfl) ?_
              refine va_get (D := (dC, dI)) (ci := 2) (v := .ref (A 7)) (C := RX2) (T := TX2) (N := 2) hx hb hts inX2 hown hK hP 0 rfl rfl 0 (by decide) (hts (.fieldLink RX2 11 "BoardMetronomes$SavedStates" "states" "[LBoardMetronomes$Bench;") (by decide +kernel)) (fun _ h9 => h9) rfl dX2_dropOldest_36 ?_
              refine lv_iconst (v := (5 : Int32)) hx hb dX2_dropOldest_39 (by decide) ?_
              refine lv_aload_n hx hb dX2_dropOldest_40 rfl (lv_at hl 1 rfl) ?_
              refine va_astq (D := (dC, dI)) hx hb hK hP hD hS 1 2 20 0 (r := (RX0, TX0, 14)) rfl rfl rfl rfl (vp_in_nI (n := 5) (by omega) (by decide)) dX2_dropOldest_41 (fun H locs hP hD hS => ?_)
              have hP : va_P (dC, dI) vwCl (SX cI cZ cO A Q (va_up (va_up (va_up (va_up (va_up (va_up (SRow A 3) (0 : Int32).toNatClampNeg (some (A 14))) (1 : Int32).toNatClampNeg (some (A 15))) (2 : Int32).toNatClampNeg (some (A 10))) (3 : Int32).toNatClampNeg (some (A 11))) (4 : Int32).toNatClampNeg (some (A 12))) (5 : Int32).toNatClampNeg (some (A 13))) (nI k) us) H := Eq.mp (congrArg (fun w => va_P (dC, dI) vwCl w H) SX_g) hP
              have hD : va_D A0 (SX cI cZ cO A Q (va_up (va_up (va_up (va_up (va_up (va_up (SRow A 3) (0 : Int32).toNatClampNeg (some (A 14))) (1 : Int32).toNatClampNeg (some (A 15))) (2 : Int32).toNatClampNeg (some (A 10))) (3 : Int32).toNatClampNeg (some (A 11))) (4 : Int32).toNatClampNeg (some (A 12))) (5 : Int32).toNatClampNeg (some (A 13))) (nI k) us) := Eq.mp (congrArg (fun w => va_D A0 w) SX_g) hD
              refine lv_aload_n hx hb dX2_dropOldest_42 rfl (lv_at hl 2 rfl) ?_
              refine lv_iconst (v := (5 : Int32)) hx hb dX2_dropOldest_43 (by decide) ?_
              refine va_put (D := (dC, dI)) (ci := 2) (v := .int (5 : Int32)) (ty := .int) (C := RX2) (T := TX2) (N := 2) hx hb hts inX2 tyX2 tyX2_ok nmX2 hown hK hP hD hS 0 rfl rfl 1 (by decide) (hts (.fieldLink RX2 18 "BoardMetronomes$SavedStates" "size" "I") (by decide +kernel)) (fun _ h9 => h9) rfl (by decide +kernel) rfl rfl (Nat.le_of_ble_eq_true rfl) dX2_dropOldest_44 (fun H locs hP hD hS => ?_)
              have hP : va_P (dC, dI) vwCl (SX cI cZ cO A Q (va_up (va_up (va_up (va_up (va_up (va_up (SRow A 3) (0 : Int32).toNatClampNeg (some (A 14))) (1 : Int32).toNatClampNeg (some (A 15))) (2 : Int32).toNatClampNeg (some (A 10))) (3 : Int32).toNatClampNeg (some (A 11))) (4 : Int32).toNatClampNeg (some (A 12))) (5 : Int32).toNatClampNeg (some (A 13))) (5 : Int32) us) H := Eq.mp (congrArg (fun w => va_P (dC, dI) vwCl w H) SX_n) hP
              have hD : va_D A0 (SX cI cZ cO A Q (va_up (va_up (va_up (va_up (va_up (va_up (SRow A 3) (0 : Int32).toNatClampNeg (some (A 14))) (1 : Int32).toNatClampNeg (some (A 15))) (2 : Int32).toNatClampNeg (some (A 10))) (3 : Int32).toNatClampNeg (some (A 11))) (4 : Int32).toNatClampNeg (some (A 12))) (5 : Int32).toNatClampNeg (some (A 13))) (5 : Int32) us) := Eq.mp (congrArg (fun w => va_D A0 w) SX_n) hD
              have hP := SX_cong (g1 := SRow A 4) (fun i hi => by match i, hi with | 0, _ => rfl | 1, _ => rfl | 2, _ => rfl | 3, _ => rfl | 4, _ => rfl | 5, _ => rfl | i + 6, hi => omega) hP
              exact kw_v hx hb hr hlk hP hS dX2_dropOldest_47 rfl
            · exact absurd (by decide) c_12

set_option maxHeartbeats 1000000 in
set_option maxRecDepth 100000 in
theorem c_X2_drop4 (l : Launch) (dC : Nat → ClassId) (dI : Nat → Nat → Nat) (cI cZ cO : ClassId) (A : Nat → Nat) (Q : Nat → Nat → Nat) (k : Nat) (us : Nat → BS) (sz : Nat) : Met l yX2_dropOldest wsX2_dropOldest rm_X2_dropOldest (va_Pc [.ref (A 6)] (fun U => U.heap.size = sz ∧ va_P (dC, dI) vwCl (SX cI cZ cO A Q (SRow A 4) (nI k) us) U.heap ∧ va_K (dC, dI) vwCl (TY cI cZ cO) U ∧ va_D (fun _ => True) (SX cI cZ cO A Q (SRow A 4) (nI k) us))) (kQw none (dC, dI) vwCl (SX cI cZ cO A Q (SRow A 5) (5 : Int32) us) (va_A (SX cI cZ cO A Q (SRow A 4) (nI k) us) sz)) 0 0 (va_A (SX cI cZ cO A Q (SRow A 4) (nI k) us) sz) := by
  refine kofW (cc := cX2_dropOldest) (maxL := 3) (ret := none) (by decide) rfl (Nat.le_of_ble_eq_true rfl) ?_
  intro p e s m args below meth c ls S hr hlk hnm hsz hP hK hD hS hA hl
  generalize hA0 : va_A (SX cI cZ cO A Q (SRow A 4) (nI k) us) sz = A0 at hD hS hA ⊢
  subst hsz
  obtain ⟨hx, hb, hml, hown, hts⟩ := id S
  have inX2 : ∀ w ∈ wsX20, w ∈ wsX2_dropOldest := fun w h => List.mem_cons_of_mem _ (List.mem_append_right _ h)
  have hl : lv_has ls 3 [(0, .ref (A 6))] := hl
  refine lv_aload_n hx hb dX2_dropOldest_0 rfl (lv_at hl 0 rfl) ?_
  refine va_get (D := (dC, dI)) (ci := 2) (v := .ref (A 7)) (C := RX2) (T := TX2) (N := 2) hx hb hts inX2 hown hK hP 0 rfl rfl 0 (by decide) (hts (.fieldLink RX2 11 "BoardMetronomes$SavedStates" "states" "[LBoardMetronomes$Bench;") (by decide +kernel)) (fun _ h9 => h9) rfl dX2_dropOldest_1 ?_
  refine lv_iconst (v := (0 : Int32)) hx hb dX2_dropOldest_4 (by decide) ?_
  refine va_aldq (D := (dC, dI)) hx hb hK hP 1 2 rfl rfl (vp_in_nI (n := 0) (by omega) (by decide)) dX2_dropOldest_5 ?_
  refine W.eq (g2 := F0 m 6 ls [.ref (A 14)]) rfl ?_
  refine lv_astore_n (lv' := [(1, .ref (A 14)), (0, .ref (A 6))]) hx hb dX2_dropOldest_6 rfl hl (by decide) rfl (fun ls hl => ?_)
  refine lv_iconst (v := (1 : Int32)) hx hb dX2_dropOldest_7 (by decide) ?_
  refine lv_istore_n (lv' := [(2, .int (1 : Int32)), (1, .ref (A 14)), (0, .ref (A 6))]) hx hb dX2_dropOldest_8 rfl hl (by decide) rfl (fun ls hl => ?_)
  refine lv_iload_n hx hb dX2_dropOldest_9 rfl (lv_at hl 0 rfl) ?_
  refine lv_bipush (v := (6 : Int32)) hx hb dX2_dropOldest_10 (by decide) ?_
  refine lv_icmp_ge (tgt := 35) hx hb dX2_dropOldest_12 (by decide) (fun c_12 => ?_) (fun c_12 => ?_)
  · exact absurd c_12 (by decide)
  · refine lv_aload_n hx hb dX2_dropOldest_15 rfl (lv_at hl 2 rfl) ?_
    refine va_get (D := (dC, dI)) (ci := 2) (v := .ref (A 7)) (C := RX2) (T := TX2) (N := 2) hx hb hts inX2 hown hK hP 0 rfl rfl 0 (by decide) (hts (.fieldLink RX2 11 "BoardMetronomes$SavedStates" "states" "[LBoardMetronomes$Bench;") (by decide +kernel)) (fun _ h9 => h9) rfl dX2_dropOldest_16 ?_
    refine lv_iload_n hx hb dX2_dropOldest_19 rfl (lv_at hl 0 rfl) ?_
    refine lv_iconst (v := (1 : Int32)) hx hb dX2_dropOldest_20 (by decide) ?_
    refine lv_isub hx hb dX2_dropOldest_21 ?_
    refine kt_i (y := (0 : Int32)) (by decide) ?_
    refine lv_aload_n hx hb dX2_dropOldest_22 rfl (lv_at hl 2 rfl) ?_
    refine va_get (D := (dC, dI)) (ci := 2) (v := .ref (A 7)) (C := RX2) (T := TX2) (N := 2) hx hb hts inX2 hown hK hP 0 rfl rfl 0 (by decide) (hts (.fieldLink RX2 11 "BoardMetronomes$SavedStates" "states" "[LBoardMetronomes$Bench;") (by decide +kernel)) (fun _ h9 => h9) rfl dX2_dropOldest_23 ?_
    refine lv_iload_n hx hb dX2_dropOldest_26 rfl (lv_at hl 0 rfl) ?_
    refine va_aldq (D := (dC, dI)) hx hb hK hP 1 2 rfl rfl (vp_in_nI (n := 1) (by omega) (by decide)) dX2_dropOldest_27 ?_
    refine W.eq (g2 := F0 m 28 ls [.ref (A 15), .int (0 : Int32), .ref (A 7)]) rfl ?_
    refine va_astq (D := (dC, dI)) hx hb hK hP hD hS 1 2 32 0 (r := (RX0, TX0, 14)) rfl rfl rfl rfl (vp_in_nI (n := 0) (by omega) (by decide)) dX2_dropOldest_28 (fun H locs hP hD hS => ?_)
    have hP : va_P (dC, dI) vwCl (SX cI cZ cO A Q (va_up (SRow A 4) (0 : Int32).toNatClampNeg (some (A 15))) (nI k) us) H := Eq.mp (congrArg (fun w => va_P (dC, dI) vwCl w H) SX_g) hP
    have hD : va_D A0 (SX cI cZ cO A Q (va_up (SRow A 4) (0 : Int32).toNatClampNeg (some (A 15))) (nI k) us) := Eq.mp (congrArg (fun w => va_D A0 w) SX_g) hD
    refine lv_iinc (v := (2 : Int32)) (lv' := [(2, .int (2 : Int32)), (1, .ref (A 14)), (0, .ref (A 6))]) hx hb dX2_dropOldest_29 hl (k := 0) rfl (by decide) (by decide) rfl (fun ls hl => ?_)
    refine lv_goto (tgt := 9) hx hb dX2_dropOldest_32 (by decide) ?_
    refine lv_iload_n hx hb dX2_dropOldest_9 rfl (lv_at hl 0 rfl) ?_
    refine lv_bipush (v := (6 : Int32)) hx hb dX2_dropOldest_10 (by decide) ?_
    refine lv_icmp_ge (tgt := 35) hx hb dX2_dropOldest_12 (by decide) (fun c_12 => ?_) (fun c_12 => ?_)
    · exact absurd c_12 (by decide)
    · refine lv_aload_n hx hb dX2_dropOldest_15 rfl (lv_at hl 2 rfl) ?_
      refine va_get (D := (dC, dI)) (ci := 2) (v := .ref (A 7)) (C := RX2) (T := TX2) (N := 2) hx hb hts inX2 hown hK hP 0 rfl rfl 0 (by decide) (hts (.fieldLink RX2 11 "BoardMetronomes$SavedStates" "states" "[LBoardMetronomes$Bench;") (by decide +kernel)) (fun _ h9 => h9) rfl dX2_dropOldest_16 ?_
      refine lv_iload_n hx hb dX2_dropOldest_19 rfl (lv_at hl 0 rfl) ?_
      refine lv_iconst (v := (1 : Int32)) hx hb dX2_dropOldest_20 (by decide) ?_
      refine lv_isub hx hb dX2_dropOldest_21 ?_
      refine kt_i (y := (1 : Int32)) (by decide) ?_
      refine lv_aload_n hx hb dX2_dropOldest_22 rfl (lv_at hl 2 rfl) ?_
      refine va_get (D := (dC, dI)) (ci := 2) (v := .ref (A 7)) (C := RX2) (T := TX2) (N := 2) hx hb hts inX2 hown hK hP 0 rfl rfl 0 (by decide) (hts (.fieldLink RX2 11 "BoardMetronomes$SavedStates" "states" "[LBoardMetronomes$Bench;") (by decide +kernel)) (fun _ h9 => h9) rfl dX2_dropOldest_23 ?_
      refine lv_iload_n hx hb dX2_dropOldest_26 rfl (lv_at hl 0 rfl) ?_
      refine va_aldq (D := (dC, dI)) hx hb hK hP 1 2 rfl rfl (vp_in_nI (n := 2) (by omega) (by decide)) dX2_dropOldest_27 ?_
      refine W.eq (g2 := F0 m 28 ls [.ref (A 10), .int (1 : Int32), .ref (A 7)]) rfl ?_
      refine va_astq (D := (dC, dI)) hx hb hK hP hD hS 1 2 2 0 (r := (RX0, TX0, 14)) rfl rfl rfl rfl (vp_in_nI (n := 1) (by omega) (by decide)) dX2_dropOldest_28 (fun H locs hP hD hS => ?_)
      have hP : va_P (dC, dI) vwCl (SX cI cZ cO A Q (va_up (va_up (SRow A 4) (0 : Int32).toNatClampNeg (some (A 15))) (1 : Int32).toNatClampNeg (some (A 10))) (nI k) us) H := Eq.mp (congrArg (fun w => va_P (dC, dI) vwCl w H) SX_g) hP
      have hD : va_D A0 (SX cI cZ cO A Q (va_up (va_up (SRow A 4) (0 : Int32).toNatClampNeg (some (A 15))) (1 : Int32).toNatClampNeg (some (A 10))) (nI k) us) := Eq.mp (congrArg (fun w => va_D A0 w) SX_g) hD
      refine lv_iinc (v := (3 : Int32)) (lv' := [(2, .int (3 : Int32)), (1, .ref (A 14)), (0, .ref (A 6))]) hx hb dX2_dropOldest_29 hl (k := 0) rfl (by decide) (by decide) rfl (fun ls hl => ?_)
      refine lv_goto (tgt := 9) hx hb dX2_dropOldest_32 (by decide) ?_
      refine lv_iload_n hx hb dX2_dropOldest_9 rfl (lv_at hl 0 rfl) ?_
      refine lv_bipush (v := (6 : Int32)) hx hb dX2_dropOldest_10 (by decide) ?_
      refine lv_icmp_ge (tgt := 35) hx hb dX2_dropOldest_12 (by decide) (fun c_12 => ?_) (fun c_12 => ?_)
      · exact absurd c_12 (by decide)
      · refine lv_aload_n hx hb dX2_dropOldest_15 rfl (lv_at hl 2 rfl) ?_
        refine va_get (D := (dC, dI)) (ci := 2) (v := .ref (A 7)) (C := RX2) (T := TX2) (N := 2) hx hb hts inX2 hown hK hP 0 rfl rfl 0 (by decide) (hts (.fieldLink RX2 11 "BoardMetronomes$SavedStates" "states" "[LBoardMetronomes$Bench;") (by decide +kernel)) (fun _ h9 => h9) rfl dX2_dropOldest_16 ?_
        refine lv_iload_n hx hb dX2_dropOldest_19 rfl (lv_at hl 0 rfl) ?_
        refine lv_iconst (v := (1 : Int32)) hx hb dX2_dropOldest_20 (by decide) ?_
        refine lv_isub hx hb dX2_dropOldest_21 ?_
        refine kt_i (y := (2 : Int32)) (by decide) ?_
        refine lv_aload_n hx hb dX2_dropOldest_22 rfl (lv_at hl 2 rfl) ?_
        refine va_get (D := (dC, dI)) (ci := 2) (v := .ref (A 7)) (C := RX2) (T := TX2) (N := 2) hx hb hts inX2 hown hK hP 0 rfl rfl 0 (by decide) (hts (.fieldLink RX2 11 "BoardMetronomes$SavedStates" "states" "[LBoardMetronomes$Bench;") (by decide +kernel)) (fun _ h9 => h9) rfl dX2_dropOldest_23 ?_
        refine lv_iload_n hx hb dX2_dropOldest_26 rfl (lv_at hl 0 rfl) ?_
        refine va_aldq (D := (dC, dI)) hx hb hK hP 1 2 rfl rfl (vp_in_nI (n := 3) (by omega) (by decide)) dX2_dropOldest_27 ?_
        refine W.eq (g2 := F0 m 28 ls [.ref (A 11), .int (2 : Int32), .ref (A 7)]) rfl ?_
        refine va_astq (D := (dC, dI)) hx hb hK hP hD hS 1 2 8 0 (r := (RX0, TX0, 14)) rfl rfl rfl rfl (vp_in_nI (n := 2) (by omega) (by decide)) dX2_dropOldest_28 (fun H locs hP hD hS => ?_)
        have hP : va_P (dC, dI) vwCl (SX cI cZ cO A Q (va_up (va_up (va_up (SRow A 4) (0 : Int32).toNatClampNeg (some (A 15))) (1 : Int32).toNatClampNeg (some (A 10))) (2 : Int32).toNatClampNeg (some (A 11))) (nI k) us) H := Eq.mp (congrArg (fun w => va_P (dC, dI) vwCl w H) SX_g) hP
        have hD : va_D A0 (SX cI cZ cO A Q (va_up (va_up (va_up (SRow A 4) (0 : Int32).toNatClampNeg (some (A 15))) (1 : Int32).toNatClampNeg (some (A 10))) (2 : Int32).toNatClampNeg (some (A 11))) (nI k) us) := Eq.mp (congrArg (fun w => va_D A0 w) SX_g) hD
        refine lv_iinc (v := (4 : Int32)) (lv' := [(2, .int (4 : Int32)), (1, .ref (A 14)), (0, .ref (A 6))]) hx hb dX2_dropOldest_29 hl (k := 0) rfl (by decide) (by decide) rfl (fun ls hl => ?_)
        refine lv_goto (tgt := 9) hx hb dX2_dropOldest_32 (by decide) ?_
        refine lv_iload_n hx hb dX2_dropOldest_9 rfl (lv_at hl 0 rfl) ?_
        refine lv_bipush (v := (6 : Int32)) hx hb dX2_dropOldest_10 (by decide) ?_
        refine lv_icmp_ge (tgt := 35) hx hb dX2_dropOldest_12 (by decide) (fun c_12 => ?_) (fun c_12 => ?_)
        · exact absurd c_12 (by decide)
        · refine lv_aload_n hx hb dX2_dropOldest_15 rfl (lv_at hl 2 rfl) ?_
          refine va_get (D := (dC, dI)) (ci := 2) (v := .ref (A 7)) (C := RX2) (T := TX2) (N := 2) hx hb hts inX2 hown hK hP 0 rfl rfl 0 (by decide) (hts (.fieldLink RX2 11 "BoardMetronomes$SavedStates" "states" "[LBoardMetronomes$Bench;") (by decide +kernel)) (fun _ h9 => h9) rfl dX2_dropOldest_16 ?_
          refine lv_iload_n hx hb dX2_dropOldest_19 rfl (lv_at hl 0 rfl) ?_
          refine lv_iconst (v := (1 : Int32)) hx hb dX2_dropOldest_20 (by decide) ?_
          refine lv_isub hx hb dX2_dropOldest_21 ?_
          refine kt_i (y := (3 : Int32)) (by decide) ?_
          refine lv_aload_n hx hb dX2_dropOldest_22 rfl (lv_at hl 2 rfl) ?_
          refine va_get (D := (dC, dI)) (ci := 2) (v := .ref (A 7)) (C := RX2) (T := TX2) (N := 2) hx hb hts inX2 hown hK hP 0 rfl rfl 0 (by decide) (hts (.fieldLink RX2 11 "BoardMetronomes$SavedStates" "states" "[LBoardMetronomes$Bench;") (by decide +kernel)) (fun _ h9 => h9) rfl dX2_dropOldest_23 ?_
          refine lv_iload_n hx hb dX2_dropOldest_26 rfl (lv_at hl 0 rfl) ?_
          refine va_aldq (D := (dC, dI)) hx hb hK hP 1 2 rfl rfl (vp_in_nI (n := 4) (by omega) (by decide)) dX2_dropOldest_27 ?_
          refine W.eq (g2 := F0 m 28 ls [.ref (A 12), .int (3 : Int32), .ref (A 7)]) rfl ?_
          refine va_astq (D := (dC, dI)) hx hb hK hP hD hS 1 2 14 0 (r := (RX0, TX0, 14)) rfl rfl rfl rfl (vp_in_nI (n := 3) (by omega) (by decide)) dX2_dropOldest_28 (fun H locs hP hD hS => ?_)
          have hP : va_P (dC, dI) vwCl (SX cI cZ cO A Q (va_up (va_up (va_up (va_up (SRow A 4) (0 : Int32).toNatClampNeg (some (A 15))) (1 : Int32).toNatClampNeg (some (A 10))) (2 : Int32).toNatClampNeg (some (A 11))) (3 : Int32).toNatClampNeg (some (A 12))) (nI k) us) H := Eq.mp (congrArg (fun w => va_P (dC, dI) vwCl w H) SX_g) hP
          have hD : va_D A0 (SX cI cZ cO A Q (va_up (va_up (va_up (va_up (SRow A 4) (0 : Int32).toNatClampNeg (some (A 15))) (1 : Int32).toNatClampNeg (some (A 10))) (2 : Int32).toNatClampNeg (some (A 11))) (3 : Int32).toNatClampNeg (some (A 12))) (nI k) us) := Eq.mp (congrArg (fun w => va_D A0 w) SX_g) hD
          refine lv_iinc (v := (5 : Int32)) (lv' := [(2, .int (5 : Int32)), (1, .ref (A 14)), (0, .ref (A 6))]) hx hb dX2_dropOldest_29 hl (k := 0) rfl (by decide) (by decide) rfl (fun ls hl => ?_)
          refine lv_goto (tgt := 9) hx hb dX2_dropOldest_32 (by decide) ?_
          refine lv_iload_n hx hb dX2_dropOldest_9 rfl (lv_at hl 0 rfl) ?_
          refine lv_bipush (v := (6 : Int32)) hx hb dX2_dropOldest_10 (by decide) ?_
          refine lv_icmp_ge (tgt := 35) hx hb dX2_dropOldest_12 (by decide) (fun c_12 => ?_) (fun c_12 => ?_)
          · exact absurd c_12 (by decide)
          · refine lv_aload_n hx hb dX2_dropOldest_15 rfl (lv_at hl 2 rfl) ?_
            refine va_get (D := (dC, dI)) (ci := 2) (v := .ref (A 7)) (C := RX2) (T := TX2) (N := 2) hx hb hts inX2 hown hK hP 0 rfl rfl 0 (by decide) (hts (.fieldLink RX2 11 "BoardMetronomes$SavedStates" "states" "[LBoardMetronomes$Bench;") (by decide +kernel)) (fun _ h9 => h9) rfl dX2_dropOldest_16 ?_
            refine lv_iload_n hx hb dX2_dropOldest_19 rfl (lv_at hl 0 rfl) ?_
            refine lv_iconst (v := (1 : Int32)) hx hb dX2_dropOldest_20 (by decide) ?_
            refine lv_isub hx hb dX2_dropOldest_21 ?_
            refine kt_i (y := (4 : Int32)) (by decide) ?_
            refine lv_aload_n hx hb dX2_dropOldest_22 rfl (lv_at hl 2 rfl) ?_
            refine va_get (D := (dC, dI)) (ci := 2) (v := .ref (A 7)) (C := RX2) (T := TX2) (N := 2) hx hb hts inX2 hown hK hP 0 rfl rfl 0 (by decide) (hts (.fieldLink RX2 11 "BoardMetronomes$SavedStates" "states" "[LBoardMetronomes$Bench;") (by decide +kernel)) (fun _ h9 => h9) rfl dX2_dropOldest_23 ?_
            refine lv_iload_n hx hb dX2_dropOldest_26 rfl (lv_at hl 0 rfl) ?_
            refine va_aldq (D := (dC, dI)) hx hb hK hP 1 2 rfl rfl (vp_in_nI (n := 5) (by omega) (by decide)) dX2_dropOldest_27 ?_
            refine W.eq (g2 := F0 m 28 ls [.ref (A 13), .int (4 : Int32), .ref (A 7)]) rfl ?_
            refine va_astq (D := (dC, dI)) hx hb hK hP hD hS 1 2 20 0 (r := (RX0, TX0, 14)) rfl rfl rfl rfl (vp_in_nI (n := 4) (by omega) (by decide)) dX2_dropOldest_28 (fun H locs hP hD hS => ?_)
            have hP : va_P (dC, dI) vwCl (SX cI cZ cO A Q (va_up (va_up (va_up (va_up (va_up (SRow A 4) (0 : Int32).toNatClampNeg (some (A 15))) (1 : Int32).toNatClampNeg (some (A 10))) (2 : Int32).toNatClampNeg (some (A 11))) (3 : Int32).toNatClampNeg (some (A 12))) (4 : Int32).toNatClampNeg (some (A 13))) (nI k) us) H := Eq.mp (congrArg (fun w => va_P (dC, dI) vwCl w H) SX_g) hP
            have hD : va_D A0 (SX cI cZ cO A Q (va_up (va_up (va_up (va_up (va_up (SRow A 4) (0 : Int32).toNatClampNeg (some (A 15))) (1 : Int32).toNatClampNeg (some (A 10))) (2 : Int32).toNatClampNeg (some (A 11))) (3 : Int32).toNatClampNeg (some (A 12))) (4 : Int32).toNatClampNeg (some (A 13))) (nI k) us) := Eq.mp (congrArg (fun w => va_D A0 w) SX_g) hD
            refine lv_iinc (v := (6 : Int32)) (lv' := [(2, .int (6 : Int32)), (1, .ref (A 14)), (0, .ref (A 6))]) hx hb dX2_dropOldest_29 hl (k := 0) rfl (by decide) (by decide) rfl (fun ls hl => ?_)
            refine lv_goto (tgt := 9) hx hb dX2_dropOldest_32 (by decide) ?_
            refine lv_iload_n hx hb dX2_dropOldest_9 rfl (lv_at hl 0 rfl) ?_
            refine lv_bipush (v := (6 : Int32)) hx hb dX2_dropOldest_10 (by decide) ?_
            refine lv_icmp_ge (tgt := 35) hx hb dX2_dropOldest_12 (by decide) (fun c_12 => ?_) (fun c_12 => ?_)
            · refine lv_aload_n hx hb dX2_dropOldest_35 rfl (lv_at hl 2 rfl) ?_
              refine va_get (D := (dC, dI)) (ci := 2) (v := .ref (A 7)) (C := RX2) (T := TX2) (N := 2) hx hb hts inX2 hown hK hP 0 rfl rfl 0 (by decide) (hts (.fieldLink RX2 11 "BoardMetronomes$SavedStates" "states" "[LBoardMetronomes$Bench;") (by decide +kernel)) (fun _ h9 => h9) rfl dX2_dropOldest_36 ?_
              refine lv_iconst (v := (5 : Int32)) hx hb dX2_dropOldest_39 (by decide) ?_
              refine lv_aload_n hx hb dX2_dropOldest_40 rfl (lv_at hl 1 rfl) ?_
              refine va_astq (D := (dC, dI)) hx hb hK hP hD hS 1 2 26 0 (r := (RX0, TX0, 14)) rfl rfl rfl rfl (vp_in_nI (n := 5) (by omega) (by decide)) dX2_dropOldest_41 (fun H locs hP hD hS => ?_)
              have hP : va_P (dC, dI) vwCl (SX cI cZ cO A Q (va_up (va_up (va_up (va_up (va_up (va_up (SRow A 4) (0 : Int32).toNatClampNeg (some (A 15))) (1 : Int32).toNatClampNeg (some (A 10))) (2 : Int32).toNatClampNeg (some (A 11))) (3 : Int32).toNatClampNeg (some (A 12))) (4 : Int32).toNatClampNeg (some (A 13))) (5 : Int32).toNatClampNeg (some (A 14))) (nI k) us) H := Eq.mp (congrArg (fun w => va_P (dC, dI) vwCl w H) SX_g) hP
              have hD : va_D A0 (SX cI cZ cO A Q (va_up (va_up (va_up (va_up (va_up (va_up (SRow A 4) (0 : Int32).toNatClampNeg (some (A 15))) (1 : Int32).toNatClampNeg (some (A 10))) (2 : Int32).toNatClampNeg (some (A 11))) (3 : Int32).toNatClampNeg (some (A 12))) (4 : Int32).toNatClampNeg (some (A 13))) (5 : Int32).toNatClampNeg (some (A 14))) (nI k) us) := Eq.mp (congrArg (fun w => va_D A0 w) SX_g) hD
              refine lv_aload_n hx hb dX2_dropOldest_42 rfl (lv_at hl 2 rfl) ?_
              refine lv_iconst (v := (5 : Int32)) hx hb dX2_dropOldest_43 (by decide) ?_
              refine va_put (D := (dC, dI)) (ci := 2) (v := .int (5 : Int32)) (ty := .int) (C := RX2) (T := TX2) (N := 2) hx hb hts inX2 tyX2 tyX2_ok nmX2 hown hK hP hD hS 0 rfl rfl 1 (by decide) (hts (.fieldLink RX2 18 "BoardMetronomes$SavedStates" "size" "I") (by decide +kernel)) (fun _ h9 => h9) rfl (by decide +kernel) rfl rfl (Nat.le_of_ble_eq_true rfl) dX2_dropOldest_44 (fun H locs hP hD hS => ?_)
              have hP : va_P (dC, dI) vwCl (SX cI cZ cO A Q (va_up (va_up (va_up (va_up (va_up (va_up (SRow A 4) (0 : Int32).toNatClampNeg (some (A 15))) (1 : Int32).toNatClampNeg (some (A 10))) (2 : Int32).toNatClampNeg (some (A 11))) (3 : Int32).toNatClampNeg (some (A 12))) (4 : Int32).toNatClampNeg (some (A 13))) (5 : Int32).toNatClampNeg (some (A 14))) (5 : Int32) us) H := Eq.mp (congrArg (fun w => va_P (dC, dI) vwCl w H) SX_n) hP
              have hD : va_D A0 (SX cI cZ cO A Q (va_up (va_up (va_up (va_up (va_up (va_up (SRow A 4) (0 : Int32).toNatClampNeg (some (A 15))) (1 : Int32).toNatClampNeg (some (A 10))) (2 : Int32).toNatClampNeg (some (A 11))) (3 : Int32).toNatClampNeg (some (A 12))) (4 : Int32).toNatClampNeg (some (A 13))) (5 : Int32).toNatClampNeg (some (A 14))) (5 : Int32) us) := Eq.mp (congrArg (fun w => va_D A0 w) SX_n) hD
              have hP := SX_cong (g1 := SRow A 5) (fun i hi => by match i, hi with | 0, _ => rfl | 1, _ => rfl | 2, _ => rfl | 3, _ => rfl | 4, _ => rfl | 5, _ => rfl | i + 6, hi => omega) hP
              exact kw_v hx hb hr hlk hP hS dX2_dropOldest_47 rfl
            · exact absurd (by decide) c_12

set_option maxHeartbeats 1000000 in
set_option maxRecDepth 100000 in
theorem c_X2_drop5 (l : Launch) (dC : Nat → ClassId) (dI : Nat → Nat → Nat) (cI cZ cO : ClassId) (A : Nat → Nat) (Q : Nat → Nat → Nat) (k : Nat) (us : Nat → BS) (sz : Nat) : Met l yX2_dropOldest wsX2_dropOldest rm_X2_dropOldest (va_Pc [.ref (A 6)] (fun U => U.heap.size = sz ∧ va_P (dC, dI) vwCl (SX cI cZ cO A Q (SRow A 5) (nI k) us) U.heap ∧ va_K (dC, dI) vwCl (TY cI cZ cO) U ∧ va_D (fun _ => True) (SX cI cZ cO A Q (SRow A 5) (nI k) us))) (kQw none (dC, dI) vwCl (SX cI cZ cO A Q (SRow A 0) (5 : Int32) us) (va_A (SX cI cZ cO A Q (SRow A 5) (nI k) us) sz)) 0 0 (va_A (SX cI cZ cO A Q (SRow A 5) (nI k) us) sz) := by
  refine kofW (cc := cX2_dropOldest) (maxL := 3) (ret := none) (by decide) rfl (Nat.le_of_ble_eq_true rfl) ?_
  intro p e s m args below meth c ls S hr hlk hnm hsz hP hK hD hS hA hl
  generalize hA0 : va_A (SX cI cZ cO A Q (SRow A 5) (nI k) us) sz = A0 at hD hS hA ⊢
  subst hsz
  obtain ⟨hx, hb, hml, hown, hts⟩ := id S
  have inX2 : ∀ w ∈ wsX20, w ∈ wsX2_dropOldest := fun w h => List.mem_cons_of_mem _ (List.mem_append_right _ h)
  have hl : lv_has ls 3 [(0, .ref (A 6))] := hl
  refine lv_aload_n hx hb dX2_dropOldest_0 rfl (lv_at hl 0 rfl) ?_
  refine va_get (D := (dC, dI)) (ci := 2) (v := .ref (A 7)) (C := RX2) (T := TX2) (N := 2) hx hb hts inX2 hown hK hP 0 rfl rfl 0 (by decide) (hts (.fieldLink RX2 11 "BoardMetronomes$SavedStates" "states" "[LBoardMetronomes$Bench;") (by decide +kernel)) (fun _ h9 => h9) rfl dX2_dropOldest_1 ?_
  refine lv_iconst (v := (0 : Int32)) hx hb dX2_dropOldest_4 (by decide) ?_
  refine va_aldq (D := (dC, dI)) hx hb hK hP 1 2 rfl rfl (vp_in_nI (n := 0) (by omega) (by decide)) dX2_dropOldest_5 ?_
  refine W.eq (g2 := F0 m 6 ls [.ref (A 15)]) rfl ?_
  refine lv_astore_n (lv' := [(1, .ref (A 15)), (0, .ref (A 6))]) hx hb dX2_dropOldest_6 rfl hl (by decide) rfl (fun ls hl => ?_)
  refine lv_iconst (v := (1 : Int32)) hx hb dX2_dropOldest_7 (by decide) ?_
  refine lv_istore_n (lv' := [(2, .int (1 : Int32)), (1, .ref (A 15)), (0, .ref (A 6))]) hx hb dX2_dropOldest_8 rfl hl (by decide) rfl (fun ls hl => ?_)
  refine lv_iload_n hx hb dX2_dropOldest_9 rfl (lv_at hl 0 rfl) ?_
  refine lv_bipush (v := (6 : Int32)) hx hb dX2_dropOldest_10 (by decide) ?_
  refine lv_icmp_ge (tgt := 35) hx hb dX2_dropOldest_12 (by decide) (fun c_12 => ?_) (fun c_12 => ?_)
  · exact absurd c_12 (by decide)
  · refine lv_aload_n hx hb dX2_dropOldest_15 rfl (lv_at hl 2 rfl) ?_
    refine va_get (D := (dC, dI)) (ci := 2) (v := .ref (A 7)) (C := RX2) (T := TX2) (N := 2) hx hb hts inX2 hown hK hP 0 rfl rfl 0 (by decide) (hts (.fieldLink RX2 11 "BoardMetronomes$SavedStates" "states" "[LBoardMetronomes$Bench;") (by decide +kernel)) (fun _ h9 => h9) rfl dX2_dropOldest_16 ?_
    refine lv_iload_n hx hb dX2_dropOldest_19 rfl (lv_at hl 0 rfl) ?_
    refine lv_iconst (v := (1 : Int32)) hx hb dX2_dropOldest_20 (by decide) ?_
    refine lv_isub hx hb dX2_dropOldest_21 ?_
    refine kt_i (y := (0 : Int32)) (by decide) ?_
    refine lv_aload_n hx hb dX2_dropOldest_22 rfl (lv_at hl 2 rfl) ?_
    refine va_get (D := (dC, dI)) (ci := 2) (v := .ref (A 7)) (C := RX2) (T := TX2) (N := 2) hx hb hts inX2 hown hK hP 0 rfl rfl 0 (by decide) (hts (.fieldLink RX2 11 "BoardMetronomes$SavedStates" "states" "[LBoardMetronomes$Bench;") (by decide +kernel)) (fun _ h9 => h9) rfl dX2_dropOldest_23 ?_
    refine lv_iload_n hx hb dX2_dropOldest_26 rfl (lv_at hl 0 rfl) ?_
    refine va_aldq (D := (dC, dI)) hx hb hK hP 1 2 rfl rfl (vp_in_nI (n := 1) (by omega) (by decide)) dX2_dropOldest_27 ?_
    refine W.eq (g2 := F0 m 28 ls [.ref (A 10), .int (0 : Int32), .ref (A 7)]) rfl ?_
    refine va_astq (D := (dC, dI)) hx hb hK hP hD hS 1 2 2 0 (r := (RX0, TX0, 14)) rfl rfl rfl rfl (vp_in_nI (n := 0) (by omega) (by decide)) dX2_dropOldest_28 (fun H locs hP hD hS => ?_)
    have hP : va_P (dC, dI) vwCl (SX cI cZ cO A Q (va_up (SRow A 5) (0 : Int32).toNatClampNeg (some (A 10))) (nI k) us) H := Eq.mp (congrArg (fun w => va_P (dC, dI) vwCl w H) SX_g) hP
    have hD : va_D A0 (SX cI cZ cO A Q (va_up (SRow A 5) (0 : Int32).toNatClampNeg (some (A 10))) (nI k) us) := Eq.mp (congrArg (fun w => va_D A0 w) SX_g) hD
    refine lv_iinc (v := (2 : Int32)) (lv' := [(2, .int (2 : Int32)), (1, .ref (A 15)), (0, .ref (A 6))]) hx hb dX2_dropOldest_29 hl (k := 0) rfl (by decide) (by decide) rfl (fun ls hl => ?_)
    refine lv_goto (tgt := 9) hx hb dX2_dropOldest_32 (by decide) ?_
    refine lv_iload_n hx hb dX2_dropOldest_9 rfl (lv_at hl 0 rfl) ?_
    refine lv_bipush (v := (6 : Int32)) hx hb dX2_dropOldest_10 (by decide) ?_
    refine lv_icmp_ge (tgt := 35) hx hb dX2_dropOldest_12 (by decide) (fun c_12 => ?_) (fun c_12 => ?_)
    · exact absurd c_12 (by decide)
    · refine lv_aload_n hx hb dX2_dropOldest_15 rfl (lv_at hl 2 rfl) ?_
      refine va_get (D := (dC, dI)) (ci := 2) (v := .ref (A 7)) (C := RX2) (T := TX2) (N := 2) hx hb hts inX2 hown hK hP 0 rfl rfl 0 (by decide) (hts (.fieldLink RX2 11 "BoardMetronomes$SavedStates" "states" "[LBoardMetronomes$Bench;") (by decide +kernel)) (fun _ h9 => h9) rfl dX2_dropOldest_16 ?_
      refine lv_iload_n hx hb dX2_dropOldest_19 rfl (lv_at hl 0 rfl) ?_
      refine lv_iconst (v := (1 : Int32)) hx hb dX2_dropOldest_20 (by decide) ?_
      refine lv_isub hx hb dX2_dropOldest_21 ?_
      refine kt_i (y := (1 : Int32)) (by decide) ?_
      refine lv_aload_n hx hb dX2_dropOldest_22 rfl (lv_at hl 2 rfl) ?_
      refine va_get (D := (dC, dI)) (ci := 2) (v := .ref (A 7)) (C := RX2) (T := TX2) (N := 2) hx hb hts inX2 hown hK hP 0 rfl rfl 0 (by decide) (hts (.fieldLink RX2 11 "BoardMetronomes$SavedStates" "states" "[LBoardMetronomes$Bench;") (by decide +kernel)) (fun _ h9 => h9) rfl dX2_dropOldest_23 ?_
      refine lv_iload_n hx hb dX2_dropOldest_26 rfl (lv_at hl 0 rfl) ?_
      refine va_aldq (D := (dC, dI)) hx hb hK hP 1 2 rfl rfl (vp_in_nI (n := 2) (by omega) (by decide)) dX2_dropOldest_27 ?_
      refine W.eq (g2 := F0 m 28 ls [.ref (A 11), .int (1 : Int32), .ref (A 7)]) rfl ?_
      refine va_astq (D := (dC, dI)) hx hb hK hP hD hS 1 2 8 0 (r := (RX0, TX0, 14)) rfl rfl rfl rfl (vp_in_nI (n := 1) (by omega) (by decide)) dX2_dropOldest_28 (fun H locs hP hD hS => ?_)
      have hP : va_P (dC, dI) vwCl (SX cI cZ cO A Q (va_up (va_up (SRow A 5) (0 : Int32).toNatClampNeg (some (A 10))) (1 : Int32).toNatClampNeg (some (A 11))) (nI k) us) H := Eq.mp (congrArg (fun w => va_P (dC, dI) vwCl w H) SX_g) hP
      have hD : va_D A0 (SX cI cZ cO A Q (va_up (va_up (SRow A 5) (0 : Int32).toNatClampNeg (some (A 10))) (1 : Int32).toNatClampNeg (some (A 11))) (nI k) us) := Eq.mp (congrArg (fun w => va_D A0 w) SX_g) hD
      refine lv_iinc (v := (3 : Int32)) (lv' := [(2, .int (3 : Int32)), (1, .ref (A 15)), (0, .ref (A 6))]) hx hb dX2_dropOldest_29 hl (k := 0) rfl (by decide) (by decide) rfl (fun ls hl => ?_)
      refine lv_goto (tgt := 9) hx hb dX2_dropOldest_32 (by decide) ?_
      refine lv_iload_n hx hb dX2_dropOldest_9 rfl (lv_at hl 0 rfl) ?_
      refine lv_bipush (v := (6 : Int32)) hx hb dX2_dropOldest_10 (by decide) ?_
      refine lv_icmp_ge (tgt := 35) hx hb dX2_dropOldest_12 (by decide) (fun c_12 => ?_) (fun c_12 => ?_)
      · exact absurd c_12 (by decide)
      · refine lv_aload_n hx hb dX2_dropOldest_15 rfl (lv_at hl 2 rfl) ?_
        refine va_get (D := (dC, dI)) (ci := 2) (v := .ref (A 7)) (C := RX2) (T := TX2) (N := 2) hx hb hts inX2 hown hK hP 0 rfl rfl 0 (by decide) (hts (.fieldLink RX2 11 "BoardMetronomes$SavedStates" "states" "[LBoardMetronomes$Bench;") (by decide +kernel)) (fun _ h9 => h9) rfl dX2_dropOldest_16 ?_
        refine lv_iload_n hx hb dX2_dropOldest_19 rfl (lv_at hl 0 rfl) ?_
        refine lv_iconst (v := (1 : Int32)) hx hb dX2_dropOldest_20 (by decide) ?_
        refine lv_isub hx hb dX2_dropOldest_21 ?_
        refine kt_i (y := (2 : Int32)) (by decide) ?_
        refine lv_aload_n hx hb dX2_dropOldest_22 rfl (lv_at hl 2 rfl) ?_
        refine va_get (D := (dC, dI)) (ci := 2) (v := .ref (A 7)) (C := RX2) (T := TX2) (N := 2) hx hb hts inX2 hown hK hP 0 rfl rfl 0 (by decide) (hts (.fieldLink RX2 11 "BoardMetronomes$SavedStates" "states" "[LBoardMetronomes$Bench;") (by decide +kernel)) (fun _ h9 => h9) rfl dX2_dropOldest_23 ?_
        refine lv_iload_n hx hb dX2_dropOldest_26 rfl (lv_at hl 0 rfl) ?_
        refine va_aldq (D := (dC, dI)) hx hb hK hP 1 2 rfl rfl (vp_in_nI (n := 3) (by omega) (by decide)) dX2_dropOldest_27 ?_
        refine W.eq (g2 := F0 m 28 ls [.ref (A 12), .int (2 : Int32), .ref (A 7)]) rfl ?_
        refine va_astq (D := (dC, dI)) hx hb hK hP hD hS 1 2 14 0 (r := (RX0, TX0, 14)) rfl rfl rfl rfl (vp_in_nI (n := 2) (by omega) (by decide)) dX2_dropOldest_28 (fun H locs hP hD hS => ?_)
        have hP : va_P (dC, dI) vwCl (SX cI cZ cO A Q (va_up (va_up (va_up (SRow A 5) (0 : Int32).toNatClampNeg (some (A 10))) (1 : Int32).toNatClampNeg (some (A 11))) (2 : Int32).toNatClampNeg (some (A 12))) (nI k) us) H := Eq.mp (congrArg (fun w => va_P (dC, dI) vwCl w H) SX_g) hP
        have hD : va_D A0 (SX cI cZ cO A Q (va_up (va_up (va_up (SRow A 5) (0 : Int32).toNatClampNeg (some (A 10))) (1 : Int32).toNatClampNeg (some (A 11))) (2 : Int32).toNatClampNeg (some (A 12))) (nI k) us) := Eq.mp (congrArg (fun w => va_D A0 w) SX_g) hD
        refine lv_iinc (v := (4 : Int32)) (lv' := [(2, .int (4 : Int32)), (1, .ref (A 15)), (0, .ref (A 6))]) hx hb dX2_dropOldest_29 hl (k := 0) rfl (by decide) (by decide) rfl (fun ls hl => ?_)
        refine lv_goto (tgt := 9) hx hb dX2_dropOldest_32 (by decide) ?_
        refine lv_iload_n hx hb dX2_dropOldest_9 rfl (lv_at hl 0 rfl) ?_
        refine lv_bipush (v := (6 : Int32)) hx hb dX2_dropOldest_10 (by decide) ?_
        refine lv_icmp_ge (tgt := 35) hx hb dX2_dropOldest_12 (by decide) (fun c_12 => ?_) (fun c_12 => ?_)
        · exact absurd c_12 (by decide)
        · refine lv_aload_n hx hb dX2_dropOldest_15 rfl (lv_at hl 2 rfl) ?_
          refine va_get (D := (dC, dI)) (ci := 2) (v := .ref (A 7)) (C := RX2) (T := TX2) (N := 2) hx hb hts inX2 hown hK hP 0 rfl rfl 0 (by decide) (hts (.fieldLink RX2 11 "BoardMetronomes$SavedStates" "states" "[LBoardMetronomes$Bench;") (by decide +kernel)) (fun _ h9 => h9) rfl dX2_dropOldest_16 ?_
          refine lv_iload_n hx hb dX2_dropOldest_19 rfl (lv_at hl 0 rfl) ?_
          refine lv_iconst (v := (1 : Int32)) hx hb dX2_dropOldest_20 (by decide) ?_
          refine lv_isub hx hb dX2_dropOldest_21 ?_
          refine kt_i (y := (3 : Int32)) (by decide) ?_
          refine lv_aload_n hx hb dX2_dropOldest_22 rfl (lv_at hl 2 rfl) ?_
          refine va_get (D := (dC, dI)) (ci := 2) (v := .ref (A 7)) (C := RX2) (T := TX2) (N := 2) hx hb hts inX2 hown hK hP 0 rfl rfl 0 (by decide) (hts (.fieldLink RX2 11 "BoardMetronomes$SavedStates" "states" "[LBoardMetronomes$Bench;") (by decide +kernel)) (fun _ h9 => h9) rfl dX2_dropOldest_23 ?_
          refine lv_iload_n hx hb dX2_dropOldest_26 rfl (lv_at hl 0 rfl) ?_
          refine va_aldq (D := (dC, dI)) hx hb hK hP 1 2 rfl rfl (vp_in_nI (n := 4) (by omega) (by decide)) dX2_dropOldest_27 ?_
          refine W.eq (g2 := F0 m 28 ls [.ref (A 13), .int (3 : Int32), .ref (A 7)]) rfl ?_
          refine va_astq (D := (dC, dI)) hx hb hK hP hD hS 1 2 20 0 (r := (RX0, TX0, 14)) rfl rfl rfl rfl (vp_in_nI (n := 3) (by omega) (by decide)) dX2_dropOldest_28 (fun H locs hP hD hS => ?_)
          have hP : va_P (dC, dI) vwCl (SX cI cZ cO A Q (va_up (va_up (va_up (va_up (SRow A 5) (0 : Int32).toNatClampNeg (some (A 10))) (1 : Int32).toNatClampNeg (some (A 11))) (2 : Int32).toNatClampNeg (some (A 12))) (3 : Int32).toNatClampNeg (some (A 13))) (nI k) us) H := Eq.mp (congrArg (fun w => va_P (dC, dI) vwCl w H) SX_g) hP
          have hD : va_D A0 (SX cI cZ cO A Q (va_up (va_up (va_up (va_up (SRow A 5) (0 : Int32).toNatClampNeg (some (A 10))) (1 : Int32).toNatClampNeg (some (A 11))) (2 : Int32).toNatClampNeg (some (A 12))) (3 : Int32).toNatClampNeg (some (A 13))) (nI k) us) := Eq.mp (congrArg (fun w => va_D A0 w) SX_g) hD
          refine lv_iinc (v := (5 : Int32)) (lv' := [(2, .int (5 : Int32)), (1, .ref (A 15)), (0, .ref (A 6))]) hx hb dX2_dropOldest_29 hl (k := 0) rfl (by decide) (by decide) rfl (fun ls hl => ?_)
          refine lv_goto (tgt := 9) hx hb dX2_dropOldest_32 (by decide) ?_
          refine lv_iload_n hx hb dX2_dropOldest_9 rfl (lv_at hl 0 rfl) ?_
          refine lv_bipush (v := (6 : Int32)) hx hb dX2_dropOldest_10 (by decide) ?_
          refine lv_icmp_ge (tgt := 35) hx hb dX2_dropOldest_12 (by decide) (fun c_12 => ?_) (fun c_12 => ?_)
          · exact absurd c_12 (by decide)
          · refine lv_aload_n hx hb dX2_dropOldest_15 rfl (lv_at hl 2 rfl) ?_
            refine va_get (D := (dC, dI)) (ci := 2) (v := .ref (A 7)) (C := RX2) (T := TX2) (N := 2) hx hb hts inX2 hown hK hP 0 rfl rfl 0 (by decide) (hts (.fieldLink RX2 11 "BoardMetronomes$SavedStates" "states" "[LBoardMetronomes$Bench;") (by decide +kernel)) (fun _ h9 => h9) rfl dX2_dropOldest_16 ?_
            refine lv_iload_n hx hb dX2_dropOldest_19 rfl (lv_at hl 0 rfl) ?_
            refine lv_iconst (v := (1 : Int32)) hx hb dX2_dropOldest_20 (by decide) ?_
            refine lv_isub hx hb dX2_dropOldest_21 ?_
            refine kt_i (y := (4 : Int32)) (by decide) ?_
            refine lv_aload_n hx hb dX2_dropOldest_22 rfl (lv_at hl 2 rfl) ?_
            refine va_get (D := (dC, dI)) (ci := 2) (v := .ref (A 7)) (C := RX2) (T := TX2) (N := 2) hx hb hts inX2 hown hK hP 0 rfl rfl 0 (by decide) (hts (.fieldLink RX2 11 "BoardMetronomes$SavedStates" "states" "[LBoardMetronomes$Bench;") (by decide +kernel)) (fun _ h9 => h9) rfl dX2_dropOldest_23 ?_
            refine lv_iload_n hx hb dX2_dropOldest_26 rfl (lv_at hl 0 rfl) ?_
            refine va_aldq (D := (dC, dI)) hx hb hK hP 1 2 rfl rfl (vp_in_nI (n := 5) (by omega) (by decide)) dX2_dropOldest_27 ?_
            refine W.eq (g2 := F0 m 28 ls [.ref (A 14), .int (4 : Int32), .ref (A 7)]) rfl ?_
            refine va_astq (D := (dC, dI)) hx hb hK hP hD hS 1 2 26 0 (r := (RX0, TX0, 14)) rfl rfl rfl rfl (vp_in_nI (n := 4) (by omega) (by decide)) dX2_dropOldest_28 (fun H locs hP hD hS => ?_)
            have hP : va_P (dC, dI) vwCl (SX cI cZ cO A Q (va_up (va_up (va_up (va_up (va_up (SRow A 5) (0 : Int32).toNatClampNeg (some (A 10))) (1 : Int32).toNatClampNeg (some (A 11))) (2 : Int32).toNatClampNeg (some (A 12))) (3 : Int32).toNatClampNeg (some (A 13))) (4 : Int32).toNatClampNeg (some (A 14))) (nI k) us) H := Eq.mp (congrArg (fun w => va_P (dC, dI) vwCl w H) SX_g) hP
            have hD : va_D A0 (SX cI cZ cO A Q (va_up (va_up (va_up (va_up (va_up (SRow A 5) (0 : Int32).toNatClampNeg (some (A 10))) (1 : Int32).toNatClampNeg (some (A 11))) (2 : Int32).toNatClampNeg (some (A 12))) (3 : Int32).toNatClampNeg (some (A 13))) (4 : Int32).toNatClampNeg (some (A 14))) (nI k) us) := Eq.mp (congrArg (fun w => va_D A0 w) SX_g) hD
            refine lv_iinc (v := (6 : Int32)) (lv' := [(2, .int (6 : Int32)), (1, .ref (A 15)), (0, .ref (A 6))]) hx hb dX2_dropOldest_29 hl (k := 0) rfl (by decide) (by decide) rfl (fun ls hl => ?_)
            refine lv_goto (tgt := 9) hx hb dX2_dropOldest_32 (by decide) ?_
            refine lv_iload_n hx hb dX2_dropOldest_9 rfl (lv_at hl 0 rfl) ?_
            refine lv_bipush (v := (6 : Int32)) hx hb dX2_dropOldest_10 (by decide) ?_
            refine lv_icmp_ge (tgt := 35) hx hb dX2_dropOldest_12 (by decide) (fun c_12 => ?_) (fun c_12 => ?_)
            · refine lv_aload_n hx hb dX2_dropOldest_35 rfl (lv_at hl 2 rfl) ?_
              refine va_get (D := (dC, dI)) (ci := 2) (v := .ref (A 7)) (C := RX2) (T := TX2) (N := 2) hx hb hts inX2 hown hK hP 0 rfl rfl 0 (by decide) (hts (.fieldLink RX2 11 "BoardMetronomes$SavedStates" "states" "[LBoardMetronomes$Bench;") (by decide +kernel)) (fun _ h9 => h9) rfl dX2_dropOldest_36 ?_
              refine lv_iconst (v := (5 : Int32)) hx hb dX2_dropOldest_39 (by decide) ?_
              refine lv_aload_n hx hb dX2_dropOldest_40 rfl (lv_at hl 1 rfl) ?_
              refine va_astq (D := (dC, dI)) hx hb hK hP hD hS 1 2 32 0 (r := (RX0, TX0, 14)) rfl rfl rfl rfl (vp_in_nI (n := 5) (by omega) (by decide)) dX2_dropOldest_41 (fun H locs hP hD hS => ?_)
              have hP : va_P (dC, dI) vwCl (SX cI cZ cO A Q (va_up (va_up (va_up (va_up (va_up (va_up (SRow A 5) (0 : Int32).toNatClampNeg (some (A 10))) (1 : Int32).toNatClampNeg (some (A 11))) (2 : Int32).toNatClampNeg (some (A 12))) (3 : Int32).toNatClampNeg (some (A 13))) (4 : Int32).toNatClampNeg (some (A 14))) (5 : Int32).toNatClampNeg (some (A 15))) (nI k) us) H := Eq.mp (congrArg (fun w => va_P (dC, dI) vwCl w H) SX_g) hP
              have hD : va_D A0 (SX cI cZ cO A Q (va_up (va_up (va_up (va_up (va_up (va_up (SRow A 5) (0 : Int32).toNatClampNeg (some (A 10))) (1 : Int32).toNatClampNeg (some (A 11))) (2 : Int32).toNatClampNeg (some (A 12))) (3 : Int32).toNatClampNeg (some (A 13))) (4 : Int32).toNatClampNeg (some (A 14))) (5 : Int32).toNatClampNeg (some (A 15))) (nI k) us) := Eq.mp (congrArg (fun w => va_D A0 w) SX_g) hD
              refine lv_aload_n hx hb dX2_dropOldest_42 rfl (lv_at hl 2 rfl) ?_
              refine lv_iconst (v := (5 : Int32)) hx hb dX2_dropOldest_43 (by decide) ?_
              refine va_put (D := (dC, dI)) (ci := 2) (v := .int (5 : Int32)) (ty := .int) (C := RX2) (T := TX2) (N := 2) hx hb hts inX2 tyX2 tyX2_ok nmX2 hown hK hP hD hS 0 rfl rfl 1 (by decide) (hts (.fieldLink RX2 18 "BoardMetronomes$SavedStates" "size" "I") (by decide +kernel)) (fun _ h9 => h9) rfl (by decide +kernel) rfl rfl (Nat.le_of_ble_eq_true rfl) dX2_dropOldest_44 (fun H locs hP hD hS => ?_)
              have hP : va_P (dC, dI) vwCl (SX cI cZ cO A Q (va_up (va_up (va_up (va_up (va_up (va_up (SRow A 5) (0 : Int32).toNatClampNeg (some (A 10))) (1 : Int32).toNatClampNeg (some (A 11))) (2 : Int32).toNatClampNeg (some (A 12))) (3 : Int32).toNatClampNeg (some (A 13))) (4 : Int32).toNatClampNeg (some (A 14))) (5 : Int32).toNatClampNeg (some (A 15))) (5 : Int32) us) H := Eq.mp (congrArg (fun w => va_P (dC, dI) vwCl w H) SX_n) hP
              have hD : va_D A0 (SX cI cZ cO A Q (va_up (va_up (va_up (va_up (va_up (va_up (SRow A 5) (0 : Int32).toNatClampNeg (some (A 10))) (1 : Int32).toNatClampNeg (some (A 11))) (2 : Int32).toNatClampNeg (some (A 12))) (3 : Int32).toNatClampNeg (some (A 13))) (4 : Int32).toNatClampNeg (some (A 14))) (5 : Int32).toNatClampNeg (some (A 15))) (5 : Int32) us) := Eq.mp (congrArg (fun w => va_D A0 w) SX_n) hD
              have hP := SX_cong (g1 := SRow A 0) (fun i hi => by match i, hi with | 0, _ => rfl | 1, _ => rfl | 2, _ => rfl | 3, _ => rfl | 4, _ => rfl | 5, _ => rfl | i + 6, hi => omega) hP
              exact kw_v hx hb hr hlk hP hS dX2_dropOldest_47 rfl
            · exact absurd (by decide) c_12

theorem c_X2_dropOldest (l : Launch) (dC : Nat → ClassId) (dI : Nat → Nat → Nat) (cI cZ cO : ClassId) (A : Nat → Nat) (Q : Nat → Nat → Nat) (r k : Nat) (us : Nat → BS) (sz : Nat) (hr : r < 6) : Met l yX2_dropOldest wsX2_dropOldest rm_X2_dropOldest (va_Pc [.ref (A 6)] (fun U => U.heap.size = sz ∧ va_P (dC, dI) vwCl (SX cI cZ cO A Q (SRow A r) (nI k) us) U.heap ∧ va_K (dC, dI) vwCl (TY cI cZ cO) U ∧ va_D (fun _ => True) (SX cI cZ cO A Q (SRow A r) (nI k) us))) (kQw none (dC, dI) vwCl (SX cI cZ cO A Q (SRow A ((r + 1) % 6)) (5 : Int32) us) (va_A (SX cI cZ cO A Q (SRow A r) (nI k) us) sz)) 0 0 (va_A (SX cI cZ cO A Q (SRow A r) (nI k) us) sz) := by
  match r, hr with
  | 0, _ => exact c_X2_drop0 l dC dI cI cZ cO A Q k us sz
  | 1, _ => exact c_X2_drop1 l dC dI cI cZ cO A Q k us sz
  | 2, _ => exact c_X2_drop2 l dC dI cI cZ cO A Q k us sz
  | 3, _ => exact c_X2_drop3 l dC dI cI cZ cO A Q k us sz
  | 4, _ => exact c_X2_drop4 l dC dI cI cZ cO A Q k us sz
  | 5, _ => exact c_X2_drop5 l dC dI cI cZ cO A Q k us sz
  | r + 6, h => omega

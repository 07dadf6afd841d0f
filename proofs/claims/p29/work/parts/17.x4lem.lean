/-- the saved states: turned by S.1, S.2.1 of them, the benches S.2.2 -/
abbrev SS : Type := Nat × Nat × (Nat → BS)
def SRow (A : Nat → Nat) (r : Nat) : Nat → Option Nat := fun i => some (A (10 + (i + r) % 6))
def SX (cI cZ cO : ClassId) (A : Nat → Nat) (Q : Nat → Nat → Nat) (g : Nat → Option Nat) (n : Int32) (us : Nat → BS) : va_W := [(A 6, .inr (2, [.ref (A 7), .int n])), (A 7, .inl (cO, 6, .inr (.inr (.inr (.inr g)))))] ++ (BW cI cZ (A 10) (Q 10) (us 0) ++ (BW cI cZ (A 11) (Q 11) (us 1) ++ (BW cI cZ (A 12) (Q 12) (us 2) ++ (BW cI cZ (A 13) (Q 13) (us 3) ++ (BW cI cZ (A 14) (Q 14) (us 4) ++ BW cI cZ (A 15) (Q 15) (us 5))))))
def SW (cI cZ cO : ClassId) (A : Nat → Nat) (Q : Nat → Nat → Nat) (S : SS) : va_W := SX cI cZ cO A Q (SRow A S.1) (nI S.2.1) S.2.2
/-- one of the benches set anew -/
def upB (us : Nat → BS) (p : Nat) (w : BS) : Nat → BS := fun i => if i = p then w else us i
def XO (cZ : ClassId) (A : Nat → Nat) (fl : Nat → Int32) : va_W := [(A 0, .inr (4, [.ref (A 1), .ref (A 2), .ref (A 3), .ref (A 4), .ref (A 5), .ref (A 6), .ref (A 8), .ref (A 9)])), (A 5, .inl (cZ, 2, .inl fl))]
/-- the class's world: slotFilled; now, trial, slotZero, slotOne; the saved states; the buffer; the reader -/
def XW (cI cZ cO : ClassId) (A : Nat → Nat) (Q : Nat → Nat → Nat) (fl : Nat → Int32) (un ut u0 u1 : BS) (S : SS) (x r : BS) : va_W := XO cZ A fl ++ (BW cI cZ (A 1) (Q 1) un ++ (BW cI cZ (A 2) (Q 2) ut ++ (BW cI cZ (A 3) (Q 3) u0 ++ (BW cI cZ (A 4) (Q 4) u1 ++ (SW cI cZ cO A Q S ++ (TW cI cZ (A 8) (Q 8) x ++ RW cI cZ (A 9) (Q 9) r))))))
theorem kset_pre : ∀ (a b : va_W) (y : Nat × va_E) (x : Nat × va_E), (a ++ x :: b).set a.length y = a ++ y :: b
  | [], b, y, x => rfl
  | z :: a, b, y, x => by
    show z :: (a ++ x :: b).set a.length y = z :: (a ++ y :: b)
    rw [kset_pre a b y x]
theorem kset_mid : ∀ (b b1 a c : va_W), b1.length = b.length → ksets (a ++ (b ++ c)) (List.range' a.length b.length) b1 = a ++ (b1 ++ c)
  | [], [], a, c, _ => rfl
  | [], y :: b1, a, c, h => by simp at h
  | x :: b, [], a, c, h => by simp at h
  | x :: b, y :: b1, a, c, h => by
    show ksets ((a ++ x :: (b ++ c)).set a.length y) (List.range' (a.length + 1) b.length) b1 = a ++ (y :: (b1 ++ c))
    rw [kset_pre]
    have h2 := kset_mid b b1 (a ++ [y]) c (by simpa using h)
    rw [List.length_append] at h2
    rw [List.append_assoc, List.append_assoc] at h2
    exact h2
theorem kget_pre : ∀ (a b : va_W) (x : Nat × va_E), (a ++ x :: b)[a.length]? = some x
  | [], b, x => rfl
  | z :: a, b, x => by
    show (a ++ x :: b)[a.length]? = some x
    exact kget_pre a b x
theorem kget_mid : ∀ (b a c : va_W), (List.range' a.length b.length).map (fun i => (a ++ (b ++ c))[i]?) = b.map some
  | [], a, c => rfl
  | x :: b, a, c => by
    show (a ++ x :: (b ++ c))[a.length]? :: (List.range' (a.length + 1) b.length).map (fun i => (a ++ x :: (b ++ c))[i]?) = some x :: b.map some
    rw [kget_pre]
    have h2 := kget_mid b (a ++ [x]) c
    rw [List.length_append, List.append_assoc] at h2
    rw [← h2]
    rfl
theorem ksets_app : ∀ (i1 i2 : List Nat) (c1 c2 ws : va_W), i1.length = c1.length → ksets ws (i1 ++ i2) (c1 ++ c2) = ksets (ksets ws i1 c1) i2 c2
  | [], i2, [], c2, ws, _ => by unfold ksets; rfl
  | [], i2, y :: c1, c2, ws, h => by simp at h
  | i :: i1, i2, [], c2, ws, h => by simp at h
  | i :: i1, i2, y :: c1, c2, ws, h => ksets_app i1 i2 c1 c2 (ws.set i y) (by simpa using h)
theorem XW_all_un {cI cZ cO : ClassId} {A : Nat → Nat} {Q : Nat → Nat → Nat} {fl : Nat → Int32} {un ut u0 u1 : BS} {S : SS} {x r : BS} : ([2, 3, 4, 5, 6, 7] : List Nat).map (fun i => (XW cI cZ cO A Q fl un ut u0 u1 S x r)[i]?) = (BW cI cZ (A 1) (Q 1) un).map some := by
  have h := kget_mid (BW cI cZ (A 1) (Q 1) un) (XO cZ A fl) (BW cI cZ (A 2) (Q 2) ut ++ (BW cI cZ (A 3) (Q 3) u0 ++ (BW cI cZ (A 4) (Q 4) u1 ++ (SW cI cZ cO A Q S ++ (TW cI cZ (A 8) (Q 8) x ++ (RW cI cZ (A 9) (Q 9) r))))))
  try simp only [List.append_assoc] at h
  try simp only [List.append_nil] at h
  exact h
theorem XW_p_un {D : va_G} {cl : List vw_C} {cI cZ cO : ClassId} {A : Nat → Nat} {Q : Nat → Nat → Nat} {fl : Nat → Int32} {un ut u0 u1 : BS} {S : SS} {x r : BS} {H : Heap} (hP : va_P D cl (XW cI cZ cO A Q fl un ut u0 u1 S x r) H) : va_P D cl (BW cI cZ (A 1) (Q 1) un) H := by
  refine hP.sub [2, 3, 4, 5, 6, 7] ?_
  have h := congrArg (fun l => l.filterMap id) (XW_all_un (cI := cI) (cZ := cZ) (cO := cO) (A := A) (Q := Q) (fl := fl) (un := un) (ut := ut) (u0 := u0) (u1 := u1) (S := S) (x := x) (r := r))
  simp only [List.filterMap_map, Function.id_comp, Function.comp_def, id] at h
  rw [List.filterMap_some] at h
  exact h
theorem XW_ks_un {cI cZ cO : ClassId} {A : Nat → Nat} {Q : Nat → Nat → Nat} {fl : Nat → Int32} {un ut u0 u1 : BS} {S : SS} {x r : BS} {v : BS} : ksets (XW cI cZ cO A Q fl un ut u0 u1 S x r) [2, 3, 4, 5, 6, 7] (BW cI cZ (A 1) (Q 1) v) = XW cI cZ cO A Q fl v ut u0 u1 S x r := by
  have h := kset_mid (BW cI cZ (A 1) (Q 1) un) (BW cI cZ (A 1) (Q 1) v) (XO cZ A fl) (BW cI cZ (A 2) (Q 2) ut ++ (BW cI cZ (A 3) (Q 3) u0 ++ (BW cI cZ (A 4) (Q 4) u1 ++ (SW cI cZ cO A Q S ++ (TW cI cZ (A 8) (Q 8) x ++ (RW cI cZ (A 9) (Q 9) r)))))) rfl
  try simp only [List.append_assoc] at h
  try simp only [List.append_nil] at h
  exact h
theorem XW_all_ut {cI cZ cO : ClassId} {A : Nat → Nat} {Q : Nat → Nat → Nat} {fl : Nat → Int32} {un ut u0 u1 : BS} {S : SS} {x r : BS} : ([8, 9, 10, 11, 12, 13] : List Nat).map (fun i => (XW cI cZ cO A Q fl un ut u0 u1 S x r)[i]?) = (BW cI cZ (A 2) (Q 2) ut).map some := by
  have h := kget_mid (BW cI cZ (A 2) (Q 2) ut) (XO cZ A fl ++ (BW cI cZ (A 1) (Q 1) un)) (BW cI cZ (A 3) (Q 3) u0 ++ (BW cI cZ (A 4) (Q 4) u1 ++ (SW cI cZ cO A Q S ++ (TW cI cZ (A 8) (Q 8) x ++ (RW cI cZ (A 9) (Q 9) r)))))
  try simp only [List.append_assoc] at h
  try simp only [List.append_nil] at h
  exact h
theorem XW_p_ut {D : va_G} {cl : List vw_C} {cI cZ cO : ClassId} {A : Nat → Nat} {Q : Nat → Nat → Nat} {fl : Nat → Int32} {un ut u0 u1 : BS} {S : SS} {x r : BS} {H : Heap} (hP : va_P D cl (XW cI cZ cO A Q fl un ut u0 u1 S x r) H) : va_P D cl (BW cI cZ (A 2) (Q 2) ut) H := by
  refine hP.sub [8, 9, 10, 11, 12, 13] ?_
  have h := congrArg (fun l => l.filterMap id) (XW_all_ut (cI := cI) (cZ := cZ) (cO := cO) (A := A) (Q := Q) (fl := fl) (un := un) (ut := ut) (u0 := u0) (u1 := u1) (S := S) (x := x) (r := r))
  simp only [List.filterMap_map, Function.id_comp, Function.comp_def, id] at h
  rw [List.filterMap_some] at h
  exact h
theorem XW_ks_ut {cI cZ cO : ClassId} {A : Nat → Nat} {Q : Nat → Nat → Nat} {fl : Nat → Int32} {un ut u0 u1 : BS} {S : SS} {x r : BS} {v : BS} : ksets (XW cI cZ cO A Q fl un ut u0 u1 S x r) [8, 9, 10, 11, 12, 13] (BW cI cZ (A 2) (Q 2) v) = XW cI cZ cO A Q fl un v u0 u1 S x r := by
  have h := kset_mid (BW cI cZ (A 2) (Q 2) ut) (BW cI cZ (A 2) (Q 2) v) (XO cZ A fl ++ (BW cI cZ (A 1) (Q 1) un)) (BW cI cZ (A 3) (Q 3) u0 ++ (BW cI cZ (A 4) (Q 4) u1 ++ (SW cI cZ cO A Q S ++ (TW cI cZ (A 8) (Q 8) x ++ (RW cI cZ (A 9) (Q 9) r))))) rfl
  try simp only [List.append_assoc] at h
  try simp only [List.append_nil] at h
  exact h
theorem XW_all_u0 {cI cZ cO : ClassId} {A : Nat → Nat} {Q : Nat → Nat → Nat} {fl : Nat → Int32} {un ut u0 u1 : BS} {S : SS} {x r : BS} : ([14, 15, 16, 17, 18, 19] : List Nat).map (fun i => (XW cI cZ cO A Q fl un ut u0 u1 S x r)[i]?) = (BW cI cZ (A 3) (Q 3) u0).map some := by
  have h := kget_mid (BW cI cZ (A 3) (Q 3) u0) (XO cZ A fl ++ (BW cI cZ (A 1) (Q 1) un ++ (BW cI cZ (A 2) (Q 2) ut))) (BW cI cZ (A 4) (Q 4) u1 ++ (SW cI cZ cO A Q S ++ (TW cI cZ (A 8) (Q 8) x ++ (RW cI cZ (A 9) (Q 9) r))))
  try simp only [List.append_assoc] at h
  try simp only [List.append_nil] at h
  exact h
theorem XW_p_u0 {D : va_G} {cl : List vw_C} {cI cZ cO : ClassId} {A : Nat → Nat} {Q : Nat → Nat → Nat} {fl : Nat → Int32} {un ut u0 u1 : BS} {S : SS} {x r : BS} {H : Heap} (hP : va_P D cl (XW cI cZ cO A Q fl un ut u0 u1 S x r) H) : va_P D cl (BW cI cZ (A 3) (Q 3) u0) H := by
  refine hP.sub [14, 15, 16, 17, 18, 19] ?_
  have h := congrArg (fun l => l.filterMap id) (XW_all_u0 (cI := cI) (cZ := cZ) (cO := cO) (A := A) (Q := Q) (fl := fl) (un := un) (ut := ut) (u0 := u0) (u1 := u1) (S := S) (x := x) (r := r))
  simp only [List.filterMap_map, Function.id_comp, Function.comp_def, id] at h
  rw [List.filterMap_some] at h
  exact h
theorem XW_ks_u0 {cI cZ cO : ClassId} {A : Nat → Nat} {Q : Nat → Nat → Nat} {fl : Nat → Int32} {un ut u0 u1 : BS} {S : SS} {x r : BS} {v : BS} : ksets (XW cI cZ cO A Q fl un ut u0 u1 S x r) [14, 15, 16, 17, 18, 19] (BW cI cZ (A 3) (Q 3) v) = XW cI cZ cO A Q fl un ut v u1 S x r := by
  have h := kset_mid (BW cI cZ (A 3) (Q 3) u0) (BW cI cZ (A 3) (Q 3) v) (XO cZ A fl ++ (BW cI cZ (A 1) (Q 1) un ++ (BW cI cZ (A 2) (Q 2) ut))) (BW cI cZ (A 4) (Q 4) u1 ++ (SW cI cZ cO A Q S ++ (TW cI cZ (A 8) (Q 8) x ++ (RW cI cZ (A 9) (Q 9) r)))) rfl
  try simp only [List.append_assoc] at h
  try simp only [List.append_nil] at h
  exact h
theorem XW_all_u1 {cI cZ cO : ClassId} {A : Nat → Nat} {Q : Nat → Nat → Nat} {fl : Nat → Int32} {un ut u0 u1 : BS} {S : SS} {x r : BS} : ([20, 21, 22, 23, 24, 25] : List Nat).map (fun i => (XW cI cZ cO A Q fl un ut u0 u1 S x r)[i]?) = (BW cI cZ (A 4) (Q 4) u1).map some := by
  have h := kget_mid (BW cI cZ (A 4) (Q 4) u1) (XO cZ A fl ++ (BW cI cZ (A 1) (Q 1) un ++ (BW cI cZ (A 2) (Q 2) ut ++ (BW cI cZ (A 3) (Q 3) u0)))) (SW cI cZ cO A Q S ++ (TW cI cZ (A 8) (Q 8) x ++ (RW cI cZ (A 9) (Q 9) r)))
  try simp only [List.append_assoc] at h
  try simp only [List.append_nil] at h
  exact h
theorem XW_p_u1 {D : va_G} {cl : List vw_C} {cI cZ cO : ClassId} {A : Nat → Nat} {Q : Nat → Nat → Nat} {fl : Nat → Int32} {un ut u0 u1 : BS} {S : SS} {x r : BS} {H : Heap} (hP : va_P D cl (XW cI cZ cO A Q fl un ut u0 u1 S x r) H) : va_P D cl (BW cI cZ (A 4) (Q 4) u1) H := by
  refine hP.sub [20, 21, 22, 23, 24, 25] ?_
  have h := congrArg (fun l => l.filterMap id) (XW_all_u1 (cI := cI) (cZ := cZ) (cO := cO) (A := A) (Q := Q) (fl := fl) (un := un) (ut := ut) (u0 := u0) (u1 := u1) (S := S) (x := x) (r := r))
  simp only [List.filterMap_map, Function.id_comp, Function.comp_def, id] at h
  rw [List.filterMap_some] at h
  exact h
theorem XW_ks_u1 {cI cZ cO : ClassId} {A : Nat → Nat} {Q : Nat → Nat → Nat} {fl : Nat → Int32} {un ut u0 u1 : BS} {S : SS} {x r : BS} {v : BS} : ksets (XW cI cZ cO A Q fl un ut u0 u1 S x r) [20, 21, 22, 23, 24, 25] (BW cI cZ (A 4) (Q 4) v) = XW cI cZ cO A Q fl un ut u0 v S x r := by
  have h := kset_mid (BW cI cZ (A 4) (Q 4) u1) (BW cI cZ (A 4) (Q 4) v) (XO cZ A fl ++ (BW cI cZ (A 1) (Q 1) un ++ (BW cI cZ (A 2) (Q 2) ut ++ (BW cI cZ (A 3) (Q 3) u0)))) (SW cI cZ cO A Q S ++ (TW cI cZ (A 8) (Q 8) x ++ (RW cI cZ (A 9) (Q 9) r))) rfl
  try simp only [List.append_assoc] at h
  try simp only [List.append_nil] at h
  exact h
theorem XW_all_S {cI cZ cO : ClassId} {A : Nat → Nat} {Q : Nat → Nat → Nat} {fl : Nat → Int32} {un ut u0 u1 : BS} {S : SS} {x r : BS} : ([26, 27, 28, 29, 30, 31, 32, 33, 34, 35, 36, 37, 38, 39, 40, 41, 42, 43, 44, 45, 46, 47, 48, 49, 50, 51, 52, 53, 54, 55, 56, 57, 58, 59, 60, 61, 62, 63] : List Nat).map (fun i => (XW cI cZ cO A Q fl un ut u0 u1 S x r)[i]?) = (SW cI cZ cO A Q S).map some := by
  have h := kget_mid (SW cI cZ cO A Q S) (XO cZ A fl ++ (BW cI cZ (A 1) (Q 1) un ++ (BW cI cZ (A 2) (Q 2) ut ++ (BW cI cZ (A 3) (Q 3) u0 ++ (BW cI cZ (A 4) (Q 4) u1))))) (TW cI cZ (A 8) (Q 8) x ++ (RW cI cZ (A 9) (Q 9) r))
  try simp only [List.append_assoc] at h
  try simp only [List.append_nil] at h
  exact h
theorem XW_p_S {D : va_G} {cl : List vw_C} {cI cZ cO : ClassId} {A : Nat → Nat} {Q : Nat → Nat → Nat} {fl : Nat → Int32} {un ut u0 u1 : BS} {S : SS} {x r : BS} {H : Heap} (hP : va_P D cl (XW cI cZ cO A Q fl un ut u0 u1 S x r) H) : va_P D cl (SW cI cZ cO A Q S) H := by
  refine hP.sub [26, 27, 28, 29, 30, 31, 32, 33, 34, 35, 36, 37, 38, 39, 40, 41, 42, 43, 44, 45, 46, 47, 48, 49, 50, 51, 52, 53, 54, 55, 56, 57, 58, 59, 60, 61, 62, 63] ?_
  have h := congrArg (fun l => l.filterMap id) (XW_all_S (cI := cI) (cZ := cZ) (cO := cO) (A := A) (Q := Q) (fl := fl) (un := un) (ut := ut) (u0 := u0) (u1 := u1) (S := S) (x := x) (r := r))
  simp only [List.filterMap_map, Function.id_comp, Function.comp_def, id] at h
  rw [List.filterMap_some] at h
  exact h
theorem XW_ks_S {cI cZ cO : ClassId} {A : Nat → Nat} {Q : Nat → Nat → Nat} {fl : Nat → Int32} {un ut u0 u1 : BS} {S : SS} {x r : BS} {v : SS} : ksets (XW cI cZ cO A Q fl un ut u0 u1 S x r) [26, 27, 28, 29, 30, 31, 32, 33, 34, 35, 36, 37, 38, 39, 40, 41, 42, 43, 44, 45, 46, 47, 48, 49, 50, 51, 52, 53, 54, 55, 56, 57, 58, 59, 60, 61, 62, 63] (SW cI cZ cO A Q v) = XW cI cZ cO A Q fl un ut u0 u1 v x r := by
  have h := kset_mid (SW cI cZ cO A Q S) (SW cI cZ cO A Q v) (XO cZ A fl ++ (BW cI cZ (A 1) (Q 1) un ++ (BW cI cZ (A 2) (Q 2) ut ++ (BW cI cZ (A 3) (Q 3) u0 ++ (BW cI cZ (A 4) (Q 4) u1))))) (TW cI cZ (A 8) (Q 8) x ++ (RW cI cZ (A 9) (Q 9) r)) rfl
  try simp only [List.append_assoc] at h
  try simp only [List.append_nil] at h
  exact h
theorem XW_all_x {cI cZ cO : ClassId} {A : Nat → Nat} {Q : Nat → Nat → Nat} {fl : Nat → Int32} {un ut u0 u1 : BS} {S : SS} {x r : BS} : ([64, 65] : List Nat).map (fun i => (XW cI cZ cO A Q fl un ut u0 u1 S x r)[i]?) = (TW cI cZ (A 8) (Q 8) x).map some := by
  have h := kget_mid (TW cI cZ (A 8) (Q 8) x) (XO cZ A fl ++ (BW cI cZ (A 1) (Q 1) un ++ (BW cI cZ (A 2) (Q 2) ut ++ (BW cI cZ (A 3) (Q 3) u0 ++ (BW cI cZ (A 4) (Q 4) u1 ++ (SW cI cZ cO A Q S)))))) (RW cI cZ (A 9) (Q 9) r)
  try simp only [List.append_assoc] at h
  try simp only [List.append_nil] at h
  exact h
theorem XW_p_x {D : va_G} {cl : List vw_C} {cI cZ cO : ClassId} {A : Nat → Nat} {Q : Nat → Nat → Nat} {fl : Nat → Int32} {un ut u0 u1 : BS} {S : SS} {x r : BS} {H : Heap} (hP : va_P D cl (XW cI cZ cO A Q fl un ut u0 u1 S x r) H) : va_P D cl (TW cI cZ (A 8) (Q 8) x) H := by
  refine hP.sub [64, 65] ?_
  have h := congrArg (fun l => l.filterMap id) (XW_all_x (cI := cI) (cZ := cZ) (cO := cO) (A := A) (Q := Q) (fl := fl) (un := un) (ut := ut) (u0 := u0) (u1 := u1) (S := S) (x := x) (r := r))
  simp only [List.filterMap_map, Function.id_comp, Function.comp_def, id] at h
  rw [List.filterMap_some] at h
  exact h
theorem XW_ks_x {cI cZ cO : ClassId} {A : Nat → Nat} {Q : Nat → Nat → Nat} {fl : Nat → Int32} {un ut u0 u1 : BS} {S : SS} {x r : BS} {v : BS} : ksets (XW cI cZ cO A Q fl un ut u0 u1 S x r) [64, 65] (TW cI cZ (A 8) (Q 8) v) = XW cI cZ cO A Q fl un ut u0 u1 S v r := by
  have h := kset_mid (TW cI cZ (A 8) (Q 8) x) (TW cI cZ (A 8) (Q 8) v) (XO cZ A fl ++ (BW cI cZ (A 1) (Q 1) un ++ (BW cI cZ (A 2) (Q 2) ut ++ (BW cI cZ (A 3) (Q 3) u0 ++ (BW cI cZ (A 4) (Q 4) u1 ++ (SW cI cZ cO A Q S)))))) (RW cI cZ (A 9) (Q 9) r) rfl
  try simp only [List.append_assoc] at h
  try simp only [List.append_nil] at h
  exact h
theorem XW_all_r {cI cZ cO : ClassId} {A : Nat → Nat} {Q : Nat → Nat → Nat} {fl : Nat → Int32} {un ut u0 u1 : BS} {S : SS} {x r : BS} : ([66] : List Nat).map (fun i => (XW cI cZ cO A Q fl un ut u0 u1 S x r)[i]?) = (RW cI cZ (A 9) (Q 9) r).map some := by
  have h := kget_mid (RW cI cZ (A 9) (Q 9) r) (XO cZ A fl ++ (BW cI cZ (A 1) (Q 1) un ++ (BW cI cZ (A 2) (Q 2) ut ++ (BW cI cZ (A 3) (Q 3) u0 ++ (BW cI cZ (A 4) (Q 4) u1 ++ (SW cI cZ cO A Q S ++ (TW cI cZ (A 8) (Q 8) x))))))) (([] : va_W))
  try simp only [List.append_assoc] at h
  try simp only [List.append_nil] at h
  exact h
theorem XW_p_r {D : va_G} {cl : List vw_C} {cI cZ cO : ClassId} {A : Nat → Nat} {Q : Nat → Nat → Nat} {fl : Nat → Int32} {un ut u0 u1 : BS} {S : SS} {x r : BS} {H : Heap} (hP : va_P D cl (XW cI cZ cO A Q fl un ut u0 u1 S x r) H) : va_P D cl (RW cI cZ (A 9) (Q 9) r) H := by
  refine hP.sub [66] ?_
  have h := congrArg (fun l => l.filterMap id) (XW_all_r (cI := cI) (cZ := cZ) (cO := cO) (A := A) (Q := Q) (fl := fl) (un := un) (ut := ut) (u0 := u0) (u1 := u1) (S := S) (x := x) (r := r))
  simp only [List.filterMap_map, Function.id_comp, Function.comp_def, id] at h
  rw [List.filterMap_some] at h
  exact h
theorem XW_ks_r {cI cZ cO : ClassId} {A : Nat → Nat} {Q : Nat → Nat → Nat} {fl : Nat → Int32} {un ut u0 u1 : BS} {S : SS} {x r : BS} {v : BS} : ksets (XW cI cZ cO A Q fl un ut u0 u1 S x r) [66] (RW cI cZ (A 9) (Q 9) v) = XW cI cZ cO A Q fl un ut u0 u1 S x v := by
  have h := kset_mid (RW cI cZ (A 9) (Q 9) r) (RW cI cZ (A 9) (Q 9) v) (XO cZ A fl ++ (BW cI cZ (A 1) (Q 1) un ++ (BW cI cZ (A 2) (Q 2) ut ++ (BW cI cZ (A 3) (Q 3) u0 ++ (BW cI cZ (A 4) (Q 4) u1 ++ (SW cI cZ cO A Q S ++ (TW cI cZ (A 8) (Q 8) x))))))) (([] : va_W)) rfl
  try simp only [List.append_assoc] at h
  try simp only [List.append_nil] at h
  exact h
theorem XW_all_ut_un {cI cZ cO : ClassId} {A : Nat → Nat} {Q : Nat → Nat → Nat} {fl : Nat → Int32} {un ut u0 u1 : BS} {S : SS} {x r : BS} : ([8, 9, 10, 11, 12, 13, 2, 3, 4, 5, 6, 7] : List Nat).map (fun i => (XW cI cZ cO A Q fl un ut u0 u1 S x r)[i]?) = (BW cI cZ (A 2) (Q 2) ut ++ BW cI cZ (A 1) (Q 1) un).map some := by
  rw [show ([8, 9, 10, 11, 12, 13, 2, 3, 4, 5, 6, 7] : List Nat) = [8, 9, 10, 11, 12, 13] ++ [2, 3, 4, 5, 6, 7] from rfl, List.map_append, List.map_append, XW_all_ut, XW_all_un]
theorem XW_ks_ut_un {cI cZ cO : ClassId} {A : Nat → Nat} {Q : Nat → Nat → Nat} {fl : Nat → Int32} {un ut u0 u1 : BS} {S : SS} {x r : BS} {v : BS} : ksets (XW cI cZ cO A Q fl un ut u0 u1 S x r) [8, 9, 10, 11, 12, 13, 2, 3, 4, 5, 6, 7] (BW cI cZ (A 2) (Q 2) v ++ BW cI cZ (A 1) (Q 1) un) = XW cI cZ cO A Q fl un v u0 u1 S x r := by
  rw [show ([8, 9, 10, 11, 12, 13, 2, 3, 4, 5, 6, 7] : List Nat) = [8, 9, 10, 11, 12, 13] ++ [2, 3, 4, 5, 6, 7] from rfl, ksets_app _ _ _ _ _ rfl, XW_ks_ut, XW_ks_un]
theorem XW_all_u0_un {cI cZ cO : ClassId} {A : Nat → Nat} {Q : Nat → Nat → Nat} {fl : Nat → Int32} {un ut u0 u1 : BS} {S : SS} {x r : BS} : ([14, 15, 16, 17, 18, 19, 2, 3, 4, 5, 6, 7] : List Nat).map (fun i => (XW cI cZ cO A Q fl un ut u0 u1 S x r)[i]?) = (BW cI cZ (A 3) (Q 3) u0 ++ BW cI cZ (A 1) (Q 1) un).map some := by
  rw [show ([14, 15, 16, 17, 18, 19, 2, 3, 4, 5, 6, 7] : List Nat) = [14, 15, 16, 17, 18, 19] ++ [2, 3, 4, 5, 6, 7] from rfl, List.map_append, List.map_append, XW_all_u0, XW_all_un]
theorem XW_ks_u0_un {cI cZ cO : ClassId} {A : Nat → Nat} {Q : Nat → Nat → Nat} {fl : Nat → Int32} {un ut u0 u1 : BS} {S : SS} {x r : BS} {v : BS} : ksets (XW cI cZ cO A Q fl un ut u0 u1 S x r) [14, 15, 16, 17, 18, 19, 2, 3, 4, 5, 6, 7] (BW cI cZ (A 3) (Q 3) v ++ BW cI cZ (A 1) (Q 1) un) = XW cI cZ cO A Q fl un ut v u1 S x r := by
  rw [show ([14, 15, 16, 17, 18, 19, 2, 3, 4, 5, 6, 7] : List Nat) = [14, 15, 16, 17, 18, 19] ++ [2, 3, 4, 5, 6, 7] from rfl, ksets_app _ _ _ _ _ rfl, XW_ks_u0, XW_ks_un]
theorem XW_all_u1_un {cI cZ cO : ClassId} {A : Nat → Nat} {Q : Nat → Nat → Nat} {fl : Nat → Int32} {un ut u0 u1 : BS} {S : SS} {x r : BS} : ([20, 21, 22, 23, 24, 25, 2, 3, 4, 5, 6, 7] : List Nat).map (fun i => (XW cI cZ cO A Q fl un ut u0 u1 S x r)[i]?) = (BW cI cZ (A 4) (Q 4) u1 ++ BW cI cZ (A 1) (Q 1) un).map some := by
  rw [show ([20, 21, 22, 23, 24, 25, 2, 3, 4, 5, 6, 7] : List Nat) = [20, 21, 22, 23, 24, 25] ++ [2, 3, 4, 5, 6, 7] from rfl, List.map_append, List.map_append, XW_all_u1, XW_all_un]
theorem XW_ks_u1_un {cI cZ cO : ClassId} {A : Nat → Nat} {Q : Nat → Nat → Nat} {fl : Nat → Int32} {un ut u0 u1 : BS} {S : SS} {x r : BS} {v : BS} : ksets (XW cI cZ cO A Q fl un ut u0 u1 S x r) [20, 21, 22, 23, 24, 25, 2, 3, 4, 5, 6, 7] (BW cI cZ (A 4) (Q 4) v ++ BW cI cZ (A 1) (Q 1) un) = XW cI cZ cO A Q fl un ut u0 v S x r := by
  rw [show ([20, 21, 22, 23, 24, 25, 2, 3, 4, 5, 6, 7] : List Nat) = [20, 21, 22, 23, 24, 25] ++ [2, 3, 4, 5, 6, 7] from rfl, ksets_app _ _ _ _ _ rfl, XW_ks_u1, XW_ks_un]
theorem XW_all_un_u0 {cI cZ cO : ClassId} {A : Nat → Nat} {Q : Nat → Nat → Nat} {fl : Nat → Int32} {un ut u0 u1 : BS} {S : SS} {x r : BS} : ([2, 3, 4, 5, 6, 7, 14, 15, 16, 17, 18, 19] : List Nat).map (fun i => (XW cI cZ cO A Q fl un ut u0 u1 S x r)[i]?) = (BW cI cZ (A 1) (Q 1) un ++ BW cI cZ (A 3) (Q 3) u0).map some := by
  rw [show ([2, 3, 4, 5, 6, 7, 14, 15, 16, 17, 18, 19] : List Nat) = [2, 3, 4, 5, 6, 7] ++ [14, 15, 16, 17, 18, 19] from rfl, List.map_append, List.map_append, XW_all_un, XW_all_u0]
theorem XW_ks_un_u0 {cI cZ cO : ClassId} {A : Nat → Nat} {Q : Nat → Nat → Nat} {fl : Nat → Int32} {un ut u0 u1 : BS} {S : SS} {x r : BS} {v : BS} : ksets (XW cI cZ cO A Q fl un ut u0 u1 S x r) [2, 3, 4, 5, 6, 7, 14, 15, 16, 17, 18, 19] (BW cI cZ (A 1) (Q 1) v ++ BW cI cZ (A 3) (Q 3) u0) = XW cI cZ cO A Q fl v ut u0 u1 S x r := by
  rw [show ([2, 3, 4, 5, 6, 7, 14, 15, 16, 17, 18, 19] : List Nat) = [2, 3, 4, 5, 6, 7] ++ [14, 15, 16, 17, 18, 19] from rfl, ksets_app _ _ _ _ _ rfl, XW_ks_un, XW_ks_u0]
theorem XW_all_un_u1 {cI cZ cO : ClassId} {A : Nat → Nat} {Q : Nat → Nat → Nat} {fl : Nat → Int32} {un ut u0 u1 : BS} {S : SS} {x r : BS} : ([2, 3, 4, 5, 6, 7, 20, 21, 22, 23, 24, 25] : List Nat).map (fun i => (XW cI cZ cO A Q fl un ut u0 u1 S x r)[i]?) = (BW cI cZ (A 1) (Q 1) un ++ BW cI cZ (A 4) (Q 4) u1).map some := by
  rw [show ([2, 3, 4, 5, 6, 7, 20, 21, 22, 23, 24, 25] : List Nat) = [2, 3, 4, 5, 6, 7] ++ [20, 21, 22, 23, 24, 25] from rfl, List.map_append, List.map_append, XW_all_un, XW_all_u1]
theorem XW_ks_un_u1 {cI cZ cO : ClassId} {A : Nat → Nat} {Q : Nat → Nat → Nat} {fl : Nat → Int32} {un ut u0 u1 : BS} {S : SS} {x r : BS} {v : BS} : ksets (XW cI cZ cO A Q fl un ut u0 u1 S x r) [2, 3, 4, 5, 6, 7, 20, 21, 22, 23, 24, 25] (BW cI cZ (A 1) (Q 1) v ++ BW cI cZ (A 4) (Q 4) u1) = XW cI cZ cO A Q fl v ut u0 u1 S x r := by
  rw [show ([2, 3, 4, 5, 6, 7, 20, 21, 22, 23, 24, 25] : List Nat) = [2, 3, 4, 5, 6, 7] ++ [20, 21, 22, 23, 24, 25] from rfl, ksets_app _ _ _ _ _ rfl, XW_ks_un, XW_ks_u1]
theorem XW_all_S_un {cI cZ cO : ClassId} {A : Nat → Nat} {Q : Nat → Nat → Nat} {fl : Nat → Int32} {un ut u0 u1 : BS} {S : SS} {x r : BS} : ([26, 27, 28, 29, 30, 31, 32, 33, 34, 35, 36, 37, 38, 39, 40, 41, 42, 43, 44, 45, 46, 47, 48, 49, 50, 51, 52, 53, 54, 55, 56, 57, 58, 59, 60, 61, 62, 63, 2, 3, 4, 5, 6, 7] : List Nat).map (fun i => (XW cI cZ cO A Q fl un ut u0 u1 S x r)[i]?) = (SW cI cZ cO A Q S ++ BW cI cZ (A 1) (Q 1) un).map some := by
  rw [show ([26, 27, 28, 29, 30, 31, 32, 33, 34, 35, 36, 37, 38, 39, 40, 41, 42, 43, 44, 45, 46, 47, 48, 49, 50, 51, 52, 53, 54, 55, 56, 57, 58, 59, 60, 61, 62, 63, 2, 3, 4, 5, 6, 7] : List Nat) = [26, 27, 28, 29, 30, 31, 32, 33, 34, 35, 36, 37, 38, 39, 40, 41, 42, 43, 44, 45, 46, 47, 48, 49, 50, 51, 52, 53, 54, 55, 56, 57, 58, 59, 60, 61, 62, 63] ++ [2, 3, 4, 5, 6, 7] from rfl, List.map_append, List.map_append, XW_all_S, XW_all_un]
theorem XW_ks_S_un {cI cZ cO : ClassId} {A : Nat → Nat} {Q : Nat → Nat → Nat} {fl : Nat → Int32} {un ut u0 u1 : BS} {S : SS} {x r : BS} {v : SS} {w : BS} : ksets (XW cI cZ cO A Q fl un ut u0 u1 S x r) [26, 27, 28, 29, 30, 31, 32, 33, 34, 35, 36, 37, 38, 39, 40, 41, 42, 43, 44, 45, 46, 47, 48, 49, 50, 51, 52, 53, 54, 55, 56, 57, 58, 59, 60, 61, 62, 63, 2, 3, 4, 5, 6, 7] (SW cI cZ cO A Q v ++ BW cI cZ (A 1) (Q 1) w) = XW cI cZ cO A Q fl w ut u0 u1 v x r := by
  rw [show ([26, 27, 28, 29, 30, 31, 32, 33, 34, 35, 36, 37, 38, 39, 40, 41, 42, 43, 44, 45, 46, 47, 48, 49, 50, 51, 52, 53, 54, 55, 56, 57, 58, 59, 60, 61, 62, 63, 2, 3, 4, 5, 6, 7] : List Nat) = [26, 27, 28, 29, 30, 31, 32, 33, 34, 35, 36, 37, 38, 39, 40, 41, 42, 43, 44, 45, 46, 47, 48, 49, 50, 51, 52, 53, 54, 55, 56, 57, 58, 59, 60, 61, 62, 63] ++ [2, 3, 4, 5, 6, 7] from rfl, ksets_app _ _ _ _ _ rfl, XW_ks_S, XW_ks_un]
theorem XW_sf {cI cZ cO : ClassId} {A : Nat → Nat} {Q : Nat → Nat → Nat} {fl : Nat → Int32} {un ut u0 u1 : BS} {S : SS} {x r : BS} {j : Nat} {v : Int32} : (XW cI cZ cO A Q fl un ut u0 u1 S x r).set 1 (A 5, .inl (cZ, 2, .inl (upd fl j v))) = XW cI cZ cO A Q (upd fl j v) un ut u0 u1 S x r := rfl
theorem XW_all {cI cZ cO : ClassId} {A : Nat → Nat} {Q : Nat → Nat → Nat} {fl : Nat → Int32} {un ut u0 u1 : BS} {S : SS} {x r : BS} : ([0, 1, 2, 3, 4, 5, 6, 7, 8, 9, 10, 11, 12, 13, 14, 15, 16, 17, 18, 19, 20, 21, 22, 23, 24, 25, 26, 27, 28, 29, 30, 31, 32, 33, 34, 35, 36, 37, 38, 39, 40, 41, 42, 43, 44, 45, 46, 47, 48, 49, 50, 51, 52, 53, 54, 55, 56, 57, 58, 59, 60, 61, 62, 63, 64, 65, 66] : List Nat).map (fun i => (XW cI cZ cO A Q fl un ut u0 u1 S x r)[i]?) = (XW cI cZ cO A Q fl un ut u0 u1 S x r).map some := by
  have h := kget_mid (XW cI cZ cO A Q fl un ut u0 u1 S x r) [] []
  rw [List.nil_append, List.append_nil] at h
  exact h
theorem XW_fst {cI cZ cO : ClassId} {A : Nat → Nat} {Q : Nat → Nat → Nat} {fl : Nat → Int32} {un ut u0 u1 : BS} {S : SS} {x r : BS} {fl2 : Nat → Int32} {vn vt v0 v1 : BS} {S2 : SS} {x2 r2 : BS} : (XW cI cZ cO A Q fl2 vn vt v0 v1 S2 x2 r2).map Prod.fst = (XW cI cZ cO A Q fl un ut u0 u1 S x r).map Prod.fst := rfl
theorem XW_ks {cI cZ cO : ClassId} {A : Nat → Nat} {Q : Nat → Nat → Nat} {fl : Nat → Int32} {un ut u0 u1 : BS} {S : SS} {x r : BS} {fl2 : Nat → Int32} {vn vt v0 v1 : BS} {S2 : SS} {x2 r2 : BS} : ksets (XW cI cZ cO A Q fl un ut u0 u1 S x r) [0, 1, 2, 3, 4, 5, 6, 7, 8, 9, 10, 11, 12, 13, 14, 15, 16, 17, 18, 19, 20, 21, 22, 23, 24, 25, 26, 27, 28, 29, 30, 31, 32, 33, 34, 35, 36, 37, 38, 39, 40, 41, 42, 43, 44, 45, 46, 47, 48, 49, 50, 51, 52, 53, 54, 55, 56, 57, 58, 59, 60, 61, 62, 63, 64, 65, 66] (XW cI cZ cO A Q fl2 vn vt v0 v1 S2 x2 r2) = XW cI cZ cO A Q fl2 vn vt v0 v1 S2 x2 r2 := by
  have h := kset_mid (XW cI cZ cO A Q fl un ut u0 u1 S x r) (XW cI cZ cO A Q fl2 vn vt v0 v1 S2 x2 r2) [] [] rfl
  rw [List.nil_append, List.nil_append, List.append_nil, List.append_nil] at h
  exact h
theorem BW2_fst {cI cZ : ClassId} {h h2 : Nat} {q q2 : Nat → Nat} {u u1 v v1 : BS} : (BW cI cZ h q u1 ++ BW cI cZ h2 q2 v1).map Prod.fst = (BW cI cZ h q u ++ BW cI cZ h2 q2 v).map Prod.fst := rfl
theorem SW_fst {cI cZ cO : ClassId} {A : Nat → Nat} {Q : Nat → Nat → Nat} {S S1 : SS} : (SW cI cZ cO A Q S1).map Prod.fst = (SW cI cZ cO A Q S).map Prod.fst := rfl
theorem SWB_fst {cI cZ cO : ClassId} {A : Nat → Nat} {Q : Nat → Nat → Nat} {S S1 : SS} {h : Nat} {q : Nat → Nat} {v v1 : BS} : (SW cI cZ cO A Q S1 ++ BW cI cZ h q v1).map Prod.fst = (SW cI cZ cO A Q S ++ BW cI cZ h q v).map Prod.fst := rfl

/-! STREAM -/
theorem SmR.len {w : PW} {a : Nat} {s : List Nat} (h : SmR w a s) : s.length ≤ 500 := by obtain ⟨f, -, -, -, h⟩ := h; exact h
theorem getD_set {α : Type} (L : List α) (i j : Nat) (v d : α) (hi : i < L.length) : (L.set i v).getD j d = if j = i then v else L.getD j d := by
  simp only [List.getD_eq_getElem?_getD, List.getElem?_set]
  by_cases h : i = j
  · subst h; simp [hi]
  · simp [h, Ne.symm h]
theorem SmR.grow {w : PW} {a : Nat} {s : List Nat} (h : SmR w a s) (hl : s.length < 500) : ∃ v, SmR (up w a (.inr (8, [.int (nI (s.length + 1)), .ref (a + 1)]))) a (s ++ [v]) := by
  obtain ⟨f, e1, e2, e3, e4⟩ := h
  obtain ⟨v, -, hv⟩ := wb_of32 (f s.length)
  refine ⟨v, f, by rw [up_s, List.length_append]; rfl, by rw [up_1]; exact e2, fun j hj => ?_, by rw [List.length_append]; simp; omega⟩
  rw [List.length_append] at hj
  simp only [List.length_cons, List.length_nil] at hj
  by_cases q : j = s.length
  · subst q; rw [hv]; simp [List.getD_eq_getElem?_getD]
  · have hj' : j < s.length := by omega
    rw [e3 j hj']
    simp [List.getD_eq_getElem?_getD, List.getElem?_append_left hj']
/-- a list by its places -/
def mkL {α : Type} (n : Nat) (g : Nat → α) : List α := (List.range n).map g
theorem mkL_len {α : Type} (n : Nat) (g : Nat → α) : (mkL n g).length = n := by simp [mkL]
theorem mkL_get {α : Type} (n : Nat) (g : Nat → α) (j : Nat) : (mkL n g)[j]? = if j < n then some (g j) else none := by
  simp only [mkL, List.getElem?_map, List.getElem?_range]
  by_cases h : j < n
  · simp [h]
  · simp [h]
theorem mkL_getD {α : Type} (n : Nat) (g : Nat → α) (j : Nat) (d : α) (h : j < n) : (mkL n g).getD j d = g j := by
  rw [List.getD_eq_getElem?_getD, mkL_get, if_pos h]; rfl
theorem mkL_set {α : Type} (n : Nat) (g : Nat → α) (i : Nat) (v : α) : (mkL n g).set i v = mkL n (fun j => if j = i then v else g j) := by
  apply List.ext_getElem?
  intro j
  rw [List.getElem?_set, mkL_get, mkL_get, mkL_len]
  by_cases h : i = j
  · subst h; simp
  · simp [h, Ne.symm h]
theorem mkL_eq {α : Type} (s : List α) (d : α) : mkL s.length (fun j => s.getD j d) = s := by
  apply List.ext_getElem?
  intro j
  rw [mkL_get]
  by_cases h : j < s.length
  · simp [h, List.getD_eq_getElem?_getD, List.getElem?_eq_getElem h]
  · simp [h, List.getElem?_eq_none (Nat.le_of_not_lt h)]
theorem mkL_congr {α : Type} {n : Nat} {g g' : Nat → α} (h : ∀ j, j < n → g j = g' j) : mkL n g = mkL n g' := by
  unfold mkL
  apply List.map_congr_left
  intro a ha
  exact h a (List.mem_range.mp ha)
section STREAM
variable {Γ : Amb} {w : PW} {Q : Option Value → Option Nat → PW → Prop} {a : Nat} {s : List Nat}
theorem sp8_empty (hP : SmR w a s) (hQ : ∀ w', SmR w' a [] → Fr w w' a 2 → Q none none w') : Sp Γ m8_empty [.ref a] none w Q := by
  obtain ⟨f, e1, e2, e3, e4⟩ := hP
  refine entry Γ m8_empty rfl _ (Nat.le_of_ble_eq_true rfl) _ _ _ ?_
  refine wp_ok kd8_empty 400 0 bb8_empty_0 _ _ _ _ _ _ oo8_empty_0 ?_
  simp only [List.getElem?_cons_zero, List.getElem?_cons_succ, fv4, Nat.reduceAdd, Nat.reduceSub, wp, pst, stp, LG, lput, ls_tl, two, bc, EL, pad, popN, csum, Option.toList, List.cons_append, List.nil_append, List.set_cons_zero, List.set_cons_succ, List.length_cons, List.length_nil, true_and, and_true, Nat.reduceLT, Nat.reduceLeDiff, Nat.zero_le, Nat.le_refl, RI_i, RI_z0, RI_z1, Int32.reduceOfInt, Int8.reduceOfInt, Int16.reduceOfInt, Int64.reduceOfInt, Int8.toInt32_ofNat, Int16.toInt32_ofNat, Int.reduceNeg, Int32.ofInt_neg, Int8.ofInt_neg, Int16.ofInt_neg, Int32.toInt64_ofNat, Int32.reduceToNatClampNeg, Fin.isValue, Fin.val_one, Fin.val_zero, Fin.val_two, Int64.reduceOfNat, Int32.reduceOfNat, hdl, cutc, Nat.reduceEqDiff, reduceIte, FV, tyC, tyX0, tyX1, tyX2, tyX3, tyX4, tyX5, tyX6, tyX7, tyX8, tyX9, tyX10, Nat.reduceMul, c_le, c_lt, c_eq, c_in, c_cl, c_add, c_rem, c_ofN, Int32.add_zero, Int32.zero_add, c_lt0, c_ge0, c_le0, c_gt0, c_e0, c_m1, c_m1', false_implies, true_implies, implies_true, not_false_eq_true, not_true_eq_false, Nat.not_lt_zero, up_s, up_1, up_m, ff8_empty, bb8_empty_0, e1, e2]
  exact hQ _ ⟨f, up_s _ _ _, by rw [up_1]; exact e2, fun i hi => absurd hi (by simp), by simp⟩ (Fr.wr (by omega) (by omega))
theorem sp8_has (hP : SmR w a s) (x : Int32) (h1 : ∀ j, j < s.length → x = nI j → Q (some (.int 1)) none w) (h0 : (∀ j, j < s.length → x ≠ nI j) → Q (some (.int 0)) none w) : Sp Γ m8_has [.ref a, .int x] none w Q := by
  obtain ⟨f, e1, e2, e3, e4⟩ := hP
  have b2 : s.length < 2147483648 := by omega
  refine entry Γ m8_has rfl _ (Nat.le_of_ble_eq_true rfl) _ _ _ ?_
  refine wp_ok kd8_has 400 0 bb8_has_0 _ _ _ _ _ _ oo8_has_0 ?_
  rcases i_cases x with hx | ⟨j, hj, rfl⟩
  · simp only [List.getElem?_cons_zero, List.getElem?_cons_succ, fv4, Nat.reduceAdd, Nat.reduceSub, wp, pst, stp, LG, lput, ls_tl, two, bc, EL, pad, popN, csum, Option.toList, List.cons_append, List.nil_append, List.set_cons_zero, List.set_cons_succ, List.length_cons, List.length_nil, true_and, and_true, Nat.reduceLT, Nat.reduceLeDiff, Nat.zero_le, Nat.le_refl, RI_i, RI_z0, RI_z1, Int32.reduceOfInt, Int8.reduceOfInt, Int16.reduceOfInt, Int64.reduceOfInt, Int8.toInt32_ofNat, Int16.toInt32_ofNat, Int.reduceNeg, Int32.ofInt_neg, Int8.ofInt_neg, Int16.ofInt_neg, Int32.toInt64_ofNat, Int32.reduceToNatClampNeg, Fin.isValue, Fin.val_one, Fin.val_zero, Fin.val_two, Int64.reduceOfNat, Int32.reduceOfNat, hdl, cutc, Nat.reduceEqDiff, reduceIte, FV, tyC, tyX0, tyX1, tyX2, tyX3, tyX4, tyX5, tyX6, tyX7, tyX8, tyX9, tyX10, Nat.reduceMul, c_le, c_lt, c_eq, c_in, c_cl, c_add, c_rem, c_ofN, Int32.add_zero, Int32.zero_add, c_lt0, c_ge0, c_le0, c_gt0, c_e0, c_m1, c_m1', false_implies, true_implies, implies_true, not_false_eq_true, not_true_eq_false, Nat.not_lt_zero, up_s, up_1, up_m, ff8_has, bb8_has_0, bb8_has_25, bb8_has_26, cl_1, ca_1, e1, e2, hx]
    exact h0 (fun j hj => neg_ne hx j (by omega))
  · simp only [List.getElem?_cons_zero, List.getElem?_cons_succ, fv4, Nat.reduceAdd, Nat.reduceSub, wp, pst, stp, LG, lput, ls_tl, two, bc, EL, pad, popN, csum, Option.toList, List.cons_append, List.nil_append, List.set_cons_zero, List.set_cons_succ, List.length_cons, List.length_nil, true_and, and_true, Nat.reduceLT, Nat.reduceLeDiff, Nat.zero_le, Nat.le_refl, RI_i, RI_z0, RI_z1, Int32.reduceOfInt, Int8.reduceOfInt, Int16.reduceOfInt, Int64.reduceOfInt, Int8.toInt32_ofNat, Int16.toInt32_ofNat, Int.reduceNeg, Int32.ofInt_neg, Int8.ofInt_neg, Int16.ofInt_neg, Int32.toInt64_ofNat, Int32.reduceToNatClampNeg, Fin.isValue, Fin.val_one, Fin.val_zero, Fin.val_two, Int64.reduceOfNat, Int32.reduceOfNat, hdl, cutc, Nat.reduceEqDiff, reduceIte, FV, tyC, tyX0, tyX1, tyX2, tyX3, tyX4, tyX5, tyX6, tyX7, tyX8, tyX9, tyX10, Nat.reduceMul, c_le, c_lt, c_eq, c_in, c_cl, c_add, c_rem, c_ofN, Int32.add_zero, Int32.zero_add, c_lt0, c_ge0, c_le0, c_gt0, c_e0, c_m1, c_m1', false_implies, true_implies, implies_true, not_false_eq_true, not_true_eq_false, Nat.not_lt_zero, up_s, up_1, up_m, ff8_has, bb8_has_0, bb8_has_25, bb8_has_26, cl_1, ca_1, e1, e2, hj, b2]
    refine ⟨fun h => h0 (fun i hi q => ?_), fun h => ⟨fun h' => absurd h' (by omega), fun h' => h1 j (by omega) rfl⟩⟩
    rw [c_eq hj (by omega)] at q
    omega
theorem sp8_isFull (hP : SmR w a s) (h1 : s.length = 500 → Q (some (.int 1)) none w) (h0 : s.length < 500 → Q (some (.int 0)) none w) : Sp Γ m8_isFull [.ref a] none w Q := by
  obtain ⟨f, e1, e2, e3, e4⟩ := hP
  have b2 : s.length < 2147483648 := by omega
  refine entry Γ m8_isFull rfl _ (Nat.le_of_ble_eq_true rfl) _ _ _ ?_
  refine wp_ok kd8_isFull 400 0 bb8_isFull_0 _ _ _ _ _ _ oo8_isFull_0 ?_
  simp only [List.getElem?_cons_zero, List.getElem?_cons_succ, fv4, Nat.reduceAdd, Nat.reduceSub, wp, pst, stp, LG, lput, ls_tl, two, bc, EL, pad, popN, csum, Option.toList, List.cons_append, List.nil_append, List.set_cons_zero, List.set_cons_succ, List.length_cons, List.length_nil, true_and, and_true, Nat.reduceLT, Nat.reduceLeDiff, Nat.zero_le, Nat.le_refl, RI_i, RI_z0, RI_z1, Int32.reduceOfInt, Int8.reduceOfInt, Int16.reduceOfInt, Int64.reduceOfInt, Int8.toInt32_ofNat, Int16.toInt32_ofNat, Int.reduceNeg, Int32.ofInt_neg, Int8.ofInt_neg, Int16.ofInt_neg, Int32.toInt64_ofNat, Int32.reduceToNatClampNeg, Fin.isValue, Fin.val_one, Fin.val_zero, Fin.val_two, Int64.reduceOfNat, Int32.reduceOfNat, hdl, cutc, Nat.reduceEqDiff, reduceIte, FV, tyC, tyX0, tyX1, tyX2, tyX3, tyX4, tyX5, tyX6, tyX7, tyX8, tyX9, tyX10, Nat.reduceMul, c_le, c_lt, c_eq, c_in, c_cl, c_add, c_rem, c_ofN, Int32.add_zero, Int32.zero_add, c_lt0, c_ge0, c_le0, c_gt0, c_e0, c_m1, c_m1', false_implies, true_implies, implies_true, not_false_eq_true, not_true_eq_false, Nat.not_lt_zero, up_s, up_1, up_m, ff8_isFull, bb8_isFull_0, bb8_isFull_16, bb8_isFull_17, cl_1, ca_1, e1, e2, b2]
  exact ⟨fun h => h0 (by omega), fun h => h1 (by omega)⟩
theorem sp8_at (hP : SmR w a s) (j : Nat) (hj : j < 2147483648) (h1 : j < s.length → Q (some (.int (nI (s.getD j 0)))) none w) (h0 : s.length ≤ j → Q (some (.int (-1))) none w) : Sp Γ m8_at [.ref a, .int (nI j)] none w Q := by
  obtain ⟨f, e1, e2, e3, e4⟩ := hP
  have b2 : s.length < 2147483648 := by omega
  refine entry Γ m8_at rfl _ (Nat.le_of_ble_eq_true rfl) _ _ _ ?_
  refine wp_ok kd8_at 400 0 bb8_at_0 _ _ _ _ _ _ oo8_at_0 ?_
  simp only [List.getElem?_cons_zero, List.getElem?_cons_succ, fv4, Nat.reduceAdd, Nat.reduceSub, wp, pst, stp, LG, lput, ls_tl, two, bc, EL, pad, popN, csum, Option.toList, List.cons_append, List.nil_append, List.set_cons_zero, List.set_cons_succ, List.length_cons, List.length_nil, true_and, and_true, Nat.reduceLT, Nat.reduceLeDiff, Nat.zero_le, Nat.le_refl, RI_i, RI_z0, RI_z1, Int32.reduceOfInt, Int8.reduceOfInt, Int16.reduceOfInt, Int64.reduceOfInt, Int8.toInt32_ofNat, Int16.toInt32_ofNat, Int.reduceNeg, Int32.ofInt_neg, Int8.ofInt_neg, Int16.ofInt_neg, Int32.toInt64_ofNat, Int32.reduceToNatClampNeg, Fin.isValue, Fin.val_one, Fin.val_zero, Fin.val_two, Int64.reduceOfNat, Int32.reduceOfNat, hdl, cutc, Nat.reduceEqDiff, reduceIte, FV, tyC, tyX0, tyX1, tyX2, tyX3, tyX4, tyX5, tyX6, tyX7, tyX8, tyX9, tyX10, Nat.reduceMul, c_le, c_lt, c_eq, c_in, c_cl, c_add, c_rem, c_ofN, Int32.add_zero, Int32.zero_add, c_lt0, c_ge0, c_le0, c_gt0, c_e0, c_m1, c_m1', false_implies, true_implies, implies_true, not_false_eq_true, not_true_eq_false, Nat.not_lt_zero, up_s, up_1, up_m, ff8_at, bb8_at_0, bb8_at_30, bb8_at_31, cl_1, ca_1, e1, e2, hj, b2]
  refine ⟨fun h => h0 h, fun h => ⟨fun h' => absurd h' (by omega), fun h' => ⟨by omega, ?_⟩⟩⟩
  rw [e3 j (by omega)]
  exact h1 (by omega)
theorem sp8_put (hP : SmR w a s) (j : Nat) (hj : j < 2147483648) (v : Nat) (h1 : j < s.length → ∀ w', SmR w' a (s.set j v) → Fr w w' a 2 → Q (some (.int 1)) none w') (h0 : s.length ≤ j → Q (some (.int 0)) none w) : Sp Γ m8_put [.ref a, .int (nI j), .int (nI v)] none w Q := by
  obtain ⟨f, e1, e2, e3, e4⟩ := hP
  have b2 : s.length < 2147483648 := by omega
  refine entry Γ m8_put rfl _ (Nat.le_of_ble_eq_true rfl) _ _ _ ?_
  refine wp_ok kd8_put 400 0 bb8_put_0 _ _ _ _ _ _ oo8_put_0 ?_
  simp only [List.getElem?_cons_zero, List.getElem?_cons_succ, fv4, Nat.reduceAdd, Nat.reduceSub, wp, pst, stp, LG, lput, ls_tl, two, bc, EL, pad, popN, csum, Option.toList, List.cons_append, List.nil_append, List.set_cons_zero, List.set_cons_succ, List.length_cons, List.length_nil, true_and, and_true, Nat.reduceLT, Nat.reduceLeDiff, Nat.zero_le, Nat.le_refl, RI_i, RI_z0, RI_z1, Int32.reduceOfInt, Int8.reduceOfInt, Int16.reduceOfInt, Int64.reduceOfInt, Int8.toInt32_ofNat, Int16.toInt32_ofNat, Int.reduceNeg, Int32.ofInt_neg, Int8.ofInt_neg, Int16.ofInt_neg, Int32.toInt64_ofNat, Int32.reduceToNatClampNeg, Fin.isValue, Fin.val_one, Fin.val_zero, Fin.val_two, Int64.reduceOfNat, Int32.reduceOfNat, hdl, cutc, Nat.reduceEqDiff, reduceIte, FV, tyC, tyX0, tyX1, tyX2, tyX3, tyX4, tyX5, tyX6, tyX7, tyX8, tyX9, tyX10, Nat.reduceMul, c_le, c_lt, c_eq, c_in, c_cl, c_add, c_rem, c_ofN, Int32.add_zero, Int32.zero_add, c_lt0, c_ge0, c_le0, c_gt0, c_e0, c_m1, c_m1', false_implies, true_implies, implies_true, not_false_eq_true, not_true_eq_false, Nat.not_lt_zero, up_s, up_1, up_m, ff8_put, bb8_put_0, bb8_put_21, bb8_put_23, cl_1, ca_1, e1, e2, hj, b2]
  refine ⟨fun h => h0 h, fun h => ⟨fun h' => ⟨h', ?_⟩, fun h' => absurd h' (by omega)⟩⟩
  refine h1 (by omega) _ ⟨_, by rw [up_m, List.length_set]; exact e1, up_s _ _ _, fun i hi => ?_, by rw [List.length_set]; exact e4⟩ (Fr.wr (by omega) (by omega))
  rw [List.length_set] at hi
  rw [getD_set _ _ _ _ _ (by omega)]
  by_cases q : i = j
  · simp [upd, q]
  · simp only [upd, if_neg q]; exact e3 i hi
/-- where a marker stands -/
def mkr (s : List Nat) (p : Nat) : Prop := s[p]? = some 15 ∧ s[p + 1]? = some 0
theorem sp8_isMarker (hP : SmR w a s) (j : Nat) (hj : j < 2147483000) (hv : ∀ v ∈ s, v < 16) (h1 : mkr s j → Q (some (.int 1)) none w) (h0 : ¬ mkr s j → Q (some (.int 0)) none w) : Sp Γ m8_isMarker [.ref a, .int (nI j)] none w Q := by
  obtain ⟨f, e1, e2, e3, e4⟩ := id hP
  have b2 : s.length < 2147483648 := by omega
  have b3 : j < 2147483648 := by omega
  have hg : ∀ i, i < s.length → s[i]? = some (s.getD i 0) ∧ s.getD i 0 < 2147483648 := fun i hi => by
    have : s[i]? = some s[i] := List.getElem?_eq_getElem hi
    refine ⟨by simp [List.getD_eq_getElem?_getD, this], ?_⟩
    rw [List.getD_eq_getElem?_getD, this]
    have := hv _ (List.getElem_mem hi)
    simp only [Option.getD_some]
    omega
  refine entry Γ m8_isMarker rfl _ (Nat.le_of_ble_eq_true rfl) _ _ _ ?_
  refine wp_ok kd8_isMarker 400 0 bb8_isMarker_0 _ _ _ _ _ _ oo8_isMarker_0 ?_
  simp only [List.getElem?_cons_zero, List.getElem?_cons_succ, fv4, Nat.reduceAdd, Nat.reduceSub, wp, pst, stp, LG, lput, ls_tl, two, bc, EL, pad, popN, csum, Option.toList, List.cons_append, List.nil_append, List.set_cons_zero, List.set_cons_succ, List.length_cons, List.length_nil, true_and, and_true, Nat.reduceLT, Nat.reduceLeDiff, Nat.zero_le, Nat.le_refl, RI_i, RI_z0, RI_z1, Int32.reduceOfInt, Int8.reduceOfInt, Int16.reduceOfInt, Int64.reduceOfInt, Int8.toInt32_ofNat, Int16.toInt32_ofNat, Int.reduceNeg, Int32.ofInt_neg, Int8.ofInt_neg, Int16.ofInt_neg, Int32.toInt64_ofNat, Int32.reduceToNatClampNeg, Fin.isValue, Fin.val_one, Fin.val_zero, Fin.val_two, Int64.reduceOfNat, Int32.reduceOfNat, hdl, cutc, Nat.reduceEqDiff, reduceIte, FV, tyC, tyX0, tyX1, tyX2, tyX3, tyX4, tyX5, tyX6, tyX7, tyX8, tyX9, tyX10, Nat.reduceMul, c_le, c_lt, c_eq, c_in, c_cl, c_add, c_rem, c_ofN, Int32.add_zero, Int32.zero_add, c_lt0, c_ge0, c_le0, c_gt0, c_e0, c_m1, c_m1', false_implies, true_implies, implies_true, not_false_eq_true, not_true_eq_false, Nat.not_lt_zero, up_s, up_1, up_m, ff8_isMarker, bb8_isMarker_0, bb8_isMarker_24, bb8_isMarker_25, cl_1, ca_1, cl_15, ca_15, e1, e2]
  refine sp8_at hP j b3 (fun hj1 => ?_) (fun hj1 => ?_)
  · unfold holdL
    simp only [List.getElem?_cons_zero, List.getElem?_cons_succ, fv4, Nat.reduceAdd, Nat.reduceSub, wp, pst, stp, LG, lput, ls_tl, two, bc, EL, pad, popN, csum, Option.toList, List.cons_append, List.nil_append, List.set_cons_zero, List.set_cons_succ, List.length_cons, List.length_nil, true_and, and_true, Nat.reduceLT, Nat.reduceLeDiff, Nat.zero_le, Nat.le_refl, RI_i, RI_z0, RI_z1, Int32.reduceOfInt, Int8.reduceOfInt, Int16.reduceOfInt, Int64.reduceOfInt, Int8.toInt32_ofNat, Int16.toInt32_ofNat, Int.reduceNeg, Int32.ofInt_neg, Int8.ofInt_neg, Int16.ofInt_neg, Int32.toInt64_ofNat, Int32.reduceToNatClampNeg, Fin.isValue, Fin.val_one, Fin.val_zero, Fin.val_two, Int64.reduceOfNat, Int32.reduceOfNat, hdl, cutc, Nat.reduceEqDiff, reduceIte, FV, tyC, tyX0, tyX1, tyX2, tyX3, tyX4, tyX5, tyX6, tyX7, tyX8, tyX9, tyX10, Nat.reduceMul, c_le, c_lt, c_eq, c_in, c_cl, c_add, c_rem, c_ofN, Int32.add_zero, Int32.zero_add, c_lt0, c_ge0, c_le0, c_gt0, c_e0, c_m1, c_m1', false_implies, true_implies, implies_true, not_false_eq_true, not_true_eq_false, Nat.not_lt_zero, up_s, up_1, up_m, ff8_isMarker, bb8_isMarker_0, bb8_isMarker_24, bb8_isMarker_25, cl_1, ca_1, cl_15, ca_15, e1, e2, (hg j hj1).2]
    refine ⟨fun h => h0 (fun q => ?_), fun h => ?_⟩
    · have := q.1; rw [(hg j hj1).1] at this
      exact h (Option.some.inj this)
    · have h := Classical.not_not.mp h
      refine sp8_at hP (j + 1) (by omega) (fun hj2 => ?_) (fun hj2 => ?_)
      · unfold holdL
        simp only [List.getElem?_cons_zero, List.getElem?_cons_succ, fv4, Nat.reduceAdd, Nat.reduceSub, wp, pst, stp, LG, lput, ls_tl, two, bc, EL, pad, popN, csum, Option.toList, List.cons_append, List.nil_append, List.set_cons_zero, List.set_cons_succ, List.length_cons, List.length_nil, true_and, and_true, Nat.reduceLT, Nat.reduceLeDiff, Nat.zero_le, Nat.le_refl, RI_i, RI_z0, RI_z1, Int32.reduceOfInt, Int8.reduceOfInt, Int16.reduceOfInt, Int64.reduceOfInt, Int8.toInt32_ofNat, Int16.toInt32_ofNat, Int.reduceNeg, Int32.ofInt_neg, Int8.ofInt_neg, Int16.ofInt_neg, Int32.toInt64_ofNat, Int32.reduceToNatClampNeg, Fin.isValue, Fin.val_one, Fin.val_zero, Fin.val_two, Int64.reduceOfNat, Int32.reduceOfNat, hdl, cutc, Nat.reduceEqDiff, reduceIte, FV, tyC, tyX0, tyX1, tyX2, tyX3, tyX4, tyX5, tyX6, tyX7, tyX8, tyX9, tyX10, Nat.reduceMul, c_le, c_lt, c_eq, c_in, c_cl, c_add, c_rem, c_ofN, Int32.add_zero, Int32.zero_add, c_lt0, c_ge0, c_le0, c_gt0, c_e0, c_m1, c_m1', false_implies, true_implies, implies_true, not_false_eq_true, not_true_eq_false, Nat.not_lt_zero, up_s, up_1, up_m, ff8_isMarker, bb8_isMarker_0, bb8_isMarker_24, bb8_isMarker_25, cl_1, ca_1, cl_15, ca_15, e1, e2, (hg (j + 1) hj2).2]
        refine ⟨fun h' => h0 (fun q => ?_), fun h' => h1 ⟨?_, ?_⟩⟩
        · have := q.2; rw [(hg (j + 1) hj2).1] at this
          exact h' (Option.some.inj this)
        · rw [(hg j hj1).1, h]
        · rw [(hg (j + 1) hj2).1, Classical.not_not.mp h']
      · unfold holdL
        simp only [List.getElem?_cons_zero, List.getElem?_cons_succ, fv4, Nat.reduceAdd, Nat.reduceSub, wp, pst, stp, LG, lput, ls_tl, two, bc, EL, pad, popN, csum, Option.toList, List.cons_append, List.nil_append, List.set_cons_zero, List.set_cons_succ, List.length_cons, List.length_nil, true_and, and_true, Nat.reduceLT, Nat.reduceLeDiff, Nat.zero_le, Nat.le_refl, RI_i, RI_z0, RI_z1, Int32.reduceOfInt, Int8.reduceOfInt, Int16.reduceOfInt, Int64.reduceOfInt, Int8.toInt32_ofNat, Int16.toInt32_ofNat, Int.reduceNeg, Int32.ofInt_neg, Int8.ofInt_neg, Int16.ofInt_neg, Int32.toInt64_ofNat, Int32.reduceToNatClampNeg, Fin.isValue, Fin.val_one, Fin.val_zero, Fin.val_two, Int64.reduceOfNat, Int32.reduceOfNat, hdl, cutc, Nat.reduceEqDiff, reduceIte, FV, tyC, tyX0, tyX1, tyX2, tyX3, tyX4, tyX5, tyX6, tyX7, tyX8, tyX9, tyX10, Nat.reduceMul, c_le, c_lt, c_eq, c_in, c_cl, c_add, c_rem, c_ofN, Int32.add_zero, Int32.zero_add, c_lt0, c_ge0, c_le0, c_gt0, c_e0, c_m1, c_m1', false_implies, true_implies, implies_true, not_false_eq_true, not_true_eq_false, Nat.not_lt_zero, up_s, up_1, up_m, ff8_isMarker, bb8_isMarker_0, bb8_isMarker_24, bb8_isMarker_25, cl_1, ca_1, cl_15, ca_15, e1, e2]
        refine ⟨fun _ => h0 (fun q => ?_), fun h' => absurd h' (by decide)⟩
        have := q.2
        rw [List.getElem?_eq_none (by omega)] at this
        cases this
  · unfold holdL
    simp only [List.getElem?_cons_zero, List.getElem?_cons_succ, fv4, Nat.reduceAdd, Nat.reduceSub, wp, pst, stp, LG, lput, ls_tl, two, bc, EL, pad, popN, csum, Option.toList, List.cons_append, List.nil_append, List.set_cons_zero, List.set_cons_succ, List.length_cons, List.length_nil, true_and, and_true, Nat.reduceLT, Nat.reduceLeDiff, Nat.zero_le, Nat.le_refl, RI_i, RI_z0, RI_z1, Int32.reduceOfInt, Int8.reduceOfInt, Int16.reduceOfInt, Int64.reduceOfInt, Int8.toInt32_ofNat, Int16.toInt32_ofNat, Int.reduceNeg, Int32.ofInt_neg, Int8.ofInt_neg, Int16.ofInt_neg, Int32.toInt64_ofNat, Int32.reduceToNatClampNeg, Fin.isValue, Fin.val_one, Fin.val_zero, Fin.val_two, Int64.reduceOfNat, Int32.reduceOfNat, hdl, cutc, Nat.reduceEqDiff, reduceIte, FV, tyC, tyX0, tyX1, tyX2, tyX3, tyX4, tyX5, tyX6, tyX7, tyX8, tyX9, tyX10, Nat.reduceMul, c_le, c_lt, c_eq, c_in, c_cl, c_add, c_rem, c_ofN, Int32.add_zero, Int32.zero_add, c_lt0, c_ge0, c_le0, c_gt0, c_e0, c_m1, c_m1', false_implies, true_implies, implies_true, not_false_eq_true, not_true_eq_false, Nat.not_lt_zero, up_s, up_1, up_m, ff8_isMarker, bb8_isMarker_0, bb8_isMarker_24, bb8_isMarker_25, cl_1, ca_1, cl_15, ca_15, e1, e2]
    refine ⟨fun _ => h0 (fun q => ?_), fun h' => absurd h' (by decide)⟩
    have := q.1
    rw [List.getElem?_eq_none (by omega)] at this
    cases this
theorem sp8_markerFrom (hP : SmR w a s) (hv : ∀ v ∈ s, v < 16) (i : Nat) (hi : i < 2000) (h1 : ∀ p, i ≤ p → p < s.length → mkr s p → (∀ q, i ≤ q → q < p → ¬ mkr s q) → Q (some (.int (nI p))) none w) (h0 : (∀ q, i ≤ q → ¬ mkr s q) → Q (some (.int (-1))) none w) : Sp Γ m8_markerFrom [.ref a, .int (nI i)] none w Q := by
  obtain ⟨f, e1, e2, e3, e4⟩ := id hP
  have b2 : s.length < 2147483648 := by omega
  refine entry Γ m8_markerFrom rfl _ (Nat.le_of_ble_eq_true rfl) _ _ _ ?_
  refine wp_ok kd8_markerFrom 400 0 bb8_markerFrom_0 _ _ _ _ _ _ oo8_markerFrom_0 ?_
  simp only [List.getElem?_cons_zero, List.getElem?_cons_succ, fv4, Nat.reduceAdd, Nat.reduceSub, wp, pst, stp, LG, lput, ls_tl, two, bc, EL, pad, popN, csum, Option.toList, List.cons_append, List.nil_append, List.set_cons_zero, List.set_cons_succ, List.length_cons, List.length_nil, true_and, and_true, Nat.reduceLT, Nat.reduceLeDiff, Nat.zero_le, Nat.le_refl, RI_i, RI_z0, RI_z1, Int32.reduceOfInt, Int8.reduceOfInt, Int16.reduceOfInt, Int64.reduceOfInt, Int8.toInt32_ofNat, Int16.toInt32_ofNat, Int.reduceNeg, Int32.ofInt_neg, Int8.ofInt_neg, Int16.ofInt_neg, Int32.toInt64_ofNat, Int32.reduceToNatClampNeg, Fin.isValue, Fin.val_one, Fin.val_zero, Fin.val_two, Int64.reduceOfNat, Int32.reduceOfNat, hdl, cutc, Nat.reduceEqDiff, reduceIte, FV, tyC, tyX0, tyX1, tyX2, tyX3, tyX4, tyX5, tyX6, tyX7, tyX8, tyX9, tyX10, Nat.reduceMul, c_le, c_lt, c_eq, c_in, c_cl, c_add, c_rem, c_ofN, Int32.add_zero, Int32.zero_add, c_lt0, c_ge0, c_le0, c_gt0, c_e0, c_m1, c_m1', false_implies, true_implies, implies_true, not_false_eq_true, not_true_eq_false, Nat.not_lt_zero, up_s, up_1, up_m, ff8_markerFrom, bb8_markerFrom_0, bb8_markerFrom_2, bb8_markerFrom_20, bb8_markerFrom_26, cl_1, ca_1, e1, e2]
  have key : ∀ (n p : Nat), n = s.length + 1 - p → i ≤ p → p ≤ 2000 → (∀ q, i ≤ q → q < p → ¬ mkr s q) → G Γ m8_markerFrom Q (fun _ _ => False) 2 [some (.ref a), some (.int (nI i)), some (.int (nI p))] [] none w 0 0 := by
    intro n
    induction n with
    | zero =>
      intro p hn hp hp2 hno
      have b1 : p < 2147483648 := by omega
      refine wp_ok kd8_markerFrom 400 2 bb8_markerFrom_2 _ _ _ _ _ _ oo8_markerFrom_2 ?_
      simp only [List.getElem?_cons_zero, List.getElem?_cons_succ, fv4, Nat.reduceAdd, Nat.reduceSub, wp, pst, stp, LG, lput, ls_tl, two, bc, EL, pad, popN, csum, Option.toList, List.cons_append, List.nil_append, List.set_cons_zero, List.set_cons_succ, List.length_cons, List.length_nil, true_and, and_true, Nat.reduceLT, Nat.reduceLeDiff, Nat.zero_le, Nat.le_refl, RI_i, RI_z0, RI_z1, Int32.reduceOfInt, Int8.reduceOfInt, Int16.reduceOfInt, Int64.reduceOfInt, Int8.toInt32_ofNat, Int16.toInt32_ofNat, Int.reduceNeg, Int32.ofInt_neg, Int8.ofInt_neg, Int16.ofInt_neg, Int32.toInt64_ofNat, Int32.reduceToNatClampNeg, Fin.isValue, Fin.val_one, Fin.val_zero, Fin.val_two, Int64.reduceOfNat, Int32.reduceOfNat, hdl, cutc, Nat.reduceEqDiff, reduceIte, FV, tyC, tyX0, tyX1, tyX2, tyX3, tyX4, tyX5, tyX6, tyX7, tyX8, tyX9, tyX10, Nat.reduceMul, c_le, c_lt, c_eq, c_in, c_cl, c_add, c_rem, c_ofN, Int32.add_zero, Int32.zero_add, c_lt0, c_ge0, c_le0, c_gt0, c_e0, c_m1, c_m1', false_implies, true_implies, implies_true, not_false_eq_true, not_true_eq_false, Nat.not_lt_zero, up_s, up_1, up_m, ff8_markerFrom, bb8_markerFrom_0, bb8_markerFrom_2, bb8_markerFrom_20, bb8_markerFrom_26, cl_1, ca_1, e1, e2, b1, b2]
      refine ⟨fun _ => h0 (fun q hq hm => ?_), fun h => absurd h (by omega)⟩
      by_cases hqp : q < p
      · exact hno q hq hqp hm
      · have := hm.1; rw [List.getElem?_eq_none (by omega)] at this; cases this
    | succ n ih =>
      intro p hn hp hp2 hno
      have b1 : p < 2147483648 := by omega
      refine wp_ok kd8_markerFrom 400 2 bb8_markerFrom_2 _ _ _ _ _ _ oo8_markerFrom_2 ?_
      simp only [List.getElem?_cons_zero, List.getElem?_cons_succ, fv4, Nat.reduceAdd, Nat.reduceSub, wp, pst, stp, LG, lput, ls_tl, two, bc, EL, pad, popN, csum, Option.toList, List.cons_append, List.nil_append, List.set_cons_zero, List.set_cons_succ, List.length_cons, List.length_nil, true_and, and_true, Nat.reduceLT, Nat.reduceLeDiff, Nat.zero_le, Nat.le_refl, RI_i, RI_z0, RI_z1, Int32.reduceOfInt, Int8.reduceOfInt, Int16.reduceOfInt, Int64.reduceOfInt, Int8.toInt32_ofNat, Int16.toInt32_ofNat, Int.reduceNeg, Int32.ofInt_neg, Int8.ofInt_neg, Int16.ofInt_neg, Int32.toInt64_ofNat, Int32.reduceToNatClampNeg, Fin.isValue, Fin.val_one, Fin.val_zero, Fin.val_two, Int64.reduceOfNat, Int32.reduceOfNat, hdl, cutc, Nat.reduceEqDiff, reduceIte, FV, tyC, tyX0, tyX1, tyX2, tyX3, tyX4, tyX5, tyX6, tyX7, tyX8, tyX9, tyX10, Nat.reduceMul, c_le, c_lt, c_eq, c_in, c_cl, c_add, c_rem, c_ofN, Int32.add_zero, Int32.zero_add, c_lt0, c_ge0, c_le0, c_gt0, c_e0, c_m1, c_m1', false_implies, true_implies, implies_true, not_false_eq_true, not_true_eq_false, Nat.not_lt_zero, up_s, up_1, up_m, ff8_markerFrom, bb8_markerFrom_0, bb8_markerFrom_2, bb8_markerFrom_20, bb8_markerFrom_26, cl_1, ca_1, e1, e2, b1, b2]
      refine ⟨fun _ => h0 (fun q hq hm => ?_), fun h => ?_⟩
      · by_cases hqp : q < p
        · exact hno q hq hqp hm
        · have := hm.1; rw [List.getElem?_eq_none (by omega)] at this; cases this
      · refine sp8_isMarker hP p (by omega) hv (fun hm => ?_) (fun hm => ?_)
        · unfold holdL
          simp only [List.getElem?_cons_zero, List.getElem?_cons_succ, fv4, Nat.reduceAdd, Nat.reduceSub, wp, pst, stp, LG, lput, ls_tl, two, bc, EL, pad, popN, csum, Option.toList, List.cons_append, List.nil_append, List.set_cons_zero, List.set_cons_succ, List.length_cons, List.length_nil, true_and, and_true, Nat.reduceLT, Nat.reduceLeDiff, Nat.zero_le, Nat.le_refl, RI_i, RI_z0, RI_z1, Int32.reduceOfInt, Int8.reduceOfInt, Int16.reduceOfInt, Int64.reduceOfInt, Int8.toInt32_ofNat, Int16.toInt32_ofNat, Int.reduceNeg, Int32.ofInt_neg, Int8.ofInt_neg, Int16.ofInt_neg, Int32.toInt64_ofNat, Int32.reduceToNatClampNeg, Fin.isValue, Fin.val_one, Fin.val_zero, Fin.val_two, Int64.reduceOfNat, Int32.reduceOfNat, hdl, cutc, Nat.reduceEqDiff, reduceIte, FV, tyC, tyX0, tyX1, tyX2, tyX3, tyX4, tyX5, tyX6, tyX7, tyX8, tyX9, tyX10, Nat.reduceMul, c_le, c_lt, c_eq, c_in, c_cl, c_add, c_rem, c_ofN, Int32.add_zero, Int32.zero_add, c_lt0, c_ge0, c_le0, c_gt0, c_e0, c_m1, c_m1', false_implies, true_implies, implies_true, not_false_eq_true, not_true_eq_false, Nat.not_lt_zero, up_s, up_1, up_m, ff8_markerFrom, bb8_markerFrom_0, bb8_markerFrom_2, bb8_markerFrom_20, bb8_markerFrom_26, cl_1, ca_1, e1, e2, b1, b2]
          exact ⟨fun h => absurd h (by decide), fun _ => h1 p hp (by omega) hm hno⟩
        · unfold holdL
          simp only [List.getElem?_cons_zero, List.getElem?_cons_succ, fv4, Nat.reduceAdd, Nat.reduceSub, wp, pst, stp, LG, lput, ls_tl, two, bc, EL, pad, popN, csum, Option.toList, List.cons_append, List.nil_append, List.set_cons_zero, List.set_cons_succ, List.length_cons, List.length_nil, true_and, and_true, Nat.reduceLT, Nat.reduceLeDiff, Nat.zero_le, Nat.le_refl, RI_i, RI_z0, RI_z1, Int32.reduceOfInt, Int8.reduceOfInt, Int16.reduceOfInt, Int64.reduceOfInt, Int8.toInt32_ofNat, Int16.toInt32_ofNat, Int.reduceNeg, Int32.ofInt_neg, Int8.ofInt_neg, Int16.ofInt_neg, Int32.toInt64_ofNat, Int32.reduceToNatClampNeg, Fin.isValue, Fin.val_one, Fin.val_zero, Fin.val_two, Int64.reduceOfNat, Int32.reduceOfNat, hdl, cutc, Nat.reduceEqDiff, reduceIte, FV, tyC, tyX0, tyX1, tyX2, tyX3, tyX4, tyX5, tyX6, tyX7, tyX8, tyX9, tyX10, Nat.reduceMul, c_le, c_lt, c_eq, c_in, c_cl, c_add, c_rem, c_ofN, Int32.add_zero, Int32.zero_add, c_lt0, c_ge0, c_le0, c_gt0, c_e0, c_m1, c_m1', false_implies, true_implies, implies_true, not_false_eq_true, not_true_eq_false, Nat.not_lt_zero, up_s, up_1, up_m, ff8_markerFrom, bb8_markerFrom_0, bb8_markerFrom_2, bb8_markerFrom_20, bb8_markerFrom_26, cl_1, ca_1, e1, e2, b1, b2]
          refine ih (p + 1) (by omega) (by omega) (by omega) (fun q hq hqp => ?_)
          by_cases hqe : q = p
          · rw [hqe]; exact hm
          · exact hno q hq (by omega)
  exact key _ i rfl (Nat.le_refl _) (by omega) (fun q hq hqp => absurd hq (by omega))
/-- how many markers stand from p on, n places far -/
def mkn (s : List Nat) : Nat → Nat → Nat
  | _, 0 => 0
  | p, n + 1 => (if s[p]? = some 15 ∧ s[p + 1]? = some 0 then 1 else 0) + mkn s (p + 1) n
theorem mkn_le (s : List Nat) : ∀ n p, mkn s p n ≤ n := by
  intro n
  induction n with
  | zero => intro p; exact Nat.le_refl 0
  | succ n ih =>
    intro p
    simp only [mkn]
    have := ih (p + 1)
    split <;> omega
theorem sp8_countMarkers (hP : SmR w a s) (hv : ∀ v ∈ s, v < 16) (hQ : Q (some (.int (nI (mkn s 0 s.length)))) none w) : Sp Γ m8_countMarkers [.ref a] none w Q := by
  obtain ⟨f, e1, e2, e3, e4⟩ := id hP
  have b2 : s.length < 2147483648 := by omega
  refine entry Γ m8_countMarkers rfl _ (Nat.le_of_ble_eq_true rfl) _ _ _ ?_
  refine wp_ok kd8_countMarkers 400 0 bb8_countMarkers_0 _ _ _ _ _ _ oo8_countMarkers_0 ?_
  simp only [List.getElem?_cons_zero, List.getElem?_cons_succ, fv4, Nat.reduceAdd, Nat.reduceSub, wp, pst, stp, LG, lput, ls_tl, two, bc, EL, pad, popN, csum, Option.toList, List.cons_append, List.nil_append, List.set_cons_zero, List.set_cons_succ, List.length_cons, List.length_nil, true_and, and_true, Nat.reduceLT, Nat.reduceLeDiff, Nat.zero_le, Nat.le_refl, RI_i, RI_z0, RI_z1, Int32.reduceOfInt, Int8.reduceOfInt, Int16.reduceOfInt, Int64.reduceOfInt, Int8.toInt32_ofNat, Int16.toInt32_ofNat, Int.reduceNeg, Int32.ofInt_neg, Int8.ofInt_neg, Int16.ofInt_neg, Int32.toInt64_ofNat, Int32.reduceToNatClampNeg, Fin.isValue, Fin.val_one, Fin.val_zero, Fin.val_two, Int64.reduceOfNat, Int32.reduceOfNat, hdl, cutc, Nat.reduceEqDiff, reduceIte, FV, tyC, tyX0, tyX1, tyX2, tyX3, tyX4, tyX5, tyX6, tyX7, tyX8, tyX9, tyX10, Nat.reduceMul, c_le, c_lt, c_eq, c_in, c_cl, c_add, c_rem, c_ofN, Int32.add_zero, Int32.zero_add, c_lt0, c_ge0, c_le0, c_gt0, c_e0, c_m1, c_m1', false_implies, true_implies, implies_true, not_false_eq_true, not_true_eq_false, Nat.not_lt_zero, up_s, up_1, up_m, ff8_countMarkers, bb8_countMarkers_0, bb8_countMarkers_4, bb8_countMarkers_25, bb8_countMarkers_26, bb8_countMarkers_34, cl_1, ca_1, e1, e2]
  have key : ∀ (n p c : Nat), n = s.length - p → p ≤ s.length → c + mkn s p n = mkn s 0 s.length → c ≤ p → G Γ m8_countMarkers Q (fun _ _ => False) 4 [some (.ref a), some (.int (nI c)), some (.int (nI p))] [] none w 0 0 := by
    intro n
    induction n with
    | zero =>
      intro p c hn hp hc hcp
      have b1 : p < 2147483648 := by omega
      refine wp_ok kd8_countMarkers 400 4 bb8_countMarkers_4 _ _ _ _ _ _ oo8_countMarkers_4 ?_
      simp only [List.getElem?_cons_zero, List.getElem?_cons_succ, fv4, Nat.reduceAdd, Nat.reduceSub, wp, pst, stp, LG, lput, ls_tl, two, bc, EL, pad, popN, csum, Option.toList, List.cons_append, List.nil_append, List.set_cons_zero, List.set_cons_succ, List.length_cons, List.length_nil, true_and, and_true, Nat.reduceLT, Nat.reduceLeDiff, Nat.zero_le, Nat.le_refl, RI_i, RI_z0, RI_z1, Int32.reduceOfInt, Int8.reduceOfInt, Int16.reduceOfInt, Int64.reduceOfInt, Int8.toInt32_ofNat, Int16.toInt32_ofNat, Int.reduceNeg, Int32.ofInt_neg, Int8.ofInt_neg, Int16.ofInt_neg, Int32.toInt64_ofNat, Int32.reduceToNatClampNeg, Fin.isValue, Fin.val_one, Fin.val_zero, Fin.val_two, Int64.reduceOfNat, Int32.reduceOfNat, hdl, cutc, Nat.reduceEqDiff, reduceIte, FV, tyC, tyX0, tyX1, tyX2, tyX3, tyX4, tyX5, tyX6, tyX7, tyX8, tyX9, tyX10, Nat.reduceMul, c_le, c_lt, c_eq, c_in, c_cl, c_add, c_rem, c_ofN, Int32.add_zero, Int32.zero_add, c_lt0, c_ge0, c_le0, c_gt0, c_e0, c_m1, c_m1', false_implies, true_implies, implies_true, not_false_eq_true, not_true_eq_false, Nat.not_lt_zero, up_s, up_1, up_m, ff8_countMarkers, bb8_countMarkers_0, bb8_countMarkers_4, bb8_countMarkers_25, bb8_countMarkers_26, bb8_countMarkers_34, cl_1, ca_1, e1, e2, b1, b2]
      refine ⟨fun _ => ?_, fun h => absurd h (by omega)⟩
      simp only [mkn, Nat.add_zero] at hc
      rw [hc]; exact hQ
    | succ n ih =>
      intro p c hn hp hc hcp
      have b1 : p < 2147483648 := by omega
      refine wp_ok kd8_countMarkers 400 4 bb8_countMarkers_4 _ _ _ _ _ _ oo8_countMarkers_4 ?_
      simp only [List.getElem?_cons_zero, List.getElem?_cons_succ, fv4, Nat.reduceAdd, Nat.reduceSub, wp, pst, stp, LG, lput, ls_tl, two, bc, EL, pad, popN, csum, Option.toList, List.cons_append, List.nil_append, List.set_cons_zero, List.set_cons_succ, List.length_cons, List.length_nil, true_and, and_true, Nat.reduceLT, Nat.reduceLeDiff, Nat.zero_le, Nat.le_refl, RI_i, RI_z0, RI_z1, Int32.reduceOfInt, Int8.reduceOfInt, Int16.reduceOfInt, Int64.reduceOfInt, Int8.toInt32_ofNat, Int16.toInt32_ofNat, Int.reduceNeg, Int32.ofInt_neg, Int8.ofInt_neg, Int16.ofInt_neg, Int32.toInt64_ofNat, Int32.reduceToNatClampNeg, Fin.isValue, Fin.val_one, Fin.val_zero, Fin.val_two, Int64.reduceOfNat, Int32.reduceOfNat, hdl, cutc, Nat.reduceEqDiff, reduceIte, FV, tyC, tyX0, tyX1, tyX2, tyX3, tyX4, tyX5, tyX6, tyX7, tyX8, tyX9, tyX10, Nat.reduceMul, c_le, c_lt, c_eq, c_in, c_cl, c_add, c_rem, c_ofN, Int32.add_zero, Int32.zero_add, c_lt0, c_ge0, c_le0, c_gt0, c_e0, c_m1, c_m1', false_implies, true_implies, implies_true, not_false_eq_true, not_true_eq_false, Nat.not_lt_zero, up_s, up_1, up_m, ff8_countMarkers, bb8_countMarkers_0, bb8_countMarkers_4, bb8_countMarkers_25, bb8_countMarkers_26, bb8_countMarkers_34, cl_1, ca_1, e1, e2, b1, b2]
      refine ⟨fun h => absurd h (by omega), fun h => ?_⟩
      simp only [mkn] at hc
      refine sp8_isMarker hP p (by omega) hv (fun hm => ?_) (fun hm => ?_)
      · rw [if_pos (show s[p]? = some 15 ∧ s[p + 1]? = some 0 from hm)] at hc
        unfold holdL
        simp only [List.getElem?_cons_zero, List.getElem?_cons_succ, fv4, Nat.reduceAdd, Nat.reduceSub, wp, pst, stp, LG, lput, ls_tl, two, bc, EL, pad, popN, csum, Option.toList, List.cons_append, List.nil_append, List.set_cons_zero, List.set_cons_succ, List.length_cons, List.length_nil, true_and, and_true, Nat.reduceLT, Nat.reduceLeDiff, Nat.zero_le, Nat.le_refl, RI_i, RI_z0, RI_z1, Int32.reduceOfInt, Int8.reduceOfInt, Int16.reduceOfInt, Int64.reduceOfInt, Int8.toInt32_ofNat, Int16.toInt32_ofNat, Int.reduceNeg, Int32.ofInt_neg, Int8.ofInt_neg, Int16.ofInt_neg, Int32.toInt64_ofNat, Int32.reduceToNatClampNeg, Fin.isValue, Fin.val_one, Fin.val_zero, Fin.val_two, Int64.reduceOfNat, Int32.reduceOfNat, hdl, cutc, Nat.reduceEqDiff, reduceIte, FV, tyC, tyX0, tyX1, tyX2, tyX3, tyX4, tyX5, tyX6, tyX7, tyX8, tyX9, tyX10, Nat.reduceMul, c_le, c_lt, c_eq, c_in, c_cl, c_add, c_rem, c_ofN, Int32.add_zero, Int32.zero_add, c_lt0, c_ge0, c_le0, c_gt0, c_e0, c_m1, c_m1', false_implies, true_implies, implies_true, not_false_eq_true, not_true_eq_false, Nat.not_lt_zero, up_s, up_1, up_m, ff8_countMarkers, bb8_countMarkers_0, bb8_countMarkers_4, bb8_countMarkers_25, bb8_countMarkers_26, bb8_countMarkers_34, cl_1, ca_1, e1, e2, b1, b2]
        refine ⟨fun h => absurd h (by decide), fun _ => ?_⟩
        exact ih (p + 1) (c + 1) (by omega) (by omega) (by omega) (by omega)
      · rw [if_neg (show ¬ (s[p]? = some 15 ∧ s[p + 1]? = some 0) from hm)] at hc
        unfold holdL
        simp only [List.getElem?_cons_zero, List.getElem?_cons_succ, fv4, Nat.reduceAdd, Nat.reduceSub, wp, pst, stp, LG, lput, ls_tl, two, bc, EL, pad, popN, csum, Option.toList, List.cons_append, List.nil_append, List.set_cons_zero, List.set_cons_succ, List.length_cons, List.length_nil, true_and, and_true, Nat.reduceLT, Nat.reduceLeDiff, Nat.zero_le, Nat.le_refl, RI_i, RI_z0, RI_z1, Int32.reduceOfInt, Int8.reduceOfInt, Int16.reduceOfInt, Int64.reduceOfInt, Int8.toInt32_ofNat, Int16.toInt32_ofNat, Int.reduceNeg, Int32.ofInt_neg, Int8.ofInt_neg, Int16.ofInt_neg, Int32.toInt64_ofNat, Int32.reduceToNatClampNeg, Fin.isValue, Fin.val_one, Fin.val_zero, Fin.val_two, Int64.reduceOfNat, Int32.reduceOfNat, hdl, cutc, Nat.reduceEqDiff, reduceIte, FV, tyC, tyX0, tyX1, tyX2, tyX3, tyX4, tyX5, tyX6, tyX7, tyX8, tyX9, tyX10, Nat.reduceMul, c_le, c_lt, c_eq, c_in, c_cl, c_add, c_rem, c_ofN, Int32.add_zero, Int32.zero_add, c_lt0, c_ge0, c_le0, c_gt0, c_e0, c_m1, c_m1', false_implies, true_implies, implies_true, not_false_eq_true, not_true_eq_false, Nat.not_lt_zero, up_s, up_1, up_m, ff8_countMarkers, bb8_countMarkers_0, bb8_countMarkers_4, bb8_countMarkers_25, bb8_countMarkers_26, bb8_countMarkers_34, cl_1, ca_1, e1, e2, b1, b2]
        exact ih (p + 1) c (by omega) (by omega) (by omega) (by omega)
  exact key _ 0 0 rfl (Nat.zero_le _) (by simp) (Nat.le_refl _)
theorem sp8_addAll (hP : SmR w a s) (ca : Nat) (cf : Nat → Int32) (L : List Nat) (cn : Nat) (hc : w ca = some (.inl (0, cn, .inl cf))) (hne : ca < a ∨ a + 2 ≤ ca) (hI : IA cf L) (hn : L.length ≤ cn) (hcn : cn ≤ 500) (hlen : s.length + L.length ≤ 500) (hQ : ∀ w', SmR w' a (s ++ L) → Fr w w' a 2 → Q none none w') : Sp Γ m8_addAll [.ref a, .ref ca, .int (nI L.length)] none w Q := by
  refine entry Γ m8_addAll rfl _ (Nat.le_of_ble_eq_true rfl) _ _ _ ?_
  refine wp_ok kd8_addAll 400 0 bb8_addAll_0 _ _ _ _ _ _ oo8_addAll_0 ?_
  have b2 : L.length < 2147483648 := by omega
  have b3 : cn < 2147483648 := by omega
  simp only [List.getElem?_cons_zero, List.getElem?_cons_succ, fv4, Nat.reduceAdd, Nat.reduceSub, wp, pst, stp, LG, lput, ls_tl, two, bc, EL, pad, popN, csum, Option.toList, List.cons_append, List.nil_append, List.set_cons_zero, List.set_cons_succ, List.length_cons, List.length_nil, true_and, and_true, Nat.reduceLT, Nat.reduceLeDiff, Nat.zero_le, Nat.le_refl, RI_i, RI_z0, RI_z1, Int32.reduceOfInt, Int8.reduceOfInt, Int16.reduceOfInt, Int64.reduceOfInt, Int8.toInt32_ofNat, Int16.toInt32_ofNat, Int.reduceNeg, Int32.ofInt_neg, Int8.ofInt_neg, Int16.ofInt_neg, Int32.toInt64_ofNat, Int32.reduceToNatClampNeg, Fin.isValue, Fin.val_one, Fin.val_zero, Fin.val_two, Int64.reduceOfNat, Int32.reduceOfNat, hdl, cutc, Nat.reduceEqDiff, reduceIte, FV, tyC, tyX0, tyX1, tyX2, tyX3, tyX4, tyX5, tyX6, tyX7, tyX8, tyX9, tyX10, Nat.reduceMul, c_le, c_lt, c_eq, c_in, c_cl, c_add, c_rem, c_ofN, Int32.add_zero, Int32.zero_add, c_lt0, c_ge0, c_le0, c_gt0, c_e0, c_m1, c_m1', false_implies, true_implies, implies_true, not_false_eq_true, not_true_eq_false, Nat.not_lt_zero, up_s, up_1, up_m, ff8_addAll, bb8_addAll_0, bb8_addAll_2, bb8_addAll_50, cl_1, ca_1, hc]
  have key : ∀ (n i : Nat) (w1 : PW), n = L.length - i → i ≤ L.length → SmR w1 a (s ++ L.take i) → Fr w w1 a 2 → G Γ m8_addAll Q (fun _ _ => False) 2 [some (.ref a), some (.ref ca), some (.int (nI L.length)), some (.int (nI i))] [] none w1 0 0 := by
    intro n
    induction n with
    | zero =>
      intro i w1 hi hi2 hS hF
      have b1 : i < 2147483648 := by omega
      have hc1 := (hF.at hne).trans hc
      refine wp_ok kd8_addAll 400 2 bb8_addAll_2 _ _ _ _ _ _ oo8_addAll_2 ?_
      simp only [List.getElem?_cons_zero, List.getElem?_cons_succ, fv4, Nat.reduceAdd, Nat.reduceSub, wp, pst, stp, LG, lput, ls_tl, two, bc, EL, pad, popN, csum, Option.toList, List.cons_append, List.nil_append, List.set_cons_zero, List.set_cons_succ, List.length_cons, List.length_nil, true_and, and_true, Nat.reduceLT, Nat.reduceLeDiff, Nat.zero_le, Nat.le_refl, RI_i, RI_z0, RI_z1, Int32.reduceOfInt, Int8.reduceOfInt, Int16.reduceOfInt, Int64.reduceOfInt, Int8.toInt32_ofNat, Int16.toInt32_ofNat, Int.reduceNeg, Int32.ofInt_neg, Int8.ofInt_neg, Int16.ofInt_neg, Int32.toInt64_ofNat, Int32.reduceToNatClampNeg, Fin.isValue, Fin.val_one, Fin.val_zero, Fin.val_two, Int64.reduceOfNat, Int32.reduceOfNat, hdl, cutc, Nat.reduceEqDiff, reduceIte, FV, tyC, tyX0, tyX1, tyX2, tyX3, tyX4, tyX5, tyX6, tyX7, tyX8, tyX9, tyX10, Nat.reduceMul, c_le, c_lt, c_eq, c_in, c_cl, c_add, c_rem, c_ofN, Int32.add_zero, Int32.zero_add, c_lt0, c_ge0, c_le0, c_gt0, c_e0, c_m1, c_m1', false_implies, true_implies, implies_true, not_false_eq_true, not_true_eq_false, Nat.not_lt_zero, up_s, up_1, up_m, ff8_addAll, bb8_addAll_0, bb8_addAll_2, bb8_addAll_50, cl_1, ca_1, hc1, b1, b2, b3]
      have : i = L.length := by omega
      subst this
      rw [List.take_length] at hS
      exact ⟨fun _ => hQ _ hS hF, fun h => absurd h (by omega)⟩
    | succ n ih =>
      intro i w1 hi hi2 hS hF
      have b1 : i < 2147483648 := by omega
      have hc1 := (hF.at hne).trans hc
      have hlt : (s ++ L.take i).length = s.length + i := by simp; omega
      obtain ⟨f, e1, e2, e3, e4⟩ := id hS
      rw [hlt] at e1
      have b4 : s.length + i < 2147483648 := by omega
      refine wp_ok kd8_addAll 400 2 bb8_addAll_2 _ _ _ _ _ _ oo8_addAll_2 ?_
      simp only [List.getElem?_cons_zero, List.getElem?_cons_succ, fv4, Nat.reduceAdd, Nat.reduceSub, wp, pst, stp, LG, lput, ls_tl, two, bc, EL, pad, popN, csum, Option.toList, List.cons_append, List.nil_append, List.set_cons_zero, List.set_cons_succ, List.length_cons, List.length_nil, true_and, and_true, Nat.reduceLT, Nat.reduceLeDiff, Nat.zero_le, Nat.le_refl, RI_i, RI_z0, RI_z1, Int32.reduceOfInt, Int8.reduceOfInt, Int16.reduceOfInt, Int64.reduceOfInt, Int8.toInt32_ofNat, Int16.toInt32_ofNat, Int.reduceNeg, Int32.ofInt_neg, Int8.ofInt_neg, Int16.ofInt_neg, Int32.toInt64_ofNat, Int32.reduceToNatClampNeg, Fin.isValue, Fin.val_one, Fin.val_zero, Fin.val_two, Int64.reduceOfNat, Int32.reduceOfNat, hdl, cutc, Nat.reduceEqDiff, reduceIte, FV, tyC, tyX0, tyX1, tyX2, tyX3, tyX4, tyX5, tyX6, tyX7, tyX8, tyX9, tyX10, Nat.reduceMul, c_le, c_lt, c_eq, c_in, c_cl, c_add, c_rem, c_ofN, Int32.add_zero, Int32.zero_add, c_lt0, c_ge0, c_le0, c_gt0, c_e0, c_m1, c_m1', false_implies, true_implies, implies_true, not_false_eq_true, not_true_eq_false, Nat.not_lt_zero, up_s, up_1, up_m, ff8_addAll, bb8_addAll_0, bb8_addAll_2, bb8_addAll_50, cl_1, ca_1, hc1, e1, e2, b1, b2, b3]
      refine ⟨fun h => absurd h (by omega), fun h => ⟨fun h => absurd h (by omega), fun h' => ?_⟩⟩
      refine sp8_isFull hS (fun hf => absurd hf (by omega)) (fun hf => ?_)
      have hca : ca ≠ a := by omega
      obtain ⟨v0, hS2⟩ := hS.grow (by omega)
      rw [hlt] at hS2
      unfold holdL
      simp only [List.getElem?_cons_zero, List.getElem?_cons_succ, fv4, Nat.reduceAdd, Nat.reduceSub, wp, pst, stp, LG, lput, ls_tl, two, bc, EL, pad, popN, csum, Option.toList, List.cons_append, List.nil_append, List.set_cons_zero, List.set_cons_succ, List.length_cons, List.length_nil, true_and, and_true, Nat.reduceLT, Nat.reduceLeDiff, Nat.zero_le, Nat.le_refl, RI_i, RI_z0, RI_z1, Int32.reduceOfInt, Int8.reduceOfInt, Int16.reduceOfInt, Int64.reduceOfInt, Int8.toInt32_ofNat, Int16.toInt32_ofNat, Int.reduceNeg, Int32.ofInt_neg, Int8.ofInt_neg, Int16.ofInt_neg, Int32.toInt64_ofNat, Int32.reduceToNatClampNeg, Fin.isValue, Fin.val_one, Fin.val_zero, Fin.val_two, Int64.reduceOfNat, Int32.reduceOfNat, hdl, cutc, Nat.reduceEqDiff, reduceIte, FV, tyC, tyX0, tyX1, tyX2, tyX3, tyX4, tyX5, tyX6, tyX7, tyX8, tyX9, tyX10, Nat.reduceMul, c_le, c_lt, c_eq, c_in, c_cl, c_add, c_rem, c_ofN, Int32.add_zero, Int32.zero_add, c_lt0, c_ge0, c_le0, c_gt0, c_e0, c_m1, c_m1', false_implies, true_implies, implies_true, not_false_eq_true, not_true_eq_false, Nat.not_lt_zero, up_s, up_1, up_m, ff8_addAll, bb8_addAll_0, bb8_addAll_2, bb8_addAll_50, cl_1, ca_1, hc1, e1, e2, b1, b2, b3, b4, up_n _ _ _ _ hca, Nat.add_sub_cancel]
      rw [show nI (s.length + i + 1) - 1 = nI (s.length + i) from c_subr (b := 1) (by omega), hI i (by omega)]
      refine ⟨by omega, ?_⟩
      refine sp8_put hS2 _ b4 _ (fun _ w2 hS3 hF3 => ?_) (fun h => absurd h (by simp; omega))
      unfold holdL
      simp only [List.getElem?_cons_zero, List.getElem?_cons_succ, fv4, Nat.reduceAdd, Nat.reduceSub, wp, pst, stp, LG, lput, ls_tl, two, bc, EL, pad, popN, csum, Option.toList, List.cons_append, List.nil_append, List.set_cons_zero, List.set_cons_succ, List.length_cons, List.length_nil, true_and, and_true, Nat.reduceLT, Nat.reduceLeDiff, Nat.zero_le, Nat.le_refl, RI_i, RI_z0, RI_z1, Int32.reduceOfInt, Int8.reduceOfInt, Int16.reduceOfInt, Int64.reduceOfInt, Int8.toInt32_ofNat, Int16.toInt32_ofNat, Int.reduceNeg, Int32.ofInt_neg, Int8.ofInt_neg, Int16.ofInt_neg, Int32.toInt64_ofNat, Int32.reduceToNatClampNeg, Fin.isValue, Fin.val_one, Fin.val_zero, Fin.val_two, Int64.reduceOfNat, Int32.reduceOfNat, hdl, cutc, Nat.reduceEqDiff, reduceIte, FV, tyC, tyX0, tyX1, tyX2, tyX3, tyX4, tyX5, tyX6, tyX7, tyX8, tyX9, tyX10, Nat.reduceMul, c_le, c_lt, c_eq, c_in, c_cl, c_add, c_rem, c_ofN, Int32.add_zero, Int32.zero_add, c_lt0, c_ge0, c_le0, c_gt0, c_e0, c_m1, c_m1', false_implies, true_implies, implies_true, not_false_eq_true, not_true_eq_false, Nat.not_lt_zero, up_s, up_1, up_m, ff8_addAll, bb8_addAll_0, bb8_addAll_2, bb8_addAll_50, cl_1, ca_1, b1]
      refine ih (i + 1) w2 (by omega) (by omega) ?_ ((hF.tr (Fr.wr (by omega) (by omega))).tr hF3)
      rw [List.take_add_one, ← List.append_assoc]
      have h1 : (s ++ List.take i L ++ [v0]).set (s.length + i) (L.getD i 0) = s ++ List.take i L ++ L[i]?.toList := by
        rw [List.set_append_right _ _ (by omega), hlt, Nat.sub_self]
        have : L[i]? = some L[i] := List.getElem?_eq_getElem (by omega)
        simp [List.getD_eq_getElem?_getD, this]
      rw [h1] at hS3
      exact hS3
  exact key _ 0 w rfl (Nat.zero_le _) (by simpa using hP) Fr.rf
theorem sp8_takeOut (hP : SmR w a s) (p : Nat) (hp : p < s.length) (hQ : ∀ w', SmR w' a (s.eraseIdx p) → Fr w w' a 2 → Q none none w') : Sp Γ m8_takeOut [.ref a, .int (nI p)] none w Q := by
  have hl := hP.len
  obtain ⟨f0, e10, e20, -, -⟩ := id hP
  refine entry Γ m8_takeOut rfl _ (Nat.le_of_ble_eq_true rfl) _ _ _ ?_
  refine wp_ok kd8_takeOut 400 0 bb8_takeOut_0 _ _ _ _ _ _ oo8_takeOut_0 ?_
  simp only [List.getElem?_cons_zero, List.getElem?_cons_succ, fv4, Nat.reduceAdd, Nat.reduceSub, wp, pst, stp, LG, lput, ls_tl, two, bc, EL, pad, popN, csum, Option.toList, List.cons_append, List.nil_append, List.set_cons_zero, List.set_cons_succ, List.length_cons, List.length_nil, true_and, and_true, Nat.reduceLT, Nat.reduceLeDiff, Nat.zero_le, Nat.le_refl, RI_i, RI_z0, RI_z1, Int32.reduceOfInt, Int8.reduceOfInt, Int16.reduceOfInt, Int64.reduceOfInt, Int8.toInt32_ofNat, Int16.toInt32_ofNat, Int.reduceNeg, Int32.ofInt_neg, Int8.ofInt_neg, Int16.ofInt_neg, Int32.toInt64_ofNat, Int32.reduceToNatClampNeg, Fin.isValue, Fin.val_one, Fin.val_zero, Fin.val_two, Int64.reduceOfNat, Int32.reduceOfNat, hdl, cutc, Nat.reduceEqDiff, reduceIte, FV, tyC, tyX0, tyX1, tyX2, tyX3, tyX4, tyX5, tyX6, tyX7, tyX8, tyX9, tyX10, Nat.reduceMul, c_le, c_lt, c_eq, c_in, c_cl, c_add, c_rem, c_ofN, Int32.add_zero, Int32.zero_add, c_lt0, c_ge0, c_le0, c_gt0, c_e0, c_m1, c_m1', false_implies, true_implies, implies_true, not_false_eq_true, not_true_eq_false, Nat.not_lt_zero, up_s, up_1, up_m, ff8_takeOut, bb8_takeOut_0, bb8_takeOut_10, bb8_takeOut_39, bb8_takeOut_49, cl_1, ca_1, e10]
  refine sp8_has hP _ (fun j hj hx => ?_) (fun h => absurd rfl (h p hp))
  unfold holdL
  simp only [List.getElem?_cons_zero, List.getElem?_cons_succ, fv4, Nat.reduceAdd, Nat.reduceSub, wp, pst, stp, LG, lput, ls_tl, two, bc, EL, pad, popN, csum, Option.toList, List.cons_append, List.nil_append, List.set_cons_zero, List.set_cons_succ, List.length_cons, List.length_nil, true_and, and_true, Nat.reduceLT, Nat.reduceLeDiff, Nat.zero_le, Nat.le_refl, RI_i, RI_z0, RI_z1, Int32.reduceOfInt, Int8.reduceOfInt, Int16.reduceOfInt, Int64.reduceOfInt, Int8.toInt32_ofNat, Int16.toInt32_ofNat, Int.reduceNeg, Int32.ofInt_neg, Int8.ofInt_neg, Int16.ofInt_neg, Int32.toInt64_ofNat, Int32.reduceToNatClampNeg, Fin.isValue, Fin.val_one, Fin.val_zero, Fin.val_two, Int64.reduceOfNat, Int32.reduceOfNat, hdl, cutc, Nat.reduceEqDiff, reduceIte, FV, tyC, tyX0, tyX1, tyX2, tyX3, tyX4, tyX5, tyX6, tyX7, tyX8, tyX9, tyX10, Nat.reduceMul, c_le, c_lt, c_eq, c_in, c_cl, c_add, c_rem, c_ofN, Int32.add_zero, Int32.zero_add, c_lt0, c_ge0, c_le0, c_gt0, c_e0, c_m1, c_m1', false_implies, true_implies, implies_true, not_false_eq_true, not_true_eq_false, Nat.not_lt_zero, up_s, up_1, up_m, ff8_takeOut, bb8_takeOut_0, bb8_takeOut_10, bb8_takeOut_39, bb8_takeOut_49, cl_1, ca_1, e10]
  refine ⟨fun h => absurd h (by decide), fun _ => ?_⟩
  have key : ∀ (n i : Nat) (w1 : PW), n = s.length - 1 - i → p ≤ i → i ≤ s.length - 1 → SmR w1 a (mkL s.length (fun j => if p ≤ j ∧ j < i then s.getD (j + 1) 0 else s.getD j 0)) → Fr w w1 a 2 → G Γ m8_takeOut Q (fun _ _ => False) 10 [some (.ref a), some (.int (nI p)), some (.int (nI i))] [] none w1 0 0 := by
    intro n
    induction n with
    | zero =>
      intro i w1 hi hpi hi2 hS hF
      have b1 : i < 2147483648 := by omega
      have b2 : s.length - 1 < 2147483648 := by omega
      obtain ⟨f, e1, e2, e3, e4⟩ := id hS
      rw [mkL_len] at e1
      refine wp_ok kd8_takeOut 400 10 bb8_takeOut_10 _ _ _ _ _ _ oo8_takeOut_10 ?_
      simp only [List.getElem?_cons_zero, List.getElem?_cons_succ, fv4, Nat.reduceAdd, Nat.reduceSub, wp, pst, stp, LG, lput, ls_tl, two, bc, EL, pad, popN, csum, Option.toList, List.cons_append, List.nil_append, List.set_cons_zero, List.set_cons_succ, List.length_cons, List.length_nil, true_and, and_true, Nat.reduceLT, Nat.reduceLeDiff, Nat.zero_le, Nat.le_refl, RI_i, RI_z0, RI_z1, Int32.reduceOfInt, Int8.reduceOfInt, Int16.reduceOfInt, Int64.reduceOfInt, Int8.toInt32_ofNat, Int16.toInt32_ofNat, Int.reduceNeg, Int32.ofInt_neg, Int8.ofInt_neg, Int16.ofInt_neg, Int32.toInt64_ofNat, Int32.reduceToNatClampNeg, Fin.isValue, Fin.val_one, Fin.val_zero, Fin.val_two, Int64.reduceOfNat, Int32.reduceOfNat, hdl, cutc, Nat.reduceEqDiff, reduceIte, FV, tyC, tyX0, tyX1, tyX2, tyX3, tyX4, tyX5, tyX6, tyX7, tyX8, tyX9, tyX10, Nat.reduceMul, c_le, c_lt, c_eq, c_in, c_cl, c_add, c_rem, c_ofN, Int32.add_zero, Int32.zero_add, c_lt0, c_ge0, c_le0, c_gt0, c_e0, c_m1, c_m1', false_implies, true_implies, implies_true, not_false_eq_true, not_true_eq_false, Nat.not_lt_zero, up_s, up_1, up_m, ff8_takeOut, bb8_takeOut_0, bb8_takeOut_10, bb8_takeOut_39, bb8_takeOut_49, cl_1, ca_1, e1, show nI s.length - 1 = nI (s.length - 1) from c_subr (b := 1) (by omega), b1, b2]
      refine ⟨fun _ => hQ _ ⟨f, ?_, by rw [up_1]; exact e2, ?_, ?_⟩ (hF.tr (Fr.wr (by omega) (by omega))), fun h => absurd h (by omega)⟩
      · rw [up_s, List.length_eraseIdx_of_lt hp]
      · intro j hj
        rw [List.length_eraseIdx_of_lt hp] at hj
        have h3 := e3 j (by rw [mkL_len]; omega)
        rw [mkL_getD _ _ _ _ (by omega)] at h3
        rw [h3, List.getD_eq_getElem?_getD (l := s.eraseIdx p), List.getElem?_eraseIdx]
        by_cases q : j < p
        · rw [if_neg (by omega), if_pos q, List.getD_eq_getElem?_getD]
        · rw [if_pos (by omega), if_neg q, List.getD_eq_getElem?_getD]
      · rw [List.length_eraseIdx_of_lt hp]; omega
    | succ n ih =>
      intro i w1 hi hpi hi2 hS hF
      have b1 : i < 2147483648 := by omega
      have b2 : s.length - 1 < 2147483648 := by omega
      obtain ⟨f, e1, e2, e3, e4⟩ := id hS
      rw [mkL_len] at e1
      refine wp_ok kd8_takeOut 400 10 bb8_takeOut_10 _ _ _ _ _ _ oo8_takeOut_10 ?_
      simp only [List.getElem?_cons_zero, List.getElem?_cons_succ, fv4, Nat.reduceAdd, Nat.reduceSub, wp, pst, stp, LG, lput, ls_tl, two, bc, EL, pad, popN, csum, Option.toList, List.cons_append, List.nil_append, List.set_cons_zero, List.set_cons_succ, List.length_cons, List.length_nil, true_and, and_true, Nat.reduceLT, Nat.reduceLeDiff, Nat.zero_le, Nat.le_refl, RI_i, RI_z0, RI_z1, Int32.reduceOfInt, Int8.reduceOfInt, Int16.reduceOfInt, Int64.reduceOfInt, Int8.toInt32_ofNat, Int16.toInt32_ofNat, Int.reduceNeg, Int32.ofInt_neg, Int8.ofInt_neg, Int16.ofInt_neg, Int32.toInt64_ofNat, Int32.reduceToNatClampNeg, Fin.isValue, Fin.val_one, Fin.val_zero, Fin.val_two, Int64.reduceOfNat, Int32.reduceOfNat, hdl, cutc, Nat.reduceEqDiff, reduceIte, FV, tyC, tyX0, tyX1, tyX2, tyX3, tyX4, tyX5, tyX6, tyX7, tyX8, tyX9, tyX10, Nat.reduceMul, c_le, c_lt, c_eq, c_in, c_cl, c_add, c_rem, c_ofN, Int32.add_zero, Int32.zero_add, c_lt0, c_ge0, c_le0, c_gt0, c_e0, c_m1, c_m1', false_implies, true_implies, implies_true, not_false_eq_true, not_true_eq_false, Nat.not_lt_zero, up_s, up_1, up_m, ff8_takeOut, bb8_takeOut_0, bb8_takeOut_10, bb8_takeOut_39, bb8_takeOut_49, cl_1, ca_1, e1, show nI s.length - 1 = nI (s.length - 1) from c_subr (b := 1) (by omega), b1, b2]
      refine ⟨fun h => absurd h (by omega), fun _ => ?_⟩
      refine sp8_at hS (i + 1) (by omega) (fun h1 => ?_) (fun h => absurd h (by rw [mkL_len]; omega))
      rw [mkL_getD _ _ _ _ (by omega), if_neg (by omega)]
      unfold holdL
      simp only [List.getElem?_cons_zero, List.getElem?_cons_succ, fv4, Nat.reduceAdd, Nat.reduceSub, wp, pst, stp, LG, lput, ls_tl, two, bc, EL, pad, popN, csum, Option.toList, List.cons_append, List.nil_append, List.set_cons_zero, List.set_cons_succ, List.length_cons, List.length_nil, true_and, and_true, Nat.reduceLT, Nat.reduceLeDiff, Nat.zero_le, Nat.le_refl, RI_i, RI_z0, RI_z1, Int32.reduceOfInt, Int8.reduceOfInt, Int16.reduceOfInt, Int64.reduceOfInt, Int8.toInt32_ofNat, Int16.toInt32_ofNat, Int.reduceNeg, Int32.ofInt_neg, Int8.ofInt_neg, Int16.ofInt_neg, Int32.toInt64_ofNat, Int32.reduceToNatClampNeg, Fin.isValue, Fin.val_one, Fin.val_zero, Fin.val_two, Int64.reduceOfNat, Int32.reduceOfNat, hdl, cutc, Nat.reduceEqDiff, reduceIte, FV, tyC, tyX0, tyX1, tyX2, tyX3, tyX4, tyX5, tyX6, tyX7, tyX8, tyX9, tyX10, Nat.reduceMul, c_le, c_lt, c_eq, c_in, c_cl, c_add, c_rem, c_ofN, Int32.add_zero, Int32.zero_add, c_lt0, c_ge0, c_le0, c_gt0, c_e0, c_m1, c_m1', false_implies, true_implies, implies_true, not_false_eq_true, not_true_eq_false, Nat.not_lt_zero, up_s, up_1, up_m, ff8_takeOut, bb8_takeOut_0, bb8_takeOut_10, bb8_takeOut_39, bb8_takeOut_49, cl_1, ca_1, e1, b1, b2]
      refine sp8_put hS i b1 _ (fun _ w2 hS2 hF2 => ?_) (fun h => absurd h (by rw [mkL_len]; omega))
      rw [mkL_set] at hS2
      unfold holdL
      simp only [List.getElem?_cons_zero, List.getElem?_cons_succ, fv4, Nat.reduceAdd, Nat.reduceSub, wp, pst, stp, LG, lput, ls_tl, two, bc, EL, pad, popN, csum, Option.toList, List.cons_append, List.nil_append, List.set_cons_zero, List.set_cons_succ, List.length_cons, List.length_nil, true_and, and_true, Nat.reduceLT, Nat.reduceLeDiff, Nat.zero_le, Nat.le_refl, RI_i, RI_z0, RI_z1, Int32.reduceOfInt, Int8.reduceOfInt, Int16.reduceOfInt, Int64.reduceOfInt, Int8.toInt32_ofNat, Int16.toInt32_ofNat, Int.reduceNeg, Int32.ofInt_neg, Int8.ofInt_neg, Int16.ofInt_neg, Int32.toInt64_ofNat, Int32.reduceToNatClampNeg, Fin.isValue, Fin.val_one, Fin.val_zero, Fin.val_two, Int64.reduceOfNat, Int32.reduceOfNat, hdl, cutc, Nat.reduceEqDiff, reduceIte, FV, tyC, tyX0, tyX1, tyX2, tyX3, tyX4, tyX5, tyX6, tyX7, tyX8, tyX9, tyX10, Nat.reduceMul, c_le, c_lt, c_eq, c_in, c_cl, c_add, c_rem, c_ofN, Int32.add_zero, Int32.zero_add, c_lt0, c_ge0, c_le0, c_gt0, c_e0, c_m1, c_m1', false_implies, true_implies, implies_true, not_false_eq_true, not_true_eq_false, Nat.not_lt_zero, up_s, up_1, up_m, ff8_takeOut, bb8_takeOut_0, bb8_takeOut_10, bb8_takeOut_39, bb8_takeOut_49, cl_1, ca_1, b1]
      refine ih (i + 1) w2 (by omega) (by omega) (by omega) ?_ (hF.tr hF2)
      rw [mkL_congr (g' := fun j => if j = i then s.getD (i + 1) 0 else if p ≤ j ∧ j < i then s.getD (j + 1) 0 else s.getD j 0)]
      · exact hS2
      · intro j _
        by_cases q : j = i
        · subst q; rw [if_pos rfl, if_pos (by omega)]
        · by_cases q2 : p ≤ j ∧ j < i
          · rw [if_neg q, if_pos q2, if_pos (by omega)]
          · rw [if_neg q, if_neg q2, if_neg (by omega)]
  refine key _ p w rfl (Nat.le_refl _) (by omega) ?_ Fr.rf
  rw [mkL_congr (g' := fun j => s.getD j 0) (fun j _ => if_neg (by omega)), mkL_eq]
  exact hP
theorem sp8_putAhead (hP : SmR w a s) (p v : Nat) (hp : p ≤ s.length) (hl : s.length < 500) (hQ : ∀ w', SmR w' a (s.insertIdx p v) → Fr w w' a 2 → Q none none w') : Sp Γ m8_putAhead [.ref a, .int (nI p), .int (nI v)] none w Q := by
  obtain ⟨f0, e10, e20, -, -⟩ := id hP
  have b1 : p < 2147483648 := by omega
  have b2 : s.length < 2147483648 := by omega
  refine entry Γ m8_putAhead rfl _ (Nat.le_of_ble_eq_true rfl) _ _ _ ?_
  refine wp_ok kd8_putAhead 400 0 bb8_putAhead_0 _ _ _ _ _ _ oo8_putAhead_0 ?_
  simp only [List.getElem?_cons_zero, List.getElem?_cons_succ, fv4, Nat.reduceAdd, Nat.reduceSub, wp, pst, stp, LG, lput, ls_tl, two, bc, EL, pad, popN, csum, Option.toList, List.cons_append, List.nil_append, List.set_cons_zero, List.set_cons_succ, List.length_cons, List.length_nil, true_and, and_true, Nat.reduceLT, Nat.reduceLeDiff, Nat.zero_le, Nat.le_refl, RI_i, RI_z0, RI_z1, Int32.reduceOfInt, Int8.reduceOfInt, Int16.reduceOfInt, Int64.reduceOfInt, Int8.toInt32_ofNat, Int16.toInt32_ofNat, Int.reduceNeg, Int32.ofInt_neg, Int8.ofInt_neg, Int16.ofInt_neg, Int32.toInt64_ofNat, Int32.reduceToNatClampNeg, Fin.isValue, Fin.val_one, Fin.val_zero, Fin.val_two, Int64.reduceOfNat, Int32.reduceOfNat, hdl, cutc, Nat.reduceEqDiff, reduceIte, FV, tyC, tyX0, tyX1, tyX2, tyX3, tyX4, tyX5, tyX6, tyX7, tyX8, tyX9, tyX10, Nat.reduceMul, c_le, c_lt, c_eq, c_in, c_cl, c_add, c_rem, c_ofN, Int32.add_zero, Int32.zero_add, c_lt0, c_ge0, c_le0, c_gt0, c_e0, c_m1, c_m1', false_implies, true_implies, implies_true, not_false_eq_true, not_true_eq_false, Nat.not_lt_zero, up_s, up_1, up_m, ff8_putAhead, bb8_putAhead_0, bb8_putAhead_36, bb8_putAhead_60, bb8_putAhead_67, cl_1, ca_1, e10, b1, b2]
  refine ⟨fun h => absurd h (by omega), fun _ => ?_⟩
  refine sp8_isFull hP (fun h => absurd h (by omega)) (fun _ => ?_)
  obtain ⟨v0, hS2⟩ := hP.grow (by omega)
  unfold holdL
  simp only [List.getElem?_cons_zero, List.getElem?_cons_succ, fv4, Nat.reduceAdd, Nat.reduceSub, wp, pst, stp, LG, lput, ls_tl, two, bc, EL, pad, popN, csum, Option.toList, List.cons_append, List.nil_append, List.set_cons_zero, List.set_cons_succ, List.length_cons, List.length_nil, true_and, and_true, Nat.reduceLT, Nat.reduceLeDiff, Nat.zero_le, Nat.le_refl, RI_i, RI_z0, RI_z1, Int32.reduceOfInt, Int8.reduceOfInt, Int16.reduceOfInt, Int64.reduceOfInt, Int8.toInt32_ofNat, Int16.toInt32_ofNat, Int.reduceNeg, Int32.ofInt_neg, Int8.ofInt_neg, Int16.ofInt_neg, Int32.toInt64_ofNat, Int32.reduceToNatClampNeg, Fin.isValue, Fin.val_one, Fin.val_zero, Fin.val_two, Int64.reduceOfNat, Int32.reduceOfNat, hdl, cutc, Nat.reduceEqDiff, reduceIte, FV, tyC, tyX0, tyX1, tyX2, tyX3, tyX4, tyX5, tyX6, tyX7, tyX8, tyX9, tyX10, Nat.reduceMul, c_le, c_lt, c_eq, c_in, c_cl, c_add, c_rem, c_ofN, Int32.add_zero, Int32.zero_add, c_lt0, c_ge0, c_le0, c_gt0, c_e0, c_m1, c_m1', false_implies, true_implies, implies_true, not_false_eq_true, not_true_eq_false, Nat.not_lt_zero, up_s, up_1, up_m, ff8_putAhead, bb8_putAhead_0, bb8_putAhead_36, bb8_putAhead_60, bb8_putAhead_67, cl_1, ca_1, e10, b1, b2, show nI (s.length + 1) - 1 = nI s.length from c_subr (b := 1) (by omega)]
  have key : ∀ (n i : Nat) (w1 : PW), n = i - p → p ≤ i → i ≤ s.length → SmR w1 a (mkL (s.length + 1) (fun j => if i < j then s.getD (j - 1) 0 else (s ++ [v0]).getD j 0)) → Fr w w1 a 2 → G Γ m8_putAhead Q (fun _ _ => False) 36 [some (.ref a), some (.int (nI p)), some (.int (nI v)), some (.int (nI i))] [] none w1 0 0 := by
    intro n
    induction n with
    | zero =>
      intro i w1 hi hpi hi2 hS hF
      have : i = p := by omega
      subst this
      obtain ⟨f, e1, e2, e3, e4⟩ := id hS
      refine wp_ok kd8_putAhead 400 36 bb8_putAhead_36 _ _ _ _ _ _ oo8_putAhead_36 ?_
      simp only [List.getElem?_cons_zero, List.getElem?_cons_succ, fv4, Nat.reduceAdd, Nat.reduceSub, wp, pst, stp, LG, lput, ls_tl, two, bc, EL, pad, popN, csum, Option.toList, List.cons_append, List.nil_append, List.set_cons_zero, List.set_cons_succ, List.length_cons, List.length_nil, true_and, and_true, Nat.reduceLT, Nat.reduceLeDiff, Nat.zero_le, Nat.le_refl, RI_i, RI_z0, RI_z1, Int32.reduceOfInt, Int8.reduceOfInt, Int16.reduceOfInt, Int64.reduceOfInt, Int8.toInt32_ofNat, Int16.toInt32_ofNat, Int.reduceNeg, Int32.ofInt_neg, Int8.ofInt_neg, Int16.ofInt_neg, Int32.toInt64_ofNat, Int32.reduceToNatClampNeg, Fin.isValue, Fin.val_one, Fin.val_zero, Fin.val_two, Int64.reduceOfNat, Int32.reduceOfNat, hdl, cutc, Nat.reduceEqDiff, reduceIte, FV, tyC, tyX0, tyX1, tyX2, tyX3, tyX4, tyX5, tyX6, tyX7, tyX8, tyX9, tyX10, Nat.reduceMul, c_le, c_lt, c_eq, c_in, c_cl, c_add, c_rem, c_ofN, Int32.add_zero, Int32.zero_add, c_lt0, c_ge0, c_le0, c_gt0, c_e0, c_m1, c_m1', false_implies, true_implies, implies_true, not_false_eq_true, not_true_eq_false, Nat.not_lt_zero, up_s, up_1, up_m, ff8_putAhead, bb8_putAhead_0, bb8_putAhead_36, bb8_putAhead_60, bb8_putAhead_67, cl_1, ca_1, b1, e1]
      refine sp8_put hS i b1 _ (fun _ w2 hS2 hF2 => ?_) (fun h => absurd h (by rw [mkL_len]; omega))
      rw [mkL_set] at hS2
      unfold holdL
      simp only [List.getElem?_cons_zero, List.getElem?_cons_succ, fv4, Nat.reduceAdd, Nat.reduceSub, wp, pst, stp, LG, lput, ls_tl, two, bc, EL, pad, popN, csum, Option.toList, List.cons_append, List.nil_append, List.set_cons_zero, List.set_cons_succ, List.length_cons, List.length_nil, true_and, and_true, Nat.reduceLT, Nat.reduceLeDiff, Nat.zero_le, Nat.le_refl, RI_i, RI_z0, RI_z1, Int32.reduceOfInt, Int8.reduceOfInt, Int16.reduceOfInt, Int64.reduceOfInt, Int8.toInt32_ofNat, Int16.toInt32_ofNat, Int.reduceNeg, Int32.ofInt_neg, Int8.ofInt_neg, Int16.ofInt_neg, Int32.toInt64_ofNat, Int32.reduceToNatClampNeg, Fin.isValue, Fin.val_one, Fin.val_zero, Fin.val_two, Int64.reduceOfNat, Int32.reduceOfNat, hdl, cutc, Nat.reduceEqDiff, reduceIte, FV, tyC, tyX0, tyX1, tyX2, tyX3, tyX4, tyX5, tyX6, tyX7, tyX8, tyX9, tyX10, Nat.reduceMul, c_le, c_lt, c_eq, c_in, c_cl, c_add, c_rem, c_ofN, Int32.add_zero, Int32.zero_add, c_lt0, c_ge0, c_le0, c_gt0, c_e0, c_m1, c_m1', false_implies, true_implies, implies_true, not_false_eq_true, not_true_eq_false, Nat.not_lt_zero, up_s, up_1, up_m, ff8_putAhead, bb8_putAhead_0, bb8_putAhead_36, bb8_putAhead_60, bb8_putAhead_67, cl_1, ca_1, b1]
      refine hQ w2 ?_ (hF.tr hF2)
      have : s.insertIdx i v = mkL (s.length + 1) (fun j => if j = i then v else if i < j then s.getD (j - 1) 0 else (s ++ [v0]).getD j 0) := by
        apply List.ext_getElem?
        intro j
        rw [List.getElem?_insertIdx, mkL_get]
        by_cases q1 : j < i
        · rw [if_pos q1, if_pos (by omega), if_neg (by omega), if_neg (by omega), List.getD_eq_getElem?_getD, List.getElem?_append_left (by omega), List.getElem?_eq_getElem (by omega)]
          rfl
        · by_cases q2 : j = i
          · subst q2
            rw [if_neg q1, if_pos rfl, if_pos hi2, if_pos (by omega), if_pos rfl]
          · rw [if_neg q1, if_neg q2]
            by_cases q3 : j < s.length + 1
            · rw [if_pos q3, if_neg q2, if_pos (by omega), List.getD_eq_getElem?_getD, List.getElem?_eq_getElem (by omega)]
              rfl
            · rw [if_neg q3, List.getElem?_eq_none (by omega)]
      rw [this]; exact hS2
    | succ n ih =>
      intro i w1 hi hpi hi2 hS hF
      have b3 : i < 2147483648 := by omega
      obtain ⟨f, e1, e2, e3, e4⟩ := id hS
      refine wp_ok kd8_putAhead 400 36 bb8_putAhead_36 _ _ _ _ _ _ oo8_putAhead_36 ?_
      simp only [List.getElem?_cons_zero, List.getElem?_cons_succ, fv4, Nat.reduceAdd, Nat.reduceSub, wp, pst, stp, LG, lput, ls_tl, two, bc, EL, pad, popN, csum, Option.toList, List.cons_append, List.nil_append, List.set_cons_zero, List.set_cons_succ, List.length_cons, List.length_nil, true_and, and_true, Nat.reduceLT, Nat.reduceLeDiff, Nat.zero_le, Nat.le_refl, RI_i, RI_z0, RI_z1, Int32.reduceOfInt, Int8.reduceOfInt, Int16.reduceOfInt, Int64.reduceOfInt, Int8.toInt32_ofNat, Int16.toInt32_ofNat, Int.reduceNeg, Int32.ofInt_neg, Int8.ofInt_neg, Int16.ofInt_neg, Int32.toInt64_ofNat, Int32.reduceToNatClampNeg, Fin.isValue, Fin.val_one, Fin.val_zero, Fin.val_two, Int64.reduceOfNat, Int32.reduceOfNat, hdl, cutc, Nat.reduceEqDiff, reduceIte, FV, tyC, tyX0, tyX1, tyX2, tyX3, tyX4, tyX5, tyX6, tyX7, tyX8, tyX9, tyX10, Nat.reduceMul, c_le, c_lt, c_eq, c_in, c_cl, c_add, c_rem, c_ofN, Int32.add_zero, Int32.zero_add, c_lt0, c_ge0, c_le0, c_gt0, c_e0, c_m1, c_m1', false_implies, true_implies, implies_true, not_false_eq_true, not_true_eq_false, Nat.not_lt_zero, up_s, up_1, up_m, ff8_putAhead, bb8_putAhead_0, bb8_putAhead_36, bb8_putAhead_60, bb8_putAhead_67, cl_1, ca_1, b1, b3, e1, show nI i - 1 = nI (i - 1) from c_subr (b := 1) (by omega)]
      refine ⟨fun h => absurd h (by omega), fun _ => ?_⟩
      refine sp8_at hS (i - 1) (by omega) (fun h1 => ?_) (fun h => absurd h (by rw [mkL_len]; omega))
      rw [mkL_getD _ _ _ _ (by omega), if_neg (by omega), show (s ++ [v0]).getD (i - 1) 0 = s.getD (i - 1) 0 by rw [List.getD_eq_getElem?_getD, List.getElem?_append_left (by omega), List.getD_eq_getElem?_getD]]
      unfold holdL
      simp only [List.getElem?_cons_zero, List.getElem?_cons_succ, fv4, Nat.reduceAdd, Nat.reduceSub, wp, pst, stp, LG, lput, ls_tl, two, bc, EL, pad, popN, csum, Option.toList, List.cons_append, List.nil_append, List.set_cons_zero, List.set_cons_succ, List.length_cons, List.length_nil, true_and, and_true, Nat.reduceLT, Nat.reduceLeDiff, Nat.zero_le, Nat.le_refl, RI_i, RI_z0, RI_z1, Int32.reduceOfInt, Int8.reduceOfInt, Int16.reduceOfInt, Int64.reduceOfInt, Int8.toInt32_ofNat, Int16.toInt32_ofNat, Int.reduceNeg, Int32.ofInt_neg, Int8.ofInt_neg, Int16.ofInt_neg, Int32.toInt64_ofNat, Int32.reduceToNatClampNeg, Fin.isValue, Fin.val_one, Fin.val_zero, Fin.val_two, Int64.reduceOfNat, Int32.reduceOfNat, hdl, cutc, Nat.reduceEqDiff, reduceIte, FV, tyC, tyX0, tyX1, tyX2, tyX3, tyX4, tyX5, tyX6, tyX7, tyX8, tyX9, tyX10, Nat.reduceMul, c_le, c_lt, c_eq, c_in, c_cl, c_add, c_rem, c_ofN, Int32.add_zero, Int32.zero_add, c_lt0, c_ge0, c_le0, c_gt0, c_e0, c_m1, c_m1', false_implies, true_implies, implies_true, not_false_eq_true, not_true_eq_false, Nat.not_lt_zero, up_s, up_1, up_m, ff8_putAhead, bb8_putAhead_0, bb8_putAhead_36, bb8_putAhead_60, bb8_putAhead_67, cl_1, ca_1, e1, b1, b3]
      refine sp8_put hS i b3 _ (fun _ w2 hS2 hF2 => ?_) (fun h => absurd h (by rw [mkL_len]; omega))
      rw [mkL_set] at hS2
      unfold holdL
      simp only [List.getElem?_cons_zero, List.getElem?_cons_succ, fv4, Nat.reduceAdd, Nat.reduceSub, wp, pst, stp, LG, lput, ls_tl, two, bc, EL, pad, popN, csum, Option.toList, List.cons_append, List.nil_append, List.set_cons_zero, List.set_cons_succ, List.length_cons, List.length_nil, true_and, and_true, Nat.reduceLT, Nat.reduceLeDiff, Nat.zero_le, Nat.le_refl, RI_i, RI_z0, RI_z1, Int32.reduceOfInt, Int8.reduceOfInt, Int16.reduceOfInt, Int64.reduceOfInt, Int8.toInt32_ofNat, Int16.toInt32_ofNat, Int.reduceNeg, Int32.ofInt_neg, Int8.ofInt_neg, Int16.ofInt_neg, Int32.toInt64_ofNat, Int32.reduceToNatClampNeg, Fin.isValue, Fin.val_one, Fin.val_zero, Fin.val_two, Int64.reduceOfNat, Int32.reduceOfNat, hdl, cutc, Nat.reduceEqDiff, reduceIte, FV, tyC, tyX0, tyX1, tyX2, tyX3, tyX4, tyX5, tyX6, tyX7, tyX8, tyX9, tyX10, Nat.reduceMul, c_le, c_lt, c_eq, c_in, c_cl, c_add, c_rem, c_ofN, Int32.add_zero, Int32.zero_add, c_lt0, c_ge0, c_le0, c_gt0, c_e0, c_m1, c_m1', false_implies, true_implies, implies_true, not_false_eq_true, not_true_eq_false, Nat.not_lt_zero, up_s, up_1, up_m, ff8_putAhead, bb8_putAhead_0, bb8_putAhead_36, bb8_putAhead_60, bb8_putAhead_67, cl_1, ca_1, b1, sb_m1 (show 0 < i by omega)]
      refine ih (i - 1) w2 (by omega) (by omega) (by omega) ?_ (hF.tr hF2)
      rw [mkL_congr (g' := fun j => if j = i then s.getD (i - 1) 0 else if i < j then s.getD (j - 1) 0 else (s ++ [v0]).getD j 0)]
      · exact hS2
      · intro j _
        by_cases q : j = i
        · subst q; rw [if_pos rfl, if_pos (by omega)]
        · by_cases q2 : i < j
          · rw [if_neg q, if_pos q2, if_pos (by omega)]
          · rw [if_neg q, if_neg q2, if_neg (by omega)]
  refine key _ s.length _ rfl hp (Nat.le_refl _) ?_ (Fr.wr (by omega) (by omega))
  have hq := mkL_eq (s ++ [v0]) 0
  rw [show (s ++ [v0]).length = s.length + 1 by simp] at hq
  rw [mkL_congr (g' := fun j => (s ++ [v0]).getD j 0) (fun j _ => if_neg (by omega)), hq]
  exact hS2
end STREAM

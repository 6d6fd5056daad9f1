/-! PAGE AND STREAM, the small methods -/
section PAGE
variable {Γ : Amb} {w : PW} {Q : Option Value → Option Nat → PW → Prop} {a wd sy : Nat} {L : List Nat}
theorem sp2_rowOf (hP : PgR w a wd sy L) (j : Nat) (hj : j < L.length) (hQ : Q (some (.long (lN (L.getD j 0)))) none w) : Sp Γ m2_rowOf [.ref a, .int (nI j)] none w Q := by
  obtain ⟨f, h1, h2, h3, h4⟩ := hP
  have b1 : j < 2147483648 := by omega
  have b2 : L.length < 2147483648 := by omega
  have b3 : j < 10 := by omega
  refine entry Γ m2_rowOf rfl _ (Nat.le_of_ble_eq_true rfl) _ _ _ ?_
  refine wp_ok kd2_rowOf 400 0 bb2_rowOf_0 _ _ _ _ _ _ oo2_rowOf_0 ?_
  simp only [List.getElem?_cons_zero, List.getElem?_cons_succ, fv4, Nat.reduceAdd, Nat.reduceSub, wp, pst, stp, LG, lput, ls_tl, two, bc, EL, pad, popN, csum, Option.toList, List.cons_append, List.nil_append, List.set_cons_zero, List.set_cons_succ, List.length_cons, List.length_nil, true_and, and_true, Nat.reduceLT, Nat.reduceLeDiff, Nat.zero_le, Nat.le_refl, RI_i, RI_z0, RI_z1, Int32.reduceOfInt, Int8.reduceOfInt, Int16.reduceOfInt, Int64.reduceOfInt, Int8.toInt32_ofNat, Int16.toInt32_ofNat, Int.reduceNeg, Int32.ofInt_neg, Int8.ofInt_neg, Int16.ofInt_neg, Int32.toInt64_ofNat, Int32.reduceToNatClampNeg, Fin.isValue, Fin.val_one, Fin.val_zero, Fin.val_two, Int64.reduceOfNat, Int32.reduceOfNat, hdl, cutc, Nat.reduceEqDiff, reduceIte, FV, tyC, tyX0, tyX1, tyX2, tyX3, tyX4, tyX5, tyX6, tyX7, tyX8, tyX9, tyX10, Nat.reduceMul, c_le, c_lt, c_eq, c_in, c_cl, c_add, c_rem, c_ofN, Int32.add_zero, Int32.zero_add, c_lt0, c_ge0, c_le0, c_gt0, c_e0, c_m1, c_m1', false_implies, true_implies, implies_true, not_false_eq_true, not_true_eq_false, Nat.not_lt_zero, up_s, up_1, up_m, ff2_rowOf, bb2_rowOf_0, bb2_rowOf_30, bb2_rowOf_31, h1, h2, b1, b2, b3, Nat.not_le.mpr hj, Nat.not_le.mpr b3]
  rw [h3 j hj]; exact hQ
theorem sp2_rowOf_m1 (hP : PgR w a wd sy L) (hQ : Q (some (.long 0)) none w) : Sp Γ m2_rowOf [.ref a, .int (-1)] none w Q := by
  obtain ⟨f, h1, h2, h3, h4⟩ := hP
  refine entry Γ m2_rowOf rfl _ (Nat.le_of_ble_eq_true rfl) _ _ _ ?_
  refine wp_ok kd2_rowOf 400 0 bb2_rowOf_0 _ _ _ _ _ _ oo2_rowOf_0 ?_
  simp only [List.getElem?_cons_zero, List.getElem?_cons_succ, fv4, Nat.reduceAdd, Nat.reduceSub, wp, pst, stp, LG, lput, ls_tl, two, bc, EL, pad, popN, csum, Option.toList, List.cons_append, List.nil_append, List.set_cons_zero, List.set_cons_succ, List.length_cons, List.length_nil, true_and, and_true, Nat.reduceLT, Nat.reduceLeDiff, Nat.zero_le, Nat.le_refl, RI_i, RI_z0, RI_z1, Int32.reduceOfInt, Int8.reduceOfInt, Int16.reduceOfInt, Int64.reduceOfInt, Int8.toInt32_ofNat, Int16.toInt32_ofNat, Int.reduceNeg, Int32.ofInt_neg, Int8.ofInt_neg, Int16.ofInt_neg, Int32.toInt64_ofNat, Int32.reduceToNatClampNeg, Fin.isValue, Fin.val_one, Fin.val_zero, Fin.val_two, Int64.reduceOfNat, Int32.reduceOfNat, hdl, cutc, Nat.reduceEqDiff, reduceIte, FV, tyC, tyX0, tyX1, tyX2, tyX3, tyX4, tyX5, tyX6, tyX7, tyX8, tyX9, tyX10, Nat.reduceMul, c_le, c_lt, c_eq, c_in, c_cl, c_add, c_rem, c_ofN, Int32.add_zero, Int32.zero_add, c_lt0, c_ge0, c_le0, c_gt0, c_e0, c_m1, c_m1', false_implies, true_implies, implies_true, not_false_eq_true, not_true_eq_false, Nat.not_lt_zero, up_s, up_1, up_m, ff2_rowOf, bb2_rowOf_0, bb2_rowOf_30, bb2_rowOf_31, h1, h2]
  exact ⟨fun _ => hQ, fun h => absurd (by decide) h⟩
/-- a line's number is asked for: there is one, or not -/
theorem sp2_has (hP : PgR w a wd sy L) (x : Int32) (h1 : ∀ j, j < L.length → x = nI j → Q (some (.int 1)) none w) (h0 : (∀ j, j < L.length → x ≠ nI j) → Q (some (.int 0)) none w) : Sp Γ m2_has [.ref a, .int x] none w Q := by
  obtain ⟨f, e1, e2, e3, e4⟩ := hP
  have b2 : L.length < 2147483648 := by omega
  refine entry Γ m2_has rfl _ (Nat.le_of_ble_eq_true rfl) _ _ _ ?_
  refine wp_ok kd2_has 400 0 bb2_has_0 _ _ _ _ _ _ oo2_has_0 ?_
  rcases i_cases x with hx | ⟨j, hj, rfl⟩
  · simp only [List.getElem?_cons_zero, List.getElem?_cons_succ, fv4, Nat.reduceAdd, Nat.reduceSub, wp, pst, stp, LG, lput, ls_tl, two, bc, EL, pad, popN, csum, Option.toList, List.cons_append, List.nil_append, List.set_cons_zero, List.set_cons_succ, List.length_cons, List.length_nil, true_and, and_true, Nat.reduceLT, Nat.reduceLeDiff, Nat.zero_le, Nat.le_refl, RI_i, RI_z0, RI_z1, Int32.reduceOfInt, Int8.reduceOfInt, Int16.reduceOfInt, Int64.reduceOfInt, Int8.toInt32_ofNat, Int16.toInt32_ofNat, Int.reduceNeg, Int32.ofInt_neg, Int8.ofInt_neg, Int16.ofInt_neg, Int32.toInt64_ofNat, Int32.reduceToNatClampNeg, Fin.isValue, Fin.val_one, Fin.val_zero, Fin.val_two, Int64.reduceOfNat, Int32.reduceOfNat, hdl, cutc, Nat.reduceEqDiff, reduceIte, FV, tyC, tyX0, tyX1, tyX2, tyX3, tyX4, tyX5, tyX6, tyX7, tyX8, tyX9, tyX10, Nat.reduceMul, c_le, c_lt, c_eq, c_in, c_cl, c_add, c_rem, c_ofN, Int32.add_zero, Int32.zero_add, c_lt0, c_ge0, c_le0, c_gt0, c_e0, c_m1, c_m1', false_implies, true_implies, implies_true, not_false_eq_true, not_true_eq_false, Nat.not_lt_zero, up_s, up_1, up_m, ff2_has, bb2_has_0, bb2_has_25, bb2_has_26, cl_1, ca_1, e1, e2, hx]
    exact h0 (fun j hj => neg_ne hx j (by omega))
  · simp only [List.getElem?_cons_zero, List.getElem?_cons_succ, fv4, Nat.reduceAdd, Nat.reduceSub, wp, pst, stp, LG, lput, ls_tl, two, bc, EL, pad, popN, csum, Option.toList, List.cons_append, List.nil_append, List.set_cons_zero, List.set_cons_succ, List.length_cons, List.length_nil, true_and, and_true, Nat.reduceLT, Nat.reduceLeDiff, Nat.zero_le, Nat.le_refl, RI_i, RI_z0, RI_z1, Int32.reduceOfInt, Int8.reduceOfInt, Int16.reduceOfInt, Int64.reduceOfInt, Int8.toInt32_ofNat, Int16.toInt32_ofNat, Int.reduceNeg, Int32.ofInt_neg, Int8.ofInt_neg, Int16.ofInt_neg, Int32.toInt64_ofNat, Int32.reduceToNatClampNeg, Fin.isValue, Fin.val_one, Fin.val_zero, Fin.val_two, Int64.reduceOfNat, Int32.reduceOfNat, hdl, cutc, Nat.reduceEqDiff, reduceIte, FV, tyC, tyX0, tyX1, tyX2, tyX3, tyX4, tyX5, tyX6, tyX7, tyX8, tyX9, tyX10, Nat.reduceMul, c_le, c_lt, c_eq, c_in, c_cl, c_add, c_rem, c_ofN, Int32.add_zero, Int32.zero_add, c_lt0, c_ge0, c_le0, c_gt0, c_e0, c_m1, c_m1', false_implies, true_implies, implies_true, not_false_eq_true, not_true_eq_false, Nat.not_lt_zero, up_s, up_1, up_m, ff2_has, bb2_has_0, bb2_has_25, bb2_has_26, cl_1, ca_1, e1, e2, hj, b2]
    refine ⟨fun h => h0 (fun i hi q => ?_), fun h => ⟨fun h' => absurd h' (by omega), fun h' => h1 j (by omega) rfl⟩⟩
    rw [c_eq hj (by omega)] at q
    omega
theorem sp2_isFull (hP : PgR w a wd sy L) (h1 : L.length = 10 → Q (some (.int 1)) none w) (h0 : L.length < 10 → Q (some (.int 0)) none w) : Sp Γ m2_isFull [.ref a] none w Q := by
  obtain ⟨f, e1, e2, e3, e4⟩ := hP
  have b2 : L.length < 2147483648 := by omega
  refine entry Γ m2_isFull rfl _ (Nat.le_of_ble_eq_true rfl) _ _ _ ?_
  refine wp_ok kd2_isFull 400 0 bb2_isFull_0 _ _ _ _ _ _ oo2_isFull_0 ?_
  simp only [List.getElem?_cons_zero, List.getElem?_cons_succ, fv4, Nat.reduceAdd, Nat.reduceSub, wp, pst, stp, LG, lput, ls_tl, two, bc, EL, pad, popN, csum, Option.toList, List.cons_append, List.nil_append, List.set_cons_zero, List.set_cons_succ, List.length_cons, List.length_nil, true_and, and_true, Nat.reduceLT, Nat.reduceLeDiff, Nat.zero_le, Nat.le_refl, RI_i, RI_z0, RI_z1, Int32.reduceOfInt, Int8.reduceOfInt, Int16.reduceOfInt, Int64.reduceOfInt, Int8.toInt32_ofNat, Int16.toInt32_ofNat, Int.reduceNeg, Int32.ofInt_neg, Int8.ofInt_neg, Int16.ofInt_neg, Int32.toInt64_ofNat, Int32.reduceToNatClampNeg, Fin.isValue, Fin.val_one, Fin.val_zero, Fin.val_two, Int64.reduceOfNat, Int32.reduceOfNat, hdl, cutc, Nat.reduceEqDiff, reduceIte, FV, tyC, tyX0, tyX1, tyX2, tyX3, tyX4, tyX5, tyX6, tyX7, tyX8, tyX9, tyX10, Nat.reduceMul, c_le, c_lt, c_eq, c_in, c_cl, c_add, c_rem, c_ofN, Int32.add_zero, Int32.zero_add, c_lt0, c_ge0, c_le0, c_gt0, c_e0, c_m1, c_m1', false_implies, true_implies, implies_true, not_false_eq_true, not_true_eq_false, Nat.not_lt_zero, up_s, up_1, up_m, ff2_isFull, bb2_isFull_0, bb2_isFull_16, bb2_isFull_17, cl_1, ca_1, e1, e2, b2]
  exact ⟨fun h => h0 (by omega), fun h => h1 (by omega)⟩
theorem sp2_fits (hP : PgR w a wd sy L) (hw : wd < 64) (x : Int64) (h1 : ∀ p, p < 2 ^ wd → x = lN p → Q (some (.int 1)) none w) (h0 : (∀ p, p < 2 ^ wd → x ≠ lN p) → Q (some (.int 0)) none w) : Sp Γ m2_fits [.ref a, .long x] none w Q := by
  obtain ⟨f, e1, e2, e3, e4⟩ := hP
  refine entry Γ m2_fits rfl _ (Nat.le_of_ble_eq_true rfl) _ _ _ ?_
  refine wp_ok kd2_fits 400 0 bb2_fits_0 _ _ _ _ _ _ oo2_fits_0 ?_
  simp only [List.getElem?_cons_zero, List.getElem?_cons_succ, fv4, Nat.reduceAdd, Nat.reduceSub, wp, pst, stp, LG, lput, ls_tl, two, bc, EL, pad, popN, csum, Option.toList, List.cons_append, List.nil_append, List.set_cons_zero, List.set_cons_succ, List.length_cons, List.length_nil, true_and, and_true, Nat.reduceLT, Nat.reduceLeDiff, Nat.zero_le, Nat.le_refl, RI_i, RI_z0, RI_z1, Int32.reduceOfInt, Int8.reduceOfInt, Int16.reduceOfInt, Int64.reduceOfInt, Int8.toInt32_ofNat, Int16.toInt32_ofNat, Int.reduceNeg, Int32.ofInt_neg, Int8.ofInt_neg, Int16.ofInt_neg, Int32.toInt64_ofNat, Int32.reduceToNatClampNeg, Fin.isValue, Fin.val_one, Fin.val_zero, Fin.val_two, Int64.reduceOfNat, Int32.reduceOfNat, hdl, cutc, Nat.reduceEqDiff, reduceIte, FV, tyC, tyX0, tyX1, tyX2, tyX3, tyX4, tyX5, tyX6, tyX7, tyX8, tyX9, tyX10, Nat.reduceMul, c_le, c_lt, c_eq, c_in, c_cl, c_add, c_rem, c_ofN, Int32.add_zero, Int32.zero_add, c_lt0, c_ge0, c_le0, c_gt0, c_e0, c_m1, c_m1', false_implies, true_implies, implies_true, not_false_eq_true, not_true_eq_false, Nat.not_lt_zero, up_s, up_1, up_m, ff2_fits, bb2_fits_0, bb2_fits_15, bb2_fits_16, cl_1, ca_1, e1, e2, cmp0, fits_iff x hw]
  refine ⟨fun h => h0 (fun p hp q => h ⟨p, hp, q⟩), fun h => ?_⟩
  obtain ⟨p, hp, q⟩ := Classical.not_not.mp h
  exact h1 p hp q
theorem sp2_putRow (hP : PgR w a wd sy L) (j : Nat) (hj : j < L.length) (p : Nat) (hQ : ∀ w', PgR w' a wd sy (L.set j p) → Fr w w' a 2 → Q none none w') : Sp Γ m2_putRow [.ref a, .int (nI j), .long (lN p)] none w Q := by
  obtain ⟨f, e1, e2, e3, e4⟩ := hP
  have b1 : j < 2147483648 := by omega
  have b2 : L.length < 2147483648 := by omega
  have b3 : j < 10 := by omega
  refine entry Γ m2_putRow rfl _ (Nat.le_of_ble_eq_true rfl) _ _ _ ?_
  refine wp_ok kd2_putRow 400 0 bb2_putRow_0 _ _ _ _ _ _ oo2_putRow_0 ?_
  simp only [List.getElem?_cons_zero, List.getElem?_cons_succ, fv4, Nat.reduceAdd, Nat.reduceSub, wp, pst, stp, LG, lput, ls_tl, two, bc, EL, pad, popN, csum, Option.toList, List.cons_append, List.nil_append, List.set_cons_zero, List.set_cons_succ, List.length_cons, List.length_nil, true_and, and_true, Nat.reduceLT, Nat.reduceLeDiff, Nat.zero_le, Nat.le_refl, RI_i, RI_z0, RI_z1, Int32.reduceOfInt, Int8.reduceOfInt, Int16.reduceOfInt, Int64.reduceOfInt, Int8.toInt32_ofNat, Int16.toInt32_ofNat, Int.reduceNeg, Int32.ofInt_neg, Int8.ofInt_neg, Int16.ofInt_neg, Int32.toInt64_ofNat, Int32.reduceToNatClampNeg, Fin.isValue, Fin.val_one, Fin.val_zero, Fin.val_two, Int64.reduceOfNat, Int32.reduceOfNat, hdl, cutc, Nat.reduceEqDiff, reduceIte, FV, tyC, tyX0, tyX1, tyX2, tyX3, tyX4, tyX5, tyX6, tyX7, tyX8, tyX9, tyX10, Nat.reduceMul, c_le, c_lt, c_eq, c_in, c_cl, c_add, c_rem, c_ofN, Int32.add_zero, Int32.zero_add, c_lt0, c_ge0, c_le0, c_gt0, c_e0, c_m1, c_m1', false_implies, true_implies, implies_true, not_false_eq_true, not_true_eq_false, Nat.not_lt_zero, up_s, up_1, up_m, ff2_putRow, bb2_putRow_0, bb2_putRow_28, e1, e2, b1, b2, b3, Nat.not_le.mpr hj, Nat.not_le.mpr b3]
  refine hQ _ ⟨_, by rw [up_m, List.length_set]; exact e1, up_s _ _ _, fun i hi => ?_, by rw [List.length_set]; exact e4⟩ (Fr.wr (by omega) (by omega))
  rw [List.length_set] at hi
  by_cases q : i = j
  · subst q; simp [vp_updL, hi]
  · have := e3 i hi
    simp [vp_updL, q, List.getD_eq_getElem?_getD, List.getElem?_set, Ne.symm q] at this ⊢
    exact this
theorem sp2_addRow (hP : PgR w a wd sy L) (p : Nat) (h1 : L.length < 10 → ∀ w', PgR w' a wd sy (L ++ [p]) → Fr w w' a 2 → Q (some (.int 1)) none w') (h0 : L.length = 10 → Q (some (.int 0)) none w) : Sp Γ m2_addRow [.ref a, .long (lN p)] none w Q := by
  obtain ⟨f, e1, e2, e3, e4⟩ := hP
  have b2 : L.length < 2147483648 := by omega
  refine entry Γ m2_addRow rfl _ (Nat.le_of_ble_eq_true rfl) _ _ _ ?_
  refine wp_ok kd2_addRow 400 0 bb2_addRow_0 _ _ _ _ _ _ oo2_addRow_0 ?_
  simp only [List.getElem?_cons_zero, List.getElem?_cons_succ, fv4, Nat.reduceAdd, Nat.reduceSub, wp, pst, stp, LG, lput, ls_tl, two, bc, EL, pad, popN, csum, Option.toList, List.cons_append, List.nil_append, List.set_cons_zero, List.set_cons_succ, List.length_cons, List.length_nil, true_and, and_true, Nat.reduceLT, Nat.reduceLeDiff, Nat.zero_le, Nat.le_refl, RI_i, RI_z0, RI_z1, Int32.reduceOfInt, Int8.reduceOfInt, Int16.reduceOfInt, Int64.reduceOfInt, Int8.toInt32_ofNat, Int16.toInt32_ofNat, Int.reduceNeg, Int32.ofInt_neg, Int8.ofInt_neg, Int16.ofInt_neg, Int32.toInt64_ofNat, Int32.reduceToNatClampNeg, Fin.isValue, Fin.val_one, Fin.val_zero, Fin.val_two, Int64.reduceOfNat, Int32.reduceOfNat, hdl, cutc, Nat.reduceEqDiff, reduceIte, FV, tyC, tyX0, tyX1, tyX2, tyX3, tyX4, tyX5, tyX6, tyX7, tyX8, tyX9, tyX10, Nat.reduceMul, c_le, c_lt, c_eq, c_in, c_cl, c_add, c_rem, c_ofN, Int32.add_zero, Int32.zero_add, c_lt0, c_ge0, c_le0, c_gt0, c_e0, c_m1, c_m1', false_implies, true_implies, implies_true, not_false_eq_true, not_true_eq_false, Nat.not_lt_zero, up_s, up_1, up_m, ff2_addRow, bb2_addRow_0, bb2_addRow_19, bb2_addRow_21, cl_1, ca_1, e1, e2, b2]
  refine ⟨fun h => ⟨h, h1 h _ ⟨_, by rw [up_s, List.length_append]; rfl, by rw [up_1, up_s], fun i hi => ?_, by rw [List.length_append]; simp; omega⟩ ((Fr.wr (by omega) (by omega)).tr (Fr.wr (by omega) (by omega)))⟩, fun h => h0 (by omega)⟩
  rw [List.length_append] at hi
  simp only [List.length_cons, List.length_nil] at hi
  by_cases q : i = L.length
  · subst q; simp [vp_updL]
  · have hi' : i < L.length := by omega
    have := e3 i hi'
    simp [vp_updL, q, List.getD_eq_getElem?_getD, List.getElem?_append_left hi'] at this ⊢
    exact this
theorem sp2_dropRow (hP : PgR w a wd sy L) (h1 : 0 < L.length → ∀ w', PgR w' a wd sy L.dropLast → Fr w w' a 2 → Q (some (.int 1)) none w') (h0 : L.length = 0 → Q (some (.int 0)) none w) : Sp Γ m2_dropRow [.ref a] none w Q := by
  obtain ⟨f, e1, e2, e3, e4⟩ := hP
  have b2 : L.length < 2147483648 := by omega
  refine entry Γ m2_dropRow rfl _ (Nat.le_of_ble_eq_true rfl) _ _ _ ?_
  refine wp_ok kd2_dropRow 400 0 bb2_dropRow_0 _ _ _ _ _ _ oo2_dropRow_0 ?_
  simp only [List.getElem?_cons_zero, List.getElem?_cons_succ, fv4, Nat.reduceAdd, Nat.reduceSub, wp, pst, stp, LG, lput, ls_tl, two, bc, EL, pad, popN, csum, Option.toList, List.cons_append, List.nil_append, List.set_cons_zero, List.set_cons_succ, List.length_cons, List.length_nil, true_and, and_true, Nat.reduceLT, Nat.reduceLeDiff, Nat.zero_le, Nat.le_refl, RI_i, RI_z0, RI_z1, Int32.reduceOfInt, Int8.reduceOfInt, Int16.reduceOfInt, Int64.reduceOfInt, Int8.toInt32_ofNat, Int16.toInt32_ofNat, Int.reduceNeg, Int32.ofInt_neg, Int8.ofInt_neg, Int16.ofInt_neg, Int32.toInt64_ofNat, Int32.reduceToNatClampNeg, Fin.isValue, Fin.val_one, Fin.val_zero, Fin.val_two, Int64.reduceOfNat, Int32.reduceOfNat, hdl, cutc, Nat.reduceEqDiff, reduceIte, FV, tyC, tyX0, tyX1, tyX2, tyX3, tyX4, tyX5, tyX6, tyX7, tyX8, tyX9, tyX10, Nat.reduceMul, c_le, c_lt, c_eq, c_in, c_cl, c_add, c_rem, c_ofN, Int32.add_zero, Int32.zero_add, c_lt0, c_ge0, c_le0, c_gt0, c_e0, c_m1, c_m1', false_implies, true_implies, implies_true, not_false_eq_true, not_true_eq_false, Nat.not_lt_zero, up_s, up_1, up_m, ff2_dropRow, bb2_dropRow_0, bb2_dropRow_9, cl_1, ca_1, e1, e2, b2]
  refine ⟨fun h => h1 h _ ⟨_, by rw [up_s, List.length_dropLast, ← pk_sub (by omega : 1 ≤ L.length)]; rfl, by rw [up_1]; exact e2, fun i hi => ?_, by rw [List.length_dropLast]; omega⟩ (Fr.wr (by omega) (by omega)), fun h => h0 (by omega)⟩
  rw [List.length_dropLast] at hi
  have := e3 i (by omega)
  rw [this, List.getD_eq_getElem?_getD, List.getD_eq_getElem?_getD, List.getElem?_dropLast, if_pos hi]
/-- the pixels that a kernel tells -/
def kpx (L : List Nat) (n m : Nat) : Nat := if m = 2 then L.getD n 0 ^^^ (if n = 0 then 0 else L.getD (n - 1) 0) else L.getD n 0
theorem sp2_toCode (hP : PgR w a wd sy L) (n m : Nat) (hn : n < L.length) (hm : m < 3) (hQ : Q (some (.long (lN (kpx L n m)))) none w) : Sp Γ m2_toCode [.ref a, .int (nI n), .int (nI m)] none w Q := by
  obtain ⟨f, e1, e2, e3, e4⟩ := id hP
  have b1 : n < 2147483648 := by omega
  have b2 : m < 2147483648 := by omega
  refine entry Γ m2_toCode rfl _ (Nat.le_of_ble_eq_true rfl) _ _ _ ?_
  refine wp_ok kd2_toCode 400 0 bb2_toCode_0 _ _ _ _ _ _ oo2_toCode_0 ?_
  simp only [List.getElem?_cons_zero, List.getElem?_cons_succ, fv4, Nat.reduceAdd, Nat.reduceSub, wp, pst, stp, LG, lput, ls_tl, two, bc, EL, pad, popN, csum, Option.toList, List.cons_append, List.nil_append, List.set_cons_zero, List.set_cons_succ, List.length_cons, List.length_nil, true_and, and_true, Nat.reduceLT, Nat.reduceLeDiff, Nat.zero_le, Nat.le_refl, RI_i, RI_z0, RI_z1, Int32.reduceOfInt, Int8.reduceOfInt, Int16.reduceOfInt, Int64.reduceOfInt, Int8.toInt32_ofNat, Int16.toInt32_ofNat, Int.reduceNeg, Int32.ofInt_neg, Int8.ofInt_neg, Int16.ofInt_neg, Int32.toInt64_ofNat, Int32.reduceToNatClampNeg, Fin.isValue, Fin.val_one, Fin.val_zero, Fin.val_two, Int64.reduceOfNat, Int32.reduceOfNat, hdl, cutc, Nat.reduceEqDiff, reduceIte, FV, tyC, tyX0, tyX1, tyX2, tyX3, tyX4, tyX5, tyX6, tyX7, tyX8, tyX9, tyX10, Nat.reduceMul, c_le, c_lt, c_eq, c_in, c_cl, c_add, c_rem, c_ofN, Int32.add_zero, Int32.zero_add, c_lt0, c_ge0, c_le0, c_gt0, c_e0, c_m1, c_m1', false_implies, true_implies, implies_true, not_false_eq_true, not_true_eq_false, Nat.not_lt_zero, up_s, up_1, up_m, ff2_toCode, bb2_toCode_0, bb2_toCode_21, bb2_toCode_26, cl_1, ca_1, cl_2, ca_2, e1, e2, b1, b2]
  refine ⟨fun h => ?_, fun h => ?_⟩
  · refine sp2_rowOf hP n hn ?_
    unfold holdL
    simp only [List.getElem?_cons_zero, List.getElem?_cons_succ, fv4, Nat.reduceAdd, Nat.reduceSub, wp, pst, stp, LG, lput, ls_tl, two, bc, EL, pad, popN, csum, Option.toList, List.cons_append, List.nil_append, List.set_cons_zero, List.set_cons_succ, List.length_cons, List.length_nil, true_and, and_true, Nat.reduceLT, Nat.reduceLeDiff, Nat.zero_le, Nat.le_refl, RI_i, RI_z0, RI_z1, Int32.reduceOfInt, Int8.reduceOfInt, Int16.reduceOfInt, Int64.reduceOfInt, Int8.toInt32_ofNat, Int16.toInt32_ofNat, Int.reduceNeg, Int32.ofInt_neg, Int8.ofInt_neg, Int16.ofInt_neg, Int32.toInt64_ofNat, Int32.reduceToNatClampNeg, Fin.isValue, Fin.val_one, Fin.val_zero, Fin.val_two, Int64.reduceOfNat, Int32.reduceOfNat, hdl, cutc, Nat.reduceEqDiff, reduceIte, FV, tyC, tyX0, tyX1, tyX2, tyX3, tyX4, tyX5, tyX6, tyX7, tyX8, tyX9, tyX10, Nat.reduceMul, c_le, c_lt, c_eq, c_in, c_cl, c_add, c_rem, c_ofN, Int32.add_zero, Int32.zero_add, c_lt0, c_ge0, c_le0, c_gt0, c_e0, c_m1, c_m1', false_implies, true_implies, implies_true, not_false_eq_true, not_true_eq_false, Nat.not_lt_zero, up_s, up_1, up_m, ff2_toCode, bb2_toCode_0, bb2_toCode_21, bb2_toCode_26, cl_1, ca_1, cl_2, ca_2, e1, e2, b1, b2]
    rw [kpx, if_neg h] at hQ
    exact hQ
  · have h2 : m = 2 := by omega
    subst h2
    refine sp2_rowOf hP n hn ?_
    unfold holdL
    simp only [List.getElem?_cons_zero, List.getElem?_cons_succ, fv4, Nat.reduceAdd, Nat.reduceSub, wp, pst, stp, LG, lput, ls_tl, two, bc, EL, pad, popN, csum, Option.toList, List.cons_append, List.nil_append, List.set_cons_zero, List.set_cons_succ, List.length_cons, List.length_nil, true_and, and_true, Nat.reduceLT, Nat.reduceLeDiff, Nat.zero_le, Nat.le_refl, RI_i, RI_z0, RI_z1, Int32.reduceOfInt, Int8.reduceOfInt, Int16.reduceOfInt, Int64.reduceOfInt, Int8.toInt32_ofNat, Int16.toInt32_ofNat, Int.reduceNeg, Int32.ofInt_neg, Int8.ofInt_neg, Int16.ofInt_neg, Int32.toInt64_ofNat, Int32.reduceToNatClampNeg, Fin.isValue, Fin.val_one, Fin.val_zero, Fin.val_two, Int64.reduceOfNat, Int32.reduceOfNat, hdl, cutc, Nat.reduceEqDiff, reduceIte, FV, tyC, tyX0, tyX1, tyX2, tyX3, tyX4, tyX5, tyX6, tyX7, tyX8, tyX9, tyX10, Nat.reduceMul, c_le, c_lt, c_eq, c_in, c_cl, c_add, c_rem, c_ofN, Int32.add_zero, Int32.zero_add, c_lt0, c_ge0, c_le0, c_gt0, c_e0, c_m1, c_m1', false_implies, true_implies, implies_true, not_false_eq_true, not_true_eq_false, Nat.not_lt_zero, up_s, up_1, up_m, ff2_toCode, bb2_toCode_0, bb2_toCode_21, bb2_toCode_26, cl_1, ca_1, cl_2, ca_2, e1, e2, b1, b2]
    rw [kpx, if_pos rfl] at hQ
    by_cases h0 : n = 0
    · subst h0
      refine sp2_rowOf_m1 hP ?_
      unfold holdL
      simp only [List.getElem?_cons_zero, List.getElem?_cons_succ, fv4, Nat.reduceAdd, Nat.reduceSub, wp, pst, stp, LG, lput, ls_tl, two, bc, EL, pad, popN, csum, Option.toList, List.cons_append, List.nil_append, List.set_cons_zero, List.set_cons_succ, List.length_cons, List.length_nil, true_and, and_true, Nat.reduceLT, Nat.reduceLeDiff, Nat.zero_le, Nat.le_refl, RI_i, RI_z0, RI_z1, Int32.reduceOfInt, Int8.reduceOfInt, Int16.reduceOfInt, Int64.reduceOfInt, Int8.toInt32_ofNat, Int16.toInt32_ofNat, Int.reduceNeg, Int32.ofInt_neg, Int8.ofInt_neg, Int16.ofInt_neg, Int32.toInt64_ofNat, Int32.reduceToNatClampNeg, Fin.isValue, Fin.val_one, Fin.val_zero, Fin.val_two, Int64.reduceOfNat, Int32.reduceOfNat, hdl, cutc, Nat.reduceEqDiff, reduceIte, FV, tyC, tyX0, tyX1, tyX2, tyX3, tyX4, tyX5, tyX6, tyX7, tyX8, tyX9, tyX10, Nat.reduceMul, c_le, c_lt, c_eq, c_in, c_cl, c_add, c_rem, c_ofN, Int32.add_zero, Int32.zero_add, c_lt0, c_ge0, c_le0, c_gt0, c_e0, c_m1, c_m1', false_implies, true_implies, implies_true, not_false_eq_true, not_true_eq_false, Nat.not_lt_zero, up_s, up_1, up_m, ff2_toCode, bb2_toCode_0, bb2_toCode_21, bb2_toCode_26, cl_1, ca_1, cl_2, ca_2, e1, e2, b1, b2]
      rw [lN_0, fb_xorL]
      exact hQ
    · rw [show nI n - 1 = nI (n - 1) from c_subr (b := 1) (by omega)]
      refine sp2_rowOf hP (n - 1) (by omega) ?_
      unfold holdL
      simp only [List.getElem?_cons_zero, List.getElem?_cons_succ, fv4, Nat.reduceAdd, Nat.reduceSub, wp, pst, stp, LG, lput, ls_tl, two, bc, EL, pad, popN, csum, Option.toList, List.cons_append, List.nil_append, List.set_cons_zero, List.set_cons_succ, List.length_cons, List.length_nil, true_and, and_true, Nat.reduceLT, Nat.reduceLeDiff, Nat.zero_le, Nat.le_refl, RI_i, RI_z0, RI_z1, Int32.reduceOfInt, Int8.reduceOfInt, Int16.reduceOfInt, Int64.reduceOfInt, Int8.toInt32_ofNat, Int16.toInt32_ofNat, Int.reduceNeg, Int32.ofInt_neg, Int8.ofInt_neg, Int16.ofInt_neg, Int32.toInt64_ofNat, Int32.reduceToNatClampNeg, Fin.isValue, Fin.val_one, Fin.val_zero, Fin.val_two, Int64.reduceOfNat, Int32.reduceOfNat, hdl, cutc, Nat.reduceEqDiff, reduceIte, FV, tyC, tyX0, tyX1, tyX2, tyX3, tyX4, tyX5, tyX6, tyX7, tyX8, tyX9, tyX10, Nat.reduceMul, c_le, c_lt, c_eq, c_in, c_cl, c_add, c_rem, c_ofN, Int32.add_zero, Int32.zero_add, c_lt0, c_ge0, c_le0, c_gt0, c_e0, c_m1, c_m1', false_implies, true_implies, implies_true, not_false_eq_true, not_true_eq_false, Nat.not_lt_zero, up_s, up_1, up_m, ff2_toCode, bb2_toCode_0, bb2_toCode_21, bb2_toCode_26, cl_1, ca_1, cl_2, ca_2, e1, e2, b1, b2]
      rw [fb_xorL]
      rw [if_neg h0] at hQ
      exact hQ
theorem sp2_emptyWith (hP : PgR w a wd sy L) (v : Nat) (hQ : ∀ w', PgR w' a v sy [] → Fr w w' a 2 → Q none none w') : Sp Γ m2_emptyWith [.ref a, .int (nI v)] none w Q := by
  obtain ⟨f, e1, e2, e3, e4⟩ := hP
  refine entry Γ m2_emptyWith rfl _ (Nat.le_of_ble_eq_true rfl) _ _ _ ?_
  refine wp_ok kd2_emptyWith 400 0 bb2_emptyWith_0 _ _ _ _ _ _ oo2_emptyWith_0 ?_
  simp only [List.getElem?_cons_zero, List.getElem?_cons_succ, fv4, Nat.reduceAdd, Nat.reduceSub, wp, pst, stp, LG, lput, ls_tl, two, bc, EL, pad, popN, csum, Option.toList, List.cons_append, List.nil_append, List.set_cons_zero, List.set_cons_succ, List.length_cons, List.length_nil, true_and, and_true, Nat.reduceLT, Nat.reduceLeDiff, Nat.zero_le, Nat.le_refl, RI_i, RI_z0, RI_z1, Int32.reduceOfInt, Int8.reduceOfInt, Int16.reduceOfInt, Int64.reduceOfInt, Int8.toInt32_ofNat, Int16.toInt32_ofNat, Int.reduceNeg, Int32.ofInt_neg, Int8.ofInt_neg, Int16.ofInt_neg, Int32.toInt64_ofNat, Int32.reduceToNatClampNeg, Fin.isValue, Fin.val_one, Fin.val_zero, Fin.val_two, Int64.reduceOfNat, Int32.reduceOfNat, hdl, cutc, Nat.reduceEqDiff, reduceIte, FV, tyC, tyX0, tyX1, tyX2, tyX3, tyX4, tyX5, tyX6, tyX7, tyX8, tyX9, tyX10, Nat.reduceMul, c_le, c_lt, c_eq, c_in, c_cl, c_add, c_rem, c_ofN, Int32.add_zero, Int32.zero_add, c_lt0, c_ge0, c_le0, c_gt0, c_e0, c_m1, c_m1', false_implies, true_implies, implies_true, not_false_eq_true, not_true_eq_false, Nat.not_lt_zero, up_s, up_1, up_m, ff2_emptyWith, bb2_emptyWith_0, e1, e2, up_u]
  exact hQ _ ⟨f, up_s _ _ _, by rw [up_1]; exact e2, fun i hi => absurd hi (by simp), by simp⟩ (Fr.wr (by omega) (by omega))
end PAGE

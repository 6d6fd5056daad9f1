/-! STREAM -/
theorem SmR.len {w : PW} {a : Nat} {s : List Nat} (h : SmR w a s) : s.length ≤ 500 := by obtain ⟨f, -, -, -, h⟩ := h; exact h
theorem getD_set {α : Type} (L : List α) (i j : Nat) (v d : α) (hi : i < L.length) : (L.set i v).getD j d = if j = i then v else L.getD j d := by
  simp only [List.getD_eq_getElem?_getD, List.getElem?_set]
  by_cases h : i = j
  · subst h; simp [hi]
  · simp [h, Ne.symm h]
section STREAM
variable {Γ : Amb} {w : PW} {Q : Option Value → Option Nat → PW → Prop} {a : Nat} {s : List Nat}
theorem sp8_empty (hP : SmR w a s) (hQ : ∀ w', SmR w' a [] → Fr w w' a 2 → Q none none w') : Sp Γ m8_empty [.ref a] none w Q := by
  obtain ⟨f, e1, e2, e3, e4⟩ := hP
  refine entry Γ m8_empty rfl _ (Nat.le_of_ble_eq_true rfl) _ _ _ ?_
  refine wp_ok kd8_empty 400 0 bb8_empty_0 _ _ _ _ _ _ oo8_empty_0 ?_
  simp only [List.getElem?_cons_zero, List.getElem?_cons_succ, fv4, Nat.reduceAdd, Nat.reduceSub, wp, pst, stp, LG, lput, ls_tl, two, bc, EL, pad, popN, csum, Option.toList, List.cons_append, List.nil_append, List.set_cons_zero, List.set_cons_succ, List.length_cons, List.length_nil, true_and, and_true, Nat.reduceLT, Nat.reduceLeDiff, Nat.zero_le, Nat.le_refl, RI_i, RI_z0, RI_z1, Int32.reduceOfInt, Int8.reduceOfInt, Int16.reduceOfInt, Int64.reduceOfInt, Int8.toInt32_ofNat, Int16.toInt32_ofNat, Int.reduceNeg, Int32.ofInt_neg, Int8.ofInt_neg, Int16.ofInt_neg, Int32.toInt64_ofNat, Int32.reduceToNatClampNeg, Fin.isValue, Fin.val_one, Fin.val_zero, Fin.val_two, Int64.reduceOfNat, Int32.reduceOfNat, hdl, FV, tyC, tyX0, tyX1, tyX2, tyX3, tyX4, tyX5, tyX6, tyX7, tyX8, tyX9, tyX10, Nat.reduceMul, c_le, c_lt, c_eq, c_in, c_cl, c_add, c_rem, c_ofN, c_lt0, c_ge0, c_le0, c_gt0, c_e0, c_m1, c_m1', false_implies, true_implies, implies_true, not_false_eq_true, not_true_eq_false, Nat.not_lt_zero, up_s, up_1, up_m, ff8_empty, bb8_empty_0, e1, e2]
  exact hQ _ ⟨f, up_s _ _ _, by rw [up_1]; exact e2, fun i hi => absurd hi (by simp), by simp⟩ (Fr.wr (by omega) (by omega))
theorem sp8_has (hP : SmR w a s) (x : Int32) (h1 : ∀ j, j < s.length → x = nI j → Q (some (.int 1)) none w) (h0 : (∀ j, j < s.length → x ≠ nI j) → Q (some (.int 0)) none w) : Sp Γ m8_has [.ref a, .int x] none w Q := by
  obtain ⟨f, e1, e2, e3, e4⟩ := hP
  have b2 : s.length < 2147483648 := by omega
  refine entry Γ m8_has rfl _ (Nat.le_of_ble_eq_true rfl) _ _ _ ?_
  refine wp_ok kd8_has 400 0 bb8_has_0 _ _ _ _ _ _ oo8_has_0 ?_
  rcases i_cases x with hx | ⟨j, hj, rfl⟩
  · simp only [List.getElem?_cons_zero, List.getElem?_cons_succ, fv4, Nat.reduceAdd, Nat.reduceSub, wp, pst, stp, LG, lput, ls_tl, two, bc, EL, pad, popN, csum, Option.toList, List.cons_append, List.nil_append, List.set_cons_zero, List.set_cons_succ, List.length_cons, List.length_nil, true_and, and_true, Nat.reduceLT, Nat.reduceLeDiff, Nat.zero_le, Nat.le_refl, RI_i, RI_z0, RI_z1, Int32.reduceOfInt, Int8.reduceOfInt, Int16.reduceOfInt, Int64.reduceOfInt, Int8.toInt32_ofNat, Int16.toInt32_ofNat, Int.reduceNeg, Int32.ofInt_neg, Int8.ofInt_neg, Int16.ofInt_neg, Int32.toInt64_ofNat, Int32.reduceToNatClampNeg, Fin.isValue, Fin.val_one, Fin.val_zero, Fin.val_two, Int64.reduceOfNat, Int32.reduceOfNat, hdl, FV, tyC, tyX0, tyX1, tyX2, tyX3, tyX4, tyX5, tyX6, tyX7, tyX8, tyX9, tyX10, Nat.reduceMul, c_le, c_lt, c_eq, c_in, c_cl, c_add, c_rem, c_ofN, c_lt0, c_ge0, c_le0, c_gt0, c_e0, c_m1, c_m1', false_implies, true_implies, implies_true, not_false_eq_true, not_true_eq_false, Nat.not_lt_zero, up_s, up_1, up_m, ff8_has, bb8_has_0, bb8_has_25, bb8_has_26, cl_1, ca_1, e1, e2, hx]
    exact h0 (fun j hj => neg_ne hx j (by omega))
  · simp only [List.getElem?_cons_zero, List.getElem?_cons_succ, fv4, Nat.reduceAdd, Nat.reduceSub, wp, pst, stp, LG, lput, ls_tl, two, bc, EL, pad, popN, csum, Option.toList, List.cons_append, List.nil_append, List.set_cons_zero, List.set_cons_succ, List.length_cons, List.length_nil, true_and, and_true, Nat.reduceLT, Nat.reduceLeDiff, Nat.zero_le, Nat.le_refl, RI_i, RI_z0, RI_z1, Int32.reduceOfInt, Int8.reduceOfInt, Int16.reduceOfInt, Int64.reduceOfInt, Int8.toInt32_ofNat, Int16.toInt32_ofNat, Int.reduceNeg, Int32.ofInt_neg, Int8.ofInt_neg, Int16.ofInt_neg, Int32.toInt64_ofNat, Int32.reduceToNatClampNeg, Fin.isValue, Fin.val_one, Fin.val_zero, Fin.val_two, Int64.reduceOfNat, Int32.reduceOfNat, hdl, FV, tyC, tyX0, tyX1, tyX2, tyX3, tyX4, tyX5, tyX6, tyX7, tyX8, tyX9, tyX10, Nat.reduceMul, c_le, c_lt, c_eq, c_in, c_cl, c_add, c_rem, c_ofN, c_lt0, c_ge0, c_le0, c_gt0, c_e0, c_m1, c_m1', false_implies, true_implies, implies_true, not_false_eq_true, not_true_eq_false, Nat.not_lt_zero, up_s, up_1, up_m, ff8_has, bb8_has_0, bb8_has_25, bb8_has_26, cl_1, ca_1, e1, e2, hj, b2]
    refine ⟨fun h => h0 (fun i hi q => ?_), fun h => ⟨fun h' => absurd h' (by omega), fun h' => h1 j (by omega) rfl⟩⟩
    rw [c_eq hj (by omega)] at q
    omega
theorem sp8_isFull (hP : SmR w a s) (h1 : s.length = 500 → Q (some (.int 1)) none w) (h0 : s.length < 500 → Q (some (.int 0)) none w) : Sp Γ m8_isFull [.ref a] none w Q := by
  obtain ⟨f, e1, e2, e3, e4⟩ := hP
  have b2 : s.length < 2147483648 := by omega
  refine entry Γ m8_isFull rfl _ (Nat.le_of_ble_eq_true rfl) _ _ _ ?_
  refine wp_ok kd8_isFull 400 0 bb8_isFull_0 _ _ _ _ _ _ oo8_isFull_0 ?_
  simp only [List.getElem?_cons_zero, List.getElem?_cons_succ, fv4, Nat.reduceAdd, Nat.reduceSub, wp, pst, stp, LG, lput, ls_tl, two, bc, EL, pad, popN, csum, Option.toList, List.cons_append, List.nil_append, List.set_cons_zero, List.set_cons_succ, List.length_cons, List.length_nil, true_and, and_true, Nat.reduceLT, Nat.reduceLeDiff, Nat.zero_le, Nat.le_refl, RI_i, RI_z0, RI_z1, Int32.reduceOfInt, Int8.reduceOfInt, Int16.reduceOfInt, Int64.reduceOfInt, Int8.toInt32_ofNat, Int16.toInt32_ofNat, Int.reduceNeg, Int32.ofInt_neg, Int8.ofInt_neg, Int16.ofInt_neg, Int32.toInt64_ofNat, Int32.reduceToNatClampNeg, Fin.isValue, Fin.val_one, Fin.val_zero, Fin.val_two, Int64.reduceOfNat, Int32.reduceOfNat, hdl, FV, tyC, tyX0, tyX1, tyX2, tyX3, tyX4, tyX5, tyX6, tyX7, tyX8, tyX9, tyX10, Nat.reduceMul, c_le, c_lt, c_eq, c_in, c_cl, c_add, c_rem, c_ofN, c_lt0, c_ge0, c_le0, c_gt0, c_e0, c_m1, c_m1', false_implies, true_implies, implies_true, not_false_eq_true, not_true_eq_false, Nat.not_lt_zero, up_s, up_1, up_m, ff8_isFull, bb8_isFull_0, bb8_isFull_16, bb8_isFull_17, cl_1, ca_1, e1, e2, b2]
  exact ⟨fun h => h0 (by omega), fun h => h1 (by omega)⟩
theorem sp8_at (hP : SmR w a s) (j : Nat) (hj : j < 2147483648) (h1 : j < s.length → Q (some (.int (nI (s.getD j 0)))) none w) (h0 : s.length ≤ j → Q (some (.int (-1))) none w) : Sp Γ m8_at [.ref a, .int (nI j)] none w Q := by
  obtain ⟨f, e1, e2, e3, e4⟩ := hP
  have b2 : s.length < 2147483648 := by omega
  refine entry Γ m8_at rfl _ (Nat.le_of_ble_eq_true rfl) _ _ _ ?_
  refine wp_ok kd8_at 400 0 bb8_at_0 _ _ _ _ _ _ oo8_at_0 ?_
  simp only [List.getElem?_cons_zero, List.getElem?_cons_succ, fv4, Nat.reduceAdd, Nat.reduceSub, wp, pst, stp, LG, lput, ls_tl, two, bc, EL, pad, popN, csum, Option.toList, List.cons_append, List.nil_append, List.set_cons_zero, List.set_cons_succ, List.length_cons, List.length_nil, true_and, and_true, Nat.reduceLT, Nat.reduceLeDiff, Nat.zero_le, Nat.le_refl, RI_i, RI_z0, RI_z1, Int32.reduceOfInt, Int8.reduceOfInt, Int16.reduceOfInt, Int64.reduceOfInt, Int8.toInt32_ofNat, Int16.toInt32_ofNat, Int.reduceNeg, Int32.ofInt_neg, Int8.ofInt_neg, Int16.ofInt_neg, Int32.toInt64_ofNat, Int32.reduceToNatClampNeg, Fin.isValue, Fin.val_one, Fin.val_zero, Fin.val_two, Int64.reduceOfNat, Int32.reduceOfNat, hdl, FV, tyC, tyX0, tyX1, tyX2, tyX3, tyX4, tyX5, tyX6, tyX7, tyX8, tyX9, tyX10, Nat.reduceMul, c_le, c_lt, c_eq, c_in, c_cl, c_add, c_rem, c_ofN, c_lt0, c_ge0, c_le0, c_gt0, c_e0, c_m1, c_m1', false_implies, true_implies, implies_true, not_false_eq_true, not_true_eq_false, Nat.not_lt_zero, up_s, up_1, up_m, ff8_at, bb8_at_0, bb8_at_30, bb8_at_31, cl_1, ca_1, e1, e2, hj, b2]
  refine ⟨fun h => h0 h, fun h => ⟨fun h' => absurd h' (by omega), fun h' => ⟨by omega, ?_⟩⟩⟩
  rw [e3 j (by omega)]
  exact h1 (by omega)
theorem sp8_put (hP : SmR w a s) (j : Nat) (hj : j < 2147483648) (v : Nat) (h1 : j < s.length → ∀ w', SmR w' a (s.set j v) → Fr w w' a 2 → Q (some (.int 1)) none w') (h0 : s.length ≤ j → Q (some (.int 0)) none w) : Sp Γ m8_put [.ref a, .int (nI j), .int (nI v)] none w Q := by
  obtain ⟨f, e1, e2, e3, e4⟩ := hP
  have b2 : s.length < 2147483648 := by omega
  refine entry Γ m8_put rfl _ (Nat.le_of_ble_eq_true rfl) _ _ _ ?_
  refine wp_ok kd8_put 400 0 bb8_put_0 _ _ _ _ _ _ oo8_put_0 ?_
  simp only [List.getElem?_cons_zero, List.getElem?_cons_succ, fv4, Nat.reduceAdd, Nat.reduceSub, wp, pst, stp, LG, lput, ls_tl, two, bc, EL, pad, popN, csum, Option.toList, List.cons_append, List.nil_append, List.set_cons_zero, List.set_cons_succ, List.length_cons, List.length_nil, true_and, and_true, Nat.reduceLT, Nat.reduceLeDiff, Nat.zero_le, Nat.le_refl, RI_i, RI_z0, RI_z1, Int32.reduceOfInt, Int8.reduceOfInt, Int16.reduceOfInt, Int64.reduceOfInt, Int8.toInt32_ofNat, Int16.toInt32_ofNat, Int.reduceNeg, Int32.ofInt_neg, Int8.ofInt_neg, Int16.ofInt_neg, Int32.toInt64_ofNat, Int32.reduceToNatClampNeg, Fin.isValue, Fin.val_one, Fin.val_zero, Fin.val_two, Int64.reduceOfNat, Int32.reduceOfNat, hdl, FV, tyC, tyX0, tyX1, tyX2, tyX3, tyX4, tyX5, tyX6, tyX7, tyX8, tyX9, tyX10, Nat.reduceMul, c_le, c_lt, c_eq, c_in, c_cl, c_add, c_rem, c_ofN, c_lt0, c_ge0, c_le0, c_gt0, c_e0, c_m1, c_m1', false_implies, true_implies, implies_true, not_false_eq_true, not_true_eq_false, Nat.not_lt_zero, up_s, up_1, up_m, ff8_put, bb8_put_0, bb8_put_21, bb8_put_23, cl_1, ca_1, e1, e2, hj, b2]
  refine ⟨fun h => h0 h, fun h => ⟨fun h' => ⟨h', ?_⟩, fun h' => absurd h' (by omega)⟩⟩
  refine h1 (by omega) _ ⟨_, by rw [up_m, List.length_set]; exact e1, up_s _ _ _, fun i hi => ?_, by rw [List.length_set]; exact e4⟩ (Fr.wr (by omega) (by omega))
  rw [List.length_set] at hi
  rw [getD_set _ _ _ _ _ (by omega)]
  by_cases q : i = j
  · simp [upd, q]
  · simp only [upd, if_neg q]; exact e3 i hi
/-- where a marker stands -/
def mkr (s : List Nat) (p : Nat) : Prop := s[p]? = some 15 ∧ s[p + 1]? = some 0
theorem sp8_isMarker (hP : SmR w a s) (j : Nat) (hj : j < 2147483000) (hv : ∀ v ∈ s, v < 16) (h1 : mkr s j → Q (some (.int 1)) none w) (h0 : ¬ mkr s j → Q (some (.int 0)) none w) : Sp Γ m8_isMarker [.ref a, .int (nI j)] none w Q := by
  obtain ⟨f, e1, e2, e3, e4⟩ := id hP
  have b2 : s.length < 2147483648 := by omega
  have b3 : j < 2147483648 := by omega
  have hg : ∀ i, i < s.length → s[i]? = some (s.getD i 0) ∧ s.getD i 0 < 2147483648 := fun i hi => by
    have : s[i]? = some s[i] := List.getElem?_eq_getElem hi
    refine ⟨by simp [List.getD_eq_getElem?_getD, this], ?_⟩
    rw [List.getD_eq_getElem?_getD, this]
    have := hv _ (List.getElem_mem hi)
    simp only [Option.getD_some]
    omega
  refine entry Γ m8_isMarker rfl _ (Nat.le_of_ble_eq_true rfl) _ _ _ ?_
  refine wp_ok kd8_isMarker 400 0 bb8_isMarker_0 _ _ _ _ _ _ oo8_isMarker_0 ?_
  simp only [List.getElem?_cons_zero, List.getElem?_cons_succ, fv4, Nat.reduceAdd, Nat.reduceSub, wp, pst, stp, LG, lput, ls_tl, two, bc, EL, pad, popN, csum, Option.toList, List.cons_append, List.nil_append, List.set_cons_zero, List.set_cons_succ, List.length_cons, List.length_nil, true_and, and_true, Nat.reduceLT, Nat.reduceLeDiff, Nat.zero_le, Nat.le_refl, RI_i, RI_z0, RI_z1, Int32.reduceOfInt, Int8.reduceOfInt, Int16.reduceOfInt, Int64.reduceOfInt, Int8.toInt32_ofNat, Int16.toInt32_ofNat, Int.reduceNeg, Int32.ofInt_neg, Int8.ofInt_neg, Int16.ofInt_neg, Int32.toInt64_ofNat, Int32.reduceToNatClampNeg, Fin.isValue, Fin.val_one, Fin.val_zero, Fin.val_two, Int64.reduceOfNat, Int32.reduceOfNat, hdl, FV, tyC, tyX0, tyX1, tyX2, tyX3, tyX4, tyX5, tyX6, tyX7, tyX8, tyX9, tyX10, Nat.reduceMul, c_le, c_lt, c_eq, c_in, c_cl, c_add, c_rem, c_ofN, c_lt0, c_ge0, c_le0, c_gt0, c_e0, c_m1, c_m1', false_implies, true_implies, implies_true, not_false_eq_true, not_true_eq_false, Nat.not_lt_zero, up_s, up_1, up_m, ff8_isMarker, bb8_isMarker_0, bb8_isMarker_24, bb8_isMarker_25, cl_1, ca_1, cl_15, ca_15, e1, e2]
  refine sp8_at hP j b3 (fun hj1 => ?_) (fun hj1 => ?_)
  · unfold holdL
    simp only [List.getElem?_cons_zero, List.getElem?_cons_succ, fv4, Nat.reduceAdd, Nat.reduceSub, wp, pst, stp, LG, lput, ls_tl, two, bc, EL, pad, popN, csum, Option.toList, List.cons_append, List.nil_append, List.set_cons_zero, List.set_cons_succ, List.length_cons, List.length_nil, true_and, and_true, Nat.reduceLT, Nat.reduceLeDiff, Nat.zero_le, Nat.le_refl, RI_i, RI_z0, RI_z1, Int32.reduceOfInt, Int8.reduceOfInt, Int16.reduceOfInt, Int64.reduceOfInt, Int8.toInt32_ofNat, Int16.toInt32_ofNat, Int.reduceNeg, Int32.ofInt_neg, Int8.ofInt_neg, Int16.ofInt_neg, Int32.toInt64_ofNat, Int32.reduceToNatClampNeg, Fin.isValue, Fin.val_one, Fin.val_zero, Fin.val_two, Int64.reduceOfNat, Int32.reduceOfNat, hdl, FV, tyC, tyX0, tyX1, tyX2, tyX3, tyX4, tyX5, tyX6, tyX7, tyX8, tyX9, tyX10, Nat.reduceMul, c_le, c_lt, c_eq, c_in, c_cl, c_add, c_rem, c_ofN, c_lt0, c_ge0, c_le0, c_gt0, c_e0, c_m1, c_m1', false_implies, true_implies, implies_true, not_false_eq_true, not_true_eq_false, Nat.not_lt_zero, up_s, up_1, up_m, ff8_isMarker, bb8_isMarker_0, bb8_isMarker_24, bb8_isMarker_25, cl_1, ca_1, cl_15, ca_15, e1, e2, (hg j hj1).2]
    refine ⟨fun h => h0 (fun q => ?_), fun h => ?_⟩
    · have := q.1; rw [(hg j hj1).1] at this
      exact h (Option.some.inj this)
    · have h := Classical.not_not.mp h
      refine sp8_at hP (j + 1) (by omega) (fun hj2 => ?_) (fun hj2 => ?_)
      · unfold holdL
        simp only [List.getElem?_cons_zero, List.getElem?_cons_succ, fv4, Nat.reduceAdd, Nat.reduceSub, wp, pst, stp, LG, lput, ls_tl, two, bc, EL, pad, popN, csum, Option.toList, List.cons_append, List.nil_append, List.set_cons_zero, List.set_cons_succ, List.length_cons, List.length_nil, true_and, and_true, Nat.reduceLT, Nat.reduceLeDiff, Nat.zero_le, Nat.le_refl, RI_i, RI_z0, RI_z1, Int32.reduceOfInt, Int8.reduceOfInt, Int16.reduceOfInt, Int64.reduceOfInt, Int8.toInt32_ofNat, Int16.toInt32_ofNat, Int.reduceNeg, Int32.ofInt_neg, Int8.ofInt_neg, Int16.ofInt_neg, Int32.toInt64_ofNat, Int32.reduceToNatClampNeg, Fin.isValue, Fin.val_one, Fin.val_zero, Fin.val_two, Int64.reduceOfNat, Int32.reduceOfNat, hdl, FV, tyC, tyX0, tyX1, tyX2, tyX3, tyX4, tyX5, tyX6, tyX7, tyX8, tyX9, tyX10, Nat.reduceMul, c_le, c_lt, c_eq, c_in, c_cl, c_add, c_rem, c_ofN, c_lt0, c_ge0, c_le0, c_gt0, c_e0, c_m1, c_m1', false_implies, true_implies, implies_true, not_false_eq_true, not_true_eq_false, Nat.not_lt_zero, up_s, up_1, up_m, ff8_isMarker, bb8_isMarker_0, bb8_isMarker_24, bb8_isMarker_25, cl_1, ca_1, cl_15, ca_15, e1, e2, (hg (j + 1) hj2).2]
        refine ⟨fun h' => h0 (fun q => ?_), fun h' => h1 ⟨?_, ?_⟩⟩
        · have := q.2; rw [(hg (j + 1) hj2).1] at this
          exact h' (Option.some.inj this)
        · rw [(hg j hj1).1, h]
        · rw [(hg (j + 1) hj2).1, Classical.not_not.mp h']
      · unfold holdL
        simp only [List.getElem?_cons_zero, List.getElem?_cons_succ, fv4, Nat.reduceAdd, Nat.reduceSub, wp, pst, stp, LG, lput, ls_tl, two, bc, EL, pad, popN, csum, Option.toList, List.cons_append, List.nil_append, List.set_cons_zero, List.set_cons_succ, List.length_cons, List.length_nil, true_and, and_true, Nat.reduceLT, Nat.reduceLeDiff, Nat.zero_le, Nat.le_refl, RI_i, RI_z0, RI_z1, Int32.reduceOfInt, Int8.reduceOfInt, Int16.reduceOfInt, Int64.reduceOfInt, Int8.toInt32_ofNat, Int16.toInt32_ofNat, Int.reduceNeg, Int32.ofInt_neg, Int8.ofInt_neg, Int16.ofInt_neg, Int32.toInt64_ofNat, Int32.reduceToNatClampNeg, Fin.isValue, Fin.val_one, Fin.val_zero, Fin.val_two, Int64.reduceOfNat, Int32.reduceOfNat, hdl, FV, tyC, tyX0, tyX1, tyX2, tyX3, tyX4, tyX5, tyX6, tyX7, tyX8, tyX9, tyX10, Nat.reduceMul, c_le, c_lt, c_eq, c_in, c_cl, c_add, c_rem, c_ofN, c_lt0, c_ge0, c_le0, c_gt0, c_e0, c_m1, c_m1', false_implies, true_implies, implies_true, not_false_eq_true, not_true_eq_false, Nat.not_lt_zero, up_s, up_1, up_m, ff8_isMarker, bb8_isMarker_0, bb8_isMarker_24, bb8_isMarker_25, cl_1, ca_1, cl_15, ca_15, e1, e2]
        refine ⟨fun _ => h0 (fun q => ?_), fun h' => absurd h' (by decide)⟩
        have := q.2
        rw [List.getElem?_eq_none (by omega)] at this
        cases this
  · unfold holdL
    simp only [List.getElem?_cons_zero, List.getElem?_cons_succ, fv4, Nat.reduceAdd, Nat.reduceSub, wp, pst, stp, LG, lput, ls_tl, two, bc, EL, pad, popN, csum, Option.toList, List.cons_append, List.nil_append, List.set_cons_zero, List.set_cons_succ, List.length_cons, List.length_nil, true_and, and_true, Nat.reduceLT, Nat.reduceLeDiff, Nat.zero_le, Nat.le_refl, RI_i, RI_z0, RI_z1, Int32.reduceOfInt, Int8.reduceOfInt, Int16.reduceOfInt, Int64.reduceOfInt, Int8.toInt32_ofNat, Int16.toInt32_ofNat, Int.reduceNeg, Int32.ofInt_neg, Int8.ofInt_neg, Int16.ofInt_neg, Int32.toInt64_ofNat, Int32.reduceToNatClampNeg, Fin.isValue, Fin.val_one, Fin.val_zero, Fin.val_two, Int64.reduceOfNat, Int32.reduceOfNat, hdl, FV, tyC, tyX0, tyX1, tyX2, tyX3, tyX4, tyX5, tyX6, tyX7, tyX8, tyX9, tyX10, Nat.reduceMul, c_le, c_lt, c_eq, c_in, c_cl, c_add, c_rem, c_ofN, c_lt0, c_ge0, c_le0, c_gt0, c_e0, c_m1, c_m1', false_implies, true_implies, implies_true, not_false_eq_true, not_true_eq_false, Nat.not_lt_zero, up_s, up_1, up_m, ff8_isMarker, bb8_isMarker_0, bb8_isMarker_24, bb8_isMarker_25, cl_1, ca_1, cl_15, ca_15, e1, e2]
    refine ⟨fun _ => h0 (fun q => ?_), fun h' => absurd h' (by decide)⟩
    have := q.1
    rw [List.getElem?_eq_none (by omega)] at this
    cases this
theorem sp8_markerFrom (hP : SmR w a s) (hv : ∀ v ∈ s, v < 16) (i : Nat) (hi : i < 2000) (h1 : ∀ p, i ≤ p → p < s.length → mkr s p → (∀ q, i ≤ q → q < p → ¬ mkr s q) → Q (some (.int (nI p))) none w) (h0 : (∀ q, i ≤ q → ¬ mkr s q) → Q (some (.int (-1))) none w) : Sp Γ m8_markerFrom [.ref a, .int (nI i)] none w Q := by
  obtain ⟨f, e1, e2, e3, e4⟩ := id hP
  have b2 : s.length < 2147483648 := by omega
  refine entry Γ m8_markerFrom rfl _ (Nat.le_of_ble_eq_true rfl) _ _ _ ?_
  refine wp_ok kd8_markerFrom 400 0 bb8_markerFrom_0 _ _ _ _ _ _ oo8_markerFrom_0 ?_
  simp only [List.getElem?_cons_zero, List.getElem?_cons_succ, fv4, Nat.reduceAdd, Nat.reduceSub, wp, pst, stp, LG, lput, ls_tl, two, bc, EL, pad, popN, csum, Option.toList, List.cons_append, List.nil_append, List.set_cons_zero, List.set_cons_succ, List.length_cons, List.length_nil, true_and, and_true, Nat.reduceLT, Nat.reduceLeDiff, Nat.zero_le, Nat.le_refl, RI_i, RI_z0, RI_z1, Int32.reduceOfInt, Int8.reduceOfInt, Int16.reduceOfInt, Int64.reduceOfInt, Int8.toInt32_ofNat, Int16.toInt32_ofNat, Int.reduceNeg, Int32.ofInt_neg, Int8.ofInt_neg, Int16.ofInt_neg, Int32.toInt64_ofNat, Int32.reduceToNatClampNeg, Fin.isValue, Fin.val_one, Fin.val_zero, Fin.val_two, Int64.reduceOfNat, Int32.reduceOfNat, hdl, FV, tyC, tyX0, tyX1, tyX2, tyX3, tyX4, tyX5, tyX6, tyX7, tyX8, tyX9, tyX10, Nat.reduceMul, c_le, c_lt, c_eq, c_in, c_cl, c_add, c_rem, c_ofN, c_lt0, c_ge0, c_le0, c_gt0, c_e0, c_m1, c_m1', false_implies, true_implies, implies_true, not_false_eq_true, not_true_eq_false, Nat.not_lt_zero, up_s, up_1, up_m, ff8_markerFrom, bb8_markerFrom_0, bb8_markerFrom_2, bb8_markerFrom_20, bb8_markerFrom_26, cl_1, ca_1, e1, e2]
  have key : ∀ (n p : Nat), n = s.length + 1 - p → i ≤ p → p ≤ 2000 → (∀ q, i ≤ q → q < p → ¬ mkr s q) → G Γ m8_markerFrom Q (fun _ _ => False) 2 [some (.ref a), some (.int (nI i)), some (.int (nI p))] [] none w 0 0 := by
    intro n
    induction n with
    | zero =>
      intro p hn hp hp2 hno
      have b1 : p < 2147483648 := by omega
      refine wp_ok kd8_markerFrom 400 2 bb8_markerFrom_2 _ _ _ _ _ _ oo8_markerFrom_2 ?_
      simp only [List.getElem?_cons_zero, List.getElem?_cons_succ, fv4, Nat.reduceAdd, Nat.reduceSub, wp, pst, stp, LG, lput, ls_tl, two, bc, EL, pad, popN, csum, Option.toList, List.cons_append, List.nil_append, List.set_cons_zero, List.set_cons_succ, List.length_cons, List.length_nil, true_and, and_true, Nat.reduceLT, Nat.reduceLeDiff, Nat.zero_le, Nat.le_refl, RI_i, RI_z0, RI_z1, Int32.reduceOfInt, Int8.reduceOfInt, Int16.reduceOfInt, Int64.reduceOfInt, Int8.toInt32_ofNat, Int16.toInt32_ofNat, Int.reduceNeg, Int32.ofInt_neg, Int8.ofInt_neg, Int16.ofInt_neg, Int32.toInt64_ofNat, Int32.reduceToNatClampNeg, Fin.isValue, Fin.val_one, Fin.val_zero, Fin.val_two, Int64.reduceOfNat, Int32.reduceOfNat, hdl, FV, tyC, tyX0, tyX1, tyX2, tyX3, tyX4, tyX5, tyX6, tyX7, tyX8, tyX9, tyX10, Nat.reduceMul, c_le, c_lt, c_eq, c_in, c_cl, c_add, c_rem, c_ofN, c_lt0, c_ge0, c_le0, c_gt0, c_e0, c_m1, c_m1', false_implies, true_implies, implies_true, not_false_eq_true, not_true_eq_false, Nat.not_lt_zero, up_s, up_1, up_m, ff8_markerFrom, bb8_markerFrom_0, bb8_markerFrom_2, bb8_markerFrom_20, bb8_markerFrom_26, cl_1, ca_1, e1, e2, b1, b2]
      refine ⟨fun _ => h0 (fun q hq hm => ?_), fun h => absurd h (by omega)⟩
      by_cases hqp : q < p
      · exact hno q hq hqp hm
      · have := hm.1; rw [List.getElem?_eq_none (by omega)] at this; cases this
    | succ n ih =>
      intro p hn hp hp2 hno
      have b1 : p < 2147483648 := by omega
      refine wp_ok kd8_markerFrom 400 2 bb8_markerFrom_2 _ _ _ _ _ _ oo8_markerFrom_2 ?_
      simp only [List.getElem?_cons_zero, List.getElem?_cons_succ, fv4, Nat.reduceAdd, Nat.reduceSub, wp, pst, stp, LG, lput, ls_tl, two, bc, EL, pad, popN, csum, Option.toList, List.cons_append, List.nil_append, List.set_cons_zero, List.set_cons_succ, List.length_cons, List.length_nil, true_and, and_true, Nat.reduceLT, Nat.reduceLeDiff, Nat.zero_le, Nat.le_refl, RI_i, RI_z0, RI_z1, Int32.reduceOfInt, Int8.reduceOfInt, Int16.reduceOfInt, Int64.reduceOfInt, Int8.toInt32_ofNat, Int16.toInt32_ofNat, Int.reduceNeg, Int32.ofInt_neg, Int8.ofInt_neg, Int16.ofInt_neg, Int32.toInt64_ofNat, Int32.reduceToNatClampNeg, Fin.isValue, Fin.val_one, Fin.val_zero, Fin.val_two, Int64.reduceOfNat, Int32.reduceOfNat, hdl, FV, tyC, tyX0, tyX1, tyX2, tyX3, tyX4, tyX5, tyX6, tyX7, tyX8, tyX9, tyX10, Nat.reduceMul, c_le, c_lt, c_eq, c_in, c_cl, c_add, c_rem, c_ofN, c_lt0, c_ge0, c_le0, c_gt0, c_e0, c_m1, c_m1', false_implies, true_implies, implies_true, not_false_eq_true, not_true_eq_false, Nat.not_lt_zero, up_s, up_1, up_m, ff8_markerFrom, bb8_markerFrom_0, bb8_markerFrom_2, bb8_markerFrom_20, bb8_markerFrom_26, cl_1, ca_1, e1, e2, b1, b2]
      refine ⟨fun _ => h0 (fun q hq hm => ?_), fun h => ?_⟩
      · by_cases hqp : q < p
        · exact hno q hq hqp hm
        · have := hm.1; rw [List.getElem?_eq_none (by omega)] at this; cases this
      · refine sp8_isMarker hP p (by omega) hv (fun hm => ?_) (fun hm => ?_)
        · unfold holdL
          simp only [List.getElem?_cons_zero, List.getElem?_cons_succ, fv4, Nat.reduceAdd, Nat.reduceSub, wp, pst, stp, LG, lput, ls_tl, two, bc, EL, pad, popN, csum, Option.toList, List.cons_append, List.nil_append, List.set_cons_zero, List.set_cons_succ, List.length_cons, List.length_nil, true_and, and_true, Nat.reduceLT, Nat.reduceLeDiff, Nat.zero_le, Nat.le_refl, RI_i, RI_z0, RI_z1, Int32.reduceOfInt, Int8.reduceOfInt, Int16.reduceOfInt, Int64.reduceOfInt, Int8.toInt32_ofNat, Int16.toInt32_ofNat, Int.reduceNeg, Int32.ofInt_neg, Int8.ofInt_neg, Int16.ofInt_neg, Int32.toInt64_ofNat, Int32.reduceToNatClampNeg, Fin.isValue, Fin.val_one, Fin.val_zero, Fin.val_two, Int64.reduceOfNat, Int32.reduceOfNat, hdl, FV, tyC, tyX0, tyX1, tyX2, tyX3, tyX4, tyX5, tyX6, tyX7, tyX8, tyX9, tyX10, Nat.reduceMul, c_le, c_lt, c_eq, c_in, c_cl, c_add, c_rem, c_ofN, c_lt0, c_ge0, c_le0, c_gt0, c_e0, c_m1, c_m1', false_implies, true_implies, implies_true, not_false_eq_true, not_true_eq_false, Nat.not_lt_zero, up_s, up_1, up_m, ff8_markerFrom, bb8_markerFrom_0, bb8_markerFrom_2, bb8_markerFrom_20, bb8_markerFrom_26, cl_1, ca_1, e1, e2, b1, b2]
          exact ⟨fun h => absurd h (by decide), fun _ => h1 p hp (by omega) hm hno⟩
        · unfold holdL
          simp only [List.getElem?_cons_zero, List.getElem?_cons_succ, fv4, Nat.reduceAdd, Nat.reduceSub, wp, pst, stp, LG, lput, ls_tl, two, bc, EL, pad, popN, csum, Option.toList, List.cons_append, List.nil_append, List.set_cons_zero, List.set_cons_succ, List.length_cons, List.length_nil, true_and, and_true, Nat.reduceLT, Nat.reduceLeDiff, Nat.zero_le, Nat.le_refl, RI_i, RI_z0, RI_z1, Int32.reduceOfInt, Int8.reduceOfInt, Int16.reduceOfInt, Int64.reduceOfInt, Int8.toInt32_ofNat, Int16.toInt32_ofNat, Int.reduceNeg, Int32.ofInt_neg, Int8.ofInt_neg, Int16.ofInt_neg, Int32.toInt64_ofNat, Int32.reduceToNatClampNeg, Fin.isValue, Fin.val_one, Fin.val_zero, Fin.val_two, Int64.reduceOfNat, Int32.reduceOfNat, hdl, FV, tyC, tyX0, tyX1, tyX2, tyX3, tyX4, tyX5, tyX6, tyX7, tyX8, tyX9, tyX10, Nat.reduceMul, c_le, c_lt, c_eq, c_in, c_cl, c_add, c_rem, c_ofN, c_lt0, c_ge0, c_le0, c_gt0, c_e0, c_m1, c_m1', false_implies, true_implies, implies_true, not_false_eq_true, not_true_eq_false, Nat.not_lt_zero, up_s, up_1, up_m, ff8_markerFrom, bb8_markerFrom_0, bb8_markerFrom_2, bb8_markerFrom_20, bb8_markerFrom_26, cl_1, ca_1, e1, e2, b1, b2]
          refine ⟨fun _ => ih (p + 1) (by omega) (by omega) (by omega) (fun q hq hqp => ?_), fun h => absurd rfl h⟩
          by_cases hqe : q = p
          · rw [hqe]; exact hm
          · exact hno q hq (by omega)
  exact key _ i rfl (Nat.le_refl _) (by omega) (fun q hq hqp => absurd hq (by omega))
end STREAM

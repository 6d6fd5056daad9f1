/-! TEXTS -/
/-- a scanner's cell -/
abbrev scr (ph ki pc : Int32) (px : Int64) (dg pl nu : Int32) : va_E := .inr (4, [.int ph, .int ki, .int pc, .long px, .int dg, .int pl, .int nu])
/-- a buffer at b: its text; its scanner lies at b + 2 -/
def TxR (w : PW) (b : Nat) (T : List Nat) : Prop := ∃ f, w b = some (.inr (3, [.ref (b + 1), .int (nI T.length), .ref (b + 2)])) ∧ w (b + 1) = some (.inl (0, 60, .inl f)) ∧ IA f T ∧ T.length ≤ 60
/-- some scanner -/
def ScR (w : PW) (c : Nat) : Prop := ∃ ph ki pc px dg pl nu, w c = some (scr ph ki pc px dg pl nu)
theorem TxR.fr {w w' : PW} {a lo n : Nat} {T : List Nat} (h : TxR w a T) (hf : Fr w w' lo n) (hd : a + 2 ≤ lo ∨ lo + n ≤ a) : TxR w' a T := by
  obtain ⟨f, h1, h2, h3⟩ := h
  exact ⟨f, by rw [hf a (by omega)]; exact h1, by rw [hf (a + 1) (by omega)]; exact h2, h3⟩
section TEXT
variable {Γ : Amb} {w : PW} {Q : Option Value → Option Nat → PW → Prop} {b c : Nat} {T : List Nat}
theorem sp4_restart (hS : ScR w c) (hQ : ∀ w', w' c = some (scr 0 0 0 0 0 0 0) → Fr w w' c 1 → Q none none w') : Sp Γ m4_restart [.ref c] none w Q := by
  obtain ⟨ph, ki, pc, px, dg, pl, nu, h⟩ := hS
  have f0 : ∀ (w : PW) e, Fr w (up w c e) c 1 := fun w e => Fr.wr (by omega) (by omega)
  unfold scr at h
  refine entry Γ m4_restart rfl _ (Nat.le_of_ble_eq_true rfl) _ _ _ ?_
  refine wp_ok kd4_restart 400 0 bb4_restart_0 _ _ _ _ _ _ oo4_restart_0 ?_
  simp only [List.getElem?_cons_zero, List.getElem?_cons_succ, fv4, Nat.reduceAdd, Nat.reduceSub, wp, pst, stp, LG, lput, ls_tl, two, bc, EL, pad, popN, csum, Option.toList, List.cons_append, List.nil_append, List.set_cons_zero, List.set_cons_succ, List.length_cons, List.length_nil, true_and, and_true, Nat.reduceLT, Nat.reduceLeDiff, Nat.zero_le, Nat.le_refl, RI_i, RI_z0, RI_z1, Int32.reduceOfInt, Int8.reduceOfInt, Int16.reduceOfInt, Int64.reduceOfInt, Int8.toInt32_ofNat, Int16.toInt32_ofNat, Int.reduceNeg, Int32.ofInt_neg, Int8.ofInt_neg, Int16.ofInt_neg, Int32.toInt64_ofNat, Int32.reduceToNatClampNeg, Fin.isValue, Fin.val_one, Fin.val_zero, Fin.val_two, Int64.reduceOfNat, Int32.reduceOfNat, hdl, cutc, Nat.reduceEqDiff, reduceIte, FV, tyC, tyX0, tyX1, tyX2, tyX3, tyX4, tyX5, tyX6, tyX7, tyX8, tyX9, tyX10, Nat.reduceMul, c_le, c_lt, c_eq, c_in, c_cl, c_add, c_rem, c_ofN, Int32.add_zero, Int32.zero_add, c_lt0, c_ge0, c_le0, c_gt0, c_e0, c_m1, c_m1', false_implies, true_implies, implies_true, not_false_eq_true, not_true_eq_false, Nat.not_lt_zero, up_s, up_1, up_m, ff4_restart, bb4_restart_0, h, up_u]
  exact hQ _ (up_s _ _ _) (f0 _ _)
theorem sp3_isFull (hP : TxR w b T) (h1 : T.length = 60 → Q (some (.int 1)) none w) (h0 : T.length < 60 → Q (some (.int 0)) none w) : Sp Γ m3_isFull [.ref b] none w Q := by
  obtain ⟨f, e1, e2, e3, e4⟩ := id hP
  have b1 : T.length < 2147483648 := by omega
  refine entry Γ m3_isFull rfl _ (Nat.le_of_ble_eq_true rfl) _ _ _ ?_
  refine wp_ok kd3_isFull 400 0 bb3_isFull_0 _ _ _ _ _ _ oo3_isFull_0 ?_
  simp only [List.getElem?_cons_zero, List.getElem?_cons_succ, fv4, Nat.reduceAdd, Nat.reduceSub, wp, pst, stp, LG, lput, ls_tl, two, bc, EL, pad, popN, csum, Option.toList, List.cons_append, List.nil_append, List.set_cons_zero, List.set_cons_succ, List.length_cons, List.length_nil, true_and, and_true, Nat.reduceLT, Nat.reduceLeDiff, Nat.zero_le, Nat.le_refl, RI_i, RI_z0, RI_z1, Int32.reduceOfInt, Int8.reduceOfInt, Int16.reduceOfInt, Int64.reduceOfInt, Int8.toInt32_ofNat, Int16.toInt32_ofNat, Int.reduceNeg, Int32.ofInt_neg, Int8.ofInt_neg, Int16.ofInt_neg, Int32.toInt64_ofNat, Int32.reduceToNatClampNeg, Fin.isValue, Fin.val_one, Fin.val_zero, Fin.val_two, Int64.reduceOfNat, Int32.reduceOfNat, hdl, cutc, Nat.reduceEqDiff, reduceIte, FV, tyC, tyX0, tyX1, tyX2, tyX3, tyX4, tyX5, tyX6, tyX7, tyX8, tyX9, tyX10, Nat.reduceMul, c_le, c_lt, c_eq, c_in, c_cl, c_add, c_rem, c_ofN, Int32.add_zero, Int32.zero_add, c_lt0, c_ge0, c_le0, c_gt0, c_e0, c_m1, c_m1', false_implies, true_implies, implies_true, not_false_eq_true, not_true_eq_false, Nat.not_lt_zero, up_s, up_1, up_m, ff3_isFull, bb3_isFull_0, bb3_isFull_16, bb3_isFull_17, cl_1, ca_1, e1, e2, b1]
  exact ⟨fun h => h0 (by omega), fun h => h1 (by omega)⟩
theorem sp3_add (hP : TxR w b T) (v : Nat) (hl : T.length < 60) (hQ : ∀ w', TxR w' b (T ++ [v]) → Fr w w' b 2 → Q none none w') : Sp Γ m3_add [.ref b, .int (nI v)] none w Q := by
  obtain ⟨f, e1, e2, e3, e4⟩ := id hP
  have b1 : T.length < 2147483648 := by omega
  refine entry Γ m3_add rfl _ (Nat.le_of_ble_eq_true rfl) _ _ _ ?_
  refine wp_ok kd3_add 400 0 bb3_add_0 _ _ _ _ _ _ oo3_add_0 ?_
  simp only [List.getElem?_cons_zero, List.getElem?_cons_succ, fv4, Nat.reduceAdd, Nat.reduceSub, wp, pst, stp, LG, lput, ls_tl, two, bc, EL, pad, popN, csum, Option.toList, List.cons_append, List.nil_append, List.set_cons_zero, List.set_cons_succ, List.length_cons, List.length_nil, true_and, and_true, Nat.reduceLT, Nat.reduceLeDiff, Nat.zero_le, Nat.le_refl, RI_i, RI_z0, RI_z1, Int32.reduceOfInt, Int8.reduceOfInt, Int16.reduceOfInt, Int64.reduceOfInt, Int8.toInt32_ofNat, Int16.toInt32_ofNat, Int.reduceNeg, Int32.ofInt_neg, Int8.ofInt_neg, Int16.ofInt_neg, Int32.toInt64_ofNat, Int32.reduceToNatClampNeg, Fin.isValue, Fin.val_one, Fin.val_zero, Fin.val_two, Int64.reduceOfNat, Int32.reduceOfNat, hdl, cutc, Nat.reduceEqDiff, reduceIte, FV, tyC, tyX0, tyX1, tyX2, tyX3, tyX4, tyX5, tyX6, tyX7, tyX8, tyX9, tyX10, Nat.reduceMul, c_le, c_lt, c_eq, c_in, c_cl, c_add, c_rem, c_ofN, Int32.add_zero, Int32.zero_add, c_lt0, c_ge0, c_le0, c_gt0, c_e0, c_m1, c_m1', false_implies, true_implies, implies_true, not_false_eq_true, not_true_eq_false, Nat.not_lt_zero, up_s, up_1, up_m, ff3_add, bb3_add_0, bb3_add_39, cl_1, ca_1, e1, e2, b1, hl, Nat.not_le.mpr hl, up_n w (b + 1) b _ (by omega)]
  refine hQ _ ⟨upd f T.length (nI v), by rw [up_s, List.length_append]; rfl, ?_, IA_snoc e3 rfl, by rw [List.length_append]; simp; omega⟩ ((Fr.wr (by omega) (by omega)).tr (Fr.wr (by omega) (by omega)))
  rw [up_1, up_s]
theorem sp3_empty (hP : TxR w b T) (hQ : ∀ w', TxR w' b [] → Fr w w' b 2 → Q none none w') : Sp Γ m3_empty [.ref b] none w Q := by
  obtain ⟨f, e1, e2, e3, e4⟩ := id hP
  refine entry Γ m3_empty rfl _ (Nat.le_of_ble_eq_true rfl) _ _ _ ?_
  refine wp_ok kd3_empty 400 0 bb3_empty_0 _ _ _ _ _ _ oo3_empty_0 ?_
  simp only [List.getElem?_cons_zero, List.getElem?_cons_succ, fv4, Nat.reduceAdd, Nat.reduceSub, wp, pst, stp, LG, lput, ls_tl, two, bc, EL, pad, popN, csum, Option.toList, List.cons_append, List.nil_append, List.set_cons_zero, List.set_cons_succ, List.length_cons, List.length_nil, true_and, and_true, Nat.reduceLT, Nat.reduceLeDiff, Nat.zero_le, Nat.le_refl, RI_i, RI_z0, RI_z1, Int32.reduceOfInt, Int8.reduceOfInt, Int16.reduceOfInt, Int64.reduceOfInt, Int8.toInt32_ofNat, Int16.toInt32_ofNat, Int.reduceNeg, Int32.ofInt_neg, Int8.ofInt_neg, Int16.ofInt_neg, Int32.toInt64_ofNat, Int32.reduceToNatClampNeg, Fin.isValue, Fin.val_one, Fin.val_zero, Fin.val_two, Int64.reduceOfNat, Int32.reduceOfNat, hdl, cutc, Nat.reduceEqDiff, reduceIte, FV, tyC, tyX0, tyX1, tyX2, tyX3, tyX4, tyX5, tyX6, tyX7, tyX8, tyX9, tyX10, Nat.reduceMul, c_le, c_lt, c_eq, c_in, c_cl, c_add, c_rem, c_ofN, Int32.add_zero, Int32.zero_add, c_lt0, c_ge0, c_le0, c_gt0, c_e0, c_m1, c_m1', false_implies, true_implies, implies_true, not_false_eq_true, not_true_eq_false, Nat.not_lt_zero, up_s, up_1, up_m, ff3_empty, bb3_empty_0, e1, e2]
  exact hQ _ ⟨f, up_s _ _ _, by rw [up_1]; exact e2, fun i hi => absurd hi (by simp), by simp⟩ (Fr.wr (by omega) (by omega))
theorem sp3_codeAt (hP : TxR w b T) (j : Nat) (hj : j < 2147483648) (h1 : j < T.length → Q (some (.int (nI (T.getD j 0)))) none w) (h0 : T.length ≤ j → Q (some (.int (-1))) none w) : Sp Γ m3_codeAt [.ref b, .int (nI j)] none w Q := by
  obtain ⟨f, e1, e2, e3, e4⟩ := id hP
  have b1 : T.length < 2147483648 := by omega
  refine entry Γ m3_codeAt rfl _ (Nat.le_of_ble_eq_true rfl) _ _ _ ?_
  refine wp_ok kd3_codeAt 400 0 bb3_codeAt_0 _ _ _ _ _ _ oo3_codeAt_0 ?_
  simp only [List.getElem?_cons_zero, List.getElem?_cons_succ, fv4, Nat.reduceAdd, Nat.reduceSub, wp, pst, stp, LG, lput, ls_tl, two, bc, EL, pad, popN, csum, Option.toList, List.cons_append, List.nil_append, List.set_cons_zero, List.set_cons_succ, List.length_cons, List.length_nil, true_and, and_true, Nat.reduceLT, Nat.reduceLeDiff, Nat.zero_le, Nat.le_refl, RI_i, RI_z0, RI_z1, Int32.reduceOfInt, Int8.reduceOfInt, Int16.reduceOfInt, Int64.reduceOfInt, Int8.toInt32_ofNat, Int16.toInt32_ofNat, Int.reduceNeg, Int32.ofInt_neg, Int8.ofInt_neg, Int16.ofInt_neg, Int32.toInt64_ofNat, Int32.reduceToNatClampNeg, Fin.isValue, Fin.val_one, Fin.val_zero, Fin.val_two, Int64.reduceOfNat, Int32.reduceOfNat, hdl, cutc, Nat.reduceEqDiff, reduceIte, FV, tyC, tyX0, tyX1, tyX2, tyX3, tyX4, tyX5, tyX6, tyX7, tyX8, tyX9, tyX10, Nat.reduceMul, c_le, c_lt, c_eq, c_in, c_cl, c_add, c_rem, c_ofN, Int32.add_zero, Int32.zero_add, c_lt0, c_ge0, c_le0, c_gt0, c_e0, c_m1, c_m1', false_implies, true_implies, implies_true, not_false_eq_true, not_true_eq_false, Nat.not_lt_zero, up_s, up_1, up_m, ff3_codeAt, bb3_codeAt_0, bb3_codeAt_30, bb3_codeAt_31, cl_1, ca_1, e1, e2, b1, hj]
  refine ⟨fun h => h0 h, fun h => ⟨fun h2 => absurd h2 (by omega), fun _ => ⟨by omega, ?_⟩⟩⟩
  rw [e3 j (by omega)]
  exact h1 (by omega)
/-- a scanner: phase, kind, pixels' count, pixels, digits, place, number -/
abbrev PS : Type := Nat × Nat × Nat × Nat × Nat × Nat × Nat
abbrev scp (P : PS) : va_E := scr (nI P.1) (nI P.2.1) (nI P.2.2.1) (lN P.2.2.2.1) (nI P.2.2.2.2.1) (nI P.2.2.2.2.2.1) (nI P.2.2.2.2.2.2)
def PS0 : PS := (0, 0, 0, 0, 0, 0, 0)
def pdone (P : PS) : Bool := P.1 = 4 || (P.1 = 1 && decide (0 < P.2.2.1)) || (P.1 = 3 && decide (0 < P.2.2.2.2.1))
theorem sp4_isComplete (P : PS) (h : w c = some (scp P)) (p1 : P.1 ≤ 4) (p2 : P.2.2.1 ≤ 32) (p3 : P.2.2.2.2.1 ≤ 100) (h1 : pdone P = true → Q (some (.int 1)) none w) (h0 : pdone P = false → Q (some (.int 0)) none w) : Sp Γ m4_isComplete [.ref c] none w Q := by
  obtain ⟨ph, ki, pc, px, dg, pl, nu⟩ := P
  dsimp only at p1 p2 p3
  have b1 : ph < 2147483648 := by omega
  have b2 : pc < 2147483648 := by omega
  have b3 : dg < 2147483648 := by omega
  unfold scp scr at h
  dsimp only at h
  unfold pdone at h1 h0
  dsimp only at h1 h0
  refine entry Γ m4_isComplete rfl _ (Nat.le_of_ble_eq_true rfl) _ _ _ ?_
  refine wp_ok kd4_isComplete 400 0 bb4_isComplete_0 _ _ _ _ _ _ oo4_isComplete_0 ?_
  simp only [List.getElem?_cons_zero, List.getElem?_cons_succ, fv4, Nat.reduceAdd, Nat.reduceSub, wp, pst, stp, LG, lput, ls_tl, two, bc, EL, pad, popN, csum, Option.toList, List.cons_append, List.nil_append, List.set_cons_zero, List.set_cons_succ, List.length_cons, List.length_nil, true_and, and_true, Nat.reduceLT, Nat.reduceLeDiff, Nat.zero_le, Nat.le_refl, RI_i, RI_z0, RI_z1, Int32.reduceOfInt, Int8.reduceOfInt, Int16.reduceOfInt, Int64.reduceOfInt, Int8.toInt32_ofNat, Int16.toInt32_ofNat, Int.reduceNeg, Int32.ofInt_neg, Int8.ofInt_neg, Int16.ofInt_neg, Int32.toInt64_ofNat, Int32.reduceToNatClampNeg, Fin.isValue, Fin.val_one, Fin.val_zero, Fin.val_two, Int64.reduceOfNat, Int32.reduceOfNat, hdl, cutc, Nat.reduceEqDiff, reduceIte, FV, tyC, tyX0, tyX1, tyX2, tyX3, tyX4, tyX5, tyX6, tyX7, tyX8, tyX9, tyX10, Nat.reduceMul, c_le, c_lt, c_eq, c_in, c_cl, c_add, c_rem, c_ofN, Int32.add_zero, Int32.zero_add, c_lt0, c_ge0, c_le0, c_gt0, c_e0, c_m1, c_m1', false_implies, true_implies, implies_true, not_false_eq_true, not_true_eq_false, Nat.not_lt_zero, up_s, up_1, up_m, ff4_isComplete, bb4_isComplete_0, bb4_isComplete_23, bb4_isComplete_38, bb4_isComplete_42, bb4_isComplete_43, cl_1, ca_1, cl_3, ca_3, cl_4, ca_4, h, b1, b2, b3]
  simp only [Bool.or_eq_true, Bool.and_eq_true, decide_eq_true_eq] at h1
  simp only [Bool.or_eq_false_iff, Bool.and_eq_false_iff, decide_eq_false_iff_not] at h0
  refine ⟨fun _ => h1 (by omega), fun _ => ⟨fun _ => ⟨fun _ => h0 (by omega), fun _ => ⟨fun _ => h0 (by omega), fun _ => h1 (by omega)⟩⟩, fun _ => ⟨fun _ => h1 (by omega), fun _ => ⟨fun _ => h0 (by omega), fun _ => ⟨fun _ => h0 (by omega), fun _ => h1 (by omega)⟩⟩⟩⟩⟩
def dgb (dg v c m : Nat) : Bool := decide (48 ≤ c) && decide (c ≤ 57) && !(decide (0 < dg) && decide (v = 0)) && decide (10 * v + (c - 48) ≤ m)
theorem sp4_isDigitBehind (P : PS) (h : w c = some (scp P)) (v k m : Nat) (p3 : P.2.2.2.2.1 ≤ 100) (hv : v < 1000) (hk : k < 1000) (hm : m < 1000) (h1 : dgb P.2.2.2.2.1 v k m = true → Q (some (.int 1)) none w) (h0 : dgb P.2.2.2.2.1 v k m = false → Q (some (.int 0)) none w) : Sp Γ m4_isDigitBehind [.ref c, .int (nI v), .int (nI k), .int (nI m)] none w Q := by
  obtain ⟨ph, ki, pc, px, dg, pl, nu⟩ := P
  dsimp only at p3 h1 h0
  have b1 : v < 2147483648 := by omega
  have b2 : k < 2147483648 := by omega
  have b3 : dg < 2147483648 := by omega
  have b4 : m < 2147483648 := by omega
  unfold scp scr at h
  dsimp only at h
  unfold dgb at h1 h0
  simp only [Bool.and_eq_true, Bool.not_eq_true', Bool.and_eq_false_iff, decide_eq_true_eq, decide_eq_false_iff_not] at h1
  simp only [Bool.and_eq_false_iff, Bool.not_eq_false', Bool.and_eq_true, decide_eq_true_eq, decide_eq_false_iff_not] at h0
  by_cases hk48 : k < 48
  · refine entry Γ m4_isDigitBehind rfl _ (Nat.le_of_ble_eq_true rfl) _ _ _ ?_
    refine wp_ok kd4_isDigitBehind 400 0 bb4_isDigitBehind_0 _ _ _ _ _ _ oo4_isDigitBehind_0 ?_
    simp only [List.getElem?_cons_zero, List.getElem?_cons_succ, fv4, Nat.reduceAdd, Nat.reduceSub, wp, pst, stp, LG, lput, ls_tl, two, bc, EL, pad, popN, csum, Option.toList, List.cons_append, List.nil_append, List.set_cons_zero, List.set_cons_succ, List.length_cons, List.length_nil, true_and, and_true, Nat.reduceLT, Nat.reduceLeDiff, Nat.zero_le, Nat.le_refl, RI_i, RI_z0, RI_z1, Int32.reduceOfInt, Int8.reduceOfInt, Int16.reduceOfInt, Int64.reduceOfInt, Int8.toInt32_ofNat, Int16.toInt32_ofNat, Int.reduceNeg, Int32.ofInt_neg, Int8.ofInt_neg, Int16.ofInt_neg, Int32.toInt64_ofNat, Int32.reduceToNatClampNeg, Fin.isValue, Fin.val_one, Fin.val_zero, Fin.val_two, Int64.reduceOfNat, Int32.reduceOfNat, hdl, cutc, Nat.reduceEqDiff, reduceIte, FV, tyC, tyX0, tyX1, tyX2, tyX3, tyX4, tyX5, tyX6, tyX7, tyX8, tyX9, tyX10, Nat.reduceMul, c_le, c_lt, c_eq, c_in, c_cl, c_add, c_rem, c_ofN, Int32.add_zero, Int32.zero_add, c_lt0, c_ge0, c_le0, c_gt0, c_e0, c_m1, c_m1', false_implies, true_implies, implies_true, not_false_eq_true, not_true_eq_false, Nat.not_lt_zero, up_s, up_1, up_m, ff4_isDigitBehind, bb4_isDigitBehind_0, bb4_isDigitBehind_15, bb4_isDigitBehind_16, bb4_isDigitBehind_52, bb4_isDigitBehind_53, cl_1, ca_1, cl_10, ca_10, cl_48, ca_48, cl_57, ca_57, h, b1, b2, b3, b4, dl1]
    refine ⟨fun _ => ⟨fun _ => h0 (by omega), fun h => absurd hk48 h⟩, fun _ => ⟨fun _ => ⟨fun _ => h0 (by omega), fun h => absurd hk48 h⟩, fun _ => ⟨fun _ => h0 (by omega), fun h => absurd hk48 h⟩⟩⟩
  · have e48 : nI k - 48 = nI (k - 48) := c_subr (b := 48) (by omega)
    have b5 : 10 * v + (k - 48) < 2147483648 := by omega
    refine entry Γ m4_isDigitBehind rfl _ (Nat.le_of_ble_eq_true rfl) _ _ _ ?_
    refine wp_ok kd4_isDigitBehind 400 0 bb4_isDigitBehind_0 _ _ _ _ _ _ oo4_isDigitBehind_0 ?_
    simp only [List.getElem?_cons_zero, List.getElem?_cons_succ, fv4, Nat.reduceAdd, Nat.reduceSub, wp, pst, stp, LG, lput, ls_tl, two, bc, EL, pad, popN, csum, Option.toList, List.cons_append, List.nil_append, List.set_cons_zero, List.set_cons_succ, List.length_cons, List.length_nil, true_and, and_true, Nat.reduceLT, Nat.reduceLeDiff, Nat.zero_le, Nat.le_refl, RI_i, RI_z0, RI_z1, Int32.reduceOfInt, Int8.reduceOfInt, Int16.reduceOfInt, Int64.reduceOfInt, Int8.toInt32_ofNat, Int16.toInt32_ofNat, Int.reduceNeg, Int32.ofInt_neg, Int8.ofInt_neg, Int16.ofInt_neg, Int32.toInt64_ofNat, Int32.reduceToNatClampNeg, Fin.isValue, Fin.val_one, Fin.val_zero, Fin.val_two, Int64.reduceOfNat, Int32.reduceOfNat, hdl, cutc, Nat.reduceEqDiff, reduceIte, FV, tyC, tyX0, tyX1, tyX2, tyX3, tyX4, tyX5, tyX6, tyX7, tyX8, tyX9, tyX10, Nat.reduceMul, c_le, c_lt, c_eq, c_in, c_cl, c_add, c_rem, c_ofN, Int32.add_zero, Int32.zero_add, c_lt0, c_ge0, c_le0, c_gt0, c_e0, c_m1, c_m1', false_implies, true_implies, implies_true, not_false_eq_true, not_true_eq_false, Nat.not_lt_zero, up_s, up_1, up_m, ff4_isDigitBehind, bb4_isDigitBehind_0, bb4_isDigitBehind_15, bb4_isDigitBehind_16, bb4_isDigitBehind_52, bb4_isDigitBehind_53, cl_1, ca_1, cl_10, ca_10, cl_48, ca_48, cl_57, ca_57, h, b1, b2, b3, b4, b5, e48, dl1]
    refine ⟨fun _ => ⟨fun h => absurd h hk48, fun _ => ⟨fun _ => h0 (by omega), fun _ => ⟨fun _ => h0 (by omega), fun _ => h1 (by omega)⟩⟩⟩, fun _ => ⟨fun _ => ⟨fun h => absurd h hk48, fun _ => ⟨fun _ => h0 (by omega), fun _ => ⟨fun _ => h0 (by omega), fun _ => h1 (by omega)⟩⟩⟩, fun _ => ⟨fun h => absurd h hk48, fun _ => ⟨fun _ => h0 (by omega), fun _ => h0 (by omega)⟩⟩⟩⟩
theorem sp4_addPixel (P : PS) (h : w c = some (scp P)) (k : Nat) (hk : k < 1000) (p2 : P.2.2.1 ≤ 32) (h1 : P.2.2.1 < 32 → k = 46 ∨ k = 35 → ∀ w', w' c = some (scp (P.1, P.2.1, P.2.2.1 + 1, (if k = 35 then P.2.2.2.1 ||| 2 ^ P.2.2.1 else P.2.2.2.1), P.2.2.2.2)) → Fr w w' c 1 → Q (some (.int 1)) none w') (h0 : ¬(P.2.2.1 < 32 ∧ (k = 46 ∨ k = 35)) → Q (some (.int 0)) none w) : Sp Γ m4_addPixel [.ref c, .int (nI k)] none w Q := by
  obtain ⟨ph, ki, pc, px, dg, pl, nu⟩ := P
  dsimp only at p2 h1 h0
  have b1 : k < 2147483648 := by omega
  have b2 : pc < 2147483648 := by omega
  have f0 : ∀ (w : PW) e, Fr w (up w c e) c 1 := fun w e => Fr.wr (by omega) (by omega)
  unfold scp scr at h h1
  dsimp only at h h1
  refine entry Γ m4_addPixel rfl _ (Nat.le_of_ble_eq_true rfl) _ _ _ ?_
  refine wp_ok kd4_addPixel 400 0 bb4_addPixel_0 _ _ _ _ _ _ oo4_addPixel_0 ?_
  have hor : pc < 32 → lN px ||| (1 : Int64) <<< ((nI pc).toInt64 &&& 63) = lN (px ||| 2 ^ pc) := fun hp => by
    rw [show (1 : Int64) = lN 1 from rfl, wb_shl 1 (show pc < 64 by omega), Nat.one_mul, fb_orL]
  simp only [List.getElem?_cons_zero, List.getElem?_cons_succ, fv4, Nat.reduceAdd, Nat.reduceSub, wp, pst, stp, LG, lput, ls_tl, two, bc, EL, pad, popN, csum, Option.toList, List.cons_append, List.nil_append, List.set_cons_zero, List.set_cons_succ, List.length_cons, List.length_nil, true_and, and_true, Nat.reduceLT, Nat.reduceLeDiff, Nat.zero_le, Nat.le_refl, RI_i, RI_z0, RI_z1, Int32.reduceOfInt, Int8.reduceOfInt, Int16.reduceOfInt, Int64.reduceOfInt, Int8.toInt32_ofNat, Int16.toInt32_ofNat, Int.reduceNeg, Int32.ofInt_neg, Int8.ofInt_neg, Int16.ofInt_neg, Int32.toInt64_ofNat, Int32.reduceToNatClampNeg, Fin.isValue, Fin.val_one, Fin.val_zero, Fin.val_two, Int64.reduceOfNat, Int32.reduceOfNat, hdl, cutc, Nat.reduceEqDiff, reduceIte, FV, tyC, tyX0, tyX1, tyX2, tyX3, tyX4, tyX5, tyX6, tyX7, tyX8, tyX9, tyX10, Nat.reduceMul, c_le, c_lt, c_eq, c_in, c_cl, c_add, c_rem, c_ofN, Int32.add_zero, Int32.zero_add, c_lt0, c_ge0, c_le0, c_gt0, c_e0, c_m1, c_m1', false_implies, true_implies, implies_true, not_false_eq_true, not_true_eq_false, Nat.not_lt_zero, up_s, up_1, up_m, ff4_addPixel, bb4_addPixel_0, bb4_addPixel_21, bb4_addPixel_23, bb4_addPixel_44, cl_1, ca_1, cl_32, ca_32, cl_35, ca_35, cl_46, ca_46, h, b1, b2]
  refine ⟨fun _ => h0 (by omega), fun hp => ?_⟩
  rw [hor (by omega)]
  have hp2 : pc < 32 := by omega
  refine ⟨fun k46 => ⟨fun k35 => ?_, fun k35 => absurd (Classical.not_not.mp k35) (by omega)⟩, fun k46 => ⟨fun k35 => ⟨fun h => absurd k35 h, fun _ => ?_⟩, fun k35 => h0 (by omega)⟩⟩
  · refine h1 hp2 (Or.inl k46) _ ?_ (f0 _ _)
    rw [if_neg k35]; exact up_s _ _ _
  · refine h1 hp2 (Or.inr k35) _ ?_ ((f0 _ _).tr (f0 _ _))
    rw [if_pos k35]; exact up_s _ _ _
theorem sp4_begin (P : PS) (h : w c = some (scp P)) (k : Nat) (hk : k < 1000) (h1 : ∀ ph', (ph' = 1 ∧ k = 43) ∨ (ph' = 2 ∧ k = 120) ∨ (ph' = 4 ∧ (k = 45 ∨ k = 114 ∨ k = 115)) → ∀ w', w' c = some (scp (ph', k, P.2.2)) → Fr w w' c 1 → Q (some (.int 1)) none w') (h0 : k ≠ 43 → k ≠ 120 → k ≠ 45 → k ≠ 114 → k ≠ 115 → ∀ w', ScR w' c → Fr w w' c 1 → Q (some (.int 0)) none w') : Sp Γ m4_begin [.ref c, .int (nI k)] none w Q := by
  obtain ⟨ph, ki, pc, px, dg, pl, nu⟩ := P
  dsimp only at h1 h0
  have b1 : k < 2147483648 := by omega
  have f0 : ∀ (w : PW) e, Fr w (up w c e) c 1 := fun w e => Fr.wr (by omega) (by omega)
  unfold scp scr at h h1
  dsimp only at h h1
  refine entry Γ m4_begin rfl _ (Nat.le_of_ble_eq_true rfl) _ _ _ ?_
  refine wp_ok kd4_begin 400 0 bb4_begin_0 _ _ _ _ _ _ oo4_begin_0 ?_
  have kI : (nI k).toInt = (k : Int) := Int32.toInt_ofNat_of_lt (by omega)
  have t1 : (((6 : Nat) : Int) + 50).toNat = 56 := rfl
  have t2 : (((6 : Nat) : Int) + 64).toNat = 70 := rfl
  have t3 : (((6 : Nat) : Int) + 57).toNat = 63 := rfl
  simp only [List.getElem?_cons_zero, List.getElem?_cons_succ, fv4, Nat.reduceAdd, Nat.reduceSub, wp, pst, stp, LG, lput, ls_tl, two, bc, EL, pad, popN, csum, Option.toList, List.cons_append, List.nil_append, List.set_cons_zero, List.set_cons_succ, List.length_cons, List.length_nil, true_and, and_true, Nat.reduceLT, Nat.reduceLeDiff, Nat.zero_le, Nat.le_refl, RI_i, RI_z0, RI_z1, Int32.reduceOfInt, Int8.reduceOfInt, Int16.reduceOfInt, Int64.reduceOfInt, Int8.toInt32_ofNat, Int16.toInt32_ofNat, Int.reduceNeg, Int32.ofInt_neg, Int8.ofInt_neg, Int16.ofInt_neg, Int32.toInt64_ofNat, Int32.reduceToNatClampNeg, Fin.isValue, Fin.val_one, Fin.val_zero, Fin.val_two, Int64.reduceOfNat, Int32.reduceOfNat, hdl, cutc, Nat.reduceEqDiff, reduceIte, FV, tyC, tyX0, tyX1, tyX2, tyX3, tyX4, tyX5, tyX6, tyX7, tyX8, tyX9, tyX10, Nat.reduceMul, c_le, c_lt, c_eq, c_in, c_cl, c_add, c_rem, c_ofN, Int32.add_zero, Int32.zero_add, c_lt0, c_ge0, c_le0, c_gt0, c_e0, c_m1, c_m1', false_implies, true_implies, implies_true, not_false_eq_true, not_true_eq_false, Nat.not_lt_zero, up_s, up_1, up_m, ff4_begin, bb4_begin_0, bb4_begin_56, bb4_begin_63, bb4_begin_70, bb4_begin_77, cl_1, ca_1, cl_2, ca_2, cl_4, ca_4, h, b1, lsw, kI, t1, t2, t3]
  have F2 : ∀ e1 e2, Fr w (up (up w c e1) c e2) c 1 := fun e1 e2 => (f0 _ _).tr (f0 _ _)
  refine ⟨fun e => h1 1 (by omega) _ (up_s _ _ _) (F2 _ _), fun a1 => ⟨fun e => h1 4 (by omega) _ (up_s _ _ _) (F2 _ _), fun a2 => ⟨fun e => h1 4 (by omega) _ (up_s _ _ _) (F2 _ _), fun a3 => ⟨fun e => h1 4 (by omega) _ (up_s _ _ _) (F2 _ _), fun a4 => ⟨fun e => h1 2 (by omega) _ (up_s _ _ _) (F2 _ _), fun a5 => ?_⟩⟩⟩⟩⟩
  exact h0 (by omega) (by omega) (by omega) (by omega) (by omega) _ ⟨_, _, _, _, _, _, _, up_s _ _ _⟩ (f0 _ _)
theorem sp4_addToNumber (P : PS) (h : w c = some (scp P)) (k : Nat) (hk : k < 1000) (p3 : P.2.2.2.2.1 ≤ 100) (p5 : P.2.2.2.2.2.2 < 1000) (h1 : dgb P.2.2.2.2.1 P.2.2.2.2.2.2 k 15 = true → ∀ w', w' c = some (scp (P.1, P.2.1, P.2.2.1, P.2.2.2.1, P.2.2.2.2.1 + 1, P.2.2.2.2.2.1, 10 * P.2.2.2.2.2.2 + (k - 48))) → Fr w w' c 1 → Q (some (.int 1)) none w') (h0 : dgb P.2.2.2.2.1 P.2.2.2.2.2.2 k 15 = false → Q (some (.int 0)) none w) : Sp Γ m4_addToNumber [.ref c, .int (nI k)] none w Q := by
  have hh := h
  obtain ⟨ph, ki, pc, px, dg, pl, nu⟩ := P
  dsimp only at p3 p5 h1 h0
  have b1 : k < 2147483648 := by omega
  have b2 : nu < 2147483648 := by omega
  have b3 : dg < 2147483648 := by omega
  have f0 : ∀ (w : PW) e, Fr w (up w c e) c 1 := fun w e => Fr.wr (by omega) (by omega)
  unfold scp scr at h h1
  dsimp only at h h1
  refine entry Γ m4_addToNumber rfl _ (Nat.le_of_ble_eq_true rfl) _ _ _ ?_
  refine wp_ok kd4_addToNumber 400 0 bb4_addToNumber_0 _ _ _ _ _ _ oo4_addToNumber_0 ?_
  simp only [List.getElem?_cons_zero, List.getElem?_cons_succ, fv4, Nat.reduceAdd, Nat.reduceSub, wp, pst, stp, LG, lput, ls_tl, two, bc, EL, pad, popN, csum, Option.toList, List.cons_append, List.nil_append, List.set_cons_zero, List.set_cons_succ, List.length_cons, List.length_nil, true_and, and_true, Nat.reduceLT, Nat.reduceLeDiff, Nat.zero_le, Nat.le_refl, RI_i, RI_z0, RI_z1, Int32.reduceOfInt, Int8.reduceOfInt, Int16.reduceOfInt, Int64.reduceOfInt, Int8.toInt32_ofNat, Int16.toInt32_ofNat, Int.reduceNeg, Int32.ofInt_neg, Int8.ofInt_neg, Int16.ofInt_neg, Int32.toInt64_ofNat, Int32.reduceToNatClampNeg, Fin.isValue, Fin.val_one, Fin.val_zero, Fin.val_two, Int64.reduceOfNat, Int32.reduceOfNat, hdl, cutc, Nat.reduceEqDiff, reduceIte, FV, tyC, tyX0, tyX1, tyX2, tyX3, tyX4, tyX5, tyX6, tyX7, tyX8, tyX9, tyX10, Nat.reduceMul, c_le, c_lt, c_eq, c_in, c_cl, c_add, c_rem, c_ofN, Int32.add_zero, Int32.zero_add, c_lt0, c_ge0, c_le0, c_gt0, c_e0, c_m1, c_m1', false_implies, true_implies, implies_true, not_false_eq_true, not_true_eq_false, Nat.not_lt_zero, up_s, up_1, up_m, ff4_addToNumber, bb4_addToNumber_0, bb4_addToNumber_16, cl_1, ca_1, cl_10, ca_10, cl_15, ca_15, cl_48, ca_48, h]
  refine sp4_isDigitBehind _ hh nu k 15 p3 p5 hk (by decide) (fun hd => ?_) (fun hd => ?_)
  · have hd2 := hd
    unfold dgb at hd2
    simp only [Bool.and_eq_true, decide_eq_true_eq] at hd2
    have e48 : nI k - 48 = nI (k - 48) := c_subr (b := 48) (by omega)
    unfold holdL
    simp only [List.getElem?_cons_zero, List.getElem?_cons_succ, fv4, Nat.reduceAdd, Nat.reduceSub, wp, pst, stp, LG, lput, ls_tl, two, bc, EL, pad, popN, csum, Option.toList, List.cons_append, List.nil_append, List.set_cons_zero, List.set_cons_succ, List.length_cons, List.length_nil, true_and, and_true, Nat.reduceLT, Nat.reduceLeDiff, Nat.zero_le, Nat.le_refl, RI_i, RI_z0, RI_z1, Int32.reduceOfInt, Int8.reduceOfInt, Int16.reduceOfInt, Int64.reduceOfInt, Int8.toInt32_ofNat, Int16.toInt32_ofNat, Int.reduceNeg, Int32.ofInt_neg, Int8.ofInt_neg, Int16.ofInt_neg, Int32.toInt64_ofNat, Int32.reduceToNatClampNeg, Fin.isValue, Fin.val_one, Fin.val_zero, Fin.val_two, Int64.reduceOfNat, Int32.reduceOfNat, hdl, cutc, Nat.reduceEqDiff, reduceIte, FV, tyC, tyX0, tyX1, tyX2, tyX3, tyX4, tyX5, tyX6, tyX7, tyX8, tyX9, tyX10, Nat.reduceMul, c_le, c_lt, c_eq, c_in, c_cl, c_add, c_rem, c_ofN, Int32.add_zero, Int32.zero_add, c_lt0, c_ge0, c_le0, c_gt0, c_e0, c_m1, c_m1', false_implies, true_implies, implies_true, not_false_eq_true, not_true_eq_false, Nat.not_lt_zero, up_s, up_1, up_m, ff4_addToNumber, bb4_addToNumber_0, bb4_addToNumber_16, cl_1, ca_1, cl_10, ca_10, cl_15, ca_15, cl_48, ca_48, h, b2, b3, e48, dl1]
    exact h1 hd _ (up_s _ _ _) ((f0 _ _).tr (f0 _ _))
  · unfold holdL
    simp only [List.getElem?_cons_zero, List.getElem?_cons_succ, fv4, Nat.reduceAdd, Nat.reduceSub, wp, pst, stp, LG, lput, ls_tl, two, bc, EL, pad, popN, csum, Option.toList, List.cons_append, List.nil_append, List.set_cons_zero, List.set_cons_succ, List.length_cons, List.length_nil, true_and, and_true, Nat.reduceLT, Nat.reduceLeDiff, Nat.zero_le, Nat.le_refl, RI_i, RI_z0, RI_z1, Int32.reduceOfInt, Int8.reduceOfInt, Int16.reduceOfInt, Int64.reduceOfInt, Int8.toInt32_ofNat, Int16.toInt32_ofNat, Int.reduceNeg, Int32.ofInt_neg, Int8.ofInt_neg, Int16.ofInt_neg, Int32.toInt64_ofNat, Int32.reduceToNatClampNeg, Fin.isValue, Fin.val_one, Fin.val_zero, Fin.val_two, Int64.reduceOfNat, Int32.reduceOfNat, hdl, cutc, Nat.reduceEqDiff, reduceIte, FV, tyC, tyX0, tyX1, tyX2, tyX3, tyX4, tyX5, tyX6, tyX7, tyX8, tyX9, tyX10, Nat.reduceMul, c_le, c_lt, c_eq, c_in, c_cl, c_add, c_rem, c_ofN, Int32.add_zero, Int32.zero_add, c_lt0, c_ge0, c_le0, c_gt0, c_e0, c_m1, c_m1', false_implies, true_implies, implies_true, not_false_eq_true, not_true_eq_false, Nat.not_lt_zero, up_s, up_1, up_m, ff4_addToNumber, bb4_addToNumber_0, bb4_addToNumber_16, cl_1, ca_1, cl_10, ca_10, cl_15, ca_15, cl_48, ca_48, h, b2, b3]
    exact h0 hd
theorem sp4_addToPlace (P : PS) (h : w c = some (scp P)) (k : Nat) (hk : k < 1000) (p3 : P.2.2.2.2.1 ≤ 100) (p5 : P.2.2.2.2.2.1 < 1000) (hE : k = 61 → 0 < P.2.2.2.2.1 → ∀ w', w' c = some (scp (3, P.2.1, P.2.2.1, P.2.2.2.1, 0, P.2.2.2.2.2)) → Fr w w' c 1 → Q (some (.int 1)) none w') (h1 : ¬(k = 61 ∧ 0 < P.2.2.2.2.1) → dgb P.2.2.2.2.1 P.2.2.2.2.2.1 k 499 = true → ∀ w', w' c = some (scp (P.1, P.2.1, P.2.2.1, P.2.2.2.1, P.2.2.2.2.1 + 1, 10 * P.2.2.2.2.2.1 + (k - 48), P.2.2.2.2.2.2)) → Fr w w' c 1 → Q (some (.int 1)) none w') (h0 : ¬(k = 61 ∧ 0 < P.2.2.2.2.1) → dgb P.2.2.2.2.1 P.2.2.2.2.2.1 k 499 = false → Q (some (.int 0)) none w) : Sp Γ m4_addToPlace [.ref c, .int (nI k)] none w Q := by
  have hh := h
  obtain ⟨ph, ki, pc, px, dg, pl, nu⟩ := P
  dsimp only at p3 p5 h1 h0 hE
  have b1 : k < 2147483648 := by omega
  have b2 : pl < 2147483648 := by omega
  have b3 : dg < 2147483648 := by omega
  have f0 : ∀ (w : PW) e, Fr w (up w c e) c 1 := fun w e => Fr.wr (by omega) (by omega)
  unfold scp scr at h h1 hE
  dsimp only at h h1 hE
  have hJ : ¬(k = 61 ∧ 0 < dg) → G Γ m4_addToPlace Q (fun _ _ => False) 25 [some (.ref c), some (.int (nI k))] [] none w 0 0 := by
    intro hne
    refine wp_ok kd4_addToPlace 400 25 bb4_addToPlace_25 _ _ _ _ _ _ oo4_addToPlace_25 ?_
    simp only [List.getElem?_cons_zero, List.getElem?_cons_succ, fv4, Nat.reduceAdd, Nat.reduceSub, wp, pst, stp, LG, lput, ls_tl, two, bc, EL, pad, popN, csum, Option.toList, List.cons_append, List.nil_append, List.set_cons_zero, List.set_cons_succ, List.length_cons, List.length_nil, true_and, and_true, Nat.reduceLT, Nat.reduceLeDiff, Nat.zero_le, Nat.le_refl, RI_i, RI_z0, RI_z1, Int32.reduceOfInt, Int8.reduceOfInt, Int16.reduceOfInt, Int64.reduceOfInt, Int8.toInt32_ofNat, Int16.toInt32_ofNat, Int.reduceNeg, Int32.ofInt_neg, Int8.ofInt_neg, Int16.ofInt_neg, Int32.toInt64_ofNat, Int32.reduceToNatClampNeg, Fin.isValue, Fin.val_one, Fin.val_zero, Fin.val_two, Int64.reduceOfNat, Int32.reduceOfNat, hdl, cutc, Nat.reduceEqDiff, reduceIte, FV, tyC, tyX0, tyX1, tyX2, tyX3, tyX4, tyX5, tyX6, tyX7, tyX8, tyX9, tyX10, Nat.reduceMul, c_le, c_lt, c_eq, c_in, c_cl, c_add, c_rem, c_ofN, Int32.add_zero, Int32.zero_add, c_lt0, c_ge0, c_le0, c_gt0, c_e0, c_m1, c_m1', false_implies, true_implies, implies_true, not_false_eq_true, not_true_eq_false, Nat.not_lt_zero, up_s, up_1, up_m, ff4_addToPlace, bb4_addToPlace_0, bb4_addToPlace_25, bb4_addToPlace_42, cl_1, ca_1, cl_3, ca_3, cl_10, ca_10, cl_48, ca_48, cl_61, ca_61, cl_499, ca_499, h]
    refine sp4_isDigitBehind _ hh pl k 499 p3 p5 hk (by decide) (fun hd => ?_) (fun hd => ?_)
    · have hd2 := hd
      unfold dgb at hd2
      simp only [Bool.and_eq_true, decide_eq_true_eq] at hd2
      have e48 : nI k - 48 = nI (k - 48) := c_subr (b := 48) (by omega)
      unfold holdL
      simp only [List.getElem?_cons_zero, List.getElem?_cons_succ, fv4, Nat.reduceAdd, Nat.reduceSub, wp, pst, stp, LG, lput, ls_tl, two, bc, EL, pad, popN, csum, Option.toList, List.cons_append, List.nil_append, List.set_cons_zero, List.set_cons_succ, List.length_cons, List.length_nil, true_and, and_true, Nat.reduceLT, Nat.reduceLeDiff, Nat.zero_le, Nat.le_refl, RI_i, RI_z0, RI_z1, Int32.reduceOfInt, Int8.reduceOfInt, Int16.reduceOfInt, Int64.reduceOfInt, Int8.toInt32_ofNat, Int16.toInt32_ofNat, Int.reduceNeg, Int32.ofInt_neg, Int8.ofInt_neg, Int16.ofInt_neg, Int32.toInt64_ofNat, Int32.reduceToNatClampNeg, Fin.isValue, Fin.val_one, Fin.val_zero, Fin.val_two, Int64.reduceOfNat, Int32.reduceOfNat, hdl, cutc, Nat.reduceEqDiff, reduceIte, FV, tyC, tyX0, tyX1, tyX2, tyX3, tyX4, tyX5, tyX6, tyX7, tyX8, tyX9, tyX10, Nat.reduceMul, c_le, c_lt, c_eq, c_in, c_cl, c_add, c_rem, c_ofN, Int32.add_zero, Int32.zero_add, c_lt0, c_ge0, c_le0, c_gt0, c_e0, c_m1, c_m1', false_implies, true_implies, implies_true, not_false_eq_true, not_true_eq_false, Nat.not_lt_zero, up_s, up_1, up_m, ff4_addToPlace, bb4_addToPlace_0, bb4_addToPlace_25, bb4_addToPlace_42, cl_1, ca_1, cl_3, ca_3, cl_10, ca_10, cl_48, ca_48, cl_61, ca_61, cl_499, ca_499, h, b2, b3, e48, dl1]
      exact h1 hne hd _ (up_s _ _ _) ((f0 _ _).tr (f0 _ _))
    · unfold holdL
      simp only [List.getElem?_cons_zero, List.getElem?_cons_succ, fv4, Nat.reduceAdd, Nat.reduceSub, wp, pst, stp, LG, lput, ls_tl, two, bc, EL, pad, popN, csum, Option.toList, List.cons_append, List.nil_append, List.set_cons_zero, List.set_cons_succ, List.length_cons, List.length_nil, true_and, and_true, Nat.reduceLT, Nat.reduceLeDiff, Nat.zero_le, Nat.le_refl, RI_i, RI_z0, RI_z1, Int32.reduceOfInt, Int8.reduceOfInt, Int16.reduceOfInt, Int64.reduceOfInt, Int8.toInt32_ofNat, Int16.toInt32_ofNat, Int.reduceNeg, Int32.ofInt_neg, Int8.ofInt_neg, Int16.ofInt_neg, Int32.toInt64_ofNat, Int32.reduceToNatClampNeg, Fin.isValue, Fin.val_one, Fin.val_zero, Fin.val_two, Int64.reduceOfNat, Int32.reduceOfNat, hdl, cutc, Nat.reduceEqDiff, reduceIte, FV, tyC, tyX0, tyX1, tyX2, tyX3, tyX4, tyX5, tyX6, tyX7, tyX8, tyX9, tyX10, Nat.reduceMul, c_le, c_lt, c_eq, c_in, c_cl, c_add, c_rem, c_ofN, Int32.add_zero, Int32.zero_add, c_lt0, c_ge0, c_le0, c_gt0, c_e0, c_m1, c_m1', false_implies, true_implies, implies_true, not_false_eq_true, not_true_eq_false, Nat.not_lt_zero, up_s, up_1, up_m, ff4_addToPlace, bb4_addToPlace_0, bb4_addToPlace_25, bb4_addToPlace_42, cl_1, ca_1, cl_3, ca_3, cl_10, ca_10, cl_48, ca_48, cl_61, ca_61, cl_499, ca_499, h, b2, b3]
      exact h0 hne hd
  refine entry Γ m4_addToPlace rfl _ (Nat.le_of_ble_eq_true rfl) _ _ _ ?_
  refine wp_ok (kd_cut 25 kd4_addToPlace) 400 0 bb4_addToPlace_0 _ _ _ _ _ _ oo4_addToPlace_0 ?_
  simp only [List.getElem?_cons_zero, List.getElem?_cons_succ, fv4, Nat.reduceAdd, Nat.reduceSub, wp, pst, stp, LG, lput, ls_tl, two, bc, EL, pad, popN, csum, Option.toList, List.cons_append, List.nil_append, List.set_cons_zero, List.set_cons_succ, List.length_cons, List.length_nil, true_and, and_true, Nat.reduceLT, Nat.reduceLeDiff, Nat.zero_le, Nat.le_refl, RI_i, RI_z0, RI_z1, Int32.reduceOfInt, Int8.reduceOfInt, Int16.reduceOfInt, Int64.reduceOfInt, Int8.toInt32_ofNat, Int16.toInt32_ofNat, Int.reduceNeg, Int32.ofInt_neg, Int8.ofInt_neg, Int16.ofInt_neg, Int32.toInt64_ofNat, Int32.reduceToNatClampNeg, Fin.isValue, Fin.val_one, Fin.val_zero, Fin.val_two, Int64.reduceOfNat, Int32.reduceOfNat, hdl, cutc, Nat.reduceEqDiff, reduceIte, FV, tyC, tyX0, tyX1, tyX2, tyX3, tyX4, tyX5, tyX6, tyX7, tyX8, tyX9, tyX10, Nat.reduceMul, c_le, c_lt, c_eq, c_in, c_cl, c_add, c_rem, c_ofN, Int32.add_zero, Int32.zero_add, c_lt0, c_ge0, c_le0, c_gt0, c_e0, c_m1, c_m1', false_implies, true_implies, implies_true, not_false_eq_true, not_true_eq_false, Nat.not_lt_zero, up_s, up_1, up_m, ff4_addToPlace, bb4_addToPlace_0, bb4_addToPlace_25, bb4_addToPlace_42, cl_1, ca_1, cl_3, ca_3, cl_10, ca_10, cl_48, ca_48, cl_61, ca_61, cl_499, ca_499, h, b1, b2, b3]
  exact ⟨fun a => hJ (by omega), fun a => ⟨fun d => hJ (by omega), fun d => hE (Classical.not_not.mp a) (by omega) _ (up_s _ _ _) ((f0 _ _).tr (f0 _ _))⟩⟩
/-- one character more: the scanner then, unless it is wrong -/
def pstp (P : PS) (k : Nat) : Option PS :=
  if k = 59 then (if pdone P = true then some PS0 else none)
  else if P.1 = 0 then (if k = 43 then some (1, k, P.2.2) else if k = 120 then some (2, k, P.2.2) else if k = 45 ∨ k = 114 ∨ k = 115 then some (4, k, P.2.2) else none)
  else if P.1 = 1 then (if P.2.2.1 < 32 ∧ (k = 46 ∨ k = 35) then some (P.1, P.2.1, P.2.2.1 + 1, (if k = 35 then P.2.2.2.1 ||| 2 ^ P.2.2.1 else P.2.2.2.1), P.2.2.2.2) else none)
  else if P.1 = 2 then (if k = 61 ∧ 0 < P.2.2.2.2.1 then some (3, P.2.1, P.2.2.1, P.2.2.2.1, 0, P.2.2.2.2.2) else if dgb P.2.2.2.2.1 P.2.2.2.2.2.1 k 499 = true then some (P.1, P.2.1, P.2.2.1, P.2.2.2.1, P.2.2.2.2.1 + 1, 10 * P.2.2.2.2.2.1 + (k - 48), P.2.2.2.2.2.2) else none)
  else if P.1 = 3 then (if dgb P.2.2.2.2.1 P.2.2.2.2.2.2 k 15 = true then some (P.1, P.2.1, P.2.2.1, P.2.2.2.1, P.2.2.2.2.1 + 1, P.2.2.2.2.2.1, 10 * P.2.2.2.2.2.2 + (k - 48)) else none)
  else none
theorem sp4_accept (P : PS) (h : w c = some (scp P)) (k : Nat) (hk : k < 1000) (p1 : P.1 ≤ 4) (p2 : P.2.2.1 ≤ 32) (p3 : P.2.2.2.2.1 ≤ 100) (p4 : P.2.2.2.2.2.1 < 1000) (p5 : P.2.2.2.2.2.2 < 1000) (h1 : ∀ P', pstp P k = some P' → ∀ w', w' c = some (scp P') → Fr w w' c 1 → Q (some (.int 1)) none w') (h0 : pstp P k = none → ∀ w', ScR w' c → Fr w w' c 1 → Q (some (.int 0)) none w') : Sp Γ m4_accept [.ref c, .int (nI k)] none w Q := by
  have b1 : k < 2147483648 := by omega
  have b2 : P.1 < 2147483648 := by omega
  have h' := h
  have hsc : ScR w c := ⟨_, _, _, _, _, _, _, h⟩
  unfold scp scr at h'
  have kI : (nI P.1).toInt = (P.1 : Int) := Int32.toInt_ofNat_of_lt (by omega)
  unfold pstp at h1 h0
  refine entry Γ m4_accept rfl _ (Nat.le_of_ble_eq_true rfl) _ _ _ ?_
  refine wp_ok kd4_accept 400 0 bb4_accept_0 _ _ _ _ _ _ oo4_accept_0 ?_
  simp only [List.getElem?_cons_zero, List.getElem?_cons_succ, fv4, Nat.reduceAdd, Nat.reduceSub, wp, pst, stp, LG, lput, ls_tl, two, bc, EL, pad, popN, csum, Option.toList, List.cons_append, List.nil_append, List.set_cons_zero, List.set_cons_succ, List.length_cons, List.length_nil, true_and, and_true, Nat.reduceLT, Nat.reduceLeDiff, Nat.zero_le, Nat.le_refl, RI_i, RI_z0, RI_z1, Int32.reduceOfInt, Int8.reduceOfInt, Int16.reduceOfInt, Int64.reduceOfInt, Int8.toInt32_ofNat, Int16.toInt32_ofNat, Int.reduceNeg, Int32.ofInt_neg, Int8.ofInt_neg, Int16.ofInt_neg, Int32.toInt64_ofNat, Int32.reduceToNatClampNeg, Fin.isValue, Fin.val_one, Fin.val_zero, Fin.val_two, Int64.reduceOfNat, Int32.reduceOfNat, hdl, cutc, Nat.reduceEqDiff, reduceIte, FV, tyC, tyX0, tyX1, tyX2, tyX3, tyX4, tyX5, tyX6, tyX7, tyX8, tyX9, tyX10, Nat.reduceMul, c_le, c_lt, c_eq, c_in, c_cl, c_add, c_rem, c_ofN, Int32.add_zero, Int32.zero_add, c_lt0, c_ge0, c_le0, c_gt0, c_e0, c_m1, c_m1', false_implies, true_implies, implies_true, not_false_eq_true, not_true_eq_false, Nat.not_lt_zero, up_s, up_1, up_m, ff4_accept, bb4_accept_0, bb4_accept_17, bb4_accept_52, bb4_accept_58, bb4_accept_64, bb4_accept_70, bb4_accept_76, cl_59, ca_59, h', b1, b2, tsw, kI]
  trace_state
  sorry
end TEXT

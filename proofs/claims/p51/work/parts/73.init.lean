/-! CONSTRUCTORS -/
theorem dfl_0 : dfl 0 = [.null, .int 0, .null, .int 0, .int 0] := rfl
theorem dfl_1 : dfl 1 = [.int 0, .int 0, .null] := rfl
theorem dfl_2 : dfl 2 = [.int 0, .int 0, .int 0, .null] := rfl
theorem dfl_3 : dfl 3 = [.null, .int 0, .null] := rfl
theorem dfl_4 : dfl 4 = [.int 0, .int 0, .int 0, .long 0, .int 0, .int 0, .int 0] := rfl
theorem dfl_5 : dfl 5 = [.int 0, .int 0, .int 0] := rfl
theorem dfl_6 : dfl 6 = [.int 0, .null, .int 0, .null, .null] := rfl
theorem dfl_7 : dfl 7 = [.null, .null, .null, .int 0, .int 0] := rfl
theorem dfl_8 : dfl 8 = [.int 0, .null] := rfl
theorem dfl_9 : dfl 9 = [.null, .null, .int 0, .null, .null, .null, .null, .null] := rfl
theorem nar_0 (n : Nat) : nar 0 n = .inl (0, n, .inl (fun _ => 0)) := rfl
theorem nar_1 (n : Nat) : nar 1 n = .inl (1, n, .inr (.inl (fun _ => 0))) := rfl
theorem nar_2 (n : Nat) : nar 2 n = .inl (2, n, .inr (.inr (.inr (.inr (fun _ => none))))) := rfl
theorem nn_i (k : Nat) (h : k < 2147483648) : (¬ (OfNat.ofNat k : Int32) < 0) = True := by
  rw [litI]
  exact eq_true (nI_pos h)
theorem IA_nil (f : Nat → Int32) : IA f [] := fun j hj => absurd hj (Nat.not_lt_zero j)
theorem LA_nil (f : Nat → Int64) : LA f [] := fun j hj => absurd hj (Nat.not_lt_zero j)
abbrev S0 : AS := (24, 3, [], [], R0, [], none)
section INIT
variable {Γ : Amb} {w : PW} {Q : Option Value → Option Nat → PW → Prop} {a : Nat}
theorem sp2_init (h1 : w a = some (.inr (2, dfl 2))) (hQ : ∀ w', PgR w' a 24 3 [] → Fr w w' a 2 → Q none (some (a + 2)) w') : Sp Γ m2_init [.ref a] (some (a + 1)) w Q := by
  rw [dfl_2] at h1
  refine entry Γ m2_init rfl _ (Nat.le_of_ble_eq_true rfl) _ _ _ ?_
  refine wp_ok kd2_init 400 0 bb2_init_0 _ _ _ _ _ _ oo2_init_0 ?_
  simp only [List.getElem?_cons_zero, List.getElem?_cons_succ, fv4, Nat.reduceAdd, Nat.reduceSub, wp, pst, stp, LG, lput, ls_tl, two, bc, EL, pad, popN, csum, Option.toList, List.cons_append, List.nil_append, List.set_cons_zero, List.set_cons_succ, List.length_cons, List.length_nil, true_and, and_true, Nat.reduceLT, Nat.reduceLeDiff, Nat.zero_le, Nat.le_refl, RI_i, RI_z0, RI_z1, Int32.reduceOfInt, Int8.reduceOfInt, Int16.reduceOfInt, Int64.reduceOfInt, Int8.toInt32_ofNat, Int16.toInt32_ofNat, Int.reduceNeg, Int32.ofInt_neg, Int8.ofInt_neg, Int16.ofInt_neg, Int32.toInt64_ofNat, Int32.reduceToNatClampNeg, Fin.isValue, Fin.val_one, Fin.val_zero, Fin.val_two, Int64.reduceOfNat, Int32.reduceOfNat, hdl, cutc, Nat.reduceEqDiff, reduceIte, FV, tyC, tyX0, tyX1, tyX2, tyX3, tyX4, tyX5, tyX6, tyX7, tyX8, tyX9, tyX10, Nat.reduceMul, c_le, c_lt, c_eq, c_in, c_cl, c_add, c_rem, c_ofN, Int32.add_zero, Int32.zero_add, c_lt0, c_ge0, c_le0, c_gt0, c_e0, c_m1, c_m1', false_implies, true_implies, implies_true, not_false_eq_true, not_true_eq_false, Nat.not_lt_zero, up_s, up_1, up_m, ff2_init, bb2_init_0, cl_3, ca_3, cl_10, ca_10, cl_24, ca_24, h1, nar_1, up_u, Int32.reduceLT]
  refine hQ _ ⟨fun _ => 0, by (simp [up]; try decide), by (simp [up]; try decide), LA_nil _, by decide⟩ (fun b hb => ?_)
  have n1 : b ≠ a := by omega
  have n2 : b ≠ a + 1 := by omega
  simp [up, n1, n2]
theorem sp8_init (h1 : w a = some (.inr (8, dfl 8))) (hQ : ∀ w', SmR w' a [] → Fr w w' a 2 → Q none (some (a + 2)) w') : Sp Γ m8_init [.ref a] (some (a + 1)) w Q := by
  rw [dfl_8] at h1
  refine entry Γ m8_init rfl _ (Nat.le_of_ble_eq_true rfl) _ _ _ ?_
  refine wp_ok kd8_init 400 0 bb8_init_0 _ _ _ _ _ _ oo8_init_0 ?_
  simp only [List.getElem?_cons_zero, List.getElem?_cons_succ, fv4, Nat.reduceAdd, Nat.reduceSub, wp, pst, stp, LG, lput, ls_tl, two, bc, EL, pad, popN, csum, Option.toList, List.cons_append, List.nil_append, List.set_cons_zero, List.set_cons_succ, List.length_cons, List.length_nil, true_and, and_true, Nat.reduceLT, Nat.reduceLeDiff, Nat.zero_le, Nat.le_refl, RI_i, RI_z0, RI_z1, Int32.reduceOfInt, Int8.reduceOfInt, Int16.reduceOfInt, Int64.reduceOfInt, Int8.toInt32_ofNat, Int16.toInt32_ofNat, Int.reduceNeg, Int32.ofInt_neg, Int8.ofInt_neg, Int16.ofInt_neg, Int32.toInt64_ofNat, Int32.reduceToNatClampNeg, Fin.isValue, Fin.val_one, Fin.val_zero, Fin.val_two, Int64.reduceOfNat, Int32.reduceOfNat, hdl, cutc, Nat.reduceEqDiff, reduceIte, FV, tyC, tyX0, tyX1, tyX2, tyX3, tyX4, tyX5, tyX6, tyX7, tyX8, tyX9, tyX10, Nat.reduceMul, c_le, c_lt, c_eq, c_in, c_cl, c_add, c_rem, c_ofN, Int32.add_zero, Int32.zero_add, c_lt0, c_ge0, c_le0, c_gt0, c_e0, c_m1, c_m1', false_implies, true_implies, implies_true, not_false_eq_true, not_true_eq_false, Nat.not_lt_zero, up_s, up_1, up_m, ff8_init, bb8_init_0, cl_500, ca_500, h1, nar_0, up_u, Int32.reduceLT]
  refine hQ _ ⟨fun _ => 0, by (simp [up]; try decide), by (simp [up]; try decide), IA_nil _, by decide⟩ (fun b hb => ?_)
  have n1 : b ≠ a := by omega
  have n2 : b ≠ a + 1 := by omega
  simp [up, n1, n2]
theorem sp6_init (h1 : w a = some (.inr (6, dfl 6))) (hQ : ∀ w', RcR w' a R0 [] → Fr w w' a 4 → Q none (some (a + 4)) w') : Sp Γ m6_init [.ref a] (some (a + 1)) w Q := by
  rw [dfl_6] at h1
  have q2 : ∀ (w : PW) (e : va_E), up w (a + 2) e a = w a := fun w e => up_n _ _ _ _ (by omega)
  have q3 : ∀ (w : PW) (e : va_E), up w (a + 3) e a = w a := fun w e => up_n _ _ _ _ (by omega)
  refine entry Γ m6_init rfl _ (Nat.le_of_ble_eq_true rfl) _ _ _ ?_
  refine wp_ok kd6_init 400 0 bb6_init_0 _ _ _ _ _ _ oo6_init_0 ?_
  simp only [List.getElem?_cons_zero, List.getElem?_cons_succ, fv4, Nat.reduceAdd, Nat.reduceSub, wp, pst, stp, LG, lput, ls_tl, two, bc, EL, pad, popN, csum, Option.toList, List.cons_append, List.nil_append, List.set_cons_zero, List.set_cons_succ, List.length_cons, List.length_nil, true_and, and_true, Nat.reduceLT, Nat.reduceLeDiff, Nat.zero_le, Nat.le_refl, RI_i, RI_z0, RI_z1, Int32.reduceOfInt, Int8.reduceOfInt, Int16.reduceOfInt, Int64.reduceOfInt, Int8.toInt32_ofNat, Int16.toInt32_ofNat, Int.reduceNeg, Int32.ofInt_neg, Int8.ofInt_neg, Int16.ofInt_neg, Int32.toInt64_ofNat, Int32.reduceToNatClampNeg, Fin.isValue, Fin.val_one, Fin.val_zero, Fin.val_two, Int64.reduceOfNat, Int32.reduceOfNat, hdl, cutc, Nat.reduceEqDiff, reduceIte, FV, tyC, tyX0, tyX1, tyX2, tyX3, tyX4, tyX5, tyX6, tyX7, tyX8, tyX9, tyX10, Nat.reduceMul, c_le, c_lt, c_eq, c_in, c_cl, c_add, c_rem, c_ofN, Int32.add_zero, Int32.zero_add, c_lt0, c_ge0, c_le0, c_gt0, c_e0, c_m1, c_m1', false_implies, true_implies, implies_true, not_false_eq_true, not_true_eq_false, Nat.not_lt_zero, up_s, up_1, up_m, ff6_init, bb6_init_0, cl_10, ca_10, cl_20, ca_20, h1, nar_0, nar_1, up_u, Int32.reduceLT, Nat.add_assoc, q2, q3]
  refine hQ _ ⟨0, fun _ => 0, fun _ => 0, fun _ => 0, by (simp [up]; try decide), by (simp [up]; try decide), by (simp [up]; try decide), by (simp [up]; try decide), by decide, rfl, fun j _ => by rw [R0_get]; simp, fun j p _ h => by rw [R0_get] at h; exact absurd h (by simp), IA_nil _, IA_nil _, by decide⟩ (fun b hb => ?_)
  have n1 : b ≠ a := by omega
  have n2 : b ≠ a + 1 := by omega
  have n3 : b ≠ a + 2 := by omega
  have n4 : b ≠ a + 3 := by omega
  simp [up, n1, n2, n3, n4]
theorem sp0_init (h1 : w a = some (.inr (0, dfl 0))) (hQ : ∀ w', CoR w' a [] [] 0 → Fr w w' a 3 → Q none (some (a + 3)) w') : Sp Γ m0_init [.ref a] (some (a + 1)) w Q := by
  rw [dfl_0] at h1
  have q2 : ∀ (w : PW) (e : va_E), up w (a + 2) e a = w a := fun w e => up_n _ _ _ _ (by omega)
  refine entry Γ m0_init rfl _ (Nat.le_of_ble_eq_true rfl) _ _ _ ?_
  refine wp_ok kd0_init 400 0 bb0_init_0 _ _ _ _ _ _ oo0_init_0 ?_
  simp only [List.getElem?_cons_zero, List.getElem?_cons_succ, fv4, Nat.reduceAdd, Nat.reduceSub, wp, pst, stp, LG, lput, ls_tl, two, bc, EL, pad, popN, csum, Option.toList, List.cons_append, List.nil_append, List.set_cons_zero, List.set_cons_succ, List.length_cons, List.length_nil, true_and, and_true, Nat.reduceLT, Nat.reduceLeDiff, Nat.zero_le, Nat.le_refl, RI_i, RI_z0, RI_z1, Int32.reduceOfInt, Int8.reduceOfInt, Int16.reduceOfInt, Int64.reduceOfInt, Int8.toInt32_ofNat, Int16.toInt32_ofNat, Int.reduceNeg, Int32.ofInt_neg, Int8.ofInt_neg, Int16.ofInt_neg, Int32.toInt64_ofNat, Int32.reduceToNatClampNeg, Fin.isValue, Fin.val_one, Fin.val_zero, Fin.val_two, Int64.reduceOfNat, Int32.reduceOfNat, hdl, cutc, Nat.reduceEqDiff, reduceIte, FV, tyC, tyX0, tyX1, tyX2, tyX3, tyX4, tyX5, tyX6, tyX7, tyX8, tyX9, tyX10, Nat.reduceMul, c_le, c_lt, c_eq, c_in, c_cl, c_add, c_rem, c_ofN, Int32.add_zero, Int32.zero_add, c_lt0, c_ge0, c_le0, c_gt0, c_e0, c_m1, c_m1', false_implies, true_implies, implies_true, not_false_eq_true, not_true_eq_false, Nat.not_lt_zero, up_s, up_1, up_m, ff0_init, bb0_init_0, cl_33, ca_33, cl_71, ca_71, h1, nar_0, up_u, Int32.reduceLT, Nat.add_assoc, q2]
  refine hQ _ ⟨fun _ => 0, fun _ => 0, by (simp [up]; try decide), by (simp [up]; try decide), by (simp [up]; try decide), IA_nil _, IA_nil _, by decide, by decide⟩ (fun b hb => ?_)
  have n1 : b ≠ a := by omega
  have n2 : b ≠ a + 1 := by omega
  have n3 : b ≠ a + 2 := by omega
  simp [up, n1, n2, n3]
theorem sp4_init {z : Option Nat} (h1 : w a = some (.inr (4, dfl 4))) (hQ : ∀ w', ScR w' a → Fr w w' a 1 → Q none z w') : Sp Γ m4_init [.ref a] z w Q := by
  rw [dfl_4] at h1
  refine entry Γ m4_init rfl _ (Nat.le_of_ble_eq_true rfl) _ _ _ ?_
  refine wp_ok kd4_init 400 0 bb4_init_0 _ _ _ _ _ _ oo4_init_0 ?_
  simp only [List.getElem?_cons_zero, List.getElem?_cons_succ, fv4, Nat.reduceAdd, Nat.reduceSub, wp, pst, stp, LG, lput, ls_tl, two, bc, EL, pad, popN, csum, Option.toList, List.cons_append, List.nil_append, List.set_cons_zero, List.set_cons_succ, List.length_cons, List.length_nil, true_and, and_true, Nat.reduceLT, Nat.reduceLeDiff, Nat.zero_le, Nat.le_refl, RI_i, RI_z0, RI_z1, Int32.reduceOfInt, Int8.reduceOfInt, Int16.reduceOfInt, Int64.reduceOfInt, Int8.toInt32_ofNat, Int16.toInt32_ofNat, Int.reduceNeg, Int32.ofInt_neg, Int8.ofInt_neg, Int16.ofInt_neg, Int32.toInt64_ofNat, Int32.reduceToNatClampNeg, Fin.isValue, Fin.val_one, Fin.val_zero, Fin.val_two, Int64.reduceOfNat, Int32.reduceOfNat, hdl, cutc, Nat.reduceEqDiff, reduceIte, FV, tyC, tyX0, tyX1, tyX2, tyX3, tyX4, tyX5, tyX6, tyX7, tyX8, tyX9, tyX10, Nat.reduceMul, c_le, c_lt, c_eq, c_in, c_cl, c_add, c_rem, c_ofN, Int32.add_zero, Int32.zero_add, c_lt0, c_ge0, c_le0, c_gt0, c_e0, c_m1, c_m1', false_implies, true_implies, implies_true, not_false_eq_true, not_true_eq_false, Nat.not_lt_zero, up_s, up_1, up_m, ff4_init, bb4_init_0, h1, up_u]
  refine hQ _ ⟨_, _, _, _, _, _, _, by rw [up_s]⟩ (fun b hb => ?_)
  have n1 : b ≠ a := by omega
  simp [up, n1]
theorem sp5_init {z : Option Nat} (h1 : w a = some (.inr (5, dfl 5))) (hQ : ∀ w', w' a = some (rdc 0 0 0) → Fr w w' a 1 → Q none z w') : Sp Γ m5_init [.ref a] z w Q := by
  rw [dfl_5] at h1
  refine entry Γ m5_init rfl _ (Nat.le_of_ble_eq_true rfl) _ _ _ ?_
  refine wp_ok kd5_init 400 0 bb5_init_0 _ _ _ _ _ _ oo5_init_0 ?_
  simp only [List.getElem?_cons_zero, List.getElem?_cons_succ, fv4, Nat.reduceAdd, Nat.reduceSub, wp, pst, stp, LG, lput, ls_tl, two, bc, EL, pad, popN, csum, Option.toList, List.cons_append, List.nil_append, List.set_cons_zero, List.set_cons_succ, List.length_cons, List.length_nil, true_and, and_true, Nat.reduceLT, Nat.reduceLeDiff, Nat.zero_le, Nat.le_refl, RI_i, RI_z0, RI_z1, Int32.reduceOfInt, Int8.reduceOfInt, Int16.reduceOfInt, Int64.reduceOfInt, Int8.toInt32_ofNat, Int16.toInt32_ofNat, Int.reduceNeg, Int32.ofInt_neg, Int8.ofInt_neg, Int16.ofInt_neg, Int32.toInt64_ofNat, Int32.reduceToNatClampNeg, Fin.isValue, Fin.val_one, Fin.val_zero, Fin.val_two, Int64.reduceOfNat, Int32.reduceOfNat, hdl, cutc, Nat.reduceEqDiff, reduceIte, FV, tyC, tyX0, tyX1, tyX2, tyX3, tyX4, tyX5, tyX6, tyX7, tyX8, tyX9, tyX10, Nat.reduceMul, c_le, c_lt, c_eq, c_in, c_cl, c_add, c_rem, c_ofN, Int32.add_zero, Int32.zero_add, c_lt0, c_ge0, c_le0, c_gt0, c_e0, c_m1, c_m1', false_implies, true_implies, implies_true, not_false_eq_true, not_true_eq_false, Nat.not_lt_zero, up_s, up_1, up_m, ff5_init, bb5_init_0, h1, up_u]
  refine hQ _ (by rw [up_s]) (fun b hb => ?_)
  have n1 : b ≠ a := by omega
  simp [up, n1]
theorem sp3_init (h1 : w a = some (.inr (3, dfl 3))) (hQ : ∀ w', TxR w' a [] → ScR w' (a + 2) → Fr w w' a 3 → Q none (some (a + 3)) w') : Sp Γ m3_init [.ref a] (some (a + 1)) w Q := by
  rw [dfl_3] at h1
  have q2 : ∀ (w : PW) (e : va_E), up w (a + 2) e a = w a := fun w e => up_n _ _ _ _ (by omega)
  refine entry Γ m3_init rfl _ (Nat.le_of_ble_eq_true rfl) _ _ _ ?_
  refine wp_ok kd3_init 400 0 bb3_init_0 _ _ _ _ _ _ oo3_init_0 ?_
  simp only [List.getElem?_cons_zero, List.getElem?_cons_succ, fv4, Nat.reduceAdd, Nat.reduceSub, wp, pst, stp, LG, lput, ls_tl, two, bc, EL, pad, popN, csum, Option.toList, List.cons_append, List.nil_append, List.set_cons_zero, List.set_cons_succ, List.length_cons, List.length_nil, true_and, and_true, Nat.reduceLT, Nat.reduceLeDiff, Nat.zero_le, Nat.le_refl, RI_i, RI_z0, RI_z1, Int32.reduceOfInt, Int8.reduceOfInt, Int16.reduceOfInt, Int64.reduceOfInt, Int8.toInt32_ofNat, Int16.toInt32_ofNat, Int.reduceNeg, Int32.ofInt_neg, Int8.ofInt_neg, Int16.ofInt_neg, Int32.toInt64_ofNat, Int32.reduceToNatClampNeg, Fin.isValue, Fin.val_one, Fin.val_zero, Fin.val_two, Int64.reduceOfNat, Int32.reduceOfNat, hdl, cutc, Nat.reduceEqDiff, reduceIte, FV, tyC, tyX0, tyX1, tyX2, tyX3, tyX4, tyX5, tyX6, tyX7, tyX8, tyX9, tyX10, Nat.reduceMul, c_le, c_lt, c_eq, c_in, c_cl, c_add, c_rem, c_ofN, Int32.add_zero, Int32.zero_add, c_lt0, c_ge0, c_le0, c_gt0, c_e0, c_m1, c_m1', false_implies, true_implies, implies_true, not_false_eq_true, not_true_eq_false, Nat.not_lt_zero, up_s, up_1, up_m, ff3_init, bb3_init_0, cl_60, ca_60, h1, nar_0, up_u, Int32.reduceLT, Nat.add_assoc, q2, dfl_4]
  refine sp4_init (a := a + 2) (by rw [up_s, dfl_4]) (fun w1 hs hf => ?_)
  have e1 := hf.at (a := a) (by omega)
  have e2 := hf.at (a := a + 1) (by omega)
  rw [q2] at e1
  simp only [up_s, up_n _ _ _ _ (show a + 1 ≠ a + 2 by omega), up_n _ _ _ _ (show a + 1 ≠ a by omega)] at e1 e2
  unfold holdL
  simp only [List.getElem?_cons_zero, List.getElem?_cons_succ, fv4, Nat.reduceAdd, Nat.reduceSub, wp, pst, stp, LG, lput, ls_tl, two, bc, EL, pad, popN, csum, Option.toList, List.cons_append, List.nil_append, List.set_cons_zero, List.set_cons_succ, List.length_cons, List.length_nil, true_and, and_true, Nat.reduceLT, Nat.reduceLeDiff, Nat.zero_le, Nat.le_refl, RI_i, RI_z0, RI_z1, Int32.reduceOfInt, Int8.reduceOfInt, Int16.reduceOfInt, Int64.reduceOfInt, Int8.toInt32_ofNat, Int16.toInt32_ofNat, Int.reduceNeg, Int32.ofInt_neg, Int8.ofInt_neg, Int16.ofInt_neg, Int32.toInt64_ofNat, Int32.reduceToNatClampNeg, Fin.isValue, Fin.val_one, Fin.val_zero, Fin.val_two, Int64.reduceOfNat, Int32.reduceOfNat, hdl, cutc, Nat.reduceEqDiff, reduceIte, FV, tyC, tyX0, tyX1, tyX2, tyX3, tyX4, tyX5, tyX6, tyX7, tyX8, tyX9, tyX10, Nat.reduceMul, c_le, c_lt, c_eq, c_in, c_cl, c_add, c_rem, c_ofN, Int32.add_zero, Int32.zero_add, c_lt0, c_ge0, c_le0, c_gt0, c_e0, c_m1, c_m1', false_implies, true_implies, implies_true, not_false_eq_true, not_true_eq_false, Nat.not_lt_zero, up_s, up_1, up_m, ff3_init, bb3_init_0, cl_60, ca_60, e1, up_u]
  obtain ⟨p1, p2, p3, p4, p5, p6, p7, hs⟩ := hs
  refine hQ _ ⟨fun _ => 0, by rw [up_s]; rfl, by rw [up_1]; exact e2, IA_nil _, by decide⟩ ⟨p1, p2, p3, p4, p5, p6, p7, by rw [up_n _ _ _ _ (by omega)]; exact hs⟩ (fun b hb => ?_)
  rw [up_n _ _ _ _ (by omega), hf.at (a := b) (by omega), up_n _ _ _ _ (by omega), up_n _ _ _ _ (by omega), up_n _ _ _ _ (by omega)]
end INIT

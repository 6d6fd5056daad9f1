/-! CODER -/
/-- a coder at c: its kernel, its code, its check -/
def CoR (w : PW) (c : Nat) (K C : List Nat) (ch : Int32) : Prop := ∃ kf cf, w c = some (.inr (0, [.ref (c + 1), .int (nI K.length), .ref (c + 2), .int (nI C.length), .int ch])) ∧ w (c + 1) = some (.inl (0, 33, .inl kf)) ∧ w (c + 2) = some (.inl (0, 71, .inl cf)) ∧ IA kf K ∧ IA cf C ∧ K.length ≤ 33 ∧ C.length ≤ 71
theorem CoR.fr {w w' : PW} {a lo n : Nat} {K C : List Nat} {ch : Int32} (h : CoR w a K C ch) (hf : Fr w w' lo n) (hd : a + 3 ≤ lo ∨ lo + n ≤ a) : CoR w' a K C ch := by
  obtain ⟨f, g, h1, h2, h3, h4⟩ := h
  exact ⟨f, g, by rw [hf a (by omega)]; exact h1, by rw [hf (a + 1) (by omega)]; exact h2, by rw [hf (a + 2) (by omega)]; exact h3, h4⟩
theorem tb_mod (n k : Nat) : n / 2 ^ k % 2 = (n.testBit k).toNat := by
  rw [Nat.testBit_eq_decide_div_mod_eq]
  rcases Nat.mod_two_eq_zero_or_one (n / 2 ^ k) with h | h <;> simp [h]
def facc (p : Nat) : Nat → Nat → Nat → Nat
  | _, 0, f => f
  | x, n + 1, f => facc p (x + 1) n (2 * f + bN p x)
theorem facc_four (p x : Nat) : facc p x 4 0 = four p x := by simp only [facc, four, Nat.mul_zero, Nat.zero_add]
def bz (b : Bool) : Int32 := if b then 1 else 0
theorem bz_f : bz false = 0 := rfl
theorem bz_t : bz true = 1 := rfl
section CODER
variable {Γ : Amb} {w : PW} {Q : Option Value → Option Nat → PW → Prop} {c : Nat} {K C : List Nat} {ch : Int32}
theorem sp9_blackAt (p i : Nat) (hp : p < 18446744073709551616) (hi : i < 64) (h1 : p.testBit i = true → Q (some (.int 1)) none w) (h0 : p.testBit i = false → Q (some (.int 0)) none w) : Sp Γ m9_blackAt [.long (lN p), .int (nI i)] none w Q := by
  refine entry Γ m9_blackAt rfl _ (Nat.le_of_ble_eq_true rfl) _ _ _ ?_
  refine wp_ok kd9_blackAt 400 0 bb9_blackAt_0 _ _ _ _ _ _ oo9_blackAt_0 ?_
  simp only [List.getElem?_cons_zero, List.getElem?_cons_succ, fv4, Nat.reduceAdd, Nat.reduceSub, wp, pst, stp, LG, lput, ls_tl, two, bc, EL, pad, popN, csum, Option.toList, List.cons_append, List.nil_append, List.set_cons_zero, List.set_cons_succ, List.length_cons, List.length_nil, true_and, and_true, Nat.reduceLT, Nat.reduceLeDiff, Nat.zero_le, Nat.le_refl, RI_i, RI_z0, RI_z1, Int32.reduceOfInt, Int8.reduceOfInt, Int16.reduceOfInt, Int64.reduceOfInt, Int8.toInt32_ofNat, Int16.toInt32_ofNat, Int.reduceNeg, Int32.ofInt_neg, Int8.ofInt_neg, Int16.ofInt_neg, Int32.toInt64_ofNat, Int32.reduceToNatClampNeg, Fin.isValue, Fin.val_one, Fin.val_zero, Fin.val_two, Int64.reduceOfNat, Int32.reduceOfNat, hdl, cutc, Nat.reduceEqDiff, reduceIte, FV, tyC, tyX0, tyX1, tyX2, tyX3, tyX4, tyX5, tyX6, tyX7, tyX8, tyX9, tyX10, Nat.reduceMul, c_le, c_lt, c_eq, c_in, c_cl, c_add, c_rem, c_ofN, Int32.add_zero, Int32.zero_add, c_lt0, c_ge0, c_le0, c_gt0, c_e0, c_m1, c_m1', false_implies, true_implies, implies_true, not_false_eq_true, not_true_eq_false, Nat.not_lt_zero, up_s, up_1, up_m, ff9_blackAt, bb9_blackAt_0, bb9_blackAt_14, bb9_blackAt_15, cl_1, ca_1, cmp0, lN_0, wb_bit hp hi, tb_mod]
  cases hb : p.testBit i
  · exact ⟨fun _ => h0 hb, fun h => absurd rfl h⟩
  · refine ⟨fun h => absurd h (by decide), fun _ => h1 hb⟩
theorem sp0_put (hP : CoR w c K C ch) (v : Nat) (hl : C.length < 71) (hQ : ∀ w', CoR w' c K (C ++ [v]) ch → Fr w w' c 3 → Q none none w') : Sp Γ m0_put [.ref c, .int (nI v)] none w Q := by
  obtain ⟨f, g, e1, e2, e3, e4, e5, e6, e7⟩ := hP
  have b1 : C.length < 2147483648 := by omega
  refine entry Γ m0_put rfl _ (Nat.le_of_ble_eq_true rfl) _ _ _ ?_
  refine wp_ok kd0_put 400 0 bb0_put_0 _ _ _ _ _ _ oo0_put_0 ?_
  simp only [List.getElem?_cons_zero, List.getElem?_cons_succ, fv4, Nat.reduceAdd, Nat.reduceSub, wp, pst, stp, LG, lput, ls_tl, two, bc, EL, pad, popN, csum, Option.toList, List.cons_append, List.nil_append, List.set_cons_zero, List.set_cons_succ, List.length_cons, List.length_nil, true_and, and_true, Nat.reduceLT, Nat.reduceLeDiff, Nat.zero_le, Nat.le_refl, RI_i, RI_z0, RI_z1, Int32.reduceOfInt, Int8.reduceOfInt, Int16.reduceOfInt, Int64.reduceOfInt, Int8.toInt32_ofNat, Int16.toInt32_ofNat, Int.reduceNeg, Int32.ofInt_neg, Int8.ofInt_neg, Int16.ofInt_neg, Int32.toInt64_ofNat, Int32.reduceToNatClampNeg, Fin.isValue, Fin.val_one, Fin.val_zero, Fin.val_two, Int64.reduceOfNat, Int32.reduceOfNat, hdl, cutc, Nat.reduceEqDiff, reduceIte, FV, tyC, tyX0, tyX1, tyX2, tyX3, tyX4, tyX5, tyX6, tyX7, tyX8, tyX9, tyX10, Nat.reduceMul, c_le, c_lt, c_eq, c_in, c_cl, c_add, c_rem, c_ofN, Int32.add_zero, Int32.zero_add, c_lt0, c_ge0, c_le0, c_gt0, c_e0, c_m1, c_m1', false_implies, true_implies, implies_true, not_false_eq_true, not_true_eq_false, Nat.not_lt_zero, up_s, up_1, up_m, ff0_put, bb0_put_0, bb0_put_39, cl_1, ca_1, e1, e2, e3, b1, hl, up_n w (c + 2) c _ (by omega), Nat.not_le.mpr hl]
  refine hQ _ ⟨f, upd g C.length (nI v), by rw [up_s, List.length_append]; rfl, ?_, ?_, e4, IA_snoc e5 rfl, e6, by rw [List.length_append]; simp; omega⟩ ((Fr.wr (by omega) (by omega)).tr (Fr.wr (by omega) (by omega)))
  · rw [up_1, up_n _ _ _ _ (by omega)]; exact e2
  · rw [up_n _ _ _ _ (by omega), up_s]
theorem sp0_addToKernel (hP : CoR w c K C ch) (v : Nat) (hl : K.length < 33) (hQ : ∀ w', CoR w' c (K ++ [v]) C ch → Fr w w' c 3 → Q none none w') : Sp Γ m0_addToKernel [.ref c, .int (nI v)] none w Q := by
  obtain ⟨f, g, e1, e2, e3, e4, e5, e6, e7⟩ := hP
  have b1 : K.length < 2147483648 := by omega
  refine entry Γ m0_addToKernel rfl _ (Nat.le_of_ble_eq_true rfl) _ _ _ ?_
  refine wp_ok kd0_addToKernel 400 0 bb0_addToKernel_0 _ _ _ _ _ _ oo0_addToKernel_0 ?_
  simp only [List.getElem?_cons_zero, List.getElem?_cons_succ, fv4, Nat.reduceAdd, Nat.reduceSub, wp, pst, stp, LG, lput, ls_tl, two, bc, EL, pad, popN, csum, Option.toList, List.cons_append, List.nil_append, List.set_cons_zero, List.set_cons_succ, List.length_cons, List.length_nil, true_and, and_true, Nat.reduceLT, Nat.reduceLeDiff, Nat.zero_le, Nat.le_refl, RI_i, RI_z0, RI_z1, Int32.reduceOfInt, Int8.reduceOfInt, Int16.reduceOfInt, Int64.reduceOfInt, Int8.toInt32_ofNat, Int16.toInt32_ofNat, Int.reduceNeg, Int32.ofInt_neg, Int8.ofInt_neg, Int16.ofInt_neg, Int32.toInt64_ofNat, Int32.reduceToNatClampNeg, Fin.isValue, Fin.val_one, Fin.val_zero, Fin.val_two, Int64.reduceOfNat, Int32.reduceOfNat, hdl, cutc, Nat.reduceEqDiff, reduceIte, FV, tyC, tyX0, tyX1, tyX2, tyX3, tyX4, tyX5, tyX6, tyX7, tyX8, tyX9, tyX10, Nat.reduceMul, c_le, c_lt, c_eq, c_in, c_cl, c_add, c_rem, c_ofN, Int32.add_zero, Int32.zero_add, c_lt0, c_ge0, c_le0, c_gt0, c_e0, c_m1, c_m1', false_implies, true_implies, implies_true, not_false_eq_true, not_true_eq_false, Nat.not_lt_zero, up_s, up_1, up_m, ff0_addToKernel, bb0_addToKernel_0, bb0_addToKernel_39, cl_1, ca_1, e1, e2, e3, b1, hl, Nat.not_le.mpr hl]
  refine hQ _ ⟨upd f K.length (nI v), g, by rw [up_s, List.length_append]; rfl, ?_, ?_, IA_snoc e4 rfl, e5, by rw [List.length_append]; simp; omega, e7⟩ ((Fr.wr (by omega) (by omega)).tr (Fr.wr (by omega) (by omega)))
  · rw [up_1, up_s]
  · rw [up_n _ _ _ _ (by omega), up_n _ _ _ _ (by omega)]; exact e3
theorem sp0_addRun (hP : CoR w c K C ch) (r : Nat) (hr : r ≤ 1000) (hl : (K ++ enc r).length ≤ 33) (hQ : ∀ w', CoR w' c (K ++ enc r) C ch → Fr w w' c 3 → Q none none w') : Sp Γ m0_addRun [.ref c, .int (nI r)] none w Q := by
  have b1 : r < 2147483648 := by omega
  obtain ⟨f, g, e1, -⟩ := id hP
  refine entry Γ m0_addRun rfl _ (Nat.le_of_ble_eq_true rfl) _ _ _ ?_
  refine wp_ok kd0_addRun 400 0 bb0_addRun_0 _ _ _ _ _ _ oo0_addRun_0 ?_
  simp only [List.getElem?_cons_zero, List.getElem?_cons_succ, fv4, Nat.reduceAdd, Nat.reduceSub, wp, pst, stp, LG, lput, ls_tl, two, bc, EL, pad, popN, csum, Option.toList, List.cons_append, List.nil_append, List.set_cons_zero, List.set_cons_succ, List.length_cons, List.length_nil, true_and, and_true, Nat.reduceLT, Nat.reduceLeDiff, Nat.zero_le, Nat.le_refl, RI_i, RI_z0, RI_z1, Int32.reduceOfInt, Int8.reduceOfInt, Int16.reduceOfInt, Int64.reduceOfInt, Int8.toInt32_ofNat, Int16.toInt32_ofNat, Int.reduceNeg, Int32.ofInt_neg, Int8.ofInt_neg, Int16.ofInt_neg, Int32.toInt64_ofNat, Int32.reduceToNatClampNeg, Fin.isValue, Fin.val_one, Fin.val_zero, Fin.val_two, Int64.reduceOfNat, Int32.reduceOfNat, hdl, cutc, Nat.reduceEqDiff, reduceIte, FV, tyC, tyX0, tyX1, tyX2, tyX3, tyX4, tyX5, tyX6, tyX7, tyX8, tyX9, tyX10, Nat.reduceMul, c_le, c_lt, c_eq, c_in, c_cl, c_add, c_rem, c_ofN, Int32.add_zero, Int32.zero_add, c_lt0, c_ge0, c_le0, c_gt0, c_e0, c_m1, c_m1', false_implies, true_implies, implies_true, not_false_eq_true, not_true_eq_false, Nat.not_lt_zero, up_s, up_1, up_m, ff0_addRun, bb0_addRun_0, bb0_addRun_14, bb0_addRun_36, cl_14, ca_14, cl_16, ca_16, e1, b1]
  unfold enc at hl hQ
  refine ⟨fun h => ?_, fun h => ?_⟩
  · rw [if_neg (by omega)] at hl hQ
    simp only [List.length_append, List.length_cons, List.length_nil] at hl
    refine sp0_addToKernel (v := 14) hP (by omega) (fun w1 h1 f1 => ?_)
    obtain ⟨_, _, x1, -⟩ := id h1
    unfold holdL
    simp only [List.getElem?_cons_zero, List.getElem?_cons_succ, fv4, Nat.reduceAdd, Nat.reduceSub, wp, pst, stp, LG, lput, ls_tl, two, bc, EL, pad, popN, csum, Option.toList, List.cons_append, List.nil_append, List.set_cons_zero, List.set_cons_succ, List.length_cons, List.length_nil, true_and, and_true, Nat.reduceLT, Nat.reduceLeDiff, Nat.zero_le, Nat.le_refl, RI_i, RI_z0, RI_z1, Int32.reduceOfInt, Int8.reduceOfInt, Int16.reduceOfInt, Int64.reduceOfInt, Int8.toInt32_ofNat, Int16.toInt32_ofNat, Int.reduceNeg, Int32.ofInt_neg, Int8.ofInt_neg, Int16.ofInt_neg, Int32.toInt64_ofNat, Int32.reduceToNatClampNeg, Fin.isValue, Fin.val_one, Fin.val_zero, Fin.val_two, Int64.reduceOfNat, Int32.reduceOfNat, hdl, cutc, Nat.reduceEqDiff, reduceIte, FV, tyC, tyX0, tyX1, tyX2, tyX3, tyX4, tyX5, tyX6, tyX7, tyX8, tyX9, tyX10, Nat.reduceMul, c_le, c_lt, c_eq, c_in, c_cl, c_add, c_rem, c_ofN, Int32.add_zero, Int32.zero_add, c_lt0, c_ge0, c_le0, c_gt0, c_e0, c_m1, c_m1', false_implies, true_implies, implies_true, not_false_eq_true, not_true_eq_false, Nat.not_lt_zero, up_s, up_1, up_m, ff0_addRun, bb0_addRun_0, bb0_addRun_14, bb0_addRun_36, cl_14, ca_14, cl_16, ca_16, x1, b1]
    refine ⟨by decide, ?_⟩
    refine sp0_addToKernel h1 _ (by simp; omega) (fun w2 h2 f2 => ?_)
    obtain ⟨_, _, x2, -⟩ := id h2
    unfold holdL
    simp only [List.getElem?_cons_zero, List.getElem?_cons_succ, fv4, Nat.reduceAdd, Nat.reduceSub, wp, pst, stp, LG, lput, ls_tl, two, bc, EL, pad, popN, csum, Option.toList, List.cons_append, List.nil_append, List.set_cons_zero, List.set_cons_succ, List.length_cons, List.length_nil, true_and, and_true, Nat.reduceLT, Nat.reduceLeDiff, Nat.zero_le, Nat.le_refl, RI_i, RI_z0, RI_z1, Int32.reduceOfInt, Int8.reduceOfInt, Int16.reduceOfInt, Int64.reduceOfInt, Int8.toInt32_ofNat, Int16.toInt32_ofNat, Int.reduceNeg, Int32.ofInt_neg, Int8.ofInt_neg, Int16.ofInt_neg, Int32.toInt64_ofNat, Int32.reduceToNatClampNeg, Fin.isValue, Fin.val_one, Fin.val_zero, Fin.val_two, Int64.reduceOfNat, Int32.reduceOfNat, hdl, cutc, Nat.reduceEqDiff, reduceIte, FV, tyC, tyX0, tyX1, tyX2, tyX3, tyX4, tyX5, tyX6, tyX7, tyX8, tyX9, tyX10, Nat.reduceMul, c_le, c_lt, c_eq, c_in, c_cl, c_add, c_rem, c_ofN, Int32.add_zero, Int32.zero_add, c_lt0, c_ge0, c_le0, c_gt0, c_e0, c_m1, c_m1', false_implies, true_implies, implies_true, not_false_eq_true, not_true_eq_false, Nat.not_lt_zero, up_s, up_1, up_m, ff0_addRun, bb0_addRun_0, bb0_addRun_14, bb0_addRun_36, cl_14, ca_14, cl_16, ca_16, x2, b1]
    refine ⟨by decide, ?_⟩
    refine sp0_addToKernel h2 _ (by simp; omega) (fun w3 h3 f3 => ?_)
    unfold holdL
    simp only [List.getElem?_cons_zero, List.getElem?_cons_succ, fv4, Nat.reduceAdd, Nat.reduceSub, wp, pst, stp, LG, lput, ls_tl, two, bc, EL, pad, popN, csum, Option.toList, List.cons_append, List.nil_append, List.set_cons_zero, List.set_cons_succ, List.length_cons, List.length_nil, true_and, and_true, Nat.reduceLT, Nat.reduceLeDiff, Nat.zero_le, Nat.le_refl, RI_i, RI_z0, RI_z1, Int32.reduceOfInt, Int8.reduceOfInt, Int16.reduceOfInt, Int64.reduceOfInt, Int8.toInt32_ofNat, Int16.toInt32_ofNat, Int.reduceNeg, Int32.ofInt_neg, Int8.ofInt_neg, Int16.ofInt_neg, Int32.toInt64_ofNat, Int32.reduceToNatClampNeg, Fin.isValue, Fin.val_one, Fin.val_zero, Fin.val_two, Int64.reduceOfNat, Int32.reduceOfNat, hdl, cutc, Nat.reduceEqDiff, reduceIte, FV, tyC, tyX0, tyX1, tyX2, tyX3, tyX4, tyX5, tyX6, tyX7, tyX8, tyX9, tyX10, Nat.reduceMul, c_le, c_lt, c_eq, c_in, c_cl, c_add, c_rem, c_ofN, Int32.add_zero, Int32.zero_add, c_lt0, c_ge0, c_le0, c_gt0, c_e0, c_m1, c_m1', false_implies, true_implies, implies_true, not_false_eq_true, not_true_eq_false, Nat.not_lt_zero, up_s, up_1, up_m, ff0_addRun, bb0_addRun_0, bb0_addRun_14, bb0_addRun_36, cl_14, ca_14, cl_16, ca_16]
    refine hQ _ ?_ ((f1.tr f2).tr f3)
    simpa using h3
  · rw [if_pos (by omega)] at hl hQ
    simp only [List.length_append, List.length_cons, List.length_nil] at hl
    refine sp0_addToKernel hP _ (by omega) (fun w1 h1 f1 => ?_)
    unfold holdL
    simp only [List.getElem?_cons_zero, List.getElem?_cons_succ, fv4, Nat.reduceAdd, Nat.reduceSub, wp, pst, stp, LG, lput, ls_tl, two, bc, EL, pad, popN, csum, Option.toList, List.cons_append, List.nil_append, List.set_cons_zero, List.set_cons_succ, List.length_cons, List.length_nil, true_and, and_true, Nat.reduceLT, Nat.reduceLeDiff, Nat.zero_le, Nat.le_refl, RI_i, RI_z0, RI_z1, Int32.reduceOfInt, Int8.reduceOfInt, Int16.reduceOfInt, Int64.reduceOfInt, Int8.toInt32_ofNat, Int16.toInt32_ofNat, Int.reduceNeg, Int32.ofInt_neg, Int8.ofInt_neg, Int16.ofInt_neg, Int32.toInt64_ofNat, Int32.reduceToNatClampNeg, Fin.isValue, Fin.val_one, Fin.val_zero, Fin.val_two, Int64.reduceOfNat, Int32.reduceOfNat, hdl, cutc, Nat.reduceEqDiff, reduceIte, FV, tyC, tyX0, tyX1, tyX2, tyX3, tyX4, tyX5, tyX6, tyX7, tyX8, tyX9, tyX10, Nat.reduceMul, c_le, c_lt, c_eq, c_in, c_cl, c_add, c_rem, c_ofN, Int32.add_zero, Int32.zero_add, c_lt0, c_ge0, c_le0, c_gt0, c_e0, c_m1, c_m1', false_implies, true_implies, implies_true, not_false_eq_true, not_true_eq_false, Nat.not_lt_zero, up_s, up_1, up_m, ff0_addRun, bb0_addRun_0, bb0_addRun_14, bb0_addRun_36, cl_14, ca_14, cl_16, ca_16]
    exact hQ _ h1 f1
theorem sp0_kernelByFours (hP : CoR w c [] C ch) (p wd : Nat) (hp : p < 18446744073709551616) (hw : wd ≤ 32) (hQ : ∀ w', CoR w' c (fours p ((wd + 3) / 4) 0) C ch → Fr w w' c 3 → Q none none w') : Sp Γ m0_kernelByFours [.ref c, .long (lN p), .int (nI wd)] none w Q := by
  have b2 : wd < 2147483648 := by omega
  refine entry Γ m0_kernelByFours rfl _ (Nat.le_of_ble_eq_true rfl) _ _ _ ?_
  refine wp_ok kd0_kernelByFours 400 0 bb0_kernelByFours_0 _ _ _ _ _ _ oo0_kernelByFours_0 ?_
  simp only [List.getElem?_cons_zero, List.getElem?_cons_succ, fv4, Nat.reduceAdd, Nat.reduceSub, wp, pst, stp, LG, lput, ls_tl, two, bc, EL, pad, popN, csum, Option.toList, List.cons_append, List.nil_append, List.set_cons_zero, List.set_cons_succ, List.length_cons, List.length_nil, true_and, and_true, Nat.reduceLT, Nat.reduceLeDiff, Nat.zero_le, Nat.le_refl, RI_i, RI_z0, RI_z1, Int32.reduceOfInt, Int8.reduceOfInt, Int16.reduceOfInt, Int64.reduceOfInt, Int8.toInt32_ofNat, Int16.toInt32_ofNat, Int.reduceNeg, Int32.ofInt_neg, Int8.ofInt_neg, Int16.ofInt_neg, Int32.toInt64_ofNat, Int32.reduceToNatClampNeg, Fin.isValue, Fin.val_one, Fin.val_zero, Fin.val_two, Int64.reduceOfNat, Int32.reduceOfNat, hdl, cutc, Nat.reduceEqDiff, reduceIte, FV, tyC, tyX0, tyX1, tyX2, tyX3, tyX4, tyX5, tyX6, tyX7, tyX8, tyX9, tyX10, Nat.reduceMul, c_le, c_lt, c_eq, c_in, c_cl, c_add, c_rem, c_ofN, Int32.add_zero, Int32.zero_add, c_lt0, c_ge0, c_le0, c_gt0, c_e0, c_m1, c_m1', false_implies, true_implies, implies_true, not_false_eq_true, not_true_eq_false, Nat.not_lt_zero, up_s, up_1, up_m, ff0_kernelByFours, bb0_kernelByFours_0, bb0_kernelByFours_3, bb0_kernelByFours_15, bb0_kernelByFours_41, bb0_kernelByFours_42, bb0_kernelByFours_51, bb0_kernelByFours_63, cl_1, ca_1, cl_2, ca_2, cl_4, ca_4]
  have key : ∀ (n k : Nat) (w1 : PW) (M : List Nat) (j1 j2 : Option Value), n + k = (wd + 3) / 4 → M.length = k → M ++ fours p n (4 * k) = fours p ((wd + 3) / 4) 0 → CoR w1 c M C ch → Fr w w1 c 3 → G Γ m0_kernelByFours Q (fun _ _ => False) 3 [some (.ref c), some (.long (lN p)), none, some (.int (nI wd)), some (.int (nI (4 * k))), j1, j2] [] none w1 0 0 := by
    intro n
    induction n with
    | zero =>
      intro k w1 M j1 j2 hk hM hF hC hFr
      have b1 : 4 * k < 2147483648 := by omega
      simp only [fours, List.append_nil] at hF
      subst hF
      refine wp_ok kd0_kernelByFours 400 3 bb0_kernelByFours_3 _ _ _ _ _ _ oo0_kernelByFours_3 ?_
      simp only [List.getElem?_cons_zero, List.getElem?_cons_succ, fv4, Nat.reduceAdd, Nat.reduceSub, wp, pst, stp, LG, lput, ls_tl, two, bc, EL, pad, popN, csum, Option.toList, List.cons_append, List.nil_append, List.set_cons_zero, List.set_cons_succ, List.length_cons, List.length_nil, true_and, and_true, Nat.reduceLT, Nat.reduceLeDiff, Nat.zero_le, Nat.le_refl, RI_i, RI_z0, RI_z1, Int32.reduceOfInt, Int8.reduceOfInt, Int16.reduceOfInt, Int64.reduceOfInt, Int8.toInt32_ofNat, Int16.toInt32_ofNat, Int.reduceNeg, Int32.ofInt_neg, Int8.ofInt_neg, Int16.ofInt_neg, Int32.toInt64_ofNat, Int32.reduceToNatClampNeg, Fin.isValue, Fin.val_one, Fin.val_zero, Fin.val_two, Int64.reduceOfNat, Int32.reduceOfNat, hdl, cutc, Nat.reduceEqDiff, reduceIte, FV, tyC, tyX0, tyX1, tyX2, tyX3, tyX4, tyX5, tyX6, tyX7, tyX8, tyX9, tyX10, Nat.reduceMul, c_le, c_lt, c_eq, c_in, c_cl, c_add, c_rem, c_ofN, Int32.add_zero, Int32.zero_add, c_lt0, c_ge0, c_le0, c_gt0, c_e0, c_m1, c_m1', false_implies, true_implies, implies_true, not_false_eq_true, not_true_eq_false, Nat.not_lt_zero, up_s, up_1, up_m, ff0_kernelByFours, bb0_kernelByFours_0, bb0_kernelByFours_3, bb0_kernelByFours_15, bb0_kernelByFours_41, bb0_kernelByFours_42, bb0_kernelByFours_51, bb0_kernelByFours_63, cl_1, ca_1, cl_2, ca_2, cl_4, ca_4, b1, b2]
      exact ⟨fun _ => hQ _ hC hFr, fun h => absurd h (by omega)⟩
    | succ n ih =>
      intro k w1 M j1 j2 hk hM hF hC hFr
      have b1 : 4 * k < 2147483648 := by omega
      obtain ⟨_, _, x1, -⟩ := id hC
      refine wp_ok kd0_kernelByFours 400 3 bb0_kernelByFours_3 _ _ _ _ _ _ oo0_kernelByFours_3 ?_
      simp only [List.getElem?_cons_zero, List.getElem?_cons_succ, fv4, Nat.reduceAdd, Nat.reduceSub, wp, pst, stp, LG, lput, ls_tl, two, bc, EL, pad, popN, csum, Option.toList, List.cons_append, List.nil_append, List.set_cons_zero, List.set_cons_succ, List.length_cons, List.length_nil, true_and, and_true, Nat.reduceLT, Nat.reduceLeDiff, Nat.zero_le, Nat.le_refl, RI_i, RI_z0, RI_z1, Int32.reduceOfInt, Int8.reduceOfInt, Int16.reduceOfInt, Int64.reduceOfInt, Int8.toInt32_ofNat, Int16.toInt32_ofNat, Int.reduceNeg, Int32.ofInt_neg, Int8.ofInt_neg, Int16.ofInt_neg, Int32.toInt64_ofNat, Int32.reduceToNatClampNeg, Fin.isValue, Fin.val_one, Fin.val_zero, Fin.val_two, Int64.reduceOfNat, Int32.reduceOfNat, hdl, cutc, Nat.reduceEqDiff, reduceIte, FV, tyC, tyX0, tyX1, tyX2, tyX3, tyX4, tyX5, tyX6, tyX7, tyX8, tyX9, tyX10, Nat.reduceMul, c_le, c_lt, c_eq, c_in, c_cl, c_add, c_rem, c_ofN, Int32.add_zero, Int32.zero_add, c_lt0, c_ge0, c_le0, c_gt0, c_e0, c_m1, c_m1', false_implies, true_implies, implies_true, not_false_eq_true, not_true_eq_false, Nat.not_lt_zero, up_s, up_1, up_m, ff0_kernelByFours, bb0_kernelByFours_0, bb0_kernelByFours_3, bb0_kernelByFours_15, bb0_kernelByFours_41, bb0_kernelByFours_42, bb0_kernelByFours_51, bb0_kernelByFours_63, cl_1, ca_1, cl_2, ca_2, cl_4, ca_4, b1, b2]
      refine ⟨fun h => absurd h (by omega), fun _ => ?_⟩
      have inner : ∀ (u i f : Nat), u + i = 4 → f < 1000 → 2 ^ u * (f + 1) ≤ 16 → (∀ w', CoR w' c (M ++ [facc p (4 * k + i) u f]) C ch → Fr w1 w' c 3 → G Γ m0_kernelByFours Q (fun _ _ => False) 3 [some (.ref c), some (.long (lN p)), none, some (.int (nI wd)), some (.int (nI (4 * k + 4))), some (.int (nI (facc p (4 * k + i) u f))), some (.int (nI 4))] [] none w' 0 0) → G Γ m0_kernelByFours Q (fun _ _ => False) 15 [some (.ref c), some (.long (lN p)), none, some (.int (nI wd)), some (.int (nI (4 * k))), some (.int (nI f)), some (.int (nI i))] [] none w1 0 0 := by
        intro u
        induction u with
        | zero =>
          intro i f hu hf hpw hgo
          have b3 : i < 2147483648 := by omega
          have hi : i = 4 := by omega
          subst hi
          simp only [facc] at hgo
          refine wp_ok kd0_kernelByFours 400 15 bb0_kernelByFours_15 _ _ _ _ _ _ oo0_kernelByFours_15 ?_
          simp only [List.getElem?_cons_zero, List.getElem?_cons_succ, fv4, Nat.reduceAdd, Nat.reduceSub, wp, pst, stp, LG, lput, ls_tl, two, bc, EL, pad, popN, csum, Option.toList, List.cons_append, List.nil_append, List.set_cons_zero, List.set_cons_succ, List.length_cons, List.length_nil, true_and, and_true, Nat.reduceLT, Nat.reduceLeDiff, Nat.zero_le, Nat.le_refl, RI_i, RI_z0, RI_z1, Int32.reduceOfInt, Int8.reduceOfInt, Int16.reduceOfInt, Int64.reduceOfInt, Int8.toInt32_ofNat, Int16.toInt32_ofNat, Int.reduceNeg, Int32.ofInt_neg, Int8.ofInt_neg, Int16.ofInt_neg, Int32.toInt64_ofNat, Int32.reduceToNatClampNeg, Fin.isValue, Fin.val_one, Fin.val_zero, Fin.val_two, Int64.reduceOfNat, Int32.reduceOfNat, hdl, cutc, Nat.reduceEqDiff, reduceIte, FV, tyC, tyX0, tyX1, tyX2, tyX3, tyX4, tyX5, tyX6, tyX7, tyX8, tyX9, tyX10, Nat.reduceMul, c_le, c_lt, c_eq, c_in, c_cl, c_add, c_rem, c_ofN, Int32.add_zero, Int32.zero_add, c_lt0, c_ge0, c_le0, c_gt0, c_e0, c_m1, c_m1', false_implies, true_implies, implies_true, not_false_eq_true, not_true_eq_false, Nat.not_lt_zero, up_s, up_1, up_m, ff0_kernelByFours, bb0_kernelByFours_0, bb0_kernelByFours_3, bb0_kernelByFours_15, bb0_kernelByFours_41, bb0_kernelByFours_42, bb0_kernelByFours_51, bb0_kernelByFours_63, cl_1, ca_1, cl_2, ca_2, cl_4, ca_4, b1, b2, b3, x1]
          refine sp0_addToKernel hC f (by omega) (fun w2 h2 f2 => ?_)
          unfold holdL
          simp only [List.getElem?_cons_zero, List.getElem?_cons_succ, fv4, Nat.reduceAdd, Nat.reduceSub, wp, pst, stp, LG, lput, ls_tl, two, bc, EL, pad, popN, csum, Option.toList, List.cons_append, List.nil_append, List.set_cons_zero, List.set_cons_succ, List.length_cons, List.length_nil, true_and, and_true, Nat.reduceLT, Nat.reduceLeDiff, Nat.zero_le, Nat.le_refl, RI_i, RI_z0, RI_z1, Int32.reduceOfInt, Int8.reduceOfInt, Int16.reduceOfInt, Int64.reduceOfInt, Int8.toInt32_ofNat, Int16.toInt32_ofNat, Int.reduceNeg, Int32.ofInt_neg, Int8.ofInt_neg, Int16.ofInt_neg, Int32.toInt64_ofNat, Int32.reduceToNatClampNeg, Fin.isValue, Fin.val_one, Fin.val_zero, Fin.val_two, Int64.reduceOfNat, Int32.reduceOfNat, hdl, cutc, Nat.reduceEqDiff, reduceIte, FV, tyC, tyX0, tyX1, tyX2, tyX3, tyX4, tyX5, tyX6, tyX7, tyX8, tyX9, tyX10, Nat.reduceMul, c_le, c_lt, c_eq, c_in, c_cl, c_add, c_rem, c_ofN, Int32.add_zero, Int32.zero_add, c_lt0, c_ge0, c_le0, c_gt0, c_e0, c_m1, c_m1', false_implies, true_implies, implies_true, not_false_eq_true, not_true_eq_false, Nat.not_lt_zero, up_s, up_1, up_m, ff0_kernelByFours, bb0_kernelByFours_0, bb0_kernelByFours_3, bb0_kernelByFours_15, bb0_kernelByFours_41, bb0_kernelByFours_42, bb0_kernelByFours_51, bb0_kernelByFours_63, cl_1, ca_1, cl_2, ca_2, cl_4, ca_4, b1]
          exact hgo w2 h2 f2
        | succ u ihu =>
          intro i f hu hf hpw hgo
          have b3 : i < 2147483648 := by omega
          simp only [facc] at hgo
          refine wp_ok kd0_kernelByFours 400 15 bb0_kernelByFours_15 _ _ _ _ _ _ oo0_kernelByFours_15 ?_
          simp only [List.getElem?_cons_zero, List.getElem?_cons_succ, fv4, Nat.reduceAdd, Nat.reduceSub, wp, pst, stp, LG, lput, ls_tl, two, bc, EL, pad, popN, csum, Option.toList, List.cons_append, List.nil_append, List.set_cons_zero, List.set_cons_succ, List.length_cons, List.length_nil, true_and, and_true, Nat.reduceLT, Nat.reduceLeDiff, Nat.zero_le, Nat.le_refl, RI_i, RI_z0, RI_z1, Int32.reduceOfInt, Int8.reduceOfInt, Int16.reduceOfInt, Int64.reduceOfInt, Int8.toInt32_ofNat, Int16.toInt32_ofNat, Int.reduceNeg, Int32.ofInt_neg, Int8.ofInt_neg, Int16.ofInt_neg, Int32.toInt64_ofNat, Int32.reduceToNatClampNeg, Fin.isValue, Fin.val_one, Fin.val_zero, Fin.val_two, Int64.reduceOfNat, Int32.reduceOfNat, hdl, cutc, Nat.reduceEqDiff, reduceIte, FV, tyC, tyX0, tyX1, tyX2, tyX3, tyX4, tyX5, tyX6, tyX7, tyX8, tyX9, tyX10, Nat.reduceMul, c_le, c_lt, c_eq, c_in, c_cl, c_add, c_rem, c_ofN, Int32.add_zero, Int32.zero_add, c_lt0, c_ge0, c_le0, c_gt0, c_e0, c_m1, c_m1', false_implies, true_implies, implies_true, not_false_eq_true, not_true_eq_false, Nat.not_lt_zero, up_s, up_1, up_m, ff0_kernelByFours, bb0_kernelByFours_0, bb0_kernelByFours_3, bb0_kernelByFours_15, bb0_kernelByFours_41, bb0_kernelByFours_42, bb0_kernelByFours_51, bb0_kernelByFours_63, cl_1, ca_1, cl_2, ca_2, cl_4, ca_4, b1, b2, b3, x1]
          have hb := bN_le p (4 * k + i)
          have hpw2 : 2 ^ u * (2 * f + bN p (4 * k + i) + 1) ≤ 16 := by
            have h1 : 2 ^ u * (2 * f + bN p (4 * k + i) + 1) ≤ 2 ^ u * (2 * (f + 1)) := Nat.mul_le_mul_left _ (by omega)
            have h2 : 2 ^ u * (2 * (f + 1)) = 2 ^ (u + 1) * (f + 1) := by rw [Nat.pow_succ, Nat.mul_assoc]
            omega
          have hf2 : 2 * f + bN p (4 * k + i) < 1000 := by
            have : 1 ≤ 2 ^ u := Nat.one_le_two_pow
            have := Nat.le_mul_of_pos_left (2 * f + bN p (4 * k + i) + 1) (show 0 < 2 ^ u by omega)
            omega
          have hgo2 := ihu (i + 1) (2 * f + bN p (4 * k + i)) (by omega) hf2 hpw2 (by rw [show 4 * k + (i + 1) = 4 * k + i + 1 by omega]; exact hgo)
          refine ⟨fun h => absurd h (by omega), fun _ => ?_⟩
          refine sp9_blackAt p (4 * k + i) hp (by omega) (fun hv => ?_) (fun hv => ?_)
          · simp only [bN, hv, Bool.toNat_true] at hgo2
            unfold holdL
            simp only [List.getElem?_cons_zero, List.getElem?_cons_succ, fv4, Nat.reduceAdd, Nat.reduceSub, wp, pst, stp, LG, lput, ls_tl, two, bc, EL, pad, popN, csum, Option.toList, List.cons_append, List.nil_append, List.set_cons_zero, List.set_cons_succ, List.length_cons, List.length_nil, true_and, and_true, Nat.reduceLT, Nat.reduceLeDiff, Nat.zero_le, Nat.le_refl, RI_i, RI_z0, RI_z1, Int32.reduceOfInt, Int8.reduceOfInt, Int16.reduceOfInt, Int64.reduceOfInt, Int8.toInt32_ofNat, Int16.toInt32_ofNat, Int.reduceNeg, Int32.ofInt_neg, Int8.ofInt_neg, Int16.ofInt_neg, Int32.toInt64_ofNat, Int32.reduceToNatClampNeg, Fin.isValue, Fin.val_one, Fin.val_zero, Fin.val_two, Int64.reduceOfNat, Int32.reduceOfNat, hdl, cutc, Nat.reduceEqDiff, reduceIte, FV, tyC, tyX0, tyX1, tyX2, tyX3, tyX4, tyX5, tyX6, tyX7, tyX8, tyX9, tyX10, Nat.reduceMul, c_le, c_lt, c_eq, c_in, c_cl, c_add, c_rem, c_ofN, Int32.add_zero, Int32.zero_add, c_lt0, c_ge0, c_le0, c_gt0, c_e0, c_m1, c_m1', false_implies, true_implies, implies_true, not_false_eq_true, not_true_eq_false, Nat.not_lt_zero, up_s, up_1, up_m, ff0_kernelByFours, bb0_kernelByFours_0, bb0_kernelByFours_3, bb0_kernelByFours_15, bb0_kernelByFours_41, bb0_kernelByFours_42, bb0_kernelByFours_51, bb0_kernelByFours_63, cl_1, ca_1, cl_2, ca_2, cl_4, ca_4, b1, b2, b3]
            exact ⟨fun h => absurd h (by decide), fun _ => hgo2⟩
          · simp only [bN, hv, Bool.toNat_false, Nat.add_zero] at hgo2
            unfold holdL
            simp only [List.getElem?_cons_zero, List.getElem?_cons_succ, fv4, Nat.reduceAdd, Nat.reduceSub, wp, pst, stp, LG, lput, ls_tl, two, bc, EL, pad, popN, csum, Option.toList, List.cons_append, List.nil_append, List.set_cons_zero, List.set_cons_succ, List.length_cons, List.length_nil, true_and, and_true, Nat.reduceLT, Nat.reduceLeDiff, Nat.zero_le, Nat.le_refl, RI_i, RI_z0, RI_z1, Int32.reduceOfInt, Int8.reduceOfInt, Int16.reduceOfInt, Int64.reduceOfInt, Int8.toInt32_ofNat, Int16.toInt32_ofNat, Int.reduceNeg, Int32.ofInt_neg, Int8.ofInt_neg, Int16.ofInt_neg, Int32.toInt64_ofNat, Int32.reduceToNatClampNeg, Fin.isValue, Fin.val_one, Fin.val_zero, Fin.val_two, Int64.reduceOfNat, Int32.reduceOfNat, hdl, cutc, Nat.reduceEqDiff, reduceIte, FV, tyC, tyX0, tyX1, tyX2, tyX3, tyX4, tyX5, tyX6, tyX7, tyX8, tyX9, tyX10, Nat.reduceMul, c_le, c_lt, c_eq, c_in, c_cl, c_add, c_rem, c_ofN, Int32.add_zero, Int32.zero_add, c_lt0, c_ge0, c_le0, c_gt0, c_e0, c_m1, c_m1', false_implies, true_implies, implies_true, not_false_eq_true, not_true_eq_false, Nat.not_lt_zero, up_s, up_1, up_m, ff0_kernelByFours, bb0_kernelByFours_0, bb0_kernelByFours_3, bb0_kernelByFours_15, bb0_kernelByFours_41, bb0_kernelByFours_42, bb0_kernelByFours_51, bb0_kernelByFours_63, cl_1, ca_1, cl_2, ca_2, cl_4, ca_4, b1, b2, b3]
            exact hgo2
      refine inner 4 0 0 rfl (by decide) (by decide) (fun w2 h2 f2 => ?_)
      rw [Nat.add_zero, facc_four] at h2 ⊢
      refine ih (k + 1) w2 _ _ _ (by omega) (by simp [hM]) ?_ h2 (hFr.tr f2)
      rw [← hF]
      simp [fours, Nat.mul_succ]
  exact key _ 0 w [] _ _ (Nat.add_zero _) rfl (by simp) hP Fr.rf
theorem sp0_kernelByRuns (hP : CoR w c [] C ch) (p wd : Nat) (hp : p < 18446744073709551616) (hw : wd ≤ 32) (hQ : ∀ w', CoR w' c ((runs wd p).flatMap enc) C ch → Fr w w' c 3 → Q none none w') : Sp Γ m0_kernelByRuns [.ref c, .long (lN p), .int (nI wd)] none w Q := by
  have b2 : wd < 2147483648 := by omega
  refine entry Γ m0_kernelByRuns rfl _ (Nat.le_of_ble_eq_true rfl) _ _ _ ?_
  refine wp_ok kd0_kernelByRuns 400 0 bb0_kernelByRuns_0 _ _ _ _ _ _ oo0_kernelByRuns_0 ?_
  simp only [List.getElem?_cons_zero, List.getElem?_cons_succ, fv4, Nat.reduceAdd, Nat.reduceSub, wp, pst, stp, LG, lput, ls_tl, two, bc, EL, pad, popN, csum, Option.toList, List.cons_append, List.nil_append, List.set_cons_zero, List.set_cons_succ, List.length_cons, List.length_nil, true_and, and_true, Nat.reduceLT, Nat.reduceLeDiff, Nat.zero_le, Nat.le_refl, RI_i, RI_z0, RI_z1, Int32.reduceOfInt, Int8.reduceOfInt, Int16.reduceOfInt, Int64.reduceOfInt, Int8.toInt32_ofNat, Int16.toInt32_ofNat, Int.reduceNeg, Int32.ofInt_neg, Int8.ofInt_neg, Int16.ofInt_neg, Int32.toInt64_ofNat, Int32.reduceToNatClampNeg, Fin.isValue, Fin.val_one, Fin.val_zero, Fin.val_two, Int64.reduceOfNat, Int32.reduceOfNat, hdl, cutc, Nat.reduceEqDiff, reduceIte, FV, tyC, tyX0, tyX1, tyX2, tyX3, tyX4, tyX5, tyX6, tyX7, tyX8, tyX9, tyX10, Nat.reduceMul, c_le, c_lt, c_eq, c_in, c_cl, c_add, c_rem, c_ofN, Int32.add_zero, Int32.zero_add, c_lt0, c_ge0, c_le0, c_gt0, c_e0, c_m1, c_m1', false_implies, true_implies, implies_true, not_false_eq_true, not_true_eq_false, Nat.not_lt_zero, up_s, up_1, up_m, ff0_kernelByRuns, bb0_kernelByRuns_0, bb0_kernelByRuns_9, bb0_kernelByRuns_41, bb0_kernelByRuns_42, bb0_kernelByRuns_47, bb0_kernelByRuns_56, cl_1, ca_1]
  have htot := runs_len wd p
  have key : ∀ (n i : Nat) (b : Bool) (r : Nat) (w1 : PW) (M : List Nat), n + i = wd → r ≤ i → M ++ (rl p n i b r).flatMap enc = (runs wd p).flatMap enc → CoR w1 c M C ch → Fr w w1 c 3 → G Γ m0_kernelByRuns Q (fun _ _ => False) 9 [some (.ref c), some (.long (lN p)), none, some (.int (nI wd)), some (.int (bz b)), some (.int (nI r)), some (.int (nI i))] [] none w1 0 0 := by
    intro n
    induction n with
    | zero =>
      intro i b r w1 M hn hr hM hC hF
      have b1 : i < 2147483648 := by omega
      obtain ⟨_, _, x1, -⟩ := id hC
      simp only [rl, List.flatMap_cons, List.flatMap_nil, List.append_nil] at hM
      refine wp_ok kd0_kernelByRuns 400 9 bb0_kernelByRuns_9 _ _ _ _ _ _ oo0_kernelByRuns_9 ?_
      simp only [List.getElem?_cons_zero, List.getElem?_cons_succ, fv4, Nat.reduceAdd, Nat.reduceSub, wp, pst, stp, LG, lput, ls_tl, two, bc, EL, pad, popN, csum, Option.toList, List.cons_append, List.nil_append, List.set_cons_zero, List.set_cons_succ, List.length_cons, List.length_nil, true_and, and_true, Nat.reduceLT, Nat.reduceLeDiff, Nat.zero_le, Nat.le_refl, RI_i, RI_z0, RI_z1, Int32.reduceOfInt, Int8.reduceOfInt, Int16.reduceOfInt, Int64.reduceOfInt, Int8.toInt32_ofNat, Int16.toInt32_ofNat, Int.reduceNeg, Int32.ofInt_neg, Int8.ofInt_neg, Int16.ofInt_neg, Int32.toInt64_ofNat, Int32.reduceToNatClampNeg, Fin.isValue, Fin.val_one, Fin.val_zero, Fin.val_two, Int64.reduceOfNat, Int32.reduceOfNat, hdl, cutc, Nat.reduceEqDiff, reduceIte, FV, tyC, tyX0, tyX1, tyX2, tyX3, tyX4, tyX5, tyX6, tyX7, tyX8, tyX9, tyX10, Nat.reduceMul, c_le, c_lt, c_eq, c_in, c_cl, c_add, c_rem, c_ofN, Int32.add_zero, Int32.zero_add, c_lt0, c_ge0, c_le0, c_gt0, c_e0, c_m1, c_m1', false_implies, true_implies, implies_true, not_false_eq_true, not_true_eq_false, Nat.not_lt_zero, up_s, up_1, up_m, ff0_kernelByRuns, bb0_kernelByRuns_0, bb0_kernelByRuns_9, bb0_kernelByRuns_41, bb0_kernelByRuns_42, bb0_kernelByRuns_47, bb0_kernelByRuns_56, cl_1, ca_1, b1, b2, x1]
      refine ⟨fun _ => ?_, fun h => absurd h (by omega)⟩
      refine sp0_addRun hC r (by omega) (by rw [hM]; omega) (fun w2 h2 f2 => ?_)
      unfold holdL
      simp only [List.getElem?_cons_zero, List.getElem?_cons_succ, fv4, Nat.reduceAdd, Nat.reduceSub, wp, pst, stp, LG, lput, ls_tl, two, bc, EL, pad, popN, csum, Option.toList, List.cons_append, List.nil_append, List.set_cons_zero, List.set_cons_succ, List.length_cons, List.length_nil, true_and, and_true, Nat.reduceLT, Nat.reduceLeDiff, Nat.zero_le, Nat.le_refl, RI_i, RI_z0, RI_z1, Int32.reduceOfInt, Int8.reduceOfInt, Int16.reduceOfInt, Int64.reduceOfInt, Int8.toInt32_ofNat, Int16.toInt32_ofNat, Int.reduceNeg, Int32.ofInt_neg, Int8.ofInt_neg, Int16.ofInt_neg, Int32.toInt64_ofNat, Int32.reduceToNatClampNeg, Fin.isValue, Fin.val_one, Fin.val_zero, Fin.val_two, Int64.reduceOfNat, Int32.reduceOfNat, hdl, cutc, Nat.reduceEqDiff, reduceIte, FV, tyC, tyX0, tyX1, tyX2, tyX3, tyX4, tyX5, tyX6, tyX7, tyX8, tyX9, tyX10, Nat.reduceMul, c_le, c_lt, c_eq, c_in, c_cl, c_add, c_rem, c_ofN, Int32.add_zero, Int32.zero_add, c_lt0, c_ge0, c_le0, c_gt0, c_e0, c_m1, c_m1', false_implies, true_implies, implies_true, not_false_eq_true, not_true_eq_false, Nat.not_lt_zero, up_s, up_1, up_m, ff0_kernelByRuns, bb0_kernelByRuns_0, bb0_kernelByRuns_9, bb0_kernelByRuns_41, bb0_kernelByRuns_42, bb0_kernelByRuns_47, bb0_kernelByRuns_56, cl_1, ca_1]
      rw [hM] at h2
      exact hQ _ h2 (hF.tr f2)
    | succ n ih =>
      intro i b r w1 M hn hr hM hC hF
      have b1 : i < 2147483648 := by omega
      obtain ⟨_, _, x1, -⟩ := id hC
      simp only [rl] at hM
      refine wp_ok kd0_kernelByRuns 400 9 bb0_kernelByRuns_9 _ _ _ _ _ _ oo0_kernelByRuns_9 ?_
      simp only [List.getElem?_cons_zero, List.getElem?_cons_succ, fv4, Nat.reduceAdd, Nat.reduceSub, wp, pst, stp, LG, lput, ls_tl, two, bc, EL, pad, popN, csum, Option.toList, List.cons_append, List.nil_append, List.set_cons_zero, List.set_cons_succ, List.length_cons, List.length_nil, true_and, and_true, Nat.reduceLT, Nat.reduceLeDiff, Nat.zero_le, Nat.le_refl, RI_i, RI_z0, RI_z1, Int32.reduceOfInt, Int8.reduceOfInt, Int16.reduceOfInt, Int64.reduceOfInt, Int8.toInt32_ofNat, Int16.toInt32_ofNat, Int.reduceNeg, Int32.ofInt_neg, Int8.ofInt_neg, Int16.ofInt_neg, Int32.toInt64_ofNat, Int32.reduceToNatClampNeg, Fin.isValue, Fin.val_one, Fin.val_zero, Fin.val_two, Int64.reduceOfNat, Int32.reduceOfNat, hdl, cutc, Nat.reduceEqDiff, reduceIte, FV, tyC, tyX0, tyX1, tyX2, tyX3, tyX4, tyX5, tyX6, tyX7, tyX8, tyX9, tyX10, Nat.reduceMul, c_le, c_lt, c_eq, c_in, c_cl, c_add, c_rem, c_ofN, Int32.add_zero, Int32.zero_add, c_lt0, c_ge0, c_le0, c_gt0, c_e0, c_m1, c_m1', false_implies, true_implies, implies_true, not_false_eq_true, not_true_eq_false, Nat.not_lt_zero, up_s, up_1, up_m, ff0_kernelByRuns, bb0_kernelByRuns_0, bb0_kernelByRuns_9, bb0_kernelByRuns_41, bb0_kernelByRuns_42, bb0_kernelByRuns_47, bb0_kernelByRuns_56, cl_1, ca_1, b1, b2, x1]
      refine ⟨fun h => absurd h (by omega), fun _ => ?_⟩
      refine sp9_blackAt p i hp (by omega) (fun hv => ?_) (fun hv => ?_)
      · cases b
        · rw [if_neg (by simp [hv])] at hM
          simp only [List.flatMap_cons, ← List.append_assoc] at hM
          have hl : (M ++ enc r).length ≤ 33 := by have := congrArg List.length hM; simp only [List.length_append] at this ⊢; omega
          unfold holdL
          simp only [List.getElem?_cons_zero, List.getElem?_cons_succ, fv4, Nat.reduceAdd, Nat.reduceSub, wp, pst, stp, LG, lput, ls_tl, two, bc, EL, pad, popN, csum, Option.toList, List.cons_append, List.nil_append, List.set_cons_zero, List.set_cons_succ, List.length_cons, List.length_nil, true_and, and_true, Nat.reduceLT, Nat.reduceLeDiff, Nat.zero_le, Nat.le_refl, RI_i, RI_z0, RI_z1, Int32.reduceOfInt, Int8.reduceOfInt, Int16.reduceOfInt, Int64.reduceOfInt, Int8.toInt32_ofNat, Int16.toInt32_ofNat, Int.reduceNeg, Int32.ofInt_neg, Int8.ofInt_neg, Int16.ofInt_neg, Int32.toInt64_ofNat, Int32.reduceToNatClampNeg, Fin.isValue, Fin.val_one, Fin.val_zero, Fin.val_two, Int64.reduceOfNat, Int32.reduceOfNat, hdl, cutc, Nat.reduceEqDiff, reduceIte, FV, tyC, tyX0, tyX1, tyX2, tyX3, tyX4, tyX5, tyX6, tyX7, tyX8, tyX9, tyX10, Nat.reduceMul, c_le, c_lt, c_eq, c_in, c_cl, c_add, c_rem, c_ofN, Int32.add_zero, Int32.zero_add, c_lt0, c_ge0, c_le0, c_gt0, c_e0, c_m1, c_m1', false_implies, true_implies, implies_true, not_false_eq_true, not_true_eq_false, Nat.not_lt_zero, up_s, up_1, up_m, ff0_kernelByRuns, bb0_kernelByRuns_0, bb0_kernelByRuns_9, bb0_kernelByRuns_41, bb0_kernelByRuns_42, bb0_kernelByRuns_47, bb0_kernelByRuns_56, cl_1, ca_1, b1, b2, x1, bz_f, bz_t]
          refine ⟨fun h => absurd h (by decide), fun _ => ?_⟩
          refine sp0_addRun hC r (by omega) hl (fun w2 h2 f2 => ?_)
          unfold holdL
          simp only [List.getElem?_cons_zero, List.getElem?_cons_succ, fv4, Nat.reduceAdd, Nat.reduceSub, wp, pst, stp, LG, lput, ls_tl, two, bc, EL, pad, popN, csum, Option.toList, List.cons_append, List.nil_append, List.set_cons_zero, List.set_cons_succ, List.length_cons, List.length_nil, true_and, and_true, Nat.reduceLT, Nat.reduceLeDiff, Nat.zero_le, Nat.le_refl, RI_i, RI_z0, RI_z1, Int32.reduceOfInt, Int8.reduceOfInt, Int16.reduceOfInt, Int64.reduceOfInt, Int8.toInt32_ofNat, Int16.toInt32_ofNat, Int.reduceNeg, Int32.ofInt_neg, Int8.ofInt_neg, Int16.ofInt_neg, Int32.toInt64_ofNat, Int32.reduceToNatClampNeg, Fin.isValue, Fin.val_one, Fin.val_zero, Fin.val_two, Int64.reduceOfNat, Int32.reduceOfNat, hdl, cutc, Nat.reduceEqDiff, reduceIte, FV, tyC, tyX0, tyX1, tyX2, tyX3, tyX4, tyX5, tyX6, tyX7, tyX8, tyX9, tyX10, Nat.reduceMul, c_le, c_lt, c_eq, c_in, c_cl, c_add, c_rem, c_ofN, Int32.add_zero, Int32.zero_add, c_lt0, c_ge0, c_le0, c_gt0, c_e0, c_m1, c_m1', false_implies, true_implies, implies_true, not_false_eq_true, not_true_eq_false, Nat.not_lt_zero, up_s, up_1, up_m, ff0_kernelByRuns, bb0_kernelByRuns_0, bb0_kernelByRuns_9, bb0_kernelByRuns_41, bb0_kernelByRuns_42, bb0_kernelByRuns_47, bb0_kernelByRuns_56, cl_1, ca_1, b1, b2]
          exact ih (i + 1) true 1 w2 _ (by omega) (by omega) hM h2 (hF.tr f2)
        · rw [if_pos hv] at hM
          unfold holdL
          simp only [List.getElem?_cons_zero, List.getElem?_cons_succ, fv4, Nat.reduceAdd, Nat.reduceSub, wp, pst, stp, LG, lput, ls_tl, two, bc, EL, pad, popN, csum, Option.toList, List.cons_append, List.nil_append, List.set_cons_zero, List.set_cons_succ, List.length_cons, List.length_nil, true_and, and_true, Nat.reduceLT, Nat.reduceLeDiff, Nat.zero_le, Nat.le_refl, RI_i, RI_z0, RI_z1, Int32.reduceOfInt, Int8.reduceOfInt, Int16.reduceOfInt, Int64.reduceOfInt, Int8.toInt32_ofNat, Int16.toInt32_ofNat, Int.reduceNeg, Int32.ofInt_neg, Int8.ofInt_neg, Int16.ofInt_neg, Int32.toInt64_ofNat, Int32.reduceToNatClampNeg, Fin.isValue, Fin.val_one, Fin.val_zero, Fin.val_two, Int64.reduceOfNat, Int32.reduceOfNat, hdl, cutc, Nat.reduceEqDiff, reduceIte, FV, tyC, tyX0, tyX1, tyX2, tyX3, tyX4, tyX5, tyX6, tyX7, tyX8, tyX9, tyX10, Nat.reduceMul, c_le, c_lt, c_eq, c_in, c_cl, c_add, c_rem, c_ofN, Int32.add_zero, Int32.zero_add, c_lt0, c_ge0, c_le0, c_gt0, c_e0, c_m1, c_m1', false_implies, true_implies, implies_true, not_false_eq_true, not_true_eq_false, Nat.not_lt_zero, up_s, up_1, up_m, ff0_kernelByRuns, bb0_kernelByRuns_0, bb0_kernelByRuns_9, bb0_kernelByRuns_41, bb0_kernelByRuns_42, bb0_kernelByRuns_47, bb0_kernelByRuns_56, cl_1, ca_1, b1, b2, x1, bz_f, bz_t]
          exact ih (i + 1) true (r + 1) w1 _ (by omega) (by omega) hM hC hF
      · cases b
        · rw [if_pos hv] at hM
          unfold holdL
          simp only [List.getElem?_cons_zero, List.getElem?_cons_succ, fv4, Nat.reduceAdd, Nat.reduceSub, wp, pst, stp, LG, lput, ls_tl, two, bc, EL, pad, popN, csum, Option.toList, List.cons_append, List.nil_append, List.set_cons_zero, List.set_cons_succ, List.length_cons, List.length_nil, true_and, and_true, Nat.reduceLT, Nat.reduceLeDiff, Nat.zero_le, Nat.le_refl, RI_i, RI_z0, RI_z1, Int32.reduceOfInt, Int8.reduceOfInt, Int16.reduceOfInt, Int64.reduceOfInt, Int8.toInt32_ofNat, Int16.toInt32_ofNat, Int.reduceNeg, Int32.ofInt_neg, Int8.ofInt_neg, Int16.ofInt_neg, Int32.toInt64_ofNat, Int32.reduceToNatClampNeg, Fin.isValue, Fin.val_one, Fin.val_zero, Fin.val_two, Int64.reduceOfNat, Int32.reduceOfNat, hdl, cutc, Nat.reduceEqDiff, reduceIte, FV, tyC, tyX0, tyX1, tyX2, tyX3, tyX4, tyX5, tyX6, tyX7, tyX8, tyX9, tyX10, Nat.reduceMul, c_le, c_lt, c_eq, c_in, c_cl, c_add, c_rem, c_ofN, Int32.add_zero, Int32.zero_add, c_lt0, c_ge0, c_le0, c_gt0, c_e0, c_m1, c_m1', false_implies, true_implies, implies_true, not_false_eq_true, not_true_eq_false, Nat.not_lt_zero, up_s, up_1, up_m, ff0_kernelByRuns, bb0_kernelByRuns_0, bb0_kernelByRuns_9, bb0_kernelByRuns_41, bb0_kernelByRuns_42, bb0_kernelByRuns_47, bb0_kernelByRuns_56, cl_1, ca_1, b1, b2, x1, bz_f, bz_t]
          exact ih (i + 1) false (r + 1) w1 _ (by omega) (by omega) hM hC hF
        · rw [if_neg (by simp [hv])] at hM
          simp only [List.flatMap_cons, ← List.append_assoc] at hM
          have hl : (M ++ enc r).length ≤ 33 := by have := congrArg List.length hM; simp only [List.length_append] at this ⊢; omega
          unfold holdL
          simp only [List.getElem?_cons_zero, List.getElem?_cons_succ, fv4, Nat.reduceAdd, Nat.reduceSub, wp, pst, stp, LG, lput, ls_tl, two, bc, EL, pad, popN, csum, Option.toList, List.cons_append, List.nil_append, List.set_cons_zero, List.set_cons_succ, List.length_cons, List.length_nil, true_and, and_true, Nat.reduceLT, Nat.reduceLeDiff, Nat.zero_le, Nat.le_refl, RI_i, RI_z0, RI_z1, Int32.reduceOfInt, Int8.reduceOfInt, Int16.reduceOfInt, Int64.reduceOfInt, Int8.toInt32_ofNat, Int16.toInt32_ofNat, Int.reduceNeg, Int32.ofInt_neg, Int8.ofInt_neg, Int16.ofInt_neg, Int32.toInt64_ofNat, Int32.reduceToNatClampNeg, Fin.isValue, Fin.val_one, Fin.val_zero, Fin.val_two, Int64.reduceOfNat, Int32.reduceOfNat, hdl, cutc, Nat.reduceEqDiff, reduceIte, FV, tyC, tyX0, tyX1, tyX2, tyX3, tyX4, tyX5, tyX6, tyX7, tyX8, tyX9, tyX10, Nat.reduceMul, c_le, c_lt, c_eq, c_in, c_cl, c_add, c_rem, c_ofN, Int32.add_zero, Int32.zero_add, c_lt0, c_ge0, c_le0, c_gt0, c_e0, c_m1, c_m1', false_implies, true_implies, implies_true, not_false_eq_true, not_true_eq_false, Nat.not_lt_zero, up_s, up_1, up_m, ff0_kernelByRuns, bb0_kernelByRuns_0, bb0_kernelByRuns_9, bb0_kernelByRuns_41, bb0_kernelByRuns_42, bb0_kernelByRuns_47, bb0_kernelByRuns_56, cl_1, ca_1, b1, b2, x1, bz_f, bz_t]
          refine ⟨fun h => absurd h (by decide), fun _ => ?_⟩
          refine sp0_addRun hC r (by omega) hl (fun w2 h2 f2 => ?_)
          unfold holdL
          simp only [List.getElem?_cons_zero, List.getElem?_cons_succ, fv4, Nat.reduceAdd, Nat.reduceSub, wp, pst, stp, LG, lput, ls_tl, two, bc, EL, pad, popN, csum, Option.toList, List.cons_append, List.nil_append, List.set_cons_zero, List.set_cons_succ, List.length_cons, List.length_nil, true_and, and_true, Nat.reduceLT, Nat.reduceLeDiff, Nat.zero_le, Nat.le_refl, RI_i, RI_z0, RI_z1, Int32.reduceOfInt, Int8.reduceOfInt, Int16.reduceOfInt, Int64.reduceOfInt, Int8.toInt32_ofNat, Int16.toInt32_ofNat, Int.reduceNeg, Int32.ofInt_neg, Int8.ofInt_neg, Int16.ofInt_neg, Int32.toInt64_ofNat, Int32.reduceToNatClampNeg, Fin.isValue, Fin.val_one, Fin.val_zero, Fin.val_two, Int64.reduceOfNat, Int32.reduceOfNat, hdl, cutc, Nat.reduceEqDiff, reduceIte, FV, tyC, tyX0, tyX1, tyX2, tyX3, tyX4, tyX5, tyX6, tyX7, tyX8, tyX9, tyX10, Nat.reduceMul, c_le, c_lt, c_eq, c_in, c_cl, c_add, c_rem, c_ofN, Int32.add_zero, Int32.zero_add, c_lt0, c_ge0, c_le0, c_gt0, c_e0, c_m1, c_m1', false_implies, true_implies, implies_true, not_false_eq_true, not_true_eq_false, Nat.not_lt_zero, up_s, up_1, up_m, ff0_kernelByRuns, bb0_kernelByRuns_0, bb0_kernelByRuns_9, bb0_kernelByRuns_41, bb0_kernelByRuns_42, bb0_kernelByRuns_47, bb0_kernelByRuns_56, cl_1, ca_1, b1, b2]
          refine ⟨fun _ => ?_, fun h => absurd (by decide) h⟩
          exact ih (i + 1) false 1 w2 _ (by omega) (by omega) hM h2 (hF.tr f2)
  exact key wd 0 false 0 w [] rfl (Nat.le_refl _) rfl hP Fr.rf
theorem CoR.k0 (h : CoR w c K C ch) : CoR (up w c (.inr (0, [.ref (c + 1), .int 0, .ref (c + 2), .int (nI C.length), .int ch]))) c [] C ch := by
  obtain ⟨f, g, e1, e2, e3, e4, e5, e6, e7⟩ := h
  exact ⟨f, g, up_s _ _ _, by rw [up_1]; exact e2, by rw [up_n _ _ _ _ (by omega)]; exact e3, fun j hj => absurd hj (by simp), e5, by simp, e7⟩
theorem CoR.l0 (h : CoR w c K C ch) : CoR (up w c (.inr (0, [.ref (c + 1), .int (nI K.length), .ref (c + 2), .int 0, .int ch]))) c K [] ch := by
  obtain ⟨f, g, e1, e2, e3, e4, e5, e6, e7⟩ := h
  exact ⟨f, g, up_s _ _ _, by rw [up_1]; exact e2, by rw [up_n _ _ _ _ (by omega)]; exact e3, e4, fun j hj => absurd hj (by simp), e6, by simp⟩
theorem CoR.sc (h : CoR w c K C ch) (v : Int32) : CoR (up w c (.inr (0, [.ref (c + 1), .int (nI K.length), .ref (c + 2), .int (nI C.length), .int v]))) c K C v := by
  obtain ⟨f, g, e1, e2, e3, e4, e5, e6, e7⟩ := h
  exact ⟨f, g, up_s _ _ _, by rw [up_1]; exact e2, by rw [up_n _ _ _ _ (by omega)]; exact e3, e4, e5, e6, e7⟩
theorem CoR.e1 (h : CoR w c K C ch) : w c = some (.inr (0, [.ref (c + 1), .int (nI K.length), .ref (c + 2), .int (nI C.length), .int ch])) := by
  obtain ⟨f, g, e1, -⟩ := h; exact e1
def LOK (L : List Nat) : Prop := ∀ j, L.getD j 0 < 4294967296
theorem kpx_lt {L : List Nat} (hL : LOK L) (n m : Nat) : kpx L n m < 18446744073709551616 := by
  have h1 := hL n
  have h2 := hL (n - 1)
  unfold kpx
  split
  · refine Nat.xor_lt_two_pow (n := 64) (by omega) ?_
    split <;> omega
  · omega
theorem sp0_write {pa wd sy : Nat} {L : List Nat} (hP : CoR w c K C ch) (hG : PgR w pa wd sy L) (hL : LOK L) (h1 : 1 ≤ wd) (hw : wd ≤ 32) (n m : Nat) (hn : n < L.length) (hm : m < 3) (hd : pa + 2 ≤ c ∨ c + 3 ≤ pa) (hQ : ∀ w', CoR w' c (ker wd (kpx L n m) m) (code1 wd L n m) (nI (chk wd L n m)) → Fr w w' c 3 → Q none none w') : Sp Γ m0_write [.ref c, .ref pa, .int (nI n), .int (nI m)] none w Q := by
  obtain ⟨gf, g1, g2, g3, g4⟩ := id hG
  have b1 : n < 2147483648 := by omega
  have b2 : m < 2147483648 := by omega
  have b3 : wd < 2147483648 := by omega
  have hlt := ker_lt wd (kpx L n m) m h1 hw
  have hkl := ker_len wd (kpx L n m) m hw
  have n1 : pa ≠ c := by omega
  have f0 : ∀ e, Fr w (up w c e) c 3 := fun e => Fr.wr (by omega) (by omega)
  have hJ : ∀ w1, CoR w1 c (ker wd (kpx L n m) m) C ch → Fr w w1 c 3 → G Γ m0_write Q (fun _ _ => False) 41 [some (.ref c), some (.ref pa), some (.int (nI n)), some (.int (nI m)), some (.long (lN (kpx L n m))), none, none, none] [] none w1 0 0 := by
    intro w1 hC hF
    have hsum : ∀ i, i ≤ (ker wd (kpx L n m) m).length → ((ker wd (kpx L n m) m).take i).sum ≤ 16 * i := by
      intro i
      induction i with
      | zero => intro _; simp
      | succ i ih =>
        intro hi
        have := ih (by omega)
        have hx := hlt _ (List.getElem_mem (show i < (ker wd (kpx L n m) m).length by omega))
        rw [List.take_add_one, List.getElem?_eq_getElem (by omega)]
        simp only [Option.toList_some, List.sum_append, List.sum_cons, List.sum_nil]
        omega
    have loop : ∀ (u i : Nat) (w2 : PW), u + i = (ker wd (kpx L n m) m).length → CoR w2 c (ker wd (kpx L n m) m) ([15, 0, n, m] ++ ((ker wd (kpx L n m) m).take i).flatMap esc) ch → Fr w w2 c 3 → G Γ m0_write Q (fun _ _ => False) 75 [some (.ref c), some (.ref pa), some (.int (nI n)), some (.int (nI m)), some (.long (lN (kpx L n m))), none, some (.int (nI (n + m + ((ker wd (kpx L n m) m).take i).sum))), some (.int (nI i))] [] none w2 0 0 := by
      intro u
      induction u with
      | zero =>
        intro i w2 hi hC2 hF2
        have hi2 : i = (ker wd (kpx L n m) m).length := by omega
        subst hi2
        have hs := hsum _ (Nat.le_refl _)
        rw [List.take_length] at hC2 hs ⊢
        have b4 : (ker wd (kpx L n m) m).length < 2147483648 := by omega
        have b5 : n + m + (ker wd (kpx L n m) m).sum < 2147483648 := by omega
        obtain ⟨kf, cf, x1, x2, x3, x4, x5, x6, x7⟩ := id hC2
        refine wp_ok kd0_write 400 75 bb0_write_75 _ _ _ _ _ _ oo0_write_75 ?_
        simp only [List.getElem?_cons_zero, List.getElem?_cons_succ, fv4, Nat.reduceAdd, Nat.reduceSub, wp, pst, stp, LG, lput, ls_tl, two, bc, EL, pad, popN, csum, Option.toList, List.cons_append, List.nil_append, List.set_cons_zero, List.set_cons_succ, List.length_cons, List.length_nil, true_and, and_true, Nat.reduceLT, Nat.reduceLeDiff, Nat.zero_le, Nat.le_refl, RI_i, RI_z0, RI_z1, Int32.reduceOfInt, Int8.reduceOfInt, Int16.reduceOfInt, Int64.reduceOfInt, Int8.toInt32_ofNat, Int16.toInt32_ofNat, Int.reduceNeg, Int32.ofInt_neg, Int8.ofInt_neg, Int16.ofInt_neg, Int32.toInt64_ofNat, Int32.reduceToNatClampNeg, Fin.isValue, Fin.val_one, Fin.val_zero, Fin.val_two, Int64.reduceOfNat, Int32.reduceOfNat, hdl, cutc, Nat.reduceEqDiff, reduceIte, FV, tyC, tyX0, tyX1, tyX2, tyX3, tyX4, tyX5, tyX6, tyX7, tyX8, tyX9, tyX10, Nat.reduceMul, c_le, c_lt, c_eq, c_in, c_cl, c_add, c_rem, c_ofN, Int32.add_zero, Int32.zero_add, c_lt0, c_ge0, c_le0, c_gt0, c_e0, c_m1, c_m1', false_implies, true_implies, implies_true, not_false_eq_true, not_true_eq_false, Nat.not_lt_zero, up_s, up_1, up_m, ff0_write, bb0_write_0, bb0_write_31, bb0_write_41, bb0_write_75, bb0_write_134, bb0_write_140, cl_1, ca_1, cl_15, ca_15, hC2.e1, x2, b4, b5]
        have hel := esc_all_len (ker wd (kpx L n m) m)
        refine ⟨by decide, ?_⟩
        have hl71 : ([15, 0, n, m] ++ (ker wd (kpx L n m) m).flatMap esc).length < 71 := by
          rw [List.length_append]
          simp only [List.length_cons, List.length_nil]
          omega
        refine sp0_put (hC2.sc _) ((n + m + (ker wd (kpx L n m) m).sum) % 15) hl71 (fun w3 h3 f3 => ?_)
        unfold holdL
        simp only [List.getElem?_cons_zero, List.getElem?_cons_succ, fv4, Nat.reduceAdd, Nat.reduceSub, wp, pst, stp, LG, lput, ls_tl, two, bc, EL, pad, popN, csum, Option.toList, List.cons_append, List.nil_append, List.set_cons_zero, List.set_cons_succ, List.length_cons, List.length_nil, true_and, and_true, Nat.reduceLT, Nat.reduceLeDiff, Nat.zero_le, Nat.le_refl, RI_i, RI_z0, RI_z1, Int32.reduceOfInt, Int8.reduceOfInt, Int16.reduceOfInt, Int64.reduceOfInt, Int8.toInt32_ofNat, Int16.toInt32_ofNat, Int.reduceNeg, Int32.ofInt_neg, Int8.ofInt_neg, Int16.ofInt_neg, Int32.toInt64_ofNat, Int32.reduceToNatClampNeg, Fin.isValue, Fin.val_one, Fin.val_zero, Fin.val_two, Int64.reduceOfNat, Int32.reduceOfNat, hdl, cutc, Nat.reduceEqDiff, reduceIte, FV, tyC, tyX0, tyX1, tyX2, tyX3, tyX4, tyX5, tyX6, tyX7, tyX8, tyX9, tyX10, Nat.reduceMul, c_le, c_lt, c_eq, c_in, c_cl, c_add, c_rem, c_ofN, Int32.add_zero, Int32.zero_add, c_lt0, c_ge0, c_le0, c_gt0, c_e0, c_m1, c_m1', false_implies, true_implies, implies_true, not_false_eq_true, not_true_eq_false, Nat.not_lt_zero, up_s, up_1, up_m, ff0_write, bb0_write_0, bb0_write_31, bb0_write_41, bb0_write_75, bb0_write_134, bb0_write_140, cl_1, ca_1, cl_15, ca_15]
        refine hQ _ ?_ ((hF2.tr (Fr.wr (by omega) (by omega))).tr f3)
        exact h3
      | succ u ih =>
        intro i w2 hi hC2 hF2
        have b4 : i < 2147483648 := by omega
        have b5 : (ker wd (kpx L n m) m).length < 2147483648 := by omega
        obtain ⟨kf, cf, x1, x2, x3, x4, x5, x6, x7⟩ := id hC2
        have hx := x4 i (by omega)
        have hlx := hlt _ (List.getElem_mem (show i < (ker wd (kpx L n m) m).length by omega))
        have hg : (ker wd (kpx L n m) m).getD i 0 = (ker wd (kpx L n m) m)[i] := by rw [List.getD_eq_getElem?_getD, List.getElem?_eq_getElem (by omega)]; rfl
        rw [hg] at hx
        refine wp_ok kd0_write 400 75 bb0_write_75 _ _ _ _ _ _ oo0_write_75 ?_
        have b6 : (ker wd (kpx L n m) m)[i] < 2147483648 := by omega
        simp only [List.getElem?_cons_zero, List.getElem?_cons_succ, fv4, Nat.reduceAdd, Nat.reduceSub, wp, pst, stp, LG, lput, ls_tl, two, bc, EL, pad, popN, csum, Option.toList, List.cons_append, List.nil_append, List.set_cons_zero, List.set_cons_succ, List.length_cons, List.length_nil, true_and, and_true, Nat.reduceLT, Nat.reduceLeDiff, Nat.zero_le, Nat.le_refl, RI_i, RI_z0, RI_z1, Int32.reduceOfInt, Int8.reduceOfInt, Int16.reduceOfInt, Int64.reduceOfInt, Int8.toInt32_ofNat, Int16.toInt32_ofNat, Int.reduceNeg, Int32.ofInt_neg, Int8.ofInt_neg, Int16.ofInt_neg, Int32.toInt64_ofNat, Int32.reduceToNatClampNeg, Fin.isValue, Fin.val_one, Fin.val_zero, Fin.val_two, Int64.reduceOfNat, Int32.reduceOfNat, hdl, cutc, Nat.reduceEqDiff, reduceIte, FV, tyC, tyX0, tyX1, tyX2, tyX3, tyX4, tyX5, tyX6, tyX7, tyX8, tyX9, tyX10, Nat.reduceMul, c_le, c_lt, c_eq, c_in, c_cl, c_add, c_rem, c_ofN, Int32.add_zero, Int32.zero_add, c_lt0, c_ge0, c_le0, c_gt0, c_e0, c_m1, c_m1', false_implies, true_implies, implies_true, not_false_eq_true, not_true_eq_false, Nat.not_lt_zero, up_s, up_1, up_m, ff0_write, bb0_write_0, bb0_write_31, bb0_write_41, bb0_write_75, bb0_write_134, bb0_write_140, cl_1, ca_1, cl_15, ca_15, hC2.e1, x2, b4, b5, hx, b6]
        refine ⟨fun h => absurd h (by omega), fun _ => ⟨fun h => absurd h (by omega), fun _ => ?_⟩⟩
        have hel := esc_all_len ((ker wd (kpx L n m) m).take i)
        rw [List.length_take] at hel
        have hsn : ((ker wd (kpx L n m) m).take (i + 1)).sum = ((ker wd (kpx L n m) m).take i).sum + (ker wd (kpx L n m) m)[i] := by
          rw [List.take_add_one, List.getElem?_eq_getElem (by omega)]
          simp only [Option.toList_some, List.sum_append, List.sum_cons, List.sum_nil, Nat.add_zero]
        have hen : [15, 0, n, m] ++ ((ker wd (kpx L n m) m).take (i + 1)).flatMap esc = [15, 0, n, m] ++ ((ker wd (kpx L n m) m).take i).flatMap esc ++ esc (ker wd (kpx L n m) m)[i] := by
          rw [List.take_add_one, List.getElem?_eq_getElem (by omega)]
          simp only [Option.toList_some, List.flatMap_append, List.flatMap_cons, List.flatMap_nil, List.append_nil, List.append_assoc]
        have hs := hsum i (by omega)
        have b7 : n + m + ((ker wd (kpx L n m) m).take i).sum < 2147483648 := by omega
        have hl71 : ([15, 0, n, m] ++ ((ker wd (kpx L n m) m).take i).flatMap esc).length + 1 < 71 := by
          rw [List.length_append]
          simp only [List.length_cons, List.length_nil]
          omega
        refine ⟨by omega, by omega, ?_⟩
        refine sp0_put hC2 _ (by omega) (fun w3 h3 f3 => ?_)
        obtain ⟨kf3, cf3, y1, y2, y3, y4, y5, y6, y7⟩ := id h3
        have hx3 := y4 i (by omega)
        rw [hg] at hx3
        unfold holdL
        simp only [List.getElem?_cons_zero, List.getElem?_cons_succ, fv4, Nat.reduceAdd, Nat.reduceSub, wp, pst, stp, LG, lput, ls_tl, two, bc, EL, pad, popN, csum, Option.toList, List.cons_append, List.nil_append, List.set_cons_zero, List.set_cons_succ, List.length_cons, List.length_nil, true_and, and_true, Nat.reduceLT, Nat.reduceLeDiff, Nat.zero_le, Nat.le_refl, RI_i, RI_z0, RI_z1, Int32.reduceOfInt, Int8.reduceOfInt, Int16.reduceOfInt, Int64.reduceOfInt, Int8.toInt32_ofNat, Int16.toInt32_ofNat, Int.reduceNeg, Int32.ofInt_neg, Int8.ofInt_neg, Int16.ofInt_neg, Int32.toInt64_ofNat, Int32.reduceToNatClampNeg, Fin.isValue, Fin.val_one, Fin.val_zero, Fin.val_two, Int64.reduceOfNat, Int32.reduceOfNat, hdl, cutc, Nat.reduceEqDiff, reduceIte, FV, tyC, tyX0, tyX1, tyX2, tyX3, tyX4, tyX5, tyX6, tyX7, tyX8, tyX9, tyX10, Nat.reduceMul, c_le, c_lt, c_eq, c_in, c_cl, c_add, c_rem, c_ofN, Int32.add_zero, Int32.zero_add, c_lt0, c_ge0, c_le0, c_gt0, c_e0, c_m1, c_m1', false_implies, true_implies, implies_true, not_false_eq_true, not_true_eq_false, Nat.not_lt_zero, up_s, up_1, up_m, ff0_write, bb0_write_0, bb0_write_31, bb0_write_41, bb0_write_75, bb0_write_134, bb0_write_140, cl_1, ca_1, cl_15, ca_15, h3.e1, y2, b4, b5, hx3, b6, b7]
        refine ⟨by omega, fun h => ?_, fun h => ?_⟩
        · rw [Nat.add_assoc (n + m), ← hsn]
          refine ih (i + 1) w3 (by omega) ?_ (hF2.tr f3)
          rw [hen, esc, if_neg h]; exact h3
        · have h15 := Classical.not_not.mp h
          refine sp0_put h3 1 (by rw [List.length_append, List.length_singleton]; omega) (fun w4 h4 f4 => ?_)
          unfold holdL
          simp only [List.getElem?_cons_zero, List.getElem?_cons_succ, fv4, Nat.reduceAdd, Nat.reduceSub, wp, pst, stp, LG, lput, ls_tl, two, bc, EL, pad, popN, csum, Option.toList, List.cons_append, List.nil_append, List.set_cons_zero, List.set_cons_succ, List.length_cons, List.length_nil, true_and, and_true, Nat.reduceLT, Nat.reduceLeDiff, Nat.zero_le, Nat.le_refl, RI_i, RI_z0, RI_z1, Int32.reduceOfInt, Int8.reduceOfInt, Int16.reduceOfInt, Int64.reduceOfInt, Int8.toInt32_ofNat, Int16.toInt32_ofNat, Int.reduceNeg, Int32.ofInt_neg, Int8.ofInt_neg, Int16.ofInt_neg, Int32.toInt64_ofNat, Int32.reduceToNatClampNeg, Fin.isValue, Fin.val_one, Fin.val_zero, Fin.val_two, Int64.reduceOfNat, Int32.reduceOfNat, hdl, cutc, Nat.reduceEqDiff, reduceIte, FV, tyC, tyX0, tyX1, tyX2, tyX3, tyX4, tyX5, tyX6, tyX7, tyX8, tyX9, tyX10, Nat.reduceMul, c_le, c_lt, c_eq, c_in, c_cl, c_add, c_rem, c_ofN, Int32.add_zero, Int32.zero_add, c_lt0, c_ge0, c_le0, c_gt0, c_e0, c_m1, c_m1', false_implies, true_implies, implies_true, not_false_eq_true, not_true_eq_false, Nat.not_lt_zero, up_s, up_1, up_m, ff0_write, bb0_write_0, bb0_write_31, bb0_write_41, bb0_write_75, bb0_write_134, bb0_write_140, cl_1, ca_1, cl_15, ca_15, h4.e1, b4]
          rw [Nat.add_assoc (n + m), ← hsn]
          refine ih (i + 1) w4 (by omega) ?_ ((hF2.tr f3).tr f4)
          rw [hen, esc, if_pos h15]
          rw [List.append_assoc] at h4
          exact h15 ▸ h4
    have e5 : ([15, 0, n, m] : List Nat) = [15, 0, n, m] ++ ((ker wd (kpx L n m) m).take 0).flatMap esc := by simp
    refine wp_ok kd0_write 400 41 bb0_write_41 _ _ _ _ _ _ oo0_write_41 ?_
    simp only [List.getElem?_cons_zero, List.getElem?_cons_succ, fv4, Nat.reduceAdd, Nat.reduceSub, wp, pst, stp, LG, lput, ls_tl, two, bc, EL, pad, popN, csum, Option.toList, List.cons_append, List.nil_append, List.set_cons_zero, List.set_cons_succ, List.length_cons, List.length_nil, true_and, and_true, Nat.reduceLT, Nat.reduceLeDiff, Nat.zero_le, Nat.le_refl, RI_i, RI_z0, RI_z1, Int32.reduceOfInt, Int8.reduceOfInt, Int16.reduceOfInt, Int64.reduceOfInt, Int8.toInt32_ofNat, Int16.toInt32_ofNat, Int.reduceNeg, Int32.ofInt_neg, Int8.ofInt_neg, Int16.ofInt_neg, Int32.toInt64_ofNat, Int32.reduceToNatClampNeg, Fin.isValue, Fin.val_one, Fin.val_zero, Fin.val_two, Int64.reduceOfNat, Int32.reduceOfNat, hdl, cutc, Nat.reduceEqDiff, reduceIte, FV, tyC, tyX0, tyX1, tyX2, tyX3, tyX4, tyX5, tyX6, tyX7, tyX8, tyX9, tyX10, Nat.reduceMul, c_le, c_lt, c_eq, c_in, c_cl, c_add, c_rem, c_ofN, Int32.add_zero, Int32.zero_add, c_lt0, c_ge0, c_le0, c_gt0, c_e0, c_m1, c_m1', false_implies, true_implies, implies_true, not_false_eq_true, not_true_eq_false, Nat.not_lt_zero, up_s, up_1, up_m, ff0_write, bb0_write_0, bb0_write_31, bb0_write_41, bb0_write_75, bb0_write_134, bb0_write_140, cl_1, ca_1, cl_15, ca_15, hC.e1, up_u]
    refine sp0_put hC.l0 15 (by decide) (fun w2 h2 f2 => ?_)
    unfold holdL
    simp only [List.getElem?_cons_zero, List.getElem?_cons_succ, fv4, Nat.reduceAdd, Nat.reduceSub, wp, pst, stp, LG, lput, ls_tl, two, bc, EL, pad, popN, csum, Option.toList, List.cons_append, List.nil_append, List.set_cons_zero, List.set_cons_succ, List.length_cons, List.length_nil, true_and, and_true, Nat.reduceLT, Nat.reduceLeDiff, Nat.zero_le, Nat.le_refl, RI_i, RI_z0, RI_z1, Int32.reduceOfInt, Int8.reduceOfInt, Int16.reduceOfInt, Int64.reduceOfInt, Int8.toInt32_ofNat, Int16.toInt32_ofNat, Int.reduceNeg, Int32.ofInt_neg, Int8.ofInt_neg, Int16.ofInt_neg, Int32.toInt64_ofNat, Int32.reduceToNatClampNeg, Fin.isValue, Fin.val_one, Fin.val_zero, Fin.val_two, Int64.reduceOfNat, Int32.reduceOfNat, hdl, cutc, Nat.reduceEqDiff, reduceIte, FV, tyC, tyX0, tyX1, tyX2, tyX3, tyX4, tyX5, tyX6, tyX7, tyX8, tyX9, tyX10, Nat.reduceMul, c_le, c_lt, c_eq, c_in, c_cl, c_add, c_rem, c_ofN, Int32.add_zero, Int32.zero_add, c_lt0, c_ge0, c_le0, c_gt0, c_e0, c_m1, c_m1', false_implies, true_implies, implies_true, not_false_eq_true, not_true_eq_false, Nat.not_lt_zero, up_s, up_1, up_m, ff0_write, bb0_write_0, bb0_write_31, bb0_write_41, bb0_write_75, bb0_write_134, bb0_write_140, cl_1, ca_1, cl_15, ca_15, h2.e1]
    refine sp0_put h2 0 (by decide) (fun w3 h3 f3 => ?_)
    unfold holdL
    simp only [List.getElem?_cons_zero, List.getElem?_cons_succ, fv4, Nat.reduceAdd, Nat.reduceSub, wp, pst, stp, LG, lput, ls_tl, two, bc, EL, pad, popN, csum, Option.toList, List.cons_append, List.nil_append, List.set_cons_zero, List.set_cons_succ, List.length_cons, List.length_nil, true_and, and_true, Nat.reduceLT, Nat.reduceLeDiff, Nat.zero_le, Nat.le_refl, RI_i, RI_z0, RI_z1, Int32.reduceOfInt, Int8.reduceOfInt, Int16.reduceOfInt, Int64.reduceOfInt, Int8.toInt32_ofNat, Int16.toInt32_ofNat, Int.reduceNeg, Int32.ofInt_neg, Int8.ofInt_neg, Int16.ofInt_neg, Int32.toInt64_ofNat, Int32.reduceToNatClampNeg, Fin.isValue, Fin.val_one, Fin.val_zero, Fin.val_two, Int64.reduceOfNat, Int32.reduceOfNat, hdl, cutc, Nat.reduceEqDiff, reduceIte, FV, tyC, tyX0, tyX1, tyX2, tyX3, tyX4, tyX5, tyX6, tyX7, tyX8, tyX9, tyX10, Nat.reduceMul, c_le, c_lt, c_eq, c_in, c_cl, c_add, c_rem, c_ofN, Int32.add_zero, Int32.zero_add, c_lt0, c_ge0, c_le0, c_gt0, c_e0, c_m1, c_m1', false_implies, true_implies, implies_true, not_false_eq_true, not_true_eq_false, Nat.not_lt_zero, up_s, up_1, up_m, ff0_write, bb0_write_0, bb0_write_31, bb0_write_41, bb0_write_75, bb0_write_134, bb0_write_140, cl_1, ca_1, cl_15, ca_15, h3.e1]
    refine sp0_put h3 n (by simp) (fun w4 h4 f4 => ?_)
    unfold holdL
    simp only [List.getElem?_cons_zero, List.getElem?_cons_succ, fv4, Nat.reduceAdd, Nat.reduceSub, wp, pst, stp, LG, lput, ls_tl, two, bc, EL, pad, popN, csum, Option.toList, List.cons_append, List.nil_append, List.set_cons_zero, List.set_cons_succ, List.length_cons, List.length_nil, true_and, and_true, Nat.reduceLT, Nat.reduceLeDiff, Nat.zero_le, Nat.le_refl, RI_i, RI_z0, RI_z1, Int32.reduceOfInt, Int8.reduceOfInt, Int16.reduceOfInt, Int64.reduceOfInt, Int8.toInt32_ofNat, Int16.toInt32_ofNat, Int.reduceNeg, Int32.ofInt_neg, Int8.ofInt_neg, Int16.ofInt_neg, Int32.toInt64_ofNat, Int32.reduceToNatClampNeg, Fin.isValue, Fin.val_one, Fin.val_zero, Fin.val_two, Int64.reduceOfNat, Int32.reduceOfNat, hdl, cutc, Nat.reduceEqDiff, reduceIte, FV, tyC, tyX0, tyX1, tyX2, tyX3, tyX4, tyX5, tyX6, tyX7, tyX8, tyX9, tyX10, Nat.reduceMul, c_le, c_lt, c_eq, c_in, c_cl, c_add, c_rem, c_ofN, Int32.add_zero, Int32.zero_add, c_lt0, c_ge0, c_le0, c_gt0, c_e0, c_m1, c_m1', false_implies, true_implies, implies_true, not_false_eq_true, not_true_eq_false, Nat.not_lt_zero, up_s, up_1, up_m, ff0_write, bb0_write_0, bb0_write_31, bb0_write_41, bb0_write_75, bb0_write_134, bb0_write_140, cl_1, ca_1, cl_15, ca_15, h4.e1]
    refine sp0_put h4 m (by simp) (fun w5 h5 f5 => ?_)
    unfold holdL
    simp only [List.getElem?_cons_zero, List.getElem?_cons_succ, fv4, Nat.reduceAdd, Nat.reduceSub, wp, pst, stp, LG, lput, ls_tl, two, bc, EL, pad, popN, csum, Option.toList, List.cons_append, List.nil_append, List.set_cons_zero, List.set_cons_succ, List.length_cons, List.length_nil, true_and, and_true, Nat.reduceLT, Nat.reduceLeDiff, Nat.zero_le, Nat.le_refl, RI_i, RI_z0, RI_z1, Int32.reduceOfInt, Int8.reduceOfInt, Int16.reduceOfInt, Int64.reduceOfInt, Int8.toInt32_ofNat, Int16.toInt32_ofNat, Int.reduceNeg, Int32.ofInt_neg, Int8.ofInt_neg, Int16.ofInt_neg, Int32.toInt64_ofNat, Int32.reduceToNatClampNeg, Fin.isValue, Fin.val_one, Fin.val_zero, Fin.val_two, Int64.reduceOfNat, Int32.reduceOfNat, hdl, cutc, Nat.reduceEqDiff, reduceIte, FV, tyC, tyX0, tyX1, tyX2, tyX3, tyX4, tyX5, tyX6, tyX7, tyX8, tyX9, tyX10, Nat.reduceMul, c_le, c_lt, c_eq, c_in, c_cl, c_add, c_rem, c_ofN, Int32.add_zero, Int32.zero_add, c_lt0, c_ge0, c_le0, c_gt0, c_e0, c_m1, c_m1', false_implies, true_implies, implies_true, not_false_eq_true, not_true_eq_false, Nat.not_lt_zero, up_s, up_1, up_m, ff0_write, bb0_write_0, bb0_write_31, bb0_write_41, bb0_write_75, bb0_write_134, bb0_write_140, cl_1, ca_1, cl_15, ca_15, h5.e1]
    have f1 : ∀ e, Fr w1 (up w1 c e) c 3 := fun e => Fr.wr (by omega) (by omega)
    exact loop _ 0 w5 rfl (e5 ▸ h5) ((((hF.tr (f1 _)).tr f2).tr f3).tr (f4.tr f5))
  refine entry Γ m0_write rfl _ (Nat.le_of_ble_eq_true rfl) _ _ _ ?_
  refine wp_ok (kd_cut 41 kd0_write) 400 0 bb0_write_0 _ _ _ _ _ _ oo0_write_0 ?_
  simp only [List.getElem?_cons_zero, List.getElem?_cons_succ, fv4, Nat.reduceAdd, Nat.reduceSub, wp, pst, stp, LG, lput, ls_tl, two, bc, EL, pad, popN, csum, Option.toList, List.cons_append, List.nil_append, List.set_cons_zero, List.set_cons_succ, List.length_cons, List.length_nil, true_and, and_true, Nat.reduceLT, Nat.reduceLeDiff, Nat.zero_le, Nat.le_refl, RI_i, RI_z0, RI_z1, Int32.reduceOfInt, Int8.reduceOfInt, Int16.reduceOfInt, Int64.reduceOfInt, Int8.toInt32_ofNat, Int16.toInt32_ofNat, Int.reduceNeg, Int32.ofInt_neg, Int8.ofInt_neg, Int16.ofInt_neg, Int32.toInt64_ofNat, Int32.reduceToNatClampNeg, Fin.isValue, Fin.val_one, Fin.val_zero, Fin.val_two, Int64.reduceOfNat, Int32.reduceOfNat, hdl, cutc, Nat.reduceEqDiff, reduceIte, FV, tyC, tyX0, tyX1, tyX2, tyX3, tyX4, tyX5, tyX6, tyX7, tyX8, tyX9, tyX10, Nat.reduceMul, c_le, c_lt, c_eq, c_in, c_cl, c_add, c_rem, c_ofN, Int32.add_zero, Int32.zero_add, c_lt0, c_ge0, c_le0, c_gt0, c_e0, c_m1, c_m1', false_implies, true_implies, implies_true, not_false_eq_true, not_true_eq_false, Nat.not_lt_zero, up_s, up_1, up_m, ff0_write, bb0_write_0, bb0_write_31, bb0_write_41, bb0_write_75, bb0_write_134, bb0_write_140, cl_1, ca_1, cl_15, ca_15, g1]
  refine sp2_toCode hG n m hn hm ?_
  unfold holdL
  simp only [List.getElem?_cons_zero, List.getElem?_cons_succ, fv4, Nat.reduceAdd, Nat.reduceSub, wp, pst, stp, LG, lput, ls_tl, two, bc, EL, pad, popN, csum, Option.toList, List.cons_append, List.nil_append, List.set_cons_zero, List.set_cons_succ, List.length_cons, List.length_nil, true_and, and_true, Nat.reduceLT, Nat.reduceLeDiff, Nat.zero_le, Nat.le_refl, RI_i, RI_z0, RI_z1, Int32.reduceOfInt, Int8.reduceOfInt, Int16.reduceOfInt, Int64.reduceOfInt, Int8.toInt32_ofNat, Int16.toInt32_ofNat, Int.reduceNeg, Int32.ofInt_neg, Int8.ofInt_neg, Int16.ofInt_neg, Int32.toInt64_ofNat, Int32.reduceToNatClampNeg, Fin.isValue, Fin.val_one, Fin.val_zero, Fin.val_two, Int64.reduceOfNat, Int32.reduceOfNat, hdl, cutc, Nat.reduceEqDiff, reduceIte, FV, tyC, tyX0, tyX1, tyX2, tyX3, tyX4, tyX5, tyX6, tyX7, tyX8, tyX9, tyX10, Nat.reduceMul, c_le, c_lt, c_eq, c_in, c_cl, c_add, c_rem, c_ofN, Int32.add_zero, Int32.zero_add, c_lt0, c_ge0, c_le0, c_gt0, c_e0, c_m1, c_m1', false_implies, true_implies, implies_true, not_false_eq_true, not_true_eq_false, Nat.not_lt_zero, up_s, up_1, up_m, ff0_write, bb0_write_0, bb0_write_31, bb0_write_41, bb0_write_75, bb0_write_134, bb0_write_140, cl_1, ca_1, cl_15, ca_15, hP.e1, g1, b2, up_n _ c pa _ n1]
  refine ⟨fun h => ?_, fun h => ?_⟩
  · refine sp0_kernelByRuns hP.k0 _ wd (kpx_lt hL n m) hw (fun w1 h1 f1 => ?_)
    unfold holdL
    simp only [List.getElem?_cons_zero, List.getElem?_cons_succ, fv4, Nat.reduceAdd, Nat.reduceSub, wp, pst, stp, LG, lput, ls_tl, two, bc, EL, pad, popN, csum, Option.toList, List.cons_append, List.nil_append, List.set_cons_zero, List.set_cons_succ, List.length_cons, List.length_nil, true_and, and_true, Nat.reduceLT, Nat.reduceLeDiff, Nat.zero_le, Nat.le_refl, RI_i, RI_z0, RI_z1, Int32.reduceOfInt, Int8.reduceOfInt, Int16.reduceOfInt, Int64.reduceOfInt, Int8.toInt32_ofNat, Int16.toInt32_ofNat, Int.reduceNeg, Int32.ofInt_neg, Int8.ofInt_neg, Int16.ofInt_neg, Int32.toInt64_ofNat, Int32.reduceToNatClampNeg, Fin.isValue, Fin.val_one, Fin.val_zero, Fin.val_two, Int64.reduceOfNat, Int32.reduceOfNat, hdl, cutc, Nat.reduceEqDiff, reduceIte, FV, tyC, tyX0, tyX1, tyX2, tyX3, tyX4, tyX5, tyX6, tyX7, tyX8, tyX9, tyX10, Nat.reduceMul, c_le, c_lt, c_eq, c_in, c_cl, c_add, c_rem, c_ofN, Int32.add_zero, Int32.zero_add, c_lt0, c_ge0, c_le0, c_gt0, c_e0, c_m1, c_m1', false_implies, true_implies, implies_true, not_false_eq_true, not_true_eq_false, Nat.not_lt_zero, up_s, up_1, up_m, ff0_write, bb0_write_0, bb0_write_31, bb0_write_41, bb0_write_75, bb0_write_134, bb0_write_140, cl_1, ca_1, cl_15, ca_15]
    refine hJ w1 ?_ ((f0 _).tr f1)
    rw [ker, if_neg h]; exact h1
  · refine sp0_kernelByFours hP.k0 _ wd (kpx_lt hL n m) hw (fun w1 h1 f1 => ?_)
    unfold holdL
    simp only [List.getElem?_cons_zero, List.getElem?_cons_succ, fv4, Nat.reduceAdd, Nat.reduceSub, wp, pst, stp, LG, lput, ls_tl, two, bc, EL, pad, popN, csum, Option.toList, List.cons_append, List.nil_append, List.set_cons_zero, List.set_cons_succ, List.length_cons, List.length_nil, true_and, and_true, Nat.reduceLT, Nat.reduceLeDiff, Nat.zero_le, Nat.le_refl, RI_i, RI_z0, RI_z1, Int32.reduceOfInt, Int8.reduceOfInt, Int16.reduceOfInt, Int64.reduceOfInt, Int8.toInt32_ofNat, Int16.toInt32_ofNat, Int.reduceNeg, Int32.ofInt_neg, Int8.ofInt_neg, Int16.ofInt_neg, Int32.toInt64_ofNat, Int32.reduceToNatClampNeg, Fin.isValue, Fin.val_one, Fin.val_zero, Fin.val_two, Int64.reduceOfNat, Int32.reduceOfNat, hdl, cutc, Nat.reduceEqDiff, reduceIte, FV, tyC, tyX0, tyX1, tyX2, tyX3, tyX4, tyX5, tyX6, tyX7, tyX8, tyX9, tyX10, Nat.reduceMul, c_le, c_lt, c_eq, c_in, c_cl, c_add, c_rem, c_ofN, Int32.add_zero, Int32.zero_add, c_lt0, c_ge0, c_le0, c_gt0, c_e0, c_m1, c_m1', false_implies, true_implies, implies_true, not_false_eq_true, not_true_eq_false, Nat.not_lt_zero, up_s, up_1, up_m, ff0_write, bb0_write_0, bb0_write_31, bb0_write_41, bb0_write_75, bb0_write_134, bb0_write_140, cl_1, ca_1, cl_15, ca_15]
    refine hJ w1 ?_ ((f0 _).tr f1)
    rw [ker, if_pos (Classical.not_not.mp h)]; exact h1
end CODER

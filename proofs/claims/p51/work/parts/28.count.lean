/-! COUNTED LENGTHS -/
def bord (p wd : Nat) : Nat := (p ^^^ p * 2) % 2 ^ wd
theorem bord_bit (p wd i : Nat) (hi : i < wd) : (bord p wd).testBit i = (p.testBit i ^^ (decide (0 < i) && p.testBit (i - 1))) := by
  rw [bord, Nat.testBit_mod_two_pow, Nat.testBit_xor, show p * 2 = p <<< 1 by rw [Nat.shiftLeft_eq], Nat.testBit_shiftLeft, decide_eq_true hi, Bool.true_and]
  cases i with
  | zero => simp
  | succ i => simp
theorem bord_lt (p wd : Nat) (hw : wd ≤ 32) : bord p wd < 4294967296 := by
  have h1 : bord p wd < 2 ^ wd := Nat.mod_lt _ (Nat.two_pow_pos wd)
  have h2 : 2 ^ wd ≤ 2 ^ 32 := Nat.pow_le_pow_right (by decide) hw
  omega
def nums (k : List Nat) : Nat := (k.flatMap esc).length
def nrun (r : Nat) : Nat := nums (enc r)
theorem nrun_lt {r : Nat} (h : r < 14) : nrun r = 1 := by
  unfold nrun nums enc
  rw [if_pos h]
  simp only [List.flatMap_cons, List.flatMap_nil, List.append_nil, esc, if_neg (show ¬r = 15 by omega), List.length_cons, List.length_nil]
theorem nrun_ge {r : Nat} (h : ¬r < 14) (hr : r ≤ 32) : nrun r = if r % 16 = 15 then 4 else 3 := by
  unfold nrun nums enc
  rw [if_neg h]
  simp only [List.flatMap_cons, List.flatMap_nil, List.append_nil, esc, if_neg (show ¬r / 16 = 15 by omega), if_neg (show ¬(14 : Nat) = 15 by decide)]
  split <;> simp
theorem nums_app (a b : List Nat) : nums (a ++ b) = nums a + nums b := by unfold nums; rw [List.flatMap_append, List.length_append]
theorem four_15 (p i : Nat) : four p i = 15 ↔ p / 2 ^ i % 16 = 15 := by
  have h0 : bN p i = p / 2 ^ i % 2 := (tb_mod p i).symm
  have e1 : p / 2 ^ (i + 1) = p / 2 ^ i / 2 := by rw [Nat.pow_succ, Nat.div_div_eq_div_mul]
  have e2 : p / 2 ^ (i + 2) = p / 2 ^ i / 2 / 2 := by rw [Nat.pow_succ, ← Nat.div_div_eq_div_mul, e1]
  have e3 : p / 2 ^ (i + 3) = p / 2 ^ i / 2 / 2 / 2 := by rw [Nat.pow_succ, ← Nat.div_div_eq_div_mul, e2]
  have h1 : bN p (i + 1) = p / 2 ^ i / 2 % 2 := by rw [← e1]; exact (tb_mod p (i + 1)).symm
  have h2 : bN p (i + 2) = p / 2 ^ i / 2 / 2 % 2 := by rw [← e2]; exact (tb_mod p (i + 2)).symm
  have h3 : bN p (i + 3) = p / 2 ^ i / 2 / 2 / 2 % 2 := by rw [← e3]; exact (tb_mod p (i + 3)).symm
  unfold four
  rw [h0, h1, h2, h3]
  generalize p / 2 ^ i = q
  omega
section COUNT
variable {Γ : Amb} {w : PW} {Q : Option Value → Option Nat → PW → Prop}
theorem sp9_bordersOf (p wd : Nat) (hp : p < 4294967296) (hw : wd ≤ 32) (hQ : Q (some (.long (lN (bord p wd)))) none w) : Sp Γ m9_bordersOf [.long (lN p), .int (nI wd)] none w Q := by
  refine entry Γ m9_bordersOf rfl _ (Nat.le_of_ble_eq_true rfl) _ _ _ ?_
  refine wp_ok kd9_bordersOf 400 0 bb9_bordersOf_0 _ _ _ _ _ _ oo9_bordersOf_0 ?_
  simp only [List.getElem?_cons_zero, List.getElem?_cons_succ, fv4, Nat.reduceAdd, Nat.reduceSub, wp, pst, stp, LG, lput, ls_tl, two, bc, EL, pad, popN, csum, Option.toList, List.cons_append, List.nil_append, List.set_cons_zero, List.set_cons_succ, List.length_cons, List.length_nil, true_and, and_true, Nat.reduceLT, Nat.reduceLeDiff, Nat.zero_le, Nat.le_refl, RI_i, RI_z0, RI_z1, Int32.reduceOfInt, Int8.reduceOfInt, Int16.reduceOfInt, Int64.reduceOfInt, Int8.toInt32_ofNat, Int16.toInt32_ofNat, Int.reduceNeg, Int32.ofInt_neg, Int8.ofInt_neg, Int16.ofInt_neg, Int32.toInt64_ofNat, Int32.reduceToNatClampNeg, Fin.isValue, Fin.val_one, Fin.val_zero, Fin.val_two, Int64.reduceOfNat, Int32.reduceOfNat, hdl, cutc, Nat.reduceEqDiff, reduceIte, FV, tyC, tyX0, tyX1, tyX2, tyX3, tyX4, tyX5, tyX6, tyX7, tyX8, tyX9, tyX10, Nat.reduceMul, c_le, c_lt, c_eq, c_in, c_cl, c_add, c_rem, c_ofN, Int32.add_zero, Int32.zero_add, c_lt0, c_ge0, c_le0, c_gt0, c_e0, c_m1, c_m1', false_implies, true_implies, implies_true, not_false_eq_true, not_true_eq_false, Nat.not_lt_zero, up_s, up_1, up_m, ff9_bordersOf, bb9_bordersOf_0, cl_1, ca_1]
  have h2 : (1 : Int64) <<< ((nI wd).toInt64 &&& 63) - 1 = lN (2 ^ wd - 1) := by
    rw [show (1 : Int64) = lN 1 from rfl, wb_shl 1 (show wd < 64 by omega), Nat.one_mul]
    have : ∀ k : Fin 33, lN (2 ^ k.val) - lN 1 = lN (2 ^ k.val - 1) := by decide +kernel
    exact this ⟨wd, by omega⟩
  have h3 : lN p <<< ((1 : Int64) &&& 63) = lN (p * 2) := wb_shl (k := 1) p (by decide)
  rw [h2, h3, fb_xorL, fb_maskL]
  exact hQ
theorem sp9_numbersOfRun (r : Nat) (hr : r ≤ 32) (hQ : Q (some (.int (nI (nrun r)))) none w) : Sp Γ m9_numbersOfRun [.int (nI r)] none w Q := by
  have b1 : r < 2147483648 := by omega
  refine entry Γ m9_numbersOfRun rfl _ (Nat.le_of_ble_eq_true rfl) _ _ _ ?_
  refine wp_ok kd9_numbersOfRun 400 0 bb9_numbersOfRun_0 _ _ _ _ _ _ oo9_numbersOfRun_0 ?_
  have b2 : r % 16 < 2147483648 := by omega
  simp only [List.getElem?_cons_zero, List.getElem?_cons_succ, fv4, Nat.reduceAdd, Nat.reduceSub, wp, pst, stp, LG, lput, ls_tl, two, bc, EL, pad, popN, csum, Option.toList, List.cons_append, List.nil_append, List.set_cons_zero, List.set_cons_succ, List.length_cons, List.length_nil, true_and, and_true, Nat.reduceLT, Nat.reduceLeDiff, Nat.zero_le, Nat.le_refl, RI_i, RI_z0, RI_z1, Int32.reduceOfInt, Int8.reduceOfInt, Int16.reduceOfInt, Int64.reduceOfInt, Int8.toInt32_ofNat, Int16.toInt32_ofNat, Int.reduceNeg, Int32.ofInt_neg, Int8.ofInt_neg, Int16.ofInt_neg, Int32.toInt64_ofNat, Int32.reduceToNatClampNeg, Fin.isValue, Fin.val_one, Fin.val_zero, Fin.val_two, Int64.reduceOfNat, Int32.reduceOfNat, hdl, cutc, Nat.reduceEqDiff, reduceIte, FV, tyC, tyX0, tyX1, tyX2, tyX3, tyX4, tyX5, tyX6, tyX7, tyX8, tyX9, tyX10, Nat.reduceMul, c_le, c_lt, c_eq, c_in, c_cl, c_add, c_rem, c_ofN, Int32.add_zero, Int32.zero_add, c_lt0, c_ge0, c_le0, c_gt0, c_e0, c_m1, c_m1', false_implies, true_implies, implies_true, not_false_eq_true, not_true_eq_false, Nat.not_lt_zero, up_s, up_1, up_m, ff9_numbersOfRun, bb9_numbersOfRun_0, bb9_numbersOfRun_8, bb9_numbersOfRun_21, bb9_numbersOfRun_22, cl_1, ca_1, cl_3, ca_3, cl_4, ca_4, cl_14, ca_14, cl_15, ca_15, cl_16, ca_16, b1, b2]
  refine ⟨fun h => ⟨by decide, fun h2 => ?_, fun h2 => ?_⟩, fun h => ?_⟩
  · rw [nrun_ge (by omega) hr, if_neg h2] at hQ; exact hQ
  · rw [nrun_ge (by omega) hr, if_pos (Classical.not_not.mp h2)] at hQ; exact hQ
  · rw [nrun_lt (by omega)] at hQ; exact hQ
theorem sp9_countedFours (p wd : Nat) (hp : p < 18446744073709551616) (hw : wd ≤ 32) (hQ : Q (some (.int (nI (nums (fours p ((wd + 3) / 4) 0))))) none w) : Sp Γ m9_countedFours [.long (lN p), .int (nI wd)] none w Q := by
  have b2 : wd < 2147483648 := by omega
  refine entry Γ m9_countedFours rfl _ (Nat.le_of_ble_eq_true rfl) _ _ _ ?_
  refine wp_ok kd9_countedFours 400 0 bb9_countedFours_0 _ _ _ _ _ _ oo9_countedFours_0 ?_
  simp only [List.getElem?_cons_zero, List.getElem?_cons_succ, fv4, Nat.reduceAdd, Nat.reduceSub, wp, pst, stp, LG, lput, ls_tl, two, bc, EL, pad, popN, csum, Option.toList, List.cons_append, List.nil_append, List.set_cons_zero, List.set_cons_succ, List.length_cons, List.length_nil, true_and, and_true, Nat.reduceLT, Nat.reduceLeDiff, Nat.zero_le, Nat.le_refl, RI_i, RI_z0, RI_z1, Int32.reduceOfInt, Int8.reduceOfInt, Int16.reduceOfInt, Int64.reduceOfInt, Int8.toInt32_ofNat, Int16.toInt32_ofNat, Int.reduceNeg, Int32.ofInt_neg, Int8.ofInt_neg, Int16.ofInt_neg, Int32.toInt64_ofNat, Int32.reduceToNatClampNeg, Fin.isValue, Fin.val_one, Fin.val_zero, Fin.val_two, Int64.reduceOfNat, Int32.reduceOfNat, hdl, cutc, Nat.reduceEqDiff, reduceIte, FV, tyC, tyX0, tyX1, tyX2, tyX3, tyX4, tyX5, tyX6, tyX7, tyX8, tyX9, tyX10, Nat.reduceMul, c_le, c_lt, c_eq, c_in, c_cl, c_add, c_rem, c_ofN, Int32.add_zero, Int32.zero_add, c_lt0, c_ge0, c_le0, c_gt0, c_e0, c_m1, c_m1', false_implies, true_implies, implies_true, not_false_eq_true, not_true_eq_false, Nat.not_lt_zero, up_s, up_1, up_m, ff9_countedFours, bb9_countedFours_0, bb9_countedFours_5, bb9_countedFours_31, bb9_countedFours_32, bb9_countedFours_40, cl_1, ca_1, cl_2, ca_2, cl_4, ca_4]
  have hb : ∀ i, i < 64 → (lg_cmp (((lN p).toUInt64 >>> ((nI i).toInt64.toUInt64 &&& Int64.toUInt64 63)).toInt64 &&& 15) 15 = 0) = (four p i = 15) := by
    intro i hi
    have hd : p / 2 ^ i < 18446744073709551616 := Nat.lt_of_le_of_lt (Nat.div_le_self _ _) hp
    rw [cmp0, wb_shr hp hi, show (15 : Int64) = lN (2 ^ 4 - 1) from rfl, fb_maskL, lN_eq' (by omega) (by decide), four_15]
  have key : ∀ (n k a : Nat), n + k = (wd + 3) / 4 → a ≤ 2 * k → a + nums (fours p n (4 * k)) = nums (fours p ((wd + 3) / 4) 0) → G Γ m9_countedFours Q (fun _ _ => False) 5 [some (.long (lN p)), none, some (.int (nI wd)), some (.int (nI a)), some (.int (nI (4 * k)))] [] none w 0 0 := by
    intro n
    induction n with
    | zero =>
      intro k a hk ha hs
      have b1 : 4 * k < 2147483648 := by omega
      refine wp_ok kd9_countedFours 400 5 bb9_countedFours_5 _ _ _ _ _ _ oo9_countedFours_5 ?_
      simp only [List.getElem?_cons_zero, List.getElem?_cons_succ, fv4, Nat.reduceAdd, Nat.reduceSub, wp, pst, stp, LG, lput, ls_tl, two, bc, EL, pad, popN, csum, Option.toList, List.cons_append, List.nil_append, List.set_cons_zero, List.set_cons_succ, List.length_cons, List.length_nil, true_and, and_true, Nat.reduceLT, Nat.reduceLeDiff, Nat.zero_le, Nat.le_refl, RI_i, RI_z0, RI_z1, Int32.reduceOfInt, Int8.reduceOfInt, Int16.reduceOfInt, Int64.reduceOfInt, Int8.toInt32_ofNat, Int16.toInt32_ofNat, Int.reduceNeg, Int32.ofInt_neg, Int8.ofInt_neg, Int16.ofInt_neg, Int32.toInt64_ofNat, Int32.reduceToNatClampNeg, Fin.isValue, Fin.val_one, Fin.val_zero, Fin.val_two, Int64.reduceOfNat, Int32.reduceOfNat, hdl, cutc, Nat.reduceEqDiff, reduceIte, FV, tyC, tyX0, tyX1, tyX2, tyX3, tyX4, tyX5, tyX6, tyX7, tyX8, tyX9, tyX10, Nat.reduceMul, c_le, c_lt, c_eq, c_in, c_cl, c_add, c_rem, c_ofN, Int32.add_zero, Int32.zero_add, c_lt0, c_ge0, c_le0, c_gt0, c_e0, c_m1, c_m1', false_implies, true_implies, implies_true, not_false_eq_true, not_true_eq_false, Nat.not_lt_zero, up_s, up_1, up_m, ff9_countedFours, bb9_countedFours_0, bb9_countedFours_5, bb9_countedFours_31, bb9_countedFours_32, bb9_countedFours_40, cl_1, ca_1, cl_2, ca_2, cl_4, ca_4, b1, b2]
      simp only [fours, nums, List.flatMap_nil, List.length_nil, Nat.add_zero] at hs
      exact ⟨fun _ => hs ▸ hQ, fun h => absurd h (by omega)⟩
    | succ n ih =>
      intro k a hk ha hs
      have b1 : 4 * k < 2147483648 := by omega
      have b3 : a < 2147483648 := by omega
      refine wp_ok kd9_countedFours 400 5 bb9_countedFours_5 _ _ _ _ _ _ oo9_countedFours_5 ?_
      simp only [List.getElem?_cons_zero, List.getElem?_cons_succ, fv4, Nat.reduceAdd, Nat.reduceSub, wp, pst, stp, LG, lput, ls_tl, two, bc, EL, pad, popN, csum, Option.toList, List.cons_append, List.nil_append, List.set_cons_zero, List.set_cons_succ, List.length_cons, List.length_nil, true_and, and_true, Nat.reduceLT, Nat.reduceLeDiff, Nat.zero_le, Nat.le_refl, RI_i, RI_z0, RI_z1, Int32.reduceOfInt, Int8.reduceOfInt, Int16.reduceOfInt, Int64.reduceOfInt, Int8.toInt32_ofNat, Int16.toInt32_ofNat, Int.reduceNeg, Int32.ofInt_neg, Int8.ofInt_neg, Int16.ofInt_neg, Int32.toInt64_ofNat, Int32.reduceToNatClampNeg, Fin.isValue, Fin.val_one, Fin.val_zero, Fin.val_two, Int64.reduceOfNat, Int32.reduceOfNat, hdl, cutc, Nat.reduceEqDiff, reduceIte, FV, tyC, tyX0, tyX1, tyX2, tyX3, tyX4, tyX5, tyX6, tyX7, tyX8, tyX9, tyX10, Nat.reduceMul, c_le, c_lt, c_eq, c_in, c_cl, c_add, c_rem, c_ofN, Int32.add_zero, Int32.zero_add, c_lt0, c_ge0, c_le0, c_gt0, c_e0, c_m1, c_m1', false_implies, true_implies, implies_true, not_false_eq_true, not_true_eq_false, Nat.not_lt_zero, up_s, up_1, up_m, ff9_countedFours, bb9_countedFours_0, bb9_countedFours_5, bb9_countedFours_31, bb9_countedFours_32, bb9_countedFours_40, cl_1, ca_1, cl_2, ca_2, cl_4, ca_4, b1, b2, b3]
      rw [hb (4 * k) (by omega)]
      have hn : nums (fours p (n + 1) (4 * k)) = (if four p (4 * k) = 15 then 2 else 1) + nums (fours p n (4 * (k + 1))) := by
        simp only [fours, nums, List.flatMap_cons, List.length_append]
        congr 1
        unfold esc
        split <;> rfl
      rw [hn] at hs
      refine ⟨fun h => absurd h (by omega), fun _ => ⟨fun h => ?_, fun h => ?_⟩⟩
      · rw [if_neg h] at hs
        exact ih (k + 1) (a + 1) (by omega) (by omega) (by omega)
      · rw [if_pos (Classical.not_not.mp h)] at hs
        exact ih (k + 1) (a + 2) (by omega) (by omega) (by omega)
  exact key _ 0 0 rfl (by decide) (Nat.zero_add _)
theorem sp9_countedRuns (p wd : Nat) (hp : p < 4294967296) (h1 : 1 ≤ wd) (hw : wd ≤ 32) (hQ : Q (some (.int (nI (nums ((runs wd p).flatMap enc))))) none w) : Sp Γ m9_countedRuns [.long (lN p), .int (nI wd)] none w Q := by
  have b2 : wd < 2147483648 := by omega
  have hbl := bord_lt p wd hw
  refine entry Γ m9_countedRuns rfl _ (Nat.le_of_ble_eq_true rfl) _ _ _ ?_
  refine wp_ok kd9_countedRuns 400 0 bb9_countedRuns_0 _ _ _ _ _ _ oo9_countedRuns_0 ?_
  simp only [List.getElem?_cons_zero, List.getElem?_cons_succ, fv4, Nat.reduceAdd, Nat.reduceSub, wp, pst, stp, LG, lput, ls_tl, two, bc, EL, pad, popN, csum, Option.toList, List.cons_append, List.nil_append, List.set_cons_zero, List.set_cons_succ, List.length_cons, List.length_nil, true_and, and_true, Nat.reduceLT, Nat.reduceLeDiff, Nat.zero_le, Nat.le_refl, RI_i, RI_z0, RI_z1, Int32.reduceOfInt, Int8.reduceOfInt, Int16.reduceOfInt, Int64.reduceOfInt, Int8.toInt32_ofNat, Int16.toInt32_ofNat, Int.reduceNeg, Int32.ofInt_neg, Int8.ofInt_neg, Int16.ofInt_neg, Int32.toInt64_ofNat, Int32.reduceToNatClampNeg, Fin.isValue, Fin.val_one, Fin.val_zero, Fin.val_two, Int64.reduceOfNat, Int32.reduceOfNat, hdl, cutc, Nat.reduceEqDiff, reduceIte, FV, tyC, tyX0, tyX1, tyX2, tyX3, tyX4, tyX5, tyX6, tyX7, tyX8, tyX9, tyX10, Nat.reduceMul, c_le, c_lt, c_eq, c_in, c_cl, c_add, c_rem, c_ofN, Int32.add_zero, Int32.zero_add, c_lt0, c_ge0, c_le0, c_gt0, c_e0, c_m1, c_m1', false_implies, true_implies, implies_true, not_false_eq_true, not_true_eq_false, Nat.not_lt_zero, up_s, up_1, up_m, ff9_countedRuns, bb9_countedRuns_0, bb9_countedRuns_15, bb9_countedRuns_43, bb9_countedRuns_52, cl_1, ca_1]
  refine sp9_bordersOf p wd hp hw ?_
  unfold holdL
  simp only [List.getElem?_cons_zero, List.getElem?_cons_succ, fv4, Nat.reduceAdd, Nat.reduceSub, wp, pst, stp, LG, lput, ls_tl, two, bc, EL, pad, popN, csum, Option.toList, List.cons_append, List.nil_append, List.set_cons_zero, List.set_cons_succ, List.length_cons, List.length_nil, true_and, and_true, Nat.reduceLT, Nat.reduceLeDiff, Nat.zero_le, Nat.le_refl, RI_i, RI_z0, RI_z1, Int32.reduceOfInt, Int8.reduceOfInt, Int16.reduceOfInt, Int64.reduceOfInt, Int8.toInt32_ofNat, Int16.toInt32_ofNat, Int.reduceNeg, Int32.ofInt_neg, Int8.ofInt_neg, Int16.ofInt_neg, Int32.toInt64_ofNat, Int32.reduceToNatClampNeg, Fin.isValue, Fin.val_one, Fin.val_zero, Fin.val_two, Int64.reduceOfNat, Int32.reduceOfNat, hdl, cutc, Nat.reduceEqDiff, reduceIte, FV, tyC, tyX0, tyX1, tyX2, tyX3, tyX4, tyX5, tyX6, tyX7, tyX8, tyX9, tyX10, Nat.reduceMul, c_le, c_lt, c_eq, c_in, c_cl, c_add, c_rem, c_ofN, Int32.add_zero, Int32.zero_add, c_lt0, c_ge0, c_le0, c_gt0, c_e0, c_m1, c_m1', false_implies, true_implies, implies_true, not_false_eq_true, not_true_eq_false, Nat.not_lt_zero, up_s, up_1, up_m, ff9_countedRuns, bb9_countedRuns_0, bb9_countedRuns_15, bb9_countedRuns_43, bb9_countedRuns_52, cl_1, ca_1]
  have key : ∀ (n i r a : Nat), n + i = wd → r ≤ i → a ≤ 4 * i → a + nums ((rl p n i (decide (0 < i) && p.testBit (i - 1)) r).flatMap enc) = nums ((runs wd p).flatMap enc) → G Γ m9_countedRuns Q (fun _ _ => False) 15 [some (.long (lN p)), none, some (.int (nI wd)), some (.long (lN (bord p wd))), none, some (.int (nI a)), some (.int (nI r)), some (.int (nI i))] [] none w 0 0 := by
    intro n
    induction n with
    | zero =>
      intro i r a hk hr ha hs
      have b1 : i < 2147483648 := by omega
      have b3 : a < 2147483648 := by omega
      have b4 : r < 2147483648 := by omega
      refine wp_ok kd9_countedRuns 400 15 bb9_countedRuns_15 _ _ _ _ _ _ oo9_countedRuns_15 ?_
      simp only [List.getElem?_cons_zero, List.getElem?_cons_succ, fv4, Nat.reduceAdd, Nat.reduceSub, wp, pst, stp, LG, lput, ls_tl, two, bc, EL, pad, popN, csum, Option.toList, List.cons_append, List.nil_append, List.set_cons_zero, List.set_cons_succ, List.length_cons, List.length_nil, true_and, and_true, Nat.reduceLT, Nat.reduceLeDiff, Nat.zero_le, Nat.le_refl, RI_i, RI_z0, RI_z1, Int32.reduceOfInt, Int8.reduceOfInt, Int16.reduceOfInt, Int64.reduceOfInt, Int8.toInt32_ofNat, Int16.toInt32_ofNat, Int.reduceNeg, Int32.ofInt_neg, Int8.ofInt_neg, Int16.ofInt_neg, Int32.toInt64_ofNat, Int32.reduceToNatClampNeg, Fin.isValue, Fin.val_one, Fin.val_zero, Fin.val_two, Int64.reduceOfNat, Int32.reduceOfNat, hdl, cutc, Nat.reduceEqDiff, reduceIte, FV, tyC, tyX0, tyX1, tyX2, tyX3, tyX4, tyX5, tyX6, tyX7, tyX8, tyX9, tyX10, Nat.reduceMul, c_le, c_lt, c_eq, c_in, c_cl, c_add, c_rem, c_ofN, Int32.add_zero, Int32.zero_add, c_lt0, c_ge0, c_le0, c_gt0, c_e0, c_m1, c_m1', false_implies, true_implies, implies_true, not_false_eq_true, not_true_eq_false, Nat.not_lt_zero, up_s, up_1, up_m, ff9_countedRuns, bb9_countedRuns_0, bb9_countedRuns_15, bb9_countedRuns_43, bb9_countedRuns_52, cl_1, ca_1, b1, b2, b3, b4]
      refine ⟨fun _ => ?_, fun h => absurd h (by omega)⟩
      refine sp9_numbersOfRun r (by omega) ?_
      unfold holdL
      simp only [List.getElem?_cons_zero, List.getElem?_cons_succ, fv4, Nat.reduceAdd, Nat.reduceSub, wp, pst, stp, LG, lput, ls_tl, two, bc, EL, pad, popN, csum, Option.toList, List.cons_append, List.nil_append, List.set_cons_zero, List.set_cons_succ, List.length_cons, List.length_nil, true_and, and_true, Nat.reduceLT, Nat.reduceLeDiff, Nat.zero_le, Nat.le_refl, RI_i, RI_z0, RI_z1, Int32.reduceOfInt, Int8.reduceOfInt, Int16.reduceOfInt, Int64.reduceOfInt, Int8.toInt32_ofNat, Int16.toInt32_ofNat, Int.reduceNeg, Int32.ofInt_neg, Int8.ofInt_neg, Int16.ofInt_neg, Int32.toInt64_ofNat, Int32.reduceToNatClampNeg, Fin.isValue, Fin.val_one, Fin.val_zero, Fin.val_two, Int64.reduceOfNat, Int32.reduceOfNat, hdl, cutc, Nat.reduceEqDiff, reduceIte, FV, tyC, tyX0, tyX1, tyX2, tyX3, tyX4, tyX5, tyX6, tyX7, tyX8, tyX9, tyX10, Nat.reduceMul, c_le, c_lt, c_eq, c_in, c_cl, c_add, c_rem, c_ofN, Int32.add_zero, Int32.zero_add, c_lt0, c_ge0, c_le0, c_gt0, c_e0, c_m1, c_m1', false_implies, true_implies, implies_true, not_false_eq_true, not_true_eq_false, Nat.not_lt_zero, up_s, up_1, up_m, ff9_countedRuns, bb9_countedRuns_0, bb9_countedRuns_15, bb9_countedRuns_43, bb9_countedRuns_52, cl_1, ca_1, b3]
      simp only [rl, List.flatMap_cons, List.flatMap_nil, List.append_nil] at hs
      rw [nrun, hs]
      exact hQ
    | succ n ih =>
      intro i r a hk hr ha hs
      have b1 : i < 2147483648 := by omega
      have b3 : a < 2147483648 := by omega
      have b4 : r < 2147483648 := by omega
      refine wp_ok kd9_countedRuns 400 15 bb9_countedRuns_15 _ _ _ _ _ _ oo9_countedRuns_15 ?_
      simp only [List.getElem?_cons_zero, List.getElem?_cons_succ, fv4, Nat.reduceAdd, Nat.reduceSub, wp, pst, stp, LG, lput, ls_tl, two, bc, EL, pad, popN, csum, Option.toList, List.cons_append, List.nil_append, List.set_cons_zero, List.set_cons_succ, List.length_cons, List.length_nil, true_and, and_true, Nat.reduceLT, Nat.reduceLeDiff, Nat.zero_le, Nat.le_refl, RI_i, RI_z0, RI_z1, Int32.reduceOfInt, Int8.reduceOfInt, Int16.reduceOfInt, Int64.reduceOfInt, Int8.toInt32_ofNat, Int16.toInt32_ofNat, Int.reduceNeg, Int32.ofInt_neg, Int8.ofInt_neg, Int16.ofInt_neg, Int32.toInt64_ofNat, Int32.reduceToNatClampNeg, Fin.isValue, Fin.val_one, Fin.val_zero, Fin.val_two, Int64.reduceOfNat, Int32.reduceOfNat, hdl, cutc, Nat.reduceEqDiff, reduceIte, FV, tyC, tyX0, tyX1, tyX2, tyX3, tyX4, tyX5, tyX6, tyX7, tyX8, tyX9, tyX10, Nat.reduceMul, c_le, c_lt, c_eq, c_in, c_cl, c_add, c_rem, c_ofN, Int32.add_zero, Int32.zero_add, c_lt0, c_ge0, c_le0, c_gt0, c_e0, c_m1, c_m1', false_implies, true_implies, implies_true, not_false_eq_true, not_true_eq_false, Nat.not_lt_zero, up_s, up_1, up_m, ff9_countedRuns, bb9_countedRuns_0, bb9_countedRuns_15, bb9_countedRuns_43, bb9_countedRuns_52, cl_1, ca_1, b1, b2, b3, b4]
      refine ⟨fun h => absurd h (by omega), fun _ => ?_⟩
      have hbb := bord_bit p wd i (by omega)
      have hI : ∀ r a, r ≤ i + 1 → a ≤ 4 * (i + 1) → a + nums ((rl p n (i + 1) (p.testBit i) r).flatMap enc) = nums ((runs wd p).flatMap enc) → G Γ m9_countedRuns Q (fun _ _ => False) 15 [some (.long (lN p)), none, some (.int (nI wd)), some (.long (lN (bord p wd))), none, some (.int (nI a)), some (.int (nI r)), some (.int (nI (i + 1)))] [] none w 0 0 := by
        intro r a h1 h2 h3
        refine ih (i + 1) r a (by omega) h1 h2 ?_
        rw [decide_eq_true (Nat.succ_pos i), Bool.true_and, Nat.add_sub_cancel]
        exact h3
      simp only [rl] at hs
      refine sp9_blackAt (bord p wd) i (by omega) (by omega) (fun hv => ?_) (fun hv => ?_)
      · rw [hv] at hbb
        have hne : ¬p.testBit i = (decide (0 < i) && p.testBit (i - 1)) := by
          intro h; rw [← h] at hbb; simp at hbb
        rw [if_neg hne] at hs
        have hnb : (!(decide (0 < i) && p.testBit (i - 1))) = p.testBit i := by
          revert hne; cases p.testBit i <;> cases (decide (0 < i) && p.testBit (i - 1)) <;> simp
        rw [hnb, List.flatMap_cons, nums_app] at hs
        have hnr : nrun r ≤ 4 := by
          by_cases h : r < 14
          · rw [nrun_lt h]; omega
          · rw [nrun_ge h (by omega)]; split <;> omega
        unfold holdL
        simp only [List.getElem?_cons_zero, List.getElem?_cons_succ, fv4, Nat.reduceAdd, Nat.reduceSub, wp, pst, stp, LG, lput, ls_tl, two, bc, EL, pad, popN, csum, Option.toList, List.cons_append, List.nil_append, List.set_cons_zero, List.set_cons_succ, List.length_cons, List.length_nil, true_and, and_true, Nat.reduceLT, Nat.reduceLeDiff, Nat.zero_le, Nat.le_refl, RI_i, RI_z0, RI_z1, Int32.reduceOfInt, Int8.reduceOfInt, Int16.reduceOfInt, Int64.reduceOfInt, Int8.toInt32_ofNat, Int16.toInt32_ofNat, Int.reduceNeg, Int32.ofInt_neg, Int8.ofInt_neg, Int16.ofInt_neg, Int32.toInt64_ofNat, Int32.reduceToNatClampNeg, Fin.isValue, Fin.val_one, Fin.val_zero, Fin.val_two, Int64.reduceOfNat, Int32.reduceOfNat, hdl, cutc, Nat.reduceEqDiff, reduceIte, FV, tyC, tyX0, tyX1, tyX2, tyX3, tyX4, tyX5, tyX6, tyX7, tyX8, tyX9, tyX10, Nat.reduceMul, c_le, c_lt, c_eq, c_in, c_cl, c_add, c_rem, c_ofN, Int32.add_zero, Int32.zero_add, c_lt0, c_ge0, c_le0, c_gt0, c_e0, c_m1, c_m1', false_implies, true_implies, implies_true, not_false_eq_true, not_true_eq_false, Nat.not_lt_zero, up_s, up_1, up_m, ff9_countedRuns, bb9_countedRuns_0, bb9_countedRuns_15, bb9_countedRuns_43, bb9_countedRuns_52, cl_1, ca_1, b1, b2, b3, b4]
        refine ⟨fun h => absurd h (by decide), fun _ => ?_⟩
        refine sp9_numbersOfRun r (by omega) ?_
        unfold holdL
        simp only [List.getElem?_cons_zero, List.getElem?_cons_succ, fv4, Nat.reduceAdd, Nat.reduceSub, wp, pst, stp, LG, lput, ls_tl, two, bc, EL, pad, popN, csum, Option.toList, List.cons_append, List.nil_append, List.set_cons_zero, List.set_cons_succ, List.length_cons, List.length_nil, true_and, and_true, Nat.reduceLT, Nat.reduceLeDiff, Nat.zero_le, Nat.le_refl, RI_i, RI_z0, RI_z1, Int32.reduceOfInt, Int8.reduceOfInt, Int16.reduceOfInt, Int64.reduceOfInt, Int8.toInt32_ofNat, Int16.toInt32_ofNat, Int.reduceNeg, Int32.ofInt_neg, Int8.ofInt_neg, Int16.ofInt_neg, Int32.toInt64_ofNat, Int32.reduceToNatClampNeg, Fin.isValue, Fin.val_one, Fin.val_zero, Fin.val_two, Int64.reduceOfNat, Int32.reduceOfNat, hdl, cutc, Nat.reduceEqDiff, reduceIte, FV, tyC, tyX0, tyX1, tyX2, tyX3, tyX4, tyX5, tyX6, tyX7, tyX8, tyX9, tyX10, Nat.reduceMul, c_le, c_lt, c_eq, c_in, c_cl, c_add, c_rem, c_ofN, Int32.add_zero, Int32.zero_add, c_lt0, c_ge0, c_le0, c_gt0, c_e0, c_m1, c_m1', false_implies, true_implies, implies_true, not_false_eq_true, not_true_eq_false, Nat.not_lt_zero, up_s, up_1, up_m, ff9_countedRuns, bb9_countedRuns_0, bb9_countedRuns_15, bb9_countedRuns_43, bb9_countedRuns_52, cl_1, ca_1, b1, b2, b3, b4]
        trace_state
        exact hI 1 (a + nrun r) (by omega) (by omega) (by rw [nrun]; omega)
      · rw [hv] at hbb
        have he : p.testBit i = (decide (0 < i) && p.testBit (i - 1)) := by
          revert hbb; cases p.testBit i <;> cases (decide (0 < i) && p.testBit (i - 1)) <;> simp
        rw [if_pos he, ← he] at hs
        unfold holdL
        simp only [List.getElem?_cons_zero, List.getElem?_cons_succ, fv4, Nat.reduceAdd, Nat.reduceSub, wp, pst, stp, LG, lput, ls_tl, two, bc, EL, pad, popN, csum, Option.toList, List.cons_append, List.nil_append, List.set_cons_zero, List.set_cons_succ, List.length_cons, List.length_nil, true_and, and_true, Nat.reduceLT, Nat.reduceLeDiff, Nat.zero_le, Nat.le_refl, RI_i, RI_z0, RI_z1, Int32.reduceOfInt, Int8.reduceOfInt, Int16.reduceOfInt, Int64.reduceOfInt, Int8.toInt32_ofNat, Int16.toInt32_ofNat, Int.reduceNeg, Int32.ofInt_neg, Int8.ofInt_neg, Int16.ofInt_neg, Int32.toInt64_ofNat, Int32.reduceToNatClampNeg, Fin.isValue, Fin.val_one, Fin.val_zero, Fin.val_two, Int64.reduceOfNat, Int32.reduceOfNat, hdl, cutc, Nat.reduceEqDiff, reduceIte, FV, tyC, tyX0, tyX1, tyX2, tyX3, tyX4, tyX5, tyX6, tyX7, tyX8, tyX9, tyX10, Nat.reduceMul, c_le, c_lt, c_eq, c_in, c_cl, c_add, c_rem, c_ofN, Int32.add_zero, Int32.zero_add, c_lt0, c_ge0, c_le0, c_gt0, c_e0, c_m1, c_m1', false_implies, true_implies, implies_true, not_false_eq_true, not_true_eq_false, Nat.not_lt_zero, up_s, up_1, up_m, ff9_countedRuns, bb9_countedRuns_0, bb9_countedRuns_15, bb9_countedRuns_43, bb9_countedRuns_52, cl_1, ca_1, b1, b2, b3, b4]
        exact hI (r + 1) a (by omega) (by omega) hs
  exact key wd 0 0 0 rfl (by decide) (by decide) (Nat.zero_add _)
end COUNT

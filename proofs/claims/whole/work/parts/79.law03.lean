/-! THE LAW'S CASES, 3 -/
section LAW
variable {Γ : Amb} {n : String} {h : List ((Nat × Nat × Nat × Nat) × String)} {sb sL : Nat} {sx : Nat → Int32} {w : PW} {x i cs ss : Nat} {U : US} {th : Int32}
theorem lw_undo (hR : RDY w x th U) (hi : i + 3 < sL) (hL : sL ≤ 2048) (hc2 : cs + 2 ≤ 601024) (hs12 : ss + 12 ≤ 7293034) (l5 l6 l7 l8 : Option Value) (hN : NXT Γ n h sb sL sx x i cs ss) : GL Γ (mLL n h) QL XL sb sL sx 988 (LSt sb x i l5 l6 l7 l8) [] none w cs ss := by
  obtain ⟨hX, hM, hU, f, ho⟩ := hR
  have hx := hX.cells.1
  have vi := vi_o
  have bi : i < 2147483648 := by omega
  have b1 : i + 1 < 2147483648 := by omega
  have b2 : i + 2 < 2147483648 := by omega
  have b3 : i + 3 < 2147483648 := by omega
  have bL : sL < 2147483648 := by omega
  have h1 : i + 1 < sL := by omega
  have h2 : i + 2 < sL := by omega
  have h3 : i + 3 < sL := by omega
  have hc0 : cs ≤ 601024 := by omega
  have hc1 : cs + 1 ≤ 601024 := by omega
  have hs0 : ss ≤ 7293034 := by omega
  have hs6 : ss + 6 ≤ 7293034 := by omega
  refine wpL_ok (kdc_988 n h) 400 988 bbL_law_988 _ _ _ _ _ _ (ooL_law_988 n h) ?_
  simp only [List.getElem?_cons_zero, List.getElem?_cons_succ, fv4, Nat.reduceAdd, Nat.reduceSub, wpL, pst, stpL, LG, lput, ls_tl, two, bc, EL, pad, popN, csum, Option.toList, List.cons_append, List.nil_append, List.set_cons_zero, List.set_cons_succ, List.length_cons, List.length_nil, true_and, and_true, Nat.reduceLT, Nat.reduceLeDiff, Nat.zero_le, Nat.le_refl, RI_i, RI_z0, RI_z1, Int32.reduceOfInt, Int8.reduceOfInt, Int16.reduceOfInt, Int64.reduceOfInt, Int8.toInt32_ofNat, Int16.toInt32_ofNat, Int.reduceNeg, Int32.ofInt_neg, Int8.ofInt_neg, Int16.ofInt_neg, Int32.toInt64_ofNat, Int32.reduceToNatClampNeg, Fin.isValue, Fin.val_one, Fin.val_zero, Fin.val_two, Int64.reduceOfNat, Int32.reduceOfNat, hdl, cutc, Nat.reduceEqDiff, reduceIte, FV, tyC, tyX0, tyX1, tyX2, tyX3, tyX4, tyX5, tyX6, tyX7, tyX8, tyX9, tyX10, Nat.reduceMul, c_le, c_lt, c_eq, c_in, c_cl, c_add, c_rem, c_ofN, Int32.add_zero, Int32.zero_add, c_lt0, c_ge0, c_le0, c_gt0, c_e0, c_m1, c_m1', false_implies, true_implies, implies_true, not_false_eq_true, not_true_eq_false, Nat.not_lt_zero, up_s, up_1, up_m, eq_self, Nat.add_zero, lg_self, ffc_988, ffk_988, bbL_law_988, bbL_law_1012, bbL_law_1029, LSt, b1, b2, b3, bL, h1, h2, h3, hc0, hc1, hc2, hs0, hs6, hs12, vi]
  refine spL_undo hX hU (by omega) ho (fun w1 w2 f2 hX2 hf1 hf2 ho2 hv => ?_)
  have hM2 := (hM.fr hf1 (by omega)).fr hf2 (by omega)
  obtain ⟨l2, hm2⟩ := hM2.cell
  unfold holdL
  simp only [List.getElem?_cons_zero, List.getElem?_cons_succ, fv4, Nat.reduceAdd, Nat.reduceSub, wpL, pst, stpL, LG, lput, ls_tl, two, bc, EL, pad, popN, csum, Option.toList, List.cons_append, List.nil_append, List.set_cons_zero, List.set_cons_succ, List.length_cons, List.length_nil, true_and, and_true, Nat.reduceLT, Nat.reduceLeDiff, Nat.zero_le, Nat.le_refl, RI_i, RI_z0, RI_z1, Int32.reduceOfInt, Int8.reduceOfInt, Int16.reduceOfInt, Int64.reduceOfInt, Int8.toInt32_ofNat, Int16.toInt32_ofNat, Int.reduceNeg, Int32.ofInt_neg, Int8.ofInt_neg, Int16.ofInt_neg, Int32.toInt64_ofNat, Int32.reduceToNatClampNeg, Fin.isValue, Fin.val_one, Fin.val_zero, Fin.val_two, Int64.reduceOfNat, Int32.reduceOfNat, hdl, cutc, Nat.reduceEqDiff, reduceIte, FV, tyC, tyX0, tyX1, tyX2, tyX3, tyX4, tyX5, tyX6, tyX7, tyX8, tyX9, tyX10, Nat.reduceMul, c_le, c_lt, c_eq, c_in, c_cl, c_add, c_rem, c_ofN, Int32.add_zero, Int32.zero_add, c_lt0, c_ge0, c_le0, c_gt0, c_e0, c_m1, c_m1', false_implies, true_implies, implies_true, not_false_eq_true, not_true_eq_false, Nat.not_lt_zero, up_s, up_1, up_m, eq_self, Nat.add_zero, lg_self, ffc_988, ffk_988, bbL_law_988, bbL_law_1012, bbL_law_1029, LSt, b1, b2, b3, bL, h1, h2, h3, hc0, hc1, hc2, hs0, hs6, hs12, vi, hm2]
  refine sp10_undo hM2 hU (fun w3 hM3 hf3 => ?_)
  have hX3 := hX2.fr hf3 (by omega)
  have ho3 := (hf3.at (by omega)).trans ho2
  obtain ⟨l3, hm3⟩ := hM3.cell
  unfold holdL
  simp only [List.getElem?_cons_zero, List.getElem?_cons_succ, fv4, Nat.reduceAdd, Nat.reduceSub, wpL, pst, stpL, LG, lput, ls_tl, two, bc, EL, pad, popN, csum, Option.toList, List.cons_append, List.nil_append, List.set_cons_zero, List.set_cons_succ, List.length_cons, List.length_nil, true_and, and_true, Nat.reduceLT, Nat.reduceLeDiff, Nat.zero_le, Nat.le_refl, RI_i, RI_z0, RI_z1, Int32.reduceOfInt, Int8.reduceOfInt, Int16.reduceOfInt, Int64.reduceOfInt, Int8.toInt32_ofNat, Int16.toInt32_ofNat, Int.reduceNeg, Int32.ofInt_neg, Int8.ofInt_neg, Int16.ofInt_neg, Int32.toInt64_ofNat, Int32.reduceToNatClampNeg, Fin.isValue, Fin.val_one, Fin.val_zero, Fin.val_two, Int64.reduceOfNat, Int32.reduceOfNat, hdl, cutc, Nat.reduceEqDiff, reduceIte, FV, tyC, tyX0, tyX1, tyX2, tyX3, tyX4, tyX5, tyX6, tyX7, tyX8, tyX9, tyX10, Nat.reduceMul, c_le, c_lt, c_eq, c_in, c_cl, c_add, c_rem, c_ofN, Int32.add_zero, Int32.zero_add, c_lt0, c_ge0, c_le0, c_gt0, c_e0, c_m1, c_m1', false_implies, true_implies, implies_true, not_false_eq_true, not_true_eq_false, Nat.not_lt_zero, up_s, up_1, up_m, eq_self, Nat.add_zero, lg_self, ffc_988, ffk_988, bbL_law_988, bbL_law_1012, bbL_law_1029, LSt, b1, b2, b3, bL, h1, h2, h3, hc0, hc1, hc2, hs0, hs6, hs12, vi, hm3]
  refine sp10_thr hM3 ?_
  refine lw_fin (c := _) hv ?_ (fun kz hv0 => ?_) (fun kz => ?_)
  · exact cb_o_undo _
  · unfold holdL
    simp only [List.getElem?_cons_zero, List.getElem?_cons_succ, fv4, Nat.reduceAdd, Nat.reduceSub, wpL, pst, stpL, LG, lput, ls_tl, two, bc, EL, pad, popN, csum, Option.toList, List.cons_append, List.nil_append, List.set_cons_zero, List.set_cons_succ, List.length_cons, List.length_nil, true_and, and_true, Nat.reduceLT, Nat.reduceLeDiff, Nat.zero_le, Nat.le_refl, RI_i, RI_z0, RI_z1, Int32.reduceOfInt, Int8.reduceOfInt, Int16.reduceOfInt, Int64.reduceOfInt, Int8.toInt32_ofNat, Int16.toInt32_ofNat, Int.reduceNeg, Int32.ofInt_neg, Int8.ofInt_neg, Int16.ofInt_neg, Int32.toInt64_ofNat, Int32.reduceToNatClampNeg, Fin.isValue, Fin.val_one, Fin.val_zero, Fin.val_two, Int64.reduceOfNat, Int32.reduceOfNat, hdl, cutc, Nat.reduceEqDiff, reduceIte, FV, tyC, tyX0, tyX1, tyX2, tyX3, tyX4, tyX5, tyX6, tyX7, tyX8, tyX9, tyX10, Nat.reduceMul, c_le, c_lt, c_eq, c_in, c_cl, c_add, c_rem, c_ofN, Int32.add_zero, Int32.zero_add, c_lt0, c_ge0, c_le0, c_gt0, c_e0, c_m1, c_m1', false_implies, true_implies, implies_true, not_false_eq_true, not_true_eq_false, Nat.not_lt_zero, up_s, up_1, up_m, eq_self, Nat.add_zero, lg_self, ffc_988, ffk_988, bbL_law_988, bbL_law_1012, bbL_law_1029, LSt, b1, b2, b3, bL, h1, h2, h3, hc0, hc1, hc2, hs0, hs6, hs12, vi, hm3, ho3, kz, hv0]
    exact hN _ _ _ _ _ _ _ _ _ ⟨hX3, hM3, (ok_undo hU), _, ho3⟩ (by omega) (by omega)
  · unfold holdL
    simp only [List.getElem?_cons_zero, List.getElem?_cons_succ, fv4, Nat.reduceAdd, Nat.reduceSub, wpL, pst, stpL, LG, lput, ls_tl, two, bc, EL, pad, popN, csum, Option.toList, List.cons_append, List.nil_append, List.set_cons_zero, List.set_cons_succ, List.length_cons, List.length_nil, true_and, and_true, Nat.reduceLT, Nat.reduceLeDiff, Nat.zero_le, Nat.le_refl, RI_i, RI_z0, RI_z1, Int32.reduceOfInt, Int8.reduceOfInt, Int16.reduceOfInt, Int64.reduceOfInt, Int8.toInt32_ofNat, Int16.toInt32_ofNat, Int.reduceNeg, Int32.ofInt_neg, Int8.ofInt_neg, Int16.ofInt_neg, Int32.toInt64_ofNat, Int32.reduceToNatClampNeg, Fin.isValue, Fin.val_one, Fin.val_zero, Fin.val_two, Int64.reduceOfNat, Int32.reduceOfNat, hdl, cutc, Nat.reduceEqDiff, reduceIte, FV, tyC, tyX0, tyX1, tyX2, tyX3, tyX4, tyX5, tyX6, tyX7, tyX8, tyX9, tyX10, Nat.reduceMul, c_le, c_lt, c_eq, c_in, c_cl, c_add, c_rem, c_ofN, Int32.add_zero, Int32.zero_add, c_lt0, c_ge0, c_le0, c_gt0, c_e0, c_m1, c_m1', false_implies, true_implies, implies_true, not_false_eq_true, not_true_eq_false, Nat.not_lt_zero, up_s, up_1, up_m, eq_self, Nat.add_zero, lg_self, ffc_988, ffk_988, bbL_law_988, bbL_law_1012, bbL_law_1029, LSt, b1, b2, b3, bL, h1, h2, h3, hc0, hc1, hc2, hs0, hs6, hs12, vi, hm3, ho3, kz]
    exact hN _ _ _ _ _ _ _ _ _ ⟨hX3, hM3, (ok_undo hU), _, ho3⟩ (by omega) (by omega)
theorem lw_keep (hR : RDY w x th U) (hi : i + 3 < sL) (hL : sL ≤ 2048) (hc2 : cs + 2 ≤ 601024) (hs12 : ss + 12 ≤ 7293034) (l5 l6 l7 l8 : Option Value) (hN : NXT Γ n h sb sL sx x i cs ss) : GL Γ (mLL n h) QL XL sb sL sx 1032 (LSt sb x i l5 l6 l7 l8) [] none w cs ss := by
  obtain ⟨hX, hM, hU, f, ho⟩ := hR
  have hx := hX.cells.1
  have vi := vi_o
  have bi : i < 2147483648 := by omega
  have b1 : i + 1 < 2147483648 := by omega
  have b2 : i + 2 < 2147483648 := by omega
  have b3 : i + 3 < 2147483648 := by omega
  have bL : sL < 2147483648 := by omega
  have h1 : i + 1 < sL := by omega
  have h2 : i + 2 < sL := by omega
  have h3 : i + 3 < sL := by omega
  have hc0 : cs ≤ 601024 := by omega
  have hc1 : cs + 1 ≤ 601024 := by omega
  have hs0 : ss ≤ 7293034 := by omega
  have hs6 : ss + 6 ≤ 7293034 := by omega
  refine wpL_ok (kdc_1032 n h) 400 1032 bbL_law_1032 _ _ _ _ _ _ (ooL_law_1032 n h) ?_
  simp only [List.getElem?_cons_zero, List.getElem?_cons_succ, fv4, Nat.reduceAdd, Nat.reduceSub, wpL, pst, stpL, LG, lput, ls_tl, two, bc, EL, pad, popN, csum, Option.toList, List.cons_append, List.nil_append, List.set_cons_zero, List.set_cons_succ, List.length_cons, List.length_nil, true_and, and_true, Nat.reduceLT, Nat.reduceLeDiff, Nat.zero_le, Nat.le_refl, RI_i, RI_z0, RI_z1, Int32.reduceOfInt, Int8.reduceOfInt, Int16.reduceOfInt, Int64.reduceOfInt, Int8.toInt32_ofNat, Int16.toInt32_ofNat, Int.reduceNeg, Int32.ofInt_neg, Int8.ofInt_neg, Int16.ofInt_neg, Int32.toInt64_ofNat, Int32.reduceToNatClampNeg, Fin.isValue, Fin.val_one, Fin.val_zero, Fin.val_two, Int64.reduceOfNat, Int32.reduceOfNat, hdl, cutc, Nat.reduceEqDiff, reduceIte, FV, tyC, tyX0, tyX1, tyX2, tyX3, tyX4, tyX5, tyX6, tyX7, tyX8, tyX9, tyX10, Nat.reduceMul, c_le, c_lt, c_eq, c_in, c_cl, c_add, c_rem, c_ofN, Int32.add_zero, Int32.zero_add, c_lt0, c_ge0, c_le0, c_gt0, c_e0, c_m1, c_m1', false_implies, true_implies, implies_true, not_false_eq_true, not_true_eq_false, Nat.not_lt_zero, up_s, up_1, up_m, eq_self, Nat.add_zero, lg_self, ffc_1032, ffk_1032, bbL_law_1032, LSt, b1, b2, b3, bL, h1, h2, h3, hc0, hc1, hc2, hs0, hs6, hs12, vi, hx]
  refine sp9_keep hX (fun w1 hX1 hf1 => ?_)
  have hM1 := hM.fr hf1 (by omega)
  have ho1 := (hf1.at (by omega)).trans ho
  obtain ⟨l2, hm2⟩ := hM1.cell
  unfold holdL
  simp only [List.getElem?_cons_zero, List.getElem?_cons_succ, fv4, Nat.reduceAdd, Nat.reduceSub, wpL, pst, stpL, LG, lput, ls_tl, two, bc, EL, pad, popN, csum, Option.toList, List.cons_append, List.nil_append, List.set_cons_zero, List.set_cons_succ, List.length_cons, List.length_nil, true_and, and_true, Nat.reduceLT, Nat.reduceLeDiff, Nat.zero_le, Nat.le_refl, RI_i, RI_z0, RI_z1, Int32.reduceOfInt, Int8.reduceOfInt, Int16.reduceOfInt, Int64.reduceOfInt, Int8.toInt32_ofNat, Int16.toInt32_ofNat, Int.reduceNeg, Int32.ofInt_neg, Int8.ofInt_neg, Int16.ofInt_neg, Int32.toInt64_ofNat, Int32.reduceToNatClampNeg, Fin.isValue, Fin.val_one, Fin.val_zero, Fin.val_two, Int64.reduceOfNat, Int32.reduceOfNat, hdl, cutc, Nat.reduceEqDiff, reduceIte, FV, tyC, tyX0, tyX1, tyX2, tyX3, tyX4, tyX5, tyX6, tyX7, tyX8, tyX9, tyX10, Nat.reduceMul, c_le, c_lt, c_eq, c_in, c_cl, c_add, c_rem, c_ofN, Int32.add_zero, Int32.zero_add, c_lt0, c_ge0, c_le0, c_gt0, c_e0, c_m1, c_m1', false_implies, true_implies, implies_true, not_false_eq_true, not_true_eq_false, Nat.not_lt_zero, up_s, up_1, up_m, eq_self, Nat.add_zero, lg_self, ffc_1032, ffk_1032, bbL_law_1032, LSt, b1, b2, b3, bL, h1, h2, h3, hc0, hc1, hc2, hs0, hs6, hs12, vi, hm2]
  refine sp10_keep hM1 hU (fun w3 hM3 hf3 => ?_)
  have hX3 := hX1.fr hf3 (by omega)
  have ho3 := (hf3.at (by omega)).trans ho1
  unfold holdL
  simp only [List.getElem?_cons_zero, List.getElem?_cons_succ, fv4, Nat.reduceAdd, Nat.reduceSub, wpL, pst, stpL, LG, lput, ls_tl, two, bc, EL, pad, popN, csum, Option.toList, List.cons_append, List.nil_append, List.set_cons_zero, List.set_cons_succ, List.length_cons, List.length_nil, true_and, and_true, Nat.reduceLT, Nat.reduceLeDiff, Nat.zero_le, Nat.le_refl, RI_i, RI_z0, RI_z1, Int32.reduceOfInt, Int8.reduceOfInt, Int16.reduceOfInt, Int64.reduceOfInt, Int8.toInt32_ofNat, Int16.toInt32_ofNat, Int.reduceNeg, Int32.ofInt_neg, Int8.ofInt_neg, Int16.ofInt_neg, Int32.toInt64_ofNat, Int32.reduceToNatClampNeg, Fin.isValue, Fin.val_one, Fin.val_zero, Fin.val_two, Int64.reduceOfNat, Int32.reduceOfNat, hdl, cutc, Nat.reduceEqDiff, reduceIte, FV, tyC, tyX0, tyX1, tyX2, tyX3, tyX4, tyX5, tyX6, tyX7, tyX8, tyX9, tyX10, Nat.reduceMul, c_le, c_lt, c_eq, c_in, c_cl, c_add, c_rem, c_ofN, Int32.add_zero, Int32.zero_add, c_lt0, c_ge0, c_le0, c_gt0, c_e0, c_m1, c_m1', false_implies, true_implies, implies_true, not_false_eq_true, not_true_eq_false, Nat.not_lt_zero, up_s, up_1, up_m, eq_self, Nat.add_zero, lg_self, ffc_1032, ffk_1032, bbL_law_1032, LSt, b1, b2, b3, bL, h1, h2, h3, hc0, hc1, hc2, hs0, hs6, hs12, vi]
  exact hN _ _ _ _ _ _ _ _ _ ⟨hX3, hM3, (ok_keep hU), _, ho3⟩ (by omega) (by omega)
theorem lw_restore (hR : RDY w x th U) (hi : i + 3 < sL) (hL : sL ≤ 2048) (hc2 : cs + 2 ≤ 601024) (hs12 : ss + 12 ≤ 7293034) (l5 l6 l7 l8 : Option Value) (hN : NXT Γ n h sb sL sx x i cs ss) : GL Γ (mLL n h) QL XL sb sL sx 1045 (LSt sb x i l5 l6 l7 l8) [] none w cs ss := by
  obtain ⟨hX, hM, hU, f, ho⟩ := hR
  have hx := hX.cells.1
  have vi := vi_o
  have bi : i < 2147483648 := by omega
  have b1 : i + 1 < 2147483648 := by omega
  have b2 : i + 2 < 2147483648 := by omega
  have b3 : i + 3 < 2147483648 := by omega
  have bL : sL < 2147483648 := by omega
  have h1 : i + 1 < sL := by omega
  have h2 : i + 2 < sL := by omega
  have h3 : i + 3 < sL := by omega
  have hc0 : cs ≤ 601024 := by omega
  have hc1 : cs + 1 ≤ 601024 := by omega
  have hs0 : ss ≤ 7293034 := by omega
  have hs6 : ss + 6 ≤ 7293034 := by omega
  refine wpL_ok (kdc_1045 n h) 400 1045 bbL_law_1045 _ _ _ _ _ _ (ooL_law_1045 n h) ?_
  simp only [List.getElem?_cons_zero, List.getElem?_cons_succ, fv4, Nat.reduceAdd, Nat.reduceSub, wpL, pst, stpL, LG, lput, ls_tl, two, bc, EL, pad, popN, csum, Option.toList, List.cons_append, List.nil_append, List.set_cons_zero, List.set_cons_succ, List.length_cons, List.length_nil, true_and, and_true, Nat.reduceLT, Nat.reduceLeDiff, Nat.zero_le, Nat.le_refl, RI_i, RI_z0, RI_z1, Int32.reduceOfInt, Int8.reduceOfInt, Int16.reduceOfInt, Int64.reduceOfInt, Int8.toInt32_ofNat, Int16.toInt32_ofNat, Int.reduceNeg, Int32.ofInt_neg, Int8.ofInt_neg, Int16.ofInt_neg, Int32.toInt64_ofNat, Int32.reduceToNatClampNeg, Fin.isValue, Fin.val_one, Fin.val_zero, Fin.val_two, Int64.reduceOfNat, Int32.reduceOfNat, hdl, cutc, Nat.reduceEqDiff, reduceIte, FV, tyC, tyX0, tyX1, tyX2, tyX3, tyX4, tyX5, tyX6, tyX7, tyX8, tyX9, tyX10, Nat.reduceMul, c_le, c_lt, c_eq, c_in, c_cl, c_add, c_rem, c_ofN, Int32.add_zero, Int32.zero_add, c_lt0, c_ge0, c_le0, c_gt0, c_e0, c_m1, c_m1', false_implies, true_implies, implies_true, not_false_eq_true, not_true_eq_false, Nat.not_lt_zero, up_s, up_1, up_m, eq_self, Nat.add_zero, lg_self, ffc_1045, ffk_1045, bbL_law_1045, bbL_law_1069, bbL_law_1086, LSt, b1, b2, b3, bL, h1, h2, h3, hc0, hc1, hc2, hs0, hs6, hs12, vi]
  refine spL_restore hX hU (by omega) ho (fun w1 w2 f2 hX2 hf1 hf2 ho2 hv => ?_)
  have hM2 := (hM.fr hf1 (by omega)).fr hf2 (by omega)
  obtain ⟨l2, hm2⟩ := hM2.cell
  unfold holdL
  simp only [List.getElem?_cons_zero, List.getElem?_cons_succ, fv4, Nat.reduceAdd, Nat.reduceSub, wpL, pst, stpL, LG, lput, ls_tl, two, bc, EL, pad, popN, csum, Option.toList, List.cons_append, List.nil_append, List.set_cons_zero, List.set_cons_succ, List.length_cons, List.length_nil, true_and, and_true, Nat.reduceLT, Nat.reduceLeDiff, Nat.zero_le, Nat.le_refl, RI_i, RI_z0, RI_z1, Int32.reduceOfInt, Int8.reduceOfInt, Int16.reduceOfInt, Int64.reduceOfInt, Int8.toInt32_ofNat, Int16.toInt32_ofNat, Int.reduceNeg, Int32.ofInt_neg, Int8.ofInt_neg, Int16.ofInt_neg, Int32.toInt64_ofNat, Int32.reduceToNatClampNeg, Fin.isValue, Fin.val_one, Fin.val_zero, Fin.val_two, Int64.reduceOfNat, Int32.reduceOfNat, hdl, cutc, Nat.reduceEqDiff, reduceIte, FV, tyC, tyX0, tyX1, tyX2, tyX3, tyX4, tyX5, tyX6, tyX7, tyX8, tyX9, tyX10, Nat.reduceMul, c_le, c_lt, c_eq, c_in, c_cl, c_add, c_rem, c_ofN, Int32.add_zero, Int32.zero_add, c_lt0, c_ge0, c_le0, c_gt0, c_e0, c_m1, c_m1', false_implies, true_implies, implies_true, not_false_eq_true, not_true_eq_false, Nat.not_lt_zero, up_s, up_1, up_m, eq_self, Nat.add_zero, lg_self, ffc_1045, ffk_1045, bbL_law_1045, bbL_law_1069, bbL_law_1086, LSt, b1, b2, b3, bL, h1, h2, h3, hc0, hc1, hc2, hs0, hs6, hs12, vi, hm2]
  refine sp10_restore hM2 hU (fun w3 hM3 hf3 => ?_)
  have hX3 := hX2.fr hf3 (by omega)
  have ho3 := (hf3.at (by omega)).trans ho2
  obtain ⟨l3, hm3⟩ := hM3.cell
  unfold holdL
  simp only [List.getElem?_cons_zero, List.getElem?_cons_succ, fv4, Nat.reduceAdd, Nat.reduceSub, wpL, pst, stpL, LG, lput, ls_tl, two, bc, EL, pad, popN, csum, Option.toList, List.cons_append, List.nil_append, List.set_cons_zero, List.set_cons_succ, List.length_cons, List.length_nil, true_and, and_true, Nat.reduceLT, Nat.reduceLeDiff, Nat.zero_le, Nat.le_refl, RI_i, RI_z0, RI_z1, Int32.reduceOfInt, Int8.reduceOfInt, Int16.reduceOfInt, Int64.reduceOfInt, Int8.toInt32_ofNat, Int16.toInt32_ofNat, Int.reduceNeg, Int32.ofInt_neg, Int8.ofInt_neg, Int16.ofInt_neg, Int32.toInt64_ofNat, Int32.reduceToNatClampNeg, Fin.isValue, Fin.val_one, Fin.val_zero, Fin.val_two, Int64.reduceOfNat, Int32.reduceOfNat, hdl, cutc, Nat.reduceEqDiff, reduceIte, FV, tyC, tyX0, tyX1, tyX2, tyX3, tyX4, tyX5, tyX6, tyX7, tyX8, tyX9, tyX10, Nat.reduceMul, c_le, c_lt, c_eq, c_in, c_cl, c_add, c_rem, c_ofN, Int32.add_zero, Int32.zero_add, c_lt0, c_ge0, c_le0, c_gt0, c_e0, c_m1, c_m1', false_implies, true_implies, implies_true, not_false_eq_true, not_true_eq_false, Nat.not_lt_zero, up_s, up_1, up_m, eq_self, Nat.add_zero, lg_self, ffc_1045, ffk_1045, bbL_law_1045, bbL_law_1069, bbL_law_1086, LSt, b1, b2, b3, bL, h1, h2, h3, hc0, hc1, hc2, hs0, hs6, hs12, vi, hm3]
  refine sp10_thr hM3 ?_
  refine lw_fin (c := _) hv ?_ (fun kz hv0 => ?_) (fun kz => ?_)
  · exact cb_o_restore _
  · unfold holdL
    simp only [List.getElem?_cons_zero, List.getElem?_cons_succ, fv4, Nat.reduceAdd, Nat.reduceSub, wpL, pst, stpL, LG, lput, ls_tl, two, bc, EL, pad, popN, csum, Option.toList, List.cons_append, List.nil_append, List.set_cons_zero, List.set_cons_succ, List.length_cons, List.length_nil, true_and, and_true, Nat.reduceLT, Nat.reduceLeDiff, Nat.zero_le, Nat.le_refl, RI_i, RI_z0, RI_z1, Int32.reduceOfInt, Int8.reduceOfInt, Int16.reduceOfInt, Int64.reduceOfInt, Int8.toInt32_ofNat, Int16.toInt32_ofNat, Int.reduceNeg, Int32.ofInt_neg, Int8.ofInt_neg, Int16.ofInt_neg, Int32.toInt64_ofNat, Int32.reduceToNatClampNeg, Fin.isValue, Fin.val_one, Fin.val_zero, Fin.val_two, Int64.reduceOfNat, Int32.reduceOfNat, hdl, cutc, Nat.reduceEqDiff, reduceIte, FV, tyC, tyX0, tyX1, tyX2, tyX3, tyX4, tyX5, tyX6, tyX7, tyX8, tyX9, tyX10, Nat.reduceMul, c_le, c_lt, c_eq, c_in, c_cl, c_add, c_rem, c_ofN, Int32.add_zero, Int32.zero_add, c_lt0, c_ge0, c_le0, c_gt0, c_e0, c_m1, c_m1', false_implies, true_implies, implies_true, not_false_eq_true, not_true_eq_false, Nat.not_lt_zero, up_s, up_1, up_m, eq_self, Nat.add_zero, lg_self, ffc_1045, ffk_1045, bbL_law_1045, bbL_law_1069, bbL_law_1086, LSt, b1, b2, b3, bL, h1, h2, h3, hc0, hc1, hc2, hs0, hs6, hs12, vi, hm3, ho3, kz, hv0]
    exact hN _ _ _ _ _ _ _ _ _ ⟨hX3, hM3, (ok_restore hU), _, ho3⟩ (by omega) (by omega)
  · unfold holdL
    simp only [List.getElem?_cons_zero, List.getElem?_cons_succ, fv4, Nat.reduceAdd, Nat.reduceSub, wpL, pst, stpL, LG, lput, ls_tl, two, bc, EL, pad, popN, csum, Option.toList, List.cons_append, List.nil_append, List.set_cons_zero, List.set_cons_succ, List.length_cons, List.length_nil, true_and, and_true, Nat.reduceLT, Nat.reduceLeDiff, Nat.zero_le, Nat.le_refl, RI_i, RI_z0, RI_z1, Int32.reduceOfInt, Int8.reduceOfInt, Int16.reduceOfInt, Int64.reduceOfInt, Int8.toInt32_ofNat, Int16.toInt32_ofNat, Int.reduceNeg, Int32.ofInt_neg, Int8.ofInt_neg, Int16.ofInt_neg, Int32.toInt64_ofNat, Int32.reduceToNatClampNeg, Fin.isValue, Fin.val_one, Fin.val_zero, Fin.val_two, Int64.reduceOfNat, Int32.reduceOfNat, hdl, cutc, Nat.reduceEqDiff, reduceIte, FV, tyC, tyX0, tyX1, tyX2, tyX3, tyX4, tyX5, tyX6, tyX7, tyX8, tyX9, tyX10, Nat.reduceMul, c_le, c_lt, c_eq, c_in, c_cl, c_add, c_rem, c_ofN, Int32.add_zero, Int32.zero_add, c_lt0, c_ge0, c_le0, c_gt0, c_e0, c_m1, c_m1', false_implies, true_implies, implies_true, not_false_eq_true, not_true_eq_false, Nat.not_lt_zero, up_s, up_1, up_m, eq_self, Nat.add_zero, lg_self, ffc_1045, ffk_1045, bbL_law_1045, bbL_law_1069, bbL_law_1086, LSt, b1, b2, b3, bL, h1, h2, h3, hc0, hc1, hc2, hs0, hs6, hs12, vi, hm3, ho3, kz]
    exact hN _ _ _ _ _ _ _ _ _ ⟨hX3, hM3, (ok_restore hU), _, ho3⟩ (by omega) (by omega)
theorem lw_savedStates (hR : RDY w x th U) (hi : i + 3 < sL) (hL : sL ≤ 2048) (hc2 : cs + 2 ≤ 601024) (hs12 : ss + 12 ≤ 7293034) (l5 l6 l7 l8 : Option Value) (hN : NXT Γ n h sb sL sx x i cs ss) : GL Γ (mLL n h) QL XL sb sL sx 1089 (LSt sb x i l5 l6 l7 l8) [] none w cs ss := by
  obtain ⟨hX, hM, hU, f, ho⟩ := hR
  have hx := hX.cells.1
  have vi := vi_o
  have bi : i < 2147483648 := by omega
  have b1 : i + 1 < 2147483648 := by omega
  have b2 : i + 2 < 2147483648 := by omega
  have b3 : i + 3 < 2147483648 := by omega
  have bL : sL < 2147483648 := by omega
  have h1 : i + 1 < sL := by omega
  have h2 : i + 2 < sL := by omega
  have h3 : i + 3 < sL := by omega
  have hc0 : cs ≤ 601024 := by omega
  have hc1 : cs + 1 ≤ 601024 := by omega
  have hs0 : ss ≤ 7293034 := by omega
  have hs6 : ss + 6 ≤ 7293034 := by omega
  refine wpL_ok (kdc_1089 n h) 400 1089 bbL_law_1089 _ _ _ _ _ _ (ooL_law_1089 n h) ?_
  simp only [List.getElem?_cons_zero, List.getElem?_cons_succ, fv4, Nat.reduceAdd, Nat.reduceSub, wpL, pst, stpL, LG, lput, ls_tl, two, bc, EL, pad, popN, csum, Option.toList, List.cons_append, List.nil_append, List.set_cons_zero, List.set_cons_succ, List.length_cons, List.length_nil, true_and, and_true, Nat.reduceLT, Nat.reduceLeDiff, Nat.zero_le, Nat.le_refl, RI_i, RI_z0, RI_z1, Int32.reduceOfInt, Int8.reduceOfInt, Int16.reduceOfInt, Int64.reduceOfInt, Int8.toInt32_ofNat, Int16.toInt32_ofNat, Int.reduceNeg, Int32.ofInt_neg, Int8.ofInt_neg, Int16.ofInt_neg, Int32.toInt64_ofNat, Int32.reduceToNatClampNeg, Fin.isValue, Fin.val_one, Fin.val_zero, Fin.val_two, Int64.reduceOfNat, Int32.reduceOfNat, hdl, cutc, Nat.reduceEqDiff, reduceIte, FV, tyC, tyX0, tyX1, tyX2, tyX3, tyX4, tyX5, tyX6, tyX7, tyX8, tyX9, tyX10, Nat.reduceMul, c_le, c_lt, c_eq, c_in, c_cl, c_add, c_rem, c_ofN, Int32.add_zero, Int32.zero_add, c_lt0, c_ge0, c_le0, c_gt0, c_e0, c_m1, c_m1', false_implies, true_implies, implies_true, not_false_eq_true, not_true_eq_false, Nat.not_lt_zero, up_s, up_1, up_m, eq_self, Nat.add_zero, lg_self, ffc_1089, ffk_1089, bbL_law_1089, LSt, b1, b2, b3, bL, h1, h2, h3, hc0, hc1, hc2, hs0, hs6, hs12, vi, hx]
  refine sp9_savedStates hX ?_
  obtain ⟨l2, hm2⟩ := hM.cell
  unfold holdL
  simp only [List.getElem?_cons_zero, List.getElem?_cons_succ, fv4, Nat.reduceAdd, Nat.reduceSub, wpL, pst, stpL, LG, lput, ls_tl, two, bc, EL, pad, popN, csum, Option.toList, List.cons_append, List.nil_append, List.set_cons_zero, List.set_cons_succ, List.length_cons, List.length_nil, true_and, and_true, Nat.reduceLT, Nat.reduceLeDiff, Nat.zero_le, Nat.le_refl, RI_i, RI_z0, RI_z1, Int32.reduceOfInt, Int8.reduceOfInt, Int16.reduceOfInt, Int64.reduceOfInt, Int8.toInt32_ofNat, Int16.toInt32_ofNat, Int.reduceNeg, Int32.ofInt_neg, Int8.ofInt_neg, Int16.ofInt_neg, Int32.toInt64_ofNat, Int32.reduceToNatClampNeg, Fin.isValue, Fin.val_one, Fin.val_zero, Fin.val_two, Int64.reduceOfNat, Int32.reduceOfNat, hdl, cutc, Nat.reduceEqDiff, reduceIte, FV, tyC, tyX0, tyX1, tyX2, tyX3, tyX4, tyX5, tyX6, tyX7, tyX8, tyX9, tyX10, Nat.reduceMul, c_le, c_lt, c_eq, c_in, c_cl, c_add, c_rem, c_ofN, Int32.add_zero, Int32.zero_add, c_lt0, c_ge0, c_le0, c_gt0, c_e0, c_m1, c_m1', false_implies, true_implies, implies_true, not_false_eq_true, not_true_eq_false, Nat.not_lt_zero, up_s, up_1, up_m, eq_self, Nat.add_zero, lg_self, ffc_1089, ffk_1089, bbL_law_1089, LSt, b1, b2, b3, bL, h1, h2, h3, hc0, hc1, hc2, hs0, hs6, hs12, vi, hm2]
  refine sp10_savedStates hM hU (fun w3 hM3 hf3 => ?_)
  have hX3 := hX.fr hf3 (by omega)
  have ho3 := (hf3.at (by omega)).trans ho
  unfold holdL
  simp only [List.getElem?_cons_zero, List.getElem?_cons_succ, fv4, Nat.reduceAdd, Nat.reduceSub, wpL, pst, stpL, LG, lput, ls_tl, two, bc, EL, pad, popN, csum, Option.toList, List.cons_append, List.nil_append, List.set_cons_zero, List.set_cons_succ, List.length_cons, List.length_nil, true_and, and_true, Nat.reduceLT, Nat.reduceLeDiff, Nat.zero_le, Nat.le_refl, RI_i, RI_z0, RI_z1, Int32.reduceOfInt, Int8.reduceOfInt, Int16.reduceOfInt, Int64.reduceOfInt, Int8.toInt32_ofNat, Int16.toInt32_ofNat, Int.reduceNeg, Int32.ofInt_neg, Int8.ofInt_neg, Int16.ofInt_neg, Int32.toInt64_ofNat, Int32.reduceToNatClampNeg, Fin.isValue, Fin.val_one, Fin.val_zero, Fin.val_two, Int64.reduceOfNat, Int32.reduceOfNat, hdl, cutc, Nat.reduceEqDiff, reduceIte, FV, tyC, tyX0, tyX1, tyX2, tyX3, tyX4, tyX5, tyX6, tyX7, tyX8, tyX9, tyX10, Nat.reduceMul, c_le, c_lt, c_eq, c_in, c_cl, c_add, c_rem, c_ofN, Int32.add_zero, Int32.zero_add, c_lt0, c_ge0, c_le0, c_gt0, c_e0, c_m1, c_m1', false_implies, true_implies, implies_true, not_false_eq_true, not_true_eq_false, Nat.not_lt_zero, up_s, up_1, up_m, eq_self, Nat.add_zero, lg_self, ffc_1089, ffk_1089, bbL_law_1089, LSt, b1, b2, b3, bL, h1, h2, h3, hc0, hc1, hc2, hs0, hs6, hs12, vi]
  exact hN _ _ _ _ _ _ _ _ _ ⟨hX3, hM3, hU, _, ho3⟩ (by omega) (by omega)
theorem lw_width (hR : RDY w x th U) (hi : i + 3 < sL) (hL : sL ≤ 2048) (hc2 : cs + 2 ≤ 601024) (hs12 : ss + 12 ≤ 7293034) (l5 l6 l7 l8 : Option Value) (hN : NXT Γ n h sb sL sx x i cs ss) : GL Γ (mLL n h) QL XL sb sL sx 1102 (LSt sb x i l5 l6 l7 l8) [] none w cs ss := by
  obtain ⟨hX, hM, hU, f, ho⟩ := hR
  have hx := hX.cells.1
  have vi := vi_o
  have bi : i < 2147483648 := by omega
  have b1 : i + 1 < 2147483648 := by omega
  have b2 : i + 2 < 2147483648 := by omega
  have b3 : i + 3 < 2147483648 := by omega
  have bL : sL < 2147483648 := by omega
  have h1 : i + 1 < sL := by omega
  have h2 : i + 2 < sL := by omega
  have h3 : i + 3 < sL := by omega
  have hc0 : cs ≤ 601024 := by omega
  have hc1 : cs + 1 ≤ 601024 := by omega
  have hs0 : ss ≤ 7293034 := by omega
  have hs6 : ss + 6 ≤ 7293034 := by omega
  refine wpL_ok (kdc_1102 n h) 400 1102 bbL_law_1102 _ _ _ _ _ _ (ooL_law_1102 n h) ?_
  simp only [List.getElem?_cons_zero, List.getElem?_cons_succ, fv4, Nat.reduceAdd, Nat.reduceSub, wpL, pst, stpL, LG, lput, ls_tl, two, bc, EL, pad, popN, csum, Option.toList, List.cons_append, List.nil_append, List.set_cons_zero, List.set_cons_succ, List.length_cons, List.length_nil, true_and, and_true, Nat.reduceLT, Nat.reduceLeDiff, Nat.zero_le, Nat.le_refl, RI_i, RI_z0, RI_z1, Int32.reduceOfInt, Int8.reduceOfInt, Int16.reduceOfInt, Int64.reduceOfInt, Int8.toInt32_ofNat, Int16.toInt32_ofNat, Int.reduceNeg, Int32.ofInt_neg, Int8.ofInt_neg, Int16.ofInt_neg, Int32.toInt64_ofNat, Int32.reduceToNatClampNeg, Fin.isValue, Fin.val_one, Fin.val_zero, Fin.val_two, Int64.reduceOfNat, Int32.reduceOfNat, hdl, cutc, Nat.reduceEqDiff, reduceIte, FV, tyC, tyX0, tyX1, tyX2, tyX3, tyX4, tyX5, tyX6, tyX7, tyX8, tyX9, tyX10, Nat.reduceMul, c_le, c_lt, c_eq, c_in, c_cl, c_add, c_rem, c_ofN, Int32.add_zero, Int32.zero_add, c_lt0, c_ge0, c_le0, c_gt0, c_e0, c_m1, c_m1', false_implies, true_implies, implies_true, not_false_eq_true, not_true_eq_false, Nat.not_lt_zero, up_s, up_1, up_m, eq_self, Nat.add_zero, lg_self, ffc_1102, ffk_1102, bbL_law_1102, LSt, b1, b2, b3, bL, h1, h2, h3, hc0, hc1, hc2, hs0, hs6, hs12, vi, hx]
  refine sp9_width hX ?_
  obtain ⟨l2, hm2⟩ := hM.cell
  unfold holdL
  simp only [List.getElem?_cons_zero, List.getElem?_cons_succ, fv4, Nat.reduceAdd, Nat.reduceSub, wpL, pst, stpL, LG, lput, ls_tl, two, bc, EL, pad, popN, csum, Option.toList, List.cons_append, List.nil_append, List.set_cons_zero, List.set_cons_succ, List.length_cons, List.length_nil, true_and, and_true, Nat.reduceLT, Nat.reduceLeDiff, Nat.zero_le, Nat.le_refl, RI_i, RI_z0, RI_z1, Int32.reduceOfInt, Int8.reduceOfInt, Int16.reduceOfInt, Int64.reduceOfInt, Int8.toInt32_ofNat, Int16.toInt32_ofNat, Int.reduceNeg, Int32.ofInt_neg, Int8.ofInt_neg, Int16.ofInt_neg, Int32.toInt64_ofNat, Int32.reduceToNatClampNeg, Fin.isValue, Fin.val_one, Fin.val_zero, Fin.val_two, Int64.reduceOfNat, Int32.reduceOfNat, hdl, cutc, Nat.reduceEqDiff, reduceIte, FV, tyC, tyX0, tyX1, tyX2, tyX3, tyX4, tyX5, tyX6, tyX7, tyX8, tyX9, tyX10, Nat.reduceMul, c_le, c_lt, c_eq, c_in, c_cl, c_add, c_rem, c_ofN, Int32.add_zero, Int32.zero_add, c_lt0, c_ge0, c_le0, c_gt0, c_e0, c_m1, c_m1', false_implies, true_implies, implies_true, not_false_eq_true, not_true_eq_false, Nat.not_lt_zero, up_s, up_1, up_m, eq_self, Nat.add_zero, lg_self, ffc_1102, ffk_1102, bbL_law_1102, LSt, b1, b2, b3, bL, h1, h2, h3, hc0, hc1, hc2, hs0, hs6, hs12, vi, hm2]
  refine sp10_width hM hU (fun w3 hM3 hf3 => ?_)
  have hX3 := hX.fr hf3 (by omega)
  have ho3 := (hf3.at (by omega)).trans ho
  unfold holdL
  simp only [List.getElem?_cons_zero, List.getElem?_cons_succ, fv4, Nat.reduceAdd, Nat.reduceSub, wpL, pst, stpL, LG, lput, ls_tl, two, bc, EL, pad, popN, csum, Option.toList, List.cons_append, List.nil_append, List.set_cons_zero, List.set_cons_succ, List.length_cons, List.length_nil, true_and, and_true, Nat.reduceLT, Nat.reduceLeDiff, Nat.zero_le, Nat.le_refl, RI_i, RI_z0, RI_z1, Int32.reduceOfInt, Int8.reduceOfInt, Int16.reduceOfInt, Int64.reduceOfInt, Int8.toInt32_ofNat, Int16.toInt32_ofNat, Int.reduceNeg, Int32.ofInt_neg, Int8.ofInt_neg, Int16.ofInt_neg, Int32.toInt64_ofNat, Int32.reduceToNatClampNeg, Fin.isValue, Fin.val_one, Fin.val_zero, Fin.val_two, Int64.reduceOfNat, Int32.reduceOfNat, hdl, cutc, Nat.reduceEqDiff, reduceIte, FV, tyC, tyX0, tyX1, tyX2, tyX3, tyX4, tyX5, tyX6, tyX7, tyX8, tyX9, tyX10, Nat.reduceMul, c_le, c_lt, c_eq, c_in, c_cl, c_add, c_rem, c_ofN, Int32.add_zero, Int32.zero_add, c_lt0, c_ge0, c_le0, c_gt0, c_e0, c_m1, c_m1', false_implies, true_implies, implies_true, not_false_eq_true, not_true_eq_false, Nat.not_lt_zero, up_s, up_1, up_m, eq_self, Nat.add_zero, lg_self, ffc_1102, ffk_1102, bbL_law_1102, LSt, b1, b2, b3, bL, h1, h2, h3, hc0, hc1, hc2, hs0, hs6, hs12, vi]
  exact hN _ _ _ _ _ _ _ _ _ ⟨hX3, hM3, hU, _, ho3⟩ (by omega) (by omega)
theorem lw_lines (hR : RDY w x th U) (hi : i + 3 < sL) (hL : sL ≤ 2048) (hc2 : cs + 2 ≤ 601024) (hs12 : ss + 12 ≤ 7293034) (l5 l6 l7 l8 : Option Value) (hN : NXT Γ n h sb sL sx x i cs ss) : GL Γ (mLL n h) QL XL sb sL sx 1115 (LSt sb x i l5 l6 l7 l8) [] none w cs ss := by
  obtain ⟨hX, hM, hU, f, ho⟩ := hR
  have hx := hX.cells.1
  have vi := vi_o
  have bi : i < 2147483648 := by omega
  have b1 : i + 1 < 2147483648 := by omega
  have b2 : i + 2 < 2147483648 := by omega
  have b3 : i + 3 < 2147483648 := by omega
  have bL : sL < 2147483648 := by omega
  have h1 : i + 1 < sL := by omega
  have h2 : i + 2 < sL := by omega
  have h3 : i + 3 < sL := by omega
  have hc0 : cs ≤ 601024 := by omega
  have hc1 : cs + 1 ≤ 601024 := by omega
  have hs0 : ss ≤ 7293034 := by omega
  have hs6 : ss + 6 ≤ 7293034 := by omega
  refine wpL_ok (kdc_1115 n h) 400 1115 bbL_law_1115 _ _ _ _ _ _ (ooL_law_1115 n h) ?_
  simp only [List.getElem?_cons_zero, List.getElem?_cons_succ, fv4, Nat.reduceAdd, Nat.reduceSub, wpL, pst, stpL, LG, lput, ls_tl, two, bc, EL, pad, popN, csum, Option.toList, List.cons_append, List.nil_append, List.set_cons_zero, List.set_cons_succ, List.length_cons, List.length_nil, true_and, and_true, Nat.reduceLT, Nat.reduceLeDiff, Nat.zero_le, Nat.le_refl, RI_i, RI_z0, RI_z1, Int32.reduceOfInt, Int8.reduceOfInt, Int16.reduceOfInt, Int64.reduceOfInt, Int8.toInt32_ofNat, Int16.toInt32_ofNat, Int.reduceNeg, Int32.ofInt_neg, Int8.ofInt_neg, Int16.ofInt_neg, Int32.toInt64_ofNat, Int32.reduceToNatClampNeg, Fin.isValue, Fin.val_one, Fin.val_zero, Fin.val_two, Int64.reduceOfNat, Int32.reduceOfNat, hdl, cutc, Nat.reduceEqDiff, reduceIte, FV, tyC, tyX0, tyX1, tyX2, tyX3, tyX4, tyX5, tyX6, tyX7, tyX8, tyX9, tyX10, Nat.reduceMul, c_le, c_lt, c_eq, c_in, c_cl, c_add, c_rem, c_ofN, Int32.add_zero, Int32.zero_add, c_lt0, c_ge0, c_le0, c_gt0, c_e0, c_m1, c_m1', false_implies, true_implies, implies_true, not_false_eq_true, not_true_eq_false, Nat.not_lt_zero, up_s, up_1, up_m, eq_self, Nat.add_zero, lg_self, ffc_1115, ffk_1115, bbL_law_1115, LSt, b1, b2, b3, bL, h1, h2, h3, hc0, hc1, hc2, hs0, hs6, hs12, vi, hx]
  refine sp9_lines hX ?_
  obtain ⟨l2, hm2⟩ := hM.cell
  unfold holdL
  simp only [List.getElem?_cons_zero, List.getElem?_cons_succ, fv4, Nat.reduceAdd, Nat.reduceSub, wpL, pst, stpL, LG, lput, ls_tl, two, bc, EL, pad, popN, csum, Option.toList, List.cons_append, List.nil_append, List.set_cons_zero, List.set_cons_succ, List.length_cons, List.length_nil, true_and, and_true, Nat.reduceLT, Nat.reduceLeDiff, Nat.zero_le, Nat.le_refl, RI_i, RI_z0, RI_z1, Int32.reduceOfInt, Int8.reduceOfInt, Int16.reduceOfInt, Int64.reduceOfInt, Int8.toInt32_ofNat, Int16.toInt32_ofNat, Int.reduceNeg, Int32.ofInt_neg, Int8.ofInt_neg, Int16.ofInt_neg, Int32.toInt64_ofNat, Int32.reduceToNatClampNeg, Fin.isValue, Fin.val_one, Fin.val_zero, Fin.val_two, Int64.reduceOfNat, Int32.reduceOfNat, hdl, cutc, Nat.reduceEqDiff, reduceIte, FV, tyC, tyX0, tyX1, tyX2, tyX3, tyX4, tyX5, tyX6, tyX7, tyX8, tyX9, tyX10, Nat.reduceMul, c_le, c_lt, c_eq, c_in, c_cl, c_add, c_rem, c_ofN, Int32.add_zero, Int32.zero_add, c_lt0, c_ge0, c_le0, c_gt0, c_e0, c_m1, c_m1', false_implies, true_implies, implies_true, not_false_eq_true, not_true_eq_false, Nat.not_lt_zero, up_s, up_1, up_m, eq_self, Nat.add_zero, lg_self, ffc_1115, ffk_1115, bbL_law_1115, LSt, b1, b2, b3, bL, h1, h2, h3, hc0, hc1, hc2, hs0, hs6, hs12, vi, hm2]
  refine sp10_lines hM hU (fun w3 hM3 hf3 => ?_)
  have hX3 := hX.fr hf3 (by omega)
  have ho3 := (hf3.at (by omega)).trans ho
  unfold holdL
  simp only [List.getElem?_cons_zero, List.getElem?_cons_succ, fv4, Nat.reduceAdd, Nat.reduceSub, wpL, pst, stpL, LG, lput, ls_tl, two, bc, EL, pad, popN, csum, Option.toList, List.cons_append, List.nil_append, List.set_cons_zero, List.set_cons_succ, List.length_cons, List.length_nil, true_and, and_true, Nat.reduceLT, Nat.reduceLeDiff, Nat.zero_le, Nat.le_refl, RI_i, RI_z0, RI_z1, Int32.reduceOfInt, Int8.reduceOfInt, Int16.reduceOfInt, Int64.reduceOfInt, Int8.toInt32_ofNat, Int16.toInt32_ofNat, Int.reduceNeg, Int32.ofInt_neg, Int8.ofInt_neg, Int16.ofInt_neg, Int32.toInt64_ofNat, Int32.reduceToNatClampNeg, Fin.isValue, Fin.val_one, Fin.val_zero, Fin.val_two, Int64.reduceOfNat, Int32.reduceOfNat, hdl, cutc, Nat.reduceEqDiff, reduceIte, FV, tyC, tyX0, tyX1, tyX2, tyX3, tyX4, tyX5, tyX6, tyX7, tyX8, tyX9, tyX10, Nat.reduceMul, c_le, c_lt, c_eq, c_in, c_cl, c_add, c_rem, c_ofN, Int32.add_zero, Int32.zero_add, c_lt0, c_ge0, c_le0, c_gt0, c_e0, c_m1, c_m1', false_implies, true_implies, implies_true, not_false_eq_true, not_true_eq_false, Nat.not_lt_zero, up_s, up_1, up_m, eq_self, Nat.add_zero, lg_self, ffc_1115, ffk_1115, bbL_law_1115, LSt, b1, b2, b3, bL, h1, h2, h3, hc0, hc1, hc2, hs0, hs6, hs12, vi]
  exact hN _ _ _ _ _ _ _ _ _ ⟨hX3, hM3, hU, _, ho3⟩ (by omega) (by omega)
theorem lw_style (hR : RDY w x th U) (hi : i + 3 < sL) (hL : sL ≤ 2048) (hc2 : cs + 2 ≤ 601024) (hs12 : ss + 12 ≤ 7293034) (l5 l6 l7 l8 : Option Value) (hN : NXT Γ n h sb sL sx x i cs ss) : GL Γ (mLL n h) QL XL sb sL sx 1128 (LSt sb x i l5 l6 l7 l8) [] none w cs ss := by
  obtain ⟨hX, hM, hU, f, ho⟩ := hR
  have hx := hX.cells.1
  have vi := vi_o
  have bi : i < 2147483648 := by omega
  have b1 : i + 1 < 2147483648 := by omega
  have b2 : i + 2 < 2147483648 := by omega
  have b3 : i + 3 < 2147483648 := by omega
  have bL : sL < 2147483648 := by omega
  have h1 : i + 1 < sL := by omega
  have h2 : i + 2 < sL := by omega
  have h3 : i + 3 < sL := by omega
  have hc0 : cs ≤ 601024 := by omega
  have hc1 : cs + 1 ≤ 601024 := by omega
  have hs0 : ss ≤ 7293034 := by omega
  have hs6 : ss + 6 ≤ 7293034 := by omega
  refine wpL_ok (kdc_1128 n h) 400 1128 bbL_law_1128 _ _ _ _ _ _ (ooL_law_1128 n h) ?_
  simp only [List.getElem?_cons_zero, List.getElem?_cons_succ, fv4, Nat.reduceAdd, Nat.reduceSub, wpL, pst, stpL, LG, lput, ls_tl, two, bc, EL, pad, popN, csum, Option.toList, List.cons_append, List.nil_append, List.set_cons_zero, List.set_cons_succ, List.length_cons, List.length_nil, true_and, and_true, Nat.reduceLT, Nat.reduceLeDiff, Nat.zero_le, Nat.le_refl, RI_i, RI_z0, RI_z1, Int32.reduceOfInt, Int8.reduceOfInt, Int16.reduceOfInt, Int64.reduceOfInt, Int8.toInt32_ofNat, Int16.toInt32_ofNat, Int.reduceNeg, Int32.ofInt_neg, Int8.ofInt_neg, Int16.ofInt_neg, Int32.toInt64_ofNat, Int32.reduceToNatClampNeg, Fin.isValue, Fin.val_one, Fin.val_zero, Fin.val_two, Int64.reduceOfNat, Int32.reduceOfNat, hdl, cutc, Nat.reduceEqDiff, reduceIte, FV, tyC, tyX0, tyX1, tyX2, tyX3, tyX4, tyX5, tyX6, tyX7, tyX8, tyX9, tyX10, Nat.reduceMul, c_le, c_lt, c_eq, c_in, c_cl, c_add, c_rem, c_ofN, Int32.add_zero, Int32.zero_add, c_lt0, c_ge0, c_le0, c_gt0, c_e0, c_m1, c_m1', false_implies, true_implies, implies_true, not_false_eq_true, not_true_eq_false, Nat.not_lt_zero, up_s, up_1, up_m, eq_self, Nat.add_zero, lg_self, ffc_1128, ffk_1128, bbL_law_1128, LSt, b1, b2, b3, bL, h1, h2, h3, hc0, hc1, hc2, hs0, hs6, hs12, vi, hx]
  refine sp9_style hX ?_
  obtain ⟨l2, hm2⟩ := hM.cell
  unfold holdL
  simp only [List.getElem?_cons_zero, List.getElem?_cons_succ, fv4, Nat.reduceAdd, Nat.reduceSub, wpL, pst, stpL, LG, lput, ls_tl, two, bc, EL, pad, popN, csum, Option.toList, List.cons_append, List.nil_append, List.set_cons_zero, List.set_cons_succ, List.length_cons, List.length_nil, true_and, and_true, Nat.reduceLT, Nat.reduceLeDiff, Nat.zero_le, Nat.le_refl, RI_i, RI_z0, RI_z1, Int32.reduceOfInt, Int8.reduceOfInt, Int16.reduceOfInt, Int64.reduceOfInt, Int8.toInt32_ofNat, Int16.toInt32_ofNat, Int.reduceNeg, Int32.ofInt_neg, Int8.ofInt_neg, Int16.ofInt_neg, Int32.toInt64_ofNat, Int32.reduceToNatClampNeg, Fin.isValue, Fin.val_one, Fin.val_zero, Fin.val_two, Int64.reduceOfNat, Int32.reduceOfNat, hdl, cutc, Nat.reduceEqDiff, reduceIte, FV, tyC, tyX0, tyX1, tyX2, tyX3, tyX4, tyX5, tyX6, tyX7, tyX8, tyX9, tyX10, Nat.reduceMul, c_le, c_lt, c_eq, c_in, c_cl, c_add, c_rem, c_ofN, Int32.add_zero, Int32.zero_add, c_lt0, c_ge0, c_le0, c_gt0, c_e0, c_m1, c_m1', false_implies, true_implies, implies_true, not_false_eq_true, not_true_eq_false, Nat.not_lt_zero, up_s, up_1, up_m, eq_self, Nat.add_zero, lg_self, ffc_1128, ffk_1128, bbL_law_1128, LSt, b1, b2, b3, bL, h1, h2, h3, hc0, hc1, hc2, hs0, hs6, hs12, vi, hm2]
  refine sp10_style hM hU (fun w3 hM3 hf3 => ?_)
  have hX3 := hX.fr hf3 (by omega)
  have ho3 := (hf3.at (by omega)).trans ho
  unfold holdL
  simp only [List.getElem?_cons_zero, List.getElem?_cons_succ, fv4, Nat.reduceAdd, Nat.reduceSub, wpL, pst, stpL, LG, lput, ls_tl, two, bc, EL, pad, popN, csum, Option.toList, List.cons_append, List.nil_append, List.set_cons_zero, List.set_cons_succ, List.length_cons, List.length_nil, true_and, and_true, Nat.reduceLT, Nat.reduceLeDiff, Nat.zero_le, Nat.le_refl, RI_i, RI_z0, RI_z1, Int32.reduceOfInt, Int8.reduceOfInt, Int16.reduceOfInt, Int64.reduceOfInt, Int8.toInt32_ofNat, Int16.toInt32_ofNat, Int.reduceNeg, Int32.ofInt_neg, Int8.ofInt_neg, Int16.ofInt_neg, Int32.toInt64_ofNat, Int32.reduceToNatClampNeg, Fin.isValue, Fin.val_one, Fin.val_zero, Fin.val_two, Int64.reduceOfNat, Int32.reduceOfNat, hdl, cutc, Nat.reduceEqDiff, reduceIte, FV, tyC, tyX0, tyX1, tyX2, tyX3, tyX4, tyX5, tyX6, tyX7, tyX8, tyX9, tyX10, Nat.reduceMul, c_le, c_lt, c_eq, c_in, c_cl, c_add, c_rem, c_ofN, Int32.add_zero, Int32.zero_add, c_lt0, c_ge0, c_le0, c_gt0, c_e0, c_m1, c_m1', false_implies, true_implies, implies_true, not_false_eq_true, not_true_eq_false, Nat.not_lt_zero, up_s, up_1, up_m, eq_self, Nat.add_zero, lg_self, ffc_1128, ffk_1128, bbL_law_1128, LSt, b1, b2, b3, bL, h1, h2, h3, hc0, hc1, hc2, hs0, hs6, hs12, vi]
  exact hN _ _ _ _ _ _ _ _ _ ⟨hX3, hM3, hU, _, ho3⟩ (by omega) (by omega)
theorem lw_pixelsOf (hR : RDY w x th U) (hi : i + 3 < sL) (hL : sL ≤ 2048) (hc2 : cs + 2 ≤ 601024) (hs12 : ss + 12 ≤ 7293034) (l5 l6 l7 l8 : Option Value) (hN : NXT Γ n h sb sL sx x i cs ss) : GL Γ (mLL n h) QL XL sb sL sx 1141 (LSt sb x i l5 l6 l7 l8) [] none w cs ss := by
  obtain ⟨hX, hM, hU, f, ho⟩ := hR
  have hx := hX.cells.1
  have vi := vi_o
  have bi : i < 2147483648 := by omega
  have b1 : i + 1 < 2147483648 := by omega
  have b2 : i + 2 < 2147483648 := by omega
  have b3 : i + 3 < 2147483648 := by omega
  have bL : sL < 2147483648 := by omega
  have h1 : i + 1 < sL := by omega
  have h2 : i + 2 < sL := by omega
  have h3 : i + 3 < sL := by omega
  have hc0 : cs ≤ 601024 := by omega
  have hc1 : cs + 1 ≤ 601024 := by omega
  have hs0 : ss ≤ 7293034 := by omega
  have hs6 : ss + 6 ≤ 7293034 := by omega
  refine wpL_ok (kdc_1141 n h) 400 1141 bbL_law_1141 _ _ _ _ _ _ (ooL_law_1141 n h) ?_
  simp only [List.getElem?_cons_zero, List.getElem?_cons_succ, fv4, Nat.reduceAdd, Nat.reduceSub, wpL, pst, stpL, LG, lput, ls_tl, two, bc, EL, pad, popN, csum, Option.toList, List.cons_append, List.nil_append, List.set_cons_zero, List.set_cons_succ, List.length_cons, List.length_nil, true_and, and_true, Nat.reduceLT, Nat.reduceLeDiff, Nat.zero_le, Nat.le_refl, RI_i, RI_z0, RI_z1, Int32.reduceOfInt, Int8.reduceOfInt, Int16.reduceOfInt, Int64.reduceOfInt, Int8.toInt32_ofNat, Int16.toInt32_ofNat, Int.reduceNeg, Int32.ofInt_neg, Int8.ofInt_neg, Int16.ofInt_neg, Int32.toInt64_ofNat, Int32.reduceToNatClampNeg, Fin.isValue, Fin.val_one, Fin.val_zero, Fin.val_two, Int64.reduceOfNat, Int32.reduceOfNat, hdl, cutc, Nat.reduceEqDiff, reduceIte, FV, tyC, tyX0, tyX1, tyX2, tyX3, tyX4, tyX5, tyX6, tyX7, tyX8, tyX9, tyX10, Nat.reduceMul, c_le, c_lt, c_eq, c_in, c_cl, c_add, c_rem, c_ofN, Int32.add_zero, Int32.zero_add, c_lt0, c_ge0, c_le0, c_gt0, c_e0, c_m1, c_m1', false_implies, true_implies, implies_true, not_false_eq_true, not_true_eq_false, Nat.not_lt_zero, up_s, up_1, up_m, eq_self, Nat.add_zero, lg_self, ffc_1141, ffk_1141, bbL_law_1141, bbL_law_1177, bbL_law_1193, cl_1, ca_1, LSt, b1, b2, b3, bL, h1, h2, h3, hc0, hc1, hc2, hs0, hs6, hs12, vi]
  refine spL_pixelsOf hX hU (by omega) ho _ (fun w1 w2 f2 hX2 hf1 hf2 ho2 hv => ?_)
  have hM2 := (hM.fr hf1 (by omega)).fr hf2 (by omega)
  obtain ⟨l2, hm2⟩ := hM2.cell
  unfold holdL
  simp only [List.getElem?_cons_zero, List.getElem?_cons_succ, fv4, Nat.reduceAdd, Nat.reduceSub, wpL, pst, stpL, LG, lput, ls_tl, two, bc, EL, pad, popN, csum, Option.toList, List.cons_append, List.nil_append, List.set_cons_zero, List.set_cons_succ, List.length_cons, List.length_nil, true_and, and_true, Nat.reduceLT, Nat.reduceLeDiff, Nat.zero_le, Nat.le_refl, RI_i, RI_z0, RI_z1, Int32.reduceOfInt, Int8.reduceOfInt, Int16.reduceOfInt, Int64.reduceOfInt, Int8.toInt32_ofNat, Int16.toInt32_ofNat, Int.reduceNeg, Int32.ofInt_neg, Int8.ofInt_neg, Int16.ofInt_neg, Int32.toInt64_ofNat, Int32.reduceToNatClampNeg, Fin.isValue, Fin.val_one, Fin.val_zero, Fin.val_two, Int64.reduceOfNat, Int32.reduceOfNat, hdl, cutc, Nat.reduceEqDiff, reduceIte, FV, tyC, tyX0, tyX1, tyX2, tyX3, tyX4, tyX5, tyX6, tyX7, tyX8, tyX9, tyX10, Nat.reduceMul, c_le, c_lt, c_eq, c_in, c_cl, c_add, c_rem, c_ofN, Int32.add_zero, Int32.zero_add, c_lt0, c_ge0, c_le0, c_gt0, c_e0, c_m1, c_m1', false_implies, true_implies, implies_true, not_false_eq_true, not_true_eq_false, Nat.not_lt_zero, up_s, up_1, up_m, eq_self, Nat.add_zero, lg_self, ffc_1141, ffk_1141, bbL_law_1141, bbL_law_1177, bbL_law_1193, cl_1, ca_1, LSt, b1, b2, b3, bL, h1, h2, h3, hc0, hc1, hc2, hs0, hs6, hs12, vi, hm2]
  refine sp10_pixelsOf hM2 hU _ (fun w3 hM3 hf3 => ?_)
  have hX3 := hX2.fr hf3 (by omega)
  have ho3 := (hf3.at (by omega)).trans ho2
  obtain ⟨l3, hm3⟩ := hM3.cell
  unfold holdL
  simp only [List.getElem?_cons_zero, List.getElem?_cons_succ, fv4, Nat.reduceAdd, Nat.reduceSub, wpL, pst, stpL, LG, lput, ls_tl, two, bc, EL, pad, popN, csum, Option.toList, List.cons_append, List.nil_append, List.set_cons_zero, List.set_cons_succ, List.length_cons, List.length_nil, true_and, and_true, Nat.reduceLT, Nat.reduceLeDiff, Nat.zero_le, Nat.le_refl, RI_i, RI_z0, RI_z1, Int32.reduceOfInt, Int8.reduceOfInt, Int16.reduceOfInt, Int64.reduceOfInt, Int8.toInt32_ofNat, Int16.toInt32_ofNat, Int.reduceNeg, Int32.ofInt_neg, Int8.ofInt_neg, Int16.ofInt_neg, Int32.toInt64_ofNat, Int32.reduceToNatClampNeg, Fin.isValue, Fin.val_one, Fin.val_zero, Fin.val_two, Int64.reduceOfNat, Int32.reduceOfNat, hdl, cutc, Nat.reduceEqDiff, reduceIte, FV, tyC, tyX0, tyX1, tyX2, tyX3, tyX4, tyX5, tyX6, tyX7, tyX8, tyX9, tyX10, Nat.reduceMul, c_le, c_lt, c_eq, c_in, c_cl, c_add, c_rem, c_ofN, Int32.add_zero, Int32.zero_add, c_lt0, c_ge0, c_le0, c_gt0, c_e0, c_m1, c_m1', false_implies, true_implies, implies_true, not_false_eq_true, not_true_eq_false, Nat.not_lt_zero, up_s, up_1, up_m, eq_self, Nat.add_zero, lg_self, ffc_1141, ffk_1141, bbL_law_1141, bbL_law_1177, bbL_law_1193, cl_1, ca_1, LSt, b1, b2, b3, bL, h1, h2, h3, hc0, hc1, hc2, hs0, hs6, hs12, vi, hm3]
  refine sp10_thr hM3 ?_
  refine lw_fin (c := _) hv ?_ (fun kz hv0 => ?_) (fun kz => ?_)
  · exact cb_v_pixelsOf _ _
  · unfold holdL
    simp only [List.getElem?_cons_zero, List.getElem?_cons_succ, fv4, Nat.reduceAdd, Nat.reduceSub, wpL, pst, stpL, LG, lput, ls_tl, two, bc, EL, pad, popN, csum, Option.toList, List.cons_append, List.nil_append, List.set_cons_zero, List.set_cons_succ, List.length_cons, List.length_nil, true_and, and_true, Nat.reduceLT, Nat.reduceLeDiff, Nat.zero_le, Nat.le_refl, RI_i, RI_z0, RI_z1, Int32.reduceOfInt, Int8.reduceOfInt, Int16.reduceOfInt, Int64.reduceOfInt, Int8.toInt32_ofNat, Int16.toInt32_ofNat, Int.reduceNeg, Int32.ofInt_neg, Int8.ofInt_neg, Int16.ofInt_neg, Int32.toInt64_ofNat, Int32.reduceToNatClampNeg, Fin.isValue, Fin.val_one, Fin.val_zero, Fin.val_two, Int64.reduceOfNat, Int32.reduceOfNat, hdl, cutc, Nat.reduceEqDiff, reduceIte, FV, tyC, tyX0, tyX1, tyX2, tyX3, tyX4, tyX5, tyX6, tyX7, tyX8, tyX9, tyX10, Nat.reduceMul, c_le, c_lt, c_eq, c_in, c_cl, c_add, c_rem, c_ofN, Int32.add_zero, Int32.zero_add, c_lt0, c_ge0, c_le0, c_gt0, c_e0, c_m1, c_m1', false_implies, true_implies, implies_true, not_false_eq_true, not_true_eq_false, Nat.not_lt_zero, up_s, up_1, up_m, eq_self, Nat.add_zero, lg_self, ffc_1141, ffk_1141, bbL_law_1141, bbL_law_1177, bbL_law_1193, cl_1, ca_1, LSt, b1, b2, b3, bL, h1, h2, h3, hc0, hc1, hc2, hs0, hs6, hs12, vi, hm3, ho3, kz, hv0]
    exact hN _ _ _ _ _ _ _ _ _ ⟨hX3, hM3, hU, _, ho3⟩ (by omega) (by omega)
  · unfold holdL
    simp only [List.getElem?_cons_zero, List.getElem?_cons_succ, fv4, Nat.reduceAdd, Nat.reduceSub, wpL, pst, stpL, LG, lput, ls_tl, two, bc, EL, pad, popN, csum, Option.toList, List.cons_append, List.nil_append, List.set_cons_zero, List.set_cons_succ, List.length_cons, List.length_nil, true_and, and_true, Nat.reduceLT, Nat.reduceLeDiff, Nat.zero_le, Nat.le_refl, RI_i, RI_z0, RI_z1, Int32.reduceOfInt, Int8.reduceOfInt, Int16.reduceOfInt, Int64.reduceOfInt, Int8.toInt32_ofNat, Int16.toInt32_ofNat, Int.reduceNeg, Int32.ofInt_neg, Int8.ofInt_neg, Int16.ofInt_neg, Int32.toInt64_ofNat, Int32.reduceToNatClampNeg, Fin.isValue, Fin.val_one, Fin.val_zero, Fin.val_two, Int64.reduceOfNat, Int32.reduceOfNat, hdl, cutc, Nat.reduceEqDiff, reduceIte, FV, tyC, tyX0, tyX1, tyX2, tyX3, tyX4, tyX5, tyX6, tyX7, tyX8, tyX9, tyX10, Nat.reduceMul, c_le, c_lt, c_eq, c_in, c_cl, c_add, c_rem, c_ofN, Int32.add_zero, Int32.zero_add, c_lt0, c_ge0, c_le0, c_gt0, c_e0, c_m1, c_m1', false_implies, true_implies, implies_true, not_false_eq_true, not_true_eq_false, Nat.not_lt_zero, up_s, up_1, up_m, eq_self, Nat.add_zero, lg_self, ffc_1141, ffk_1141, bbL_law_1141, bbL_law_1177, bbL_law_1193, cl_1, ca_1, LSt, b1, b2, b3, bL, h1, h2, h3, hc0, hc1, hc2, hs0, hs6, hs12, vi, hm3, ho3, kz]
    exact hN _ _ _ _ _ _ _ _ _ ⟨hX3, hM3, hU, _, ho3⟩ (by omega) (by omega)
end LAW

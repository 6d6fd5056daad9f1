/-! THE LAW'S CASES, 6 -/
section LAW
variable {Γ : Amb} {n : String} {h : List ((Nat × Nat × Nat × Nat) × String)} {sb sL : Nat} {sx : Nat → Int32} {w : PW} {x i cs ss : Nat} {U : US} {th : Int32}
theorem lw_errors (hR : RDY w x th U) (hi : i + 3 < sL) (hL : sL ≤ 2048) (hc2 : cs + 2 ≤ 601024) (hs12 : ss + 12 ≤ 7293034) (l5 l6 l7 l8 : Option Value) (hN : NXT Γ n h sb sL sx x i cs ss) : GL Γ (mLL n h) QL XL sb sL sx 1895 (LSt sb x i l5 l6 l7 l8) [] none w cs ss := by
  obtain ⟨hX, hM, hU, f, ho⟩ := hR
  have hx := hX.cells.1
  have vi := vi_o
  have bi : i < 2147483648 := by omega
  have b1 : i + 1 < 2147483648 := by omega
  have b2 : i + 2 < 2147483648 := by omega
  have b3 : i + 3 < 2147483648 := by omega
  have bL : sL < 2147483648 := by omega
  have h1 : i + 1 < sL := by omega
  have h2 : i + 2 < sL := by omega
  have h3 : i + 3 < sL := by omega
  have hc0 : cs ≤ 601024 := by omega
  have hc1 : cs + 1 ≤ 601024 := by omega
  have hs0 : ss ≤ 7293034 := by omega
  have hs6 : ss + 6 ≤ 7293034 := by omega
  refine wpL_ok (kdc_1895 n h) 400 1895 bbL_law_1895 _ _ _ _ _ _ (ooL_law_1895 n h) ?_
  simp only [List.getElem?_cons_zero, List.getElem?_cons_succ, fv4, Nat.reduceAdd, Nat.reduceSub, wpL, pst, stpL, LG, lput, ls_tl, two, bc, EL, pad, popN, csum, Option.toList, List.cons_append, List.nil_append, List.set_cons_zero, List.set_cons_succ, List.length_cons, List.length_nil, true_and, and_true, Nat.reduceLT, Nat.reduceLeDiff, Nat.zero_le, Nat.le_refl, RI_i, RI_z0, RI_z1, Int32.reduceOfInt, Int8.reduceOfInt, Int16.reduceOfInt, Int64.reduceOfInt, Int8.toInt32_ofNat, Int16.toInt32_ofNat, Int.reduceNeg, Int32.ofInt_neg, Int8.ofInt_neg, Int16.ofInt_neg, Int32.toInt64_ofNat, Int32.reduceToNatClampNeg, Fin.isValue, Fin.val_one, Fin.val_zero, Fin.val_two, Int64.reduceOfNat, Int32.reduceOfNat, hdl, cutc, Nat.reduceEqDiff, reduceIte, FV, tyC, tyX0, tyX1, tyX2, tyX3, tyX4, tyX5, tyX6, tyX7, tyX8, tyX9, tyX10, Nat.reduceMul, c_le, c_lt, c_eq, c_in, c_cl, c_add, c_rem, c_ofN, Int32.add_zero, Int32.zero_add, c_lt0, c_ge0, c_le0, c_gt0, c_e0, c_m1, c_m1', false_implies, true_implies, implies_true, not_false_eq_true, not_true_eq_false, Nat.not_lt_zero, up_s, up_1, up_m, eq_self, Nat.add_zero, lg_self, ffc_1895, ffk_1895, bbL_law_1895, LSt, b1, b2, b3, bL, h1, h2, h3, hc0, hc1, hc2, hs0, hs6, hs12, vi, hx]
  refine sp9_errors hX ?_
  obtain ⟨l2, hm2⟩ := hM.cell
  unfold holdL
  simp only [List.getElem?_cons_zero, List.getElem?_cons_succ, fv4, Nat.reduceAdd, Nat.reduceSub, wpL, pst, stpL, LG, lput, ls_tl, two, bc, EL, pad, popN, csum, Option.toList, List.cons_append, List.nil_append, List.set_cons_zero, List.set_cons_succ, List.length_cons, List.length_nil, true_and, and_true, Nat.reduceLT, Nat.reduceLeDiff, Nat.zero_le, Nat.le_refl, RI_i, RI_z0, RI_z1, Int32.reduceOfInt, Int8.reduceOfInt, Int16.reduceOfInt, Int64.reduceOfInt, Int8.toInt32_ofNat, Int16.toInt32_ofNat, Int.reduceNeg, Int32.ofInt_neg, Int8.ofInt_neg, Int16.ofInt_neg, Int32.toInt64_ofNat, Int32.reduceToNatClampNeg, Fin.isValue, Fin.val_one, Fin.val_zero, Fin.val_two, Int64.reduceOfNat, Int32.reduceOfNat, hdl, cutc, Nat.reduceEqDiff, reduceIte, FV, tyC, tyX0, tyX1, tyX2, tyX3, tyX4, tyX5, tyX6, tyX7, tyX8, tyX9, tyX10, Nat.reduceMul, c_le, c_lt, c_eq, c_in, c_cl, c_add, c_rem, c_ofN, Int32.add_zero, Int32.zero_add, c_lt0, c_ge0, c_le0, c_gt0, c_e0, c_m1, c_m1', false_implies, true_implies, implies_true, not_false_eq_true, not_true_eq_false, Nat.not_lt_zero, up_s, up_1, up_m, eq_self, Nat.add_zero, lg_self, ffc_1895, ffk_1895, bbL_law_1895, LSt, b1, b2, b3, bL, h1, h2, h3, hc0, hc1, hc2, hs0, hs6, hs12, vi, hm2]
  refine sp10_errors hM hU (fun w3 hM3 hf3 => ?_)
  have hX3 := hX.fr hf3 (by omega)
  have ho3 := (hf3.at (by omega)).trans ho
  unfold holdL
  simp only [List.getElem?_cons_zero, List.getElem?_cons_succ, fv4, Nat.reduceAdd, Nat.reduceSub, wpL, pst, stpL, LG, lput, ls_tl, two, bc, EL, pad, popN, csum, Option.toList, List.cons_append, List.nil_append, List.set_cons_zero, List.set_cons_succ, List.length_cons, List.length_nil, true_and, and_true, Nat.reduceLT, Nat.reduceLeDiff, Nat.zero_le, Nat.le_refl, RI_i, RI_z0, RI_z1, Int32.reduceOfInt, Int8.reduceOfInt, Int16.reduceOfInt, Int64.reduceOfInt, Int8.toInt32_ofNat, Int16.toInt32_ofNat, Int.reduceNeg, Int32.ofInt_neg, Int8.ofInt_neg, Int16.ofInt_neg, Int32.toInt64_ofNat, Int32.reduceToNatClampNeg, Fin.isValue, Fin.val_one, Fin.val_zero, Fin.val_two, Int64.reduceOfNat, Int32.reduceOfNat, hdl, cutc, Nat.reduceEqDiff, reduceIte, FV, tyC, tyX0, tyX1, tyX2, tyX3, tyX4, tyX5, tyX6, tyX7, tyX8, tyX9, tyX10, Nat.reduceMul, c_le, c_lt, c_eq, c_in, c_cl, c_add, c_rem, c_ofN, Int32.add_zero, Int32.zero_add, c_lt0, c_ge0, c_le0, c_gt0, c_e0, c_m1, c_m1', false_implies, true_implies, implies_true, not_false_eq_true, not_true_eq_false, Nat.not_lt_zero, up_s, up_1, up_m, eq_self, Nat.add_zero, lg_self, ffc_1895, ffk_1895, bbL_law_1895, LSt, b1, b2, b3, bL, h1, h2, h3, hc0, hc1, hc2, hs0, hs6, hs12, vi]
  exact hN _ _ _ _ _ _ _ _ _ ⟨hX3, hM3, hU, _, ho3⟩ (by omega) (by omega)
theorem lw_errorPlace (hR : RDY w x th U) (hi : i + 3 < sL) (hL : sL ≤ 2048) (hc2 : cs + 2 ≤ 601024) (hs12 : ss + 12 ≤ 7293034) (l5 l6 l7 l8 : Option Value) (hN : NXT Γ n h sb sL sx x i cs ss) : GL Γ (mLL n h) QL XL sb sL sx 1908 (LSt sb x i l5 l6 l7 l8) [] none w cs ss := by
  obtain ⟨hX, hM, hU, f, ho⟩ := hR
  have hx := hX.cells.1
  have vi := vi_o
  have bi : i < 2147483648 := by omega
  have b1 : i + 1 < 2147483648 := by omega
  have b2 : i + 2 < 2147483648 := by omega
  have b3 : i + 3 < 2147483648 := by omega
  have bL : sL < 2147483648 := by omega
  have h1 : i + 1 < sL := by omega
  have h2 : i + 2 < sL := by omega
  have h3 : i + 3 < sL := by omega
  have hc0 : cs ≤ 601024 := by omega
  have hc1 : cs + 1 ≤ 601024 := by omega
  have hs0 : ss ≤ 7293034 := by omega
  have hs6 : ss + 6 ≤ 7293034 := by omega
  refine wpL_ok (kdc_1908 n h) 400 1908 bbL_law_1908 _ _ _ _ _ _ (ooL_law_1908 n h) ?_
  simp only [List.getElem?_cons_zero, List.getElem?_cons_succ, fv4, Nat.reduceAdd, Nat.reduceSub, wpL, pst, stpL, LG, lput, ls_tl, two, bc, EL, pad, popN, csum, Option.toList, List.cons_append, List.nil_append, List.set_cons_zero, List.set_cons_succ, List.length_cons, List.length_nil, true_and, and_true, Nat.reduceLT, Nat.reduceLeDiff, Nat.zero_le, Nat.le_refl, RI_i, RI_z0, RI_z1, Int32.reduceOfInt, Int8.reduceOfInt, Int16.reduceOfInt, Int64.reduceOfInt, Int8.toInt32_ofNat, Int16.toInt32_ofNat, Int.reduceNeg, Int32.ofInt_neg, Int8.ofInt_neg, Int16.ofInt_neg, Int32.toInt64_ofNat, Int32.reduceToNatClampNeg, Fin.isValue, Fin.val_one, Fin.val_zero, Fin.val_two, Int64.reduceOfNat, Int32.reduceOfNat, hdl, cutc, Nat.reduceEqDiff, reduceIte, FV, tyC, tyX0, tyX1, tyX2, tyX3, tyX4, tyX5, tyX6, tyX7, tyX8, tyX9, tyX10, Nat.reduceMul, c_le, c_lt, c_eq, c_in, c_cl, c_add, c_rem, c_ofN, Int32.add_zero, Int32.zero_add, c_lt0, c_ge0, c_le0, c_gt0, c_e0, c_m1, c_m1', false_implies, true_implies, implies_true, not_false_eq_true, not_true_eq_false, Nat.not_lt_zero, up_s, up_1, up_m, eq_self, Nat.add_zero, lg_self, ffc_1908, ffk_1908, bbL_law_1908, bbL_law_1944, bbL_law_1961, cl_1, ca_1, LSt, b1, b2, b3, bL, h1, h2, h3, hc0, hc1, hc2, hs0, hs6, hs12, vi]
  refine spL_errorPlace hX hU (by omega) ho _ (fun w1 w2 f2 hX2 hf1 hf2 ho2 hv => ?_)
  have hM2 := (hM.fr hf1 (by omega)).fr hf2 (by omega)
  obtain ⟨l2, hm2⟩ := hM2.cell
  unfold holdL
  simp only [List.getElem?_cons_zero, List.getElem?_cons_succ, fv4, Nat.reduceAdd, Nat.reduceSub, wpL, pst, stpL, LG, lput, ls_tl, two, bc, EL, pad, popN, csum, Option.toList, List.cons_append, List.nil_append, List.set_cons_zero, List.set_cons_succ, List.length_cons, List.length_nil, true_and, and_true, Nat.reduceLT, Nat.reduceLeDiff, Nat.zero_le, Nat.le_refl, RI_i, RI_z0, RI_z1, Int32.reduceOfInt, Int8.reduceOfInt, Int16.reduceOfInt, Int64.reduceOfInt, Int8.toInt32_ofNat, Int16.toInt32_ofNat, Int.reduceNeg, Int32.ofInt_neg, Int8.ofInt_neg, Int16.ofInt_neg, Int32.toInt64_ofNat, Int32.reduceToNatClampNeg, Fin.isValue, Fin.val_one, Fin.val_zero, Fin.val_two, Int64.reduceOfNat, Int32.reduceOfNat, hdl, cutc, Nat.reduceEqDiff, reduceIte, FV, tyC, tyX0, tyX1, tyX2, tyX3, tyX4, tyX5, tyX6, tyX7, tyX8, tyX9, tyX10, Nat.reduceMul, c_le, c_lt, c_eq, c_in, c_cl, c_add, c_rem, c_ofN, Int32.add_zero, Int32.zero_add, c_lt0, c_ge0, c_le0, c_gt0, c_e0, c_m1, c_m1', false_implies, true_implies, implies_true, not_false_eq_true, not_true_eq_false, Nat.not_lt_zero, up_s, up_1, up_m, eq_self, Nat.add_zero, lg_self, ffc_1908, ffk_1908, bbL_law_1908, bbL_law_1944, bbL_law_1961, cl_1, ca_1, LSt, b1, b2, b3, bL, h1, h2, h3, hc0, hc1, hc2, hs0, hs6, hs12, vi, hm2]
  refine sp10_errorPlace hM2 hU _ (fun w3 hM3 hf3 => ?_)
  have hX3 := hX2.fr hf3 (by omega)
  have ho3 := (hf3.at (by omega)).trans ho2
  obtain ⟨l3, hm3⟩ := hM3.cell
  unfold holdL
  simp only [List.getElem?_cons_zero, List.getElem?_cons_succ, fv4, Nat.reduceAdd, Nat.reduceSub, wpL, pst, stpL, LG, lput, ls_tl, two, bc, EL, pad, popN, csum, Option.toList, List.cons_append, List.nil_append, List.set_cons_zero, List.set_cons_succ, List.length_cons, List.length_nil, true_and, and_true, Nat.reduceLT, Nat.reduceLeDiff, Nat.zero_le, Nat.le_refl, RI_i, RI_z0, RI_z1, Int32.reduceOfInt, Int8.reduceOfInt, Int16.reduceOfInt, Int64.reduceOfInt, Int8.toInt32_ofNat, Int16.toInt32_ofNat, Int.reduceNeg, Int32.ofInt_neg, Int8.ofInt_neg, Int16.ofInt_neg, Int32.toInt64_ofNat, Int32.reduceToNatClampNeg, Fin.isValue, Fin.val_one, Fin.val_zero, Fin.val_two, Int64.reduceOfNat, Int32.reduceOfNat, hdl, cutc, Nat.reduceEqDiff, reduceIte, FV, tyC, tyX0, tyX1, tyX2, tyX3, tyX4, tyX5, tyX6, tyX7, tyX8, tyX9, tyX10, Nat.reduceMul, c_le, c_lt, c_eq, c_in, c_cl, c_add, c_rem, c_ofN, Int32.add_zero, Int32.zero_add, c_lt0, c_ge0, c_le0, c_gt0, c_e0, c_m1, c_m1', false_implies, true_implies, implies_true, not_false_eq_true, not_true_eq_false, Nat.not_lt_zero, up_s, up_1, up_m, eq_self, Nat.add_zero, lg_self, ffc_1908, ffk_1908, bbL_law_1908, bbL_law_1944, bbL_law_1961, cl_1, ca_1, LSt, b1, b2, b3, bL, h1, h2, h3, hc0, hc1, hc2, hs0, hs6, hs12, vi, hm3]
  refine sp10_thr hM3 ?_
  refine lw_fin (c := _) hv ?_ (fun kz hv0 => ?_) (fun kz => ?_)
  · exact cb_v_errorPlace _ _
  · unfold holdL
    simp only [List.getElem?_cons_zero, List.getElem?_cons_succ, fv4, Nat.reduceAdd, Nat.reduceSub, wpL, pst, stpL, LG, lput, ls_tl, two, bc, EL, pad, popN, csum, Option.toList, List.cons_append, List.nil_append, List.set_cons_zero, List.set_cons_succ, List.length_cons, List.length_nil, true_and, and_true, Nat.reduceLT, Nat.reduceLeDiff, Nat.zero_le, Nat.le_refl, RI_i, RI_z0, RI_z1, Int32.reduceOfInt, Int8.reduceOfInt, Int16.reduceOfInt, Int64.reduceOfInt, Int8.toInt32_ofNat, Int16.toInt32_ofNat, Int.reduceNeg, Int32.ofInt_neg, Int8.ofInt_neg, Int16.ofInt_neg, Int32.toInt64_ofNat, Int32.reduceToNatClampNeg, Fin.isValue, Fin.val_one, Fin.val_zero, Fin.val_two, Int64.reduceOfNat, Int32.reduceOfNat, hdl, cutc, Nat.reduceEqDiff, reduceIte, FV, tyC, tyX0, tyX1, tyX2, tyX3, tyX4, tyX5, tyX6, tyX7, tyX8, tyX9, tyX10, Nat.reduceMul, c_le, c_lt, c_eq, c_in, c_cl, c_add, c_rem, c_ofN, Int32.add_zero, Int32.zero_add, c_lt0, c_ge0, c_le0, c_gt0, c_e0, c_m1, c_m1', false_implies, true_implies, implies_true, not_false_eq_true, not_true_eq_false, Nat.not_lt_zero, up_s, up_1, up_m, eq_self, Nat.add_zero, lg_self, ffc_1908, ffk_1908, bbL_law_1908, bbL_law_1944, bbL_law_1961, cl_1, ca_1, LSt, b1, b2, b3, bL, h1, h2, h3, hc0, hc1, hc2, hs0, hs6, hs12, vi, hm3, ho3, kz, hv0]
    exact hN _ _ _ _ _ _ _ _ _ ⟨hX3, hM3, hU, _, ho3⟩ (by omega) (by omega)
  · unfold holdL
    simp only [List.getElem?_cons_zero, List.getElem?_cons_succ, fv4, Nat.reduceAdd, Nat.reduceSub, wpL, pst, stpL, LG, lput, ls_tl, two, bc, EL, pad, popN, csum, Option.toList, List.cons_append, List.nil_append, List.set_cons_zero, List.set_cons_succ, List.length_cons, List.length_nil, true_and, and_true, Nat.reduceLT, Nat.reduceLeDiff, Nat.zero_le, Nat.le_refl, RI_i, RI_z0, RI_z1, Int32.reduceOfInt, Int8.reduceOfInt, Int16.reduceOfInt, Int64.reduceOfInt, Int8.toInt32_ofNat, Int16.toInt32_ofNat, Int.reduceNeg, Int32.ofInt_neg, Int8.ofInt_neg, Int16.ofInt_neg, Int32.toInt64_ofNat, Int32.reduceToNatClampNeg, Fin.isValue, Fin.val_one, Fin.val_zero, Fin.val_two, Int64.reduceOfNat, Int32.reduceOfNat, hdl, cutc, Nat.reduceEqDiff, reduceIte, FV, tyC, tyX0, tyX1, tyX2, tyX3, tyX4, tyX5, tyX6, tyX7, tyX8, tyX9, tyX10, Nat.reduceMul, c_le, c_lt, c_eq, c_in, c_cl, c_add, c_rem, c_ofN, Int32.add_zero, Int32.zero_add, c_lt0, c_ge0, c_le0, c_gt0, c_e0, c_m1, c_m1', false_implies, true_implies, implies_true, not_false_eq_true, not_true_eq_false, Nat.not_lt_zero, up_s, up_1, up_m, eq_self, Nat.add_zero, lg_self, ffc_1908, ffk_1908, bbL_law_1908, bbL_law_1944, bbL_law_1961, cl_1, ca_1, LSt, b1, b2, b3, bL, h1, h2, h3, hc0, hc1, hc2, hs0, hs6, hs12, vi, hm3, ho3, kz]
    exact hN _ _ _ _ _ _ _ _ _ ⟨hX3, hM3, hU, _, ho3⟩ (by omega) (by omega)
theorem lw_errorReason (hR : RDY w x th U) (hi : i + 3 < sL) (hL : sL ≤ 2048) (hc2 : cs + 2 ≤ 601024) (hs12 : ss + 12 ≤ 7293034) (l5 l6 l7 l8 : Option Value) (hN : NXT Γ n h sb sL sx x i cs ss) : GL Γ (mLL n h) QL XL sb sL sx 1964 (LSt sb x i l5 l6 l7 l8) [] none w cs ss := by
  obtain ⟨hX, hM, hU, f, ho⟩ := hR
  have hx := hX.cells.1
  have vi := vi_o
  have bi : i < 2147483648 := by omega
  have b1 : i + 1 < 2147483648 := by omega
  have b2 : i + 2 < 2147483648 := by omega
  have b3 : i + 3 < 2147483648 := by omega
  have bL : sL < 2147483648 := by omega
  have h1 : i + 1 < sL := by omega
  have h2 : i + 2 < sL := by omega
  have h3 : i + 3 < sL := by omega
  have hc0 : cs ≤ 601024 := by omega
  have hc1 : cs + 1 ≤ 601024 := by omega
  have hs0 : ss ≤ 7293034 := by omega
  have hs6 : ss + 6 ≤ 7293034 := by omega
  refine wpL_ok (kdc_1964 n h) 400 1964 bbL_law_1964 _ _ _ _ _ _ (ooL_law_1964 n h) ?_
  simp only [List.getElem?_cons_zero, List.getElem?_cons_succ, fv4, Nat.reduceAdd, Nat.reduceSub, wpL, pst, stpL, LG, lput, ls_tl, two, bc, EL, pad, popN, csum, Option.toList, List.cons_append, List.nil_append, List.set_cons_zero, List.set_cons_succ, List.length_cons, List.length_nil, true_and, and_true, Nat.reduceLT, Nat.reduceLeDiff, Nat.zero_le, Nat.le_refl, RI_i, RI_z0, RI_z1, Int32.reduceOfInt, Int8.reduceOfInt, Int16.reduceOfInt, Int64.reduceOfInt, Int8.toInt32_ofNat, Int16.toInt32_ofNat, Int.reduceNeg, Int32.ofInt_neg, Int8.ofInt_neg, Int16.ofInt_neg, Int32.toInt64_ofNat, Int32.reduceToNatClampNeg, Fin.isValue, Fin.val_one, Fin.val_zero, Fin.val_two, Int64.reduceOfNat, Int32.reduceOfNat, hdl, cutc, Nat.reduceEqDiff, reduceIte, FV, tyC, tyX0, tyX1, tyX2, tyX3, tyX4, tyX5, tyX6, tyX7, tyX8, tyX9, tyX10, Nat.reduceMul, c_le, c_lt, c_eq, c_in, c_cl, c_add, c_rem, c_ofN, Int32.add_zero, Int32.zero_add, c_lt0, c_ge0, c_le0, c_gt0, c_e0, c_m1, c_m1', false_implies, true_implies, implies_true, not_false_eq_true, not_true_eq_false, Nat.not_lt_zero, up_s, up_1, up_m, eq_self, Nat.add_zero, lg_self, ffc_1964, ffk_1964, bbL_law_1964, bbL_law_2000, bbL_law_2017, cl_1, ca_1, LSt, b1, b2, b3, bL, h1, h2, h3, hc0, hc1, hc2, hs0, hs6, hs12, vi]
  refine spL_errorReason hX hU (by omega) ho _ (fun w1 w2 f2 hX2 hf1 hf2 ho2 hv => ?_)
  have hM2 := (hM.fr hf1 (by omega)).fr hf2 (by omega)
  obtain ⟨l2, hm2⟩ := hM2.cell
  unfold holdL
  simp only [List.getElem?_cons_zero, List.getElem?_cons_succ, fv4, Nat.reduceAdd, Nat.reduceSub, wpL, pst, stpL, LG, lput, ls_tl, two, bc, EL, pad, popN, csum, Option.toList, List.cons_append, List.nil_append, List.set_cons_zero, List.set_cons_succ, List.length_cons, List.length_nil, true_and, and_true, Nat.reduceLT, Nat.reduceLeDiff, Nat.zero_le, Nat.le_refl, RI_i, RI_z0, RI_z1, Int32.reduceOfInt, Int8.reduceOfInt, Int16.reduceOfInt, Int64.reduceOfInt, Int8.toInt32_ofNat, Int16.toInt32_ofNat, Int.reduceNeg, Int32.ofInt_neg, Int8.ofInt_neg, Int16.ofInt_neg, Int32.toInt64_ofNat, Int32.reduceToNatClampNeg, Fin.isValue, Fin.val_one, Fin.val_zero, Fin.val_two, Int64.reduceOfNat, Int32.reduceOfNat, hdl, cutc, Nat.reduceEqDiff, reduceIte, FV, tyC, tyX0, tyX1, tyX2, tyX3, tyX4, tyX5, tyX6, tyX7, tyX8, tyX9, tyX10, Nat.reduceMul, c_le, c_lt, c_eq, c_in, c_cl, c_add, c_rem, c_ofN, Int32.add_zero, Int32.zero_add, c_lt0, c_ge0, c_le0, c_gt0, c_e0, c_m1, c_m1', false_implies, true_implies, implies_true, not_false_eq_true, not_true_eq_false, Nat.not_lt_zero, up_s, up_1, up_m, eq_self, Nat.add_zero, lg_self, ffc_1964, ffk_1964, bbL_law_1964, bbL_law_2000, bbL_law_2017, cl_1, ca_1, LSt, b1, b2, b3, bL, h1, h2, h3, hc0, hc1, hc2, hs0, hs6, hs12, vi, hm2]
  refine sp10_errorReason hM2 hU _ (fun w3 hM3 hf3 => ?_)
  have hX3 := hX2.fr hf3 (by omega)
  have ho3 := (hf3.at (by omega)).trans ho2
  obtain ⟨l3, hm3⟩ := hM3.cell
  unfold holdL
  simp only [List.getElem?_cons_zero, List.getElem?_cons_succ, fv4, Nat.reduceAdd, Nat.reduceSub, wpL, pst, stpL, LG, lput, ls_tl, two, bc, EL, pad, popN, csum, Option.toList, List.cons_append, List.nil_append, List.set_cons_zero, List.set_cons_succ, List.length_cons, List.length_nil, true_and, and_true, Nat.reduceLT, Nat.reduceLeDiff, Nat.zero_le, Nat.le_refl, RI_i, RI_z0, RI_z1, Int32.reduceOfInt, Int8.reduceOfInt, Int16.reduceOfInt, Int64.reduceOfInt, Int8.toInt32_ofNat, Int16.toInt32_ofNat, Int.reduceNeg, Int32.ofInt_neg, Int8.ofInt_neg, Int16.ofInt_neg, Int32.toInt64_ofNat, Int32.reduceToNatClampNeg, Fin.isValue, Fin.val_one, Fin.val_zero, Fin.val_two, Int64.reduceOfNat, Int32.reduceOfNat, hdl, cutc, Nat.reduceEqDiff, reduceIte, FV, tyC, tyX0, tyX1, tyX2, tyX3, tyX4, tyX5, tyX6, tyX7, tyX8, tyX9, tyX10, Nat.reduceMul, c_le, c_lt, c_eq, c_in, c_cl, c_add, c_rem, c_ofN, Int32.add_zero, Int32.zero_add, c_lt0, c_ge0, c_le0, c_gt0, c_e0, c_m1, c_m1', false_implies, true_implies, implies_true, not_false_eq_true, not_true_eq_false, Nat.not_lt_zero, up_s, up_1, up_m, eq_self, Nat.add_zero, lg_self, ffc_1964, ffk_1964, bbL_law_1964, bbL_law_2000, bbL_law_2017, cl_1, ca_1, LSt, b1, b2, b3, bL, h1, h2, h3, hc0, hc1, hc2, hs0, hs6, hs12, vi, hm3]
  refine sp10_thr hM3 ?_
  refine lw_fin (c := _) hv ?_ (fun kz hv0 => ?_) (fun kz => ?_)
  · exact cb_v_errorReason _ _
  · unfold holdL
    simp only [List.getElem?_cons_zero, List.getElem?_cons_succ, fv4, Nat.reduceAdd, Nat.reduceSub, wpL, pst, stpL, LG, lput, ls_tl, two, bc, EL, pad, popN, csum, Option.toList, List.cons_append, List.nil_append, List.set_cons_zero, List.set_cons_succ, List.length_cons, List.length_nil, true_and, and_true, Nat.reduceLT, Nat.reduceLeDiff, Nat.zero_le, Nat.le_refl, RI_i, RI_z0, RI_z1, Int32.reduceOfInt, Int8.reduceOfInt, Int16.reduceOfInt, Int64.reduceOfInt, Int8.toInt32_ofNat, Int16.toInt32_ofNat, Int.reduceNeg, Int32.ofInt_neg, Int8.ofInt_neg, Int16.ofInt_neg, Int32.toInt64_ofNat, Int32.reduceToNatClampNeg, Fin.isValue, Fin.val_one, Fin.val_zero, Fin.val_two, Int64.reduceOfNat, Int32.reduceOfNat, hdl, cutc, Nat.reduceEqDiff, reduceIte, FV, tyC, tyX0, tyX1, tyX2, tyX3, tyX4, tyX5, tyX6, tyX7, tyX8, tyX9, tyX10, Nat.reduceMul, c_le, c_lt, c_eq, c_in, c_cl, c_add, c_rem, c_ofN, Int32.add_zero, Int32.zero_add, c_lt0, c_ge0, c_le0, c_gt0, c_e0, c_m1, c_m1', false_implies, true_implies, implies_true, not_false_eq_true, not_true_eq_false, Nat.not_lt_zero, up_s, up_1, up_m, eq_self, Nat.add_zero, lg_self, ffc_1964, ffk_1964, bbL_law_1964, bbL_law_2000, bbL_law_2017, cl_1, ca_1, LSt, b1, b2, b3, bL, h1, h2, h3, hc0, hc1, hc2, hs0, hs6, hs12, vi, hm3, ho3, kz, hv0]
    exact hN _ _ _ _ _ _ _ _ _ ⟨hX3, hM3, hU, _, ho3⟩ (by omega) (by omega)
  · unfold holdL
    simp only [List.getElem?_cons_zero, List.getElem?_cons_succ, fv4, Nat.reduceAdd, Nat.reduceSub, wpL, pst, stpL, LG, lput, ls_tl, two, bc, EL, pad, popN, csum, Option.toList, List.cons_append, List.nil_append, List.set_cons_zero, List.set_cons_succ, List.length_cons, List.length_nil, true_and, and_true, Nat.reduceLT, Nat.reduceLeDiff, Nat.zero_le, Nat.le_refl, RI_i, RI_z0, RI_z1, Int32.reduceOfInt, Int8.reduceOfInt, Int16.reduceOfInt, Int64.reduceOfInt, Int8.toInt32_ofNat, Int16.toInt32_ofNat, Int.reduceNeg, Int32.ofInt_neg, Int8.ofInt_neg, Int16.ofInt_neg, Int32.toInt64_ofNat, Int32.reduceToNatClampNeg, Fin.isValue, Fin.val_one, Fin.val_zero, Fin.val_two, Int64.reduceOfNat, Int32.reduceOfNat, hdl, cutc, Nat.reduceEqDiff, reduceIte, FV, tyC, tyX0, tyX1, tyX2, tyX3, tyX4, tyX5, tyX6, tyX7, tyX8, tyX9, tyX10, Nat.reduceMul, c_le, c_lt, c_eq, c_in, c_cl, c_add, c_rem, c_ofN, Int32.add_zero, Int32.zero_add, c_lt0, c_ge0, c_le0, c_gt0, c_e0, c_m1, c_m1', false_implies, true_implies, implies_true, not_false_eq_true, not_true_eq_false, Nat.not_lt_zero, up_s, up_1, up_m, eq_self, Nat.add_zero, lg_self, ffc_1964, ffk_1964, bbL_law_1964, bbL_law_2000, bbL_law_2017, cl_1, ca_1, LSt, b1, b2, b3, bL, h1, h2, h3, hc0, hc1, hc2, hs0, hs6, hs12, vi, hm3, ho3, kz]
    exact hN _ _ _ _ _ _ _ _ _ ⟨hX3, hM3, hU, _, ho3⟩ (by omega) (by omega)
theorem lw_wouldReceive (hR : RDY w x th U) (hi : i + 3 < sL) (hL : sL ≤ 2048) (hc2 : cs + 2 ≤ 601024) (hs12 : ss + 12 ≤ 7293034) (l5 l6 l7 l8 : Option Value) (hN : NXT Γ n h sb sL sx x i cs ss) : GL Γ (mLL n h) QL XL sb sL sx 2020 (LSt sb x i l5 l6 l7 l8) [] none w cs ss := by
  obtain ⟨hX, hM, hU, f, ho⟩ := hR
  have hx := hX.cells.1
  have vi := vi_o
  have bi : i < 2147483648 := by omega
  have b1 : i + 1 < 2147483648 := by omega
  have b2 : i + 2 < 2147483648 := by omega
  have b3 : i + 3 < 2147483648 := by omega
  have bL : sL < 2147483648 := by omega
  have h1 : i + 1 < sL := by omega
  have h2 : i + 2 < sL := by omega
  have h3 : i + 3 < sL := by omega
  have hc0 : cs ≤ 601024 := by omega
  have hc1 : cs + 1 ≤ 601024 := by omega
  have hs0 : ss ≤ 7293034 := by omega
  have hs6 : ss + 6 ≤ 7293034 := by omega
  refine wpL_ok (kdc_2020 n h) 400 2020 bbL_law_2020 _ _ _ _ _ _ (ooL_law_2020 n h) ?_
  simp only [List.getElem?_cons_zero, List.getElem?_cons_succ, fv4, Nat.reduceAdd, Nat.reduceSub, wpL, pst, stpL, LG, lput, ls_tl, two, bc, EL, pad, popN, csum, Option.toList, List.cons_append, List.nil_append, List.set_cons_zero, List.set_cons_succ, List.length_cons, List.length_nil, true_and, and_true, Nat.reduceLT, Nat.reduceLeDiff, Nat.zero_le, Nat.le_refl, RI_i, RI_z0, RI_z1, Int32.reduceOfInt, Int8.reduceOfInt, Int16.reduceOfInt, Int64.reduceOfInt, Int8.toInt32_ofNat, Int16.toInt32_ofNat, Int.reduceNeg, Int32.ofInt_neg, Int8.ofInt_neg, Int16.ofInt_neg, Int32.toInt64_ofNat, Int32.reduceToNatClampNeg, Fin.isValue, Fin.val_one, Fin.val_zero, Fin.val_two, Int64.reduceOfNat, Int32.reduceOfNat, hdl, cutc, Nat.reduceEqDiff, reduceIte, FV, tyC, tyX0, tyX1, tyX2, tyX3, tyX4, tyX5, tyX6, tyX7, tyX8, tyX9, tyX10, Nat.reduceMul, c_le, c_lt, c_eq, c_in, c_cl, c_add, c_rem, c_ofN, Int32.add_zero, Int32.zero_add, c_lt0, c_ge0, c_le0, c_gt0, c_e0, c_m1, c_m1', false_implies, true_implies, implies_true, not_false_eq_true, not_true_eq_false, Nat.not_lt_zero, up_s, up_1, up_m, eq_self, Nat.add_zero, lg_self, ffc_2020, ffk_2020, bbL_law_2020, LSt, b1, b2, b3, bL, h1, h2, h3, hc0, hc1, hc2, hs0, hs6, hs12, vi, hx]
  refine sp9_wouldReceive hX hU (fun w1 hX1 hf1 => ?_)
  have hM1 := hM.fr hf1 (by omega)
  have ho1 := (hf1.at (by omega)).trans ho
  obtain ⟨l2, hm2⟩ := hM1.cell
  unfold holdL
  simp only [List.getElem?_cons_zero, List.getElem?_cons_succ, fv4, Nat.reduceAdd, Nat.reduceSub, wpL, pst, stpL, LG, lput, ls_tl, two, bc, EL, pad, popN, csum, Option.toList, List.cons_append, List.nil_append, List.set_cons_zero, List.set_cons_succ, List.length_cons, List.length_nil, true_and, and_true, Nat.reduceLT, Nat.reduceLeDiff, Nat.zero_le, Nat.le_refl, RI_i, RI_z0, RI_z1, Int32.reduceOfInt, Int8.reduceOfInt, Int16.reduceOfInt, Int64.reduceOfInt, Int8.toInt32_ofNat, Int16.toInt32_ofNat, Int.reduceNeg, Int32.ofInt_neg, Int8.ofInt_neg, Int16.ofInt_neg, Int32.toInt64_ofNat, Int32.reduceToNatClampNeg, Fin.isValue, Fin.val_one, Fin.val_zero, Fin.val_two, Int64.reduceOfNat, Int32.reduceOfNat, hdl, cutc, Nat.reduceEqDiff, reduceIte, FV, tyC, tyX0, tyX1, tyX2, tyX3, tyX4, tyX5, tyX6, tyX7, tyX8, tyX9, tyX10, Nat.reduceMul, c_le, c_lt, c_eq, c_in, c_cl, c_add, c_rem, c_ofN, Int32.add_zero, Int32.zero_add, c_lt0, c_ge0, c_le0, c_gt0, c_e0, c_m1, c_m1', false_implies, true_implies, implies_true, not_false_eq_true, not_true_eq_false, Nat.not_lt_zero, up_s, up_1, up_m, eq_self, Nat.add_zero, lg_self, ffc_2020, ffk_2020, bbL_law_2020, LSt, b1, b2, b3, bL, h1, h2, h3, hc0, hc1, hc2, hs0, hs6, hs12, vi, hm2]
  refine sp10_wouldReceive hM1 hU (fun w3 hM3 hf3 => ?_)
  have hX3 := hX1.fr hf3 (by omega)
  have ho3 := (hf3.at (by omega)).trans ho1
  unfold holdL
  simp only [List.getElem?_cons_zero, List.getElem?_cons_succ, fv4, Nat.reduceAdd, Nat.reduceSub, wpL, pst, stpL, LG, lput, ls_tl, two, bc, EL, pad, popN, csum, Option.toList, List.cons_append, List.nil_append, List.set_cons_zero, List.set_cons_succ, List.length_cons, List.length_nil, true_and, and_true, Nat.reduceLT, Nat.reduceLeDiff, Nat.zero_le, Nat.le_refl, RI_i, RI_z0, RI_z1, Int32.reduceOfInt, Int8.reduceOfInt, Int16.reduceOfInt, Int64.reduceOfInt, Int8.toInt32_ofNat, Int16.toInt32_ofNat, Int.reduceNeg, Int32.ofInt_neg, Int8.ofInt_neg, Int16.ofInt_neg, Int32.toInt64_ofNat, Int32.reduceToNatClampNeg, Fin.isValue, Fin.val_one, Fin.val_zero, Fin.val_two, Int64.reduceOfNat, Int32.reduceOfNat, hdl, cutc, Nat.reduceEqDiff, reduceIte, FV, tyC, tyX0, tyX1, tyX2, tyX3, tyX4, tyX5, tyX6, tyX7, tyX8, tyX9, tyX10, Nat.reduceMul, c_le, c_lt, c_eq, c_in, c_cl, c_add, c_rem, c_ofN, Int32.add_zero, Int32.zero_add, c_lt0, c_ge0, c_le0, c_gt0, c_e0, c_m1, c_m1', false_implies, true_implies, implies_true, not_false_eq_true, not_true_eq_false, Nat.not_lt_zero, up_s, up_1, up_m, eq_self, Nat.add_zero, lg_self, ffc_2020, ffk_2020, bbL_law_2020, LSt, b1, b2, b3, bL, h1, h2, h3, hc0, hc1, hc2, hs0, hs6, hs12, vi]
  exact hN _ _ _ _ _ _ _ _ _ ⟨hX3, hM3, hU, _, ho3⟩ (by omega) (by omega)
theorem lw_wouldBeRight (hR : RDY w x th U) (hi : i + 3 < sL) (hL : sL ≤ 2048) (hc2 : cs + 2 ≤ 601024) (hs12 : ss + 12 ≤ 7293034) (l5 l6 l7 l8 : Option Value) (hN : NXT Γ n h sb sL sx x i cs ss) : GL Γ (mLL n h) QL XL sb sL sx 2033 (LSt sb x i l5 l6 l7 l8) [] none w cs ss := by
  obtain ⟨hX, hM, hU, f, ho⟩ := hR
  have hx := hX.cells.1
  have vi := vi_o
  have bi : i < 2147483648 := by omega
  have b1 : i + 1 < 2147483648 := by omega
  have b2 : i + 2 < 2147483648 := by omega
  have b3 : i + 3 < 2147483648 := by omega
  have bL : sL < 2147483648 := by omega
  have h1 : i + 1 < sL := by omega
  have h2 : i + 2 < sL := by omega
  have h3 : i + 3 < sL := by omega
  have hc0 : cs ≤ 601024 := by omega
  have hc1 : cs + 1 ≤ 601024 := by omega
  have hs0 : ss ≤ 7293034 := by omega
  have hs6 : ss + 6 ≤ 7293034 := by omega
  refine wpL_ok (kdc_2033 n h) 400 2033 bbL_law_2033 _ _ _ _ _ _ (ooL_law_2033 n h) ?_
  simp only [List.getElem?_cons_zero, List.getElem?_cons_succ, fv4, Nat.reduceAdd, Nat.reduceSub, wpL, pst, stpL, LG, lput, ls_tl, two, bc, EL, pad, popN, csum, Option.toList, List.cons_append, List.nil_append, List.set_cons_zero, List.set_cons_succ, List.length_cons, List.length_nil, true_and, and_true, Nat.reduceLT, Nat.reduceLeDiff, Nat.zero_le, Nat.le_refl, RI_i, RI_z0, RI_z1, Int32.reduceOfInt, Int8.reduceOfInt, Int16.reduceOfInt, Int64.reduceOfInt, Int8.toInt32_ofNat, Int16.toInt32_ofNat, Int.reduceNeg, Int32.ofInt_neg, Int8.ofInt_neg, Int16.ofInt_neg, Int32.toInt64_ofNat, Int32.reduceToNatClampNeg, Fin.isValue, Fin.val_one, Fin.val_zero, Fin.val_two, Int64.reduceOfNat, Int32.reduceOfNat, hdl, cutc, Nat.reduceEqDiff, reduceIte, FV, tyC, tyX0, tyX1, tyX2, tyX3, tyX4, tyX5, tyX6, tyX7, tyX8, tyX9, tyX10, Nat.reduceMul, c_le, c_lt, c_eq, c_in, c_cl, c_add, c_rem, c_ofN, Int32.add_zero, Int32.zero_add, c_lt0, c_ge0, c_le0, c_gt0, c_e0, c_m1, c_m1', false_implies, true_implies, implies_true, not_false_eq_true, not_true_eq_false, Nat.not_lt_zero, up_s, up_1, up_m, eq_self, Nat.add_zero, lg_self, ffc_2033, ffk_2033, bbL_law_2033, LSt, b1, b2, b3, bL, h1, h2, h3, hc0, hc1, hc2, hs0, hs6, hs12, vi, hx]
  refine sp9_wouldBeRight hX hU (fun w1 hX1 hf1 => ?_)
  have hM1 := hM.fr hf1 (by omega)
  have ho1 := (hf1.at (by omega)).trans ho
  obtain ⟨l2, hm2⟩ := hM1.cell
  unfold holdL
  simp only [List.getElem?_cons_zero, List.getElem?_cons_succ, fv4, Nat.reduceAdd, Nat.reduceSub, wpL, pst, stpL, LG, lput, ls_tl, two, bc, EL, pad, popN, csum, Option.toList, List.cons_append, List.nil_append, List.set_cons_zero, List.set_cons_succ, List.length_cons, List.length_nil, true_and, and_true, Nat.reduceLT, Nat.reduceLeDiff, Nat.zero_le, Nat.le_refl, RI_i, RI_z0, RI_z1, Int32.reduceOfInt, Int8.reduceOfInt, Int16.reduceOfInt, Int64.reduceOfInt, Int8.toInt32_ofNat, Int16.toInt32_ofNat, Int.reduceNeg, Int32.ofInt_neg, Int8.ofInt_neg, Int16.ofInt_neg, Int32.toInt64_ofNat, Int32.reduceToNatClampNeg, Fin.isValue, Fin.val_one, Fin.val_zero, Fin.val_two, Int64.reduceOfNat, Int32.reduceOfNat, hdl, cutc, Nat.reduceEqDiff, reduceIte, FV, tyC, tyX0, tyX1, tyX2, tyX3, tyX4, tyX5, tyX6, tyX7, tyX8, tyX9, tyX10, Nat.reduceMul, c_le, c_lt, c_eq, c_in, c_cl, c_add, c_rem, c_ofN, Int32.add_zero, Int32.zero_add, c_lt0, c_ge0, c_le0, c_gt0, c_e0, c_m1, c_m1', false_implies, true_implies, implies_true, not_false_eq_true, not_true_eq_false, Nat.not_lt_zero, up_s, up_1, up_m, eq_self, Nat.add_zero, lg_self, ffc_2033, ffk_2033, bbL_law_2033, LSt, b1, b2, b3, bL, h1, h2, h3, hc0, hc1, hc2, hs0, hs6, hs12, vi, hm2]
  refine sp10_wouldBeRight hM1 hU (fun w3 hM3 hf3 => ?_)
  have hX3 := hX1.fr hf3 (by omega)
  have ho3 := (hf3.at (by omega)).trans ho1
  unfold holdL
  simp only [List.getElem?_cons_zero, List.getElem?_cons_succ, fv4, Nat.reduceAdd, Nat.reduceSub, wpL, pst, stpL, LG, lput, ls_tl, two, bc, EL, pad, popN, csum, Option.toList, List.cons_append, List.nil_append, List.set_cons_zero, List.set_cons_succ, List.length_cons, List.length_nil, true_and, and_true, Nat.reduceLT, Nat.reduceLeDiff, Nat.zero_le, Nat.le_refl, RI_i, RI_z0, RI_z1, Int32.reduceOfInt, Int8.reduceOfInt, Int16.reduceOfInt, Int64.reduceOfInt, Int8.toInt32_ofNat, Int16.toInt32_ofNat, Int.reduceNeg, Int32.ofInt_neg, Int8.ofInt_neg, Int16.ofInt_neg, Int32.toInt64_ofNat, Int32.reduceToNatClampNeg, Fin.isValue, Fin.val_one, Fin.val_zero, Fin.val_two, Int64.reduceOfNat, Int32.reduceOfNat, hdl, cutc, Nat.reduceEqDiff, reduceIte, FV, tyC, tyX0, tyX1, tyX2, tyX3, tyX4, tyX5, tyX6, tyX7, tyX8, tyX9, tyX10, Nat.reduceMul, c_le, c_lt, c_eq, c_in, c_cl, c_add, c_rem, c_ofN, Int32.add_zero, Int32.zero_add, c_lt0, c_ge0, c_le0, c_gt0, c_e0, c_m1, c_m1', false_implies, true_implies, implies_true, not_false_eq_true, not_true_eq_false, Nat.not_lt_zero, up_s, up_1, up_m, eq_self, Nat.add_zero, lg_self, ffc_2033, ffk_2033, bbL_law_2033, LSt, b1, b2, b3, bL, h1, h2, h3, hc0, hc1, hc2, hs0, hs6, hs12, vi]
  exact hN _ _ _ _ _ _ _ _ _ ⟨hX3, hM3, hU, _, ho3⟩ (by omega) (by omega)
theorem lw_rightIfReplaced (hR : RDY w x th U) (hi : i + 3 < sL) (hL : sL ≤ 2048) (hc2 : cs + 2 ≤ 601024) (hs12 : ss + 12 ≤ 7293034) (l5 l6 l7 l8 : Option Value) (hN : NXT Γ n h sb sL sx x i cs ss) : GL Γ (mLL n h) QL XL sb sL sx 2046 (LSt sb x i l5 l6 l7 l8) [] none w cs ss := by
  obtain ⟨hX, hM, hU, f, ho⟩ := hR
  have hx := hX.cells.1
  have vi := vi_o
  have bi : i < 2147483648 := by omega
  have b1 : i + 1 < 2147483648 := by omega
  have b2 : i + 2 < 2147483648 := by omega
  have b3 : i + 3 < 2147483648 := by omega
  have bL : sL < 2147483648 := by omega
  have h1 : i + 1 < sL := by omega
  have h2 : i + 2 < sL := by omega
  have h3 : i + 3 < sL := by omega
  have hc0 : cs ≤ 601024 := by omega
  have hc1 : cs + 1 ≤ 601024 := by omega
  have hs0 : ss ≤ 7293034 := by omega
  have hs6 : ss + 6 ≤ 7293034 := by omega
  refine wpL_ok (kdc_2046 n h) 400 2046 bbL_law_2046 _ _ _ _ _ _ (ooL_law_2046 n h) ?_
  simp only [List.getElem?_cons_zero, List.getElem?_cons_succ, fv4, Nat.reduceAdd, Nat.reduceSub, wpL, pst, stpL, LG, lput, ls_tl, two, bc, EL, pad, popN, csum, Option.toList, List.cons_append, List.nil_append, List.set_cons_zero, List.set_cons_succ, List.length_cons, List.length_nil, true_and, and_true, Nat.reduceLT, Nat.reduceLeDiff, Nat.zero_le, Nat.le_refl, RI_i, RI_z0, RI_z1, Int32.reduceOfInt, Int8.reduceOfInt, Int16.reduceOfInt, Int64.reduceOfInt, Int8.toInt32_ofNat, Int16.toInt32_ofNat, Int.reduceNeg, Int32.ofInt_neg, Int8.ofInt_neg, Int16.ofInt_neg, Int32.toInt64_ofNat, Int32.reduceToNatClampNeg, Fin.isValue, Fin.val_one, Fin.val_zero, Fin.val_two, Int64.reduceOfNat, Int32.reduceOfNat, hdl, cutc, Nat.reduceEqDiff, reduceIte, FV, tyC, tyX0, tyX1, tyX2, tyX3, tyX4, tyX5, tyX6, tyX7, tyX8, tyX9, tyX10, Nat.reduceMul, c_le, c_lt, c_eq, c_in, c_cl, c_add, c_rem, c_ofN, Int32.add_zero, Int32.zero_add, c_lt0, c_ge0, c_le0, c_gt0, c_e0, c_m1, c_m1', false_implies, true_implies, implies_true, not_false_eq_true, not_true_eq_false, Nat.not_lt_zero, up_s, up_1, up_m, eq_self, Nat.add_zero, lg_self, ffc_2046, ffk_2046, bbL_law_2046, bbL_law_2094, bbL_law_2111, cl_1, ca_1, cl_2, ca_2, LSt, b1, b2, b3, bL, h1, h2, h3, hc0, hc1, hc2, hs0, hs6, hs12, vi]
  refine spL_rightIfReplaced hX hU (by omega) ho _ _ (fun w1 w2 f2 hX2 hf1 hf2 ho2 hv => ?_)
  have hM2 := (hM.fr hf1 (by omega)).fr hf2 (by omega)
  obtain ⟨l2, hm2⟩ := hM2.cell
  unfold holdL
  simp only [List.getElem?_cons_zero, List.getElem?_cons_succ, fv4, Nat.reduceAdd, Nat.reduceSub, wpL, pst, stpL, LG, lput, ls_tl, two, bc, EL, pad, popN, csum, Option.toList, List.cons_append, List.nil_append, List.set_cons_zero, List.set_cons_succ, List.length_cons, List.length_nil, true_and, and_true, Nat.reduceLT, Nat.reduceLeDiff, Nat.zero_le, Nat.le_refl, RI_i, RI_z0, RI_z1, Int32.reduceOfInt, Int8.reduceOfInt, Int16.reduceOfInt, Int64.reduceOfInt, Int8.toInt32_ofNat, Int16.toInt32_ofNat, Int.reduceNeg, Int32.ofInt_neg, Int8.ofInt_neg, Int16.ofInt_neg, Int32.toInt64_ofNat, Int32.reduceToNatClampNeg, Fin.isValue, Fin.val_one, Fin.val_zero, Fin.val_two, Int64.reduceOfNat, Int32.reduceOfNat, hdl, cutc, Nat.reduceEqDiff, reduceIte, FV, tyC, tyX0, tyX1, tyX2, tyX3, tyX4, tyX5, tyX6, tyX7, tyX8, tyX9, tyX10, Nat.reduceMul, c_le, c_lt, c_eq, c_in, c_cl, c_add, c_rem, c_ofN, Int32.add_zero, Int32.zero_add, c_lt0, c_ge0, c_le0, c_gt0, c_e0, c_m1, c_m1', false_implies, true_implies, implies_true, not_false_eq_true, not_true_eq_false, Nat.not_lt_zero, up_s, up_1, up_m, eq_self, Nat.add_zero, lg_self, ffc_2046, ffk_2046, bbL_law_2046, bbL_law_2094, bbL_law_2111, cl_1, ca_1, cl_2, ca_2, LSt, b1, b2, b3, bL, h1, h2, h3, hc0, hc1, hc2, hs0, hs6, hs12, vi, hm2]
  refine sp10_rightIfReplaced hM2 hU _ _ (fun w3 hM3 hf3 => ?_)
  have hX3 := hX2.fr hf3 (by omega)
  have ho3 := (hf3.at (by omega)).trans ho2
  obtain ⟨l3, hm3⟩ := hM3.cell
  unfold holdL
  simp only [List.getElem?_cons_zero, List.getElem?_cons_succ, fv4, Nat.reduceAdd, Nat.reduceSub, wpL, pst, stpL, LG, lput, ls_tl, two, bc, EL, pad, popN, csum, Option.toList, List.cons_append, List.nil_append, List.set_cons_zero, List.set_cons_succ, List.length_cons, List.length_nil, true_and, and_true, Nat.reduceLT, Nat.reduceLeDiff, Nat.zero_le, Nat.le_refl, RI_i, RI_z0, RI_z1, Int32.reduceOfInt, Int8.reduceOfInt, Int16.reduceOfInt, Int64.reduceOfInt, Int8.toInt32_ofNat, Int16.toInt32_ofNat, Int.reduceNeg, Int32.ofInt_neg, Int8.ofInt_neg, Int16.ofInt_neg, Int32.toInt64_ofNat, Int32.reduceToNatClampNeg, Fin.isValue, Fin.val_one, Fin.val_zero, Fin.val_two, Int64.reduceOfNat, Int32.reduceOfNat, hdl, cutc, Nat.reduceEqDiff, reduceIte, FV, tyC, tyX0, tyX1, tyX2, tyX3, tyX4, tyX5, tyX6, tyX7, tyX8, tyX9, tyX10, Nat.reduceMul, c_le, c_lt, c_eq, c_in, c_cl, c_add, c_rem, c_ofN, Int32.add_zero, Int32.zero_add, c_lt0, c_ge0, c_le0, c_gt0, c_e0, c_m1, c_m1', false_implies, true_implies, implies_true, not_false_eq_true, not_true_eq_false, Nat.not_lt_zero, up_s, up_1, up_m, eq_self, Nat.add_zero, lg_self, ffc_2046, ffk_2046, bbL_law_2046, bbL_law_2094, bbL_law_2111, cl_1, ca_1, cl_2, ca_2, LSt, b1, b2, b3, bL, h1, h2, h3, hc0, hc1, hc2, hs0, hs6, hs12, vi, hm3]
  refine sp10_thr hM3 ?_
  refine lw_fin (c := _) hv ?_ (fun kz hv0 => ?_) (fun kz => ?_)
  · exact cb_v_rightIf _ _ _
  · unfold holdL
    simp only [List.getElem?_cons_zero, List.getElem?_cons_succ, fv4, Nat.reduceAdd, Nat.reduceSub, wpL, pst, stpL, LG, lput, ls_tl, two, bc, EL, pad, popN, csum, Option.toList, List.cons_append, List.nil_append, List.set_cons_zero, List.set_cons_succ, List.length_cons, List.length_nil, true_and, and_true, Nat.reduceLT, Nat.reduceLeDiff, Nat.zero_le, Nat.le_refl, RI_i, RI_z0, RI_z1, Int32.reduceOfInt, Int8.reduceOfInt, Int16.reduceOfInt, Int64.reduceOfInt, Int8.toInt32_ofNat, Int16.toInt32_ofNat, Int.reduceNeg, Int32.ofInt_neg, Int8.ofInt_neg, Int16.ofInt_neg, Int32.toInt64_ofNat, Int32.reduceToNatClampNeg, Fin.isValue, Fin.val_one, Fin.val_zero, Fin.val_two, Int64.reduceOfNat, Int32.reduceOfNat, hdl, cutc, Nat.reduceEqDiff, reduceIte, FV, tyC, tyX0, tyX1, tyX2, tyX3, tyX4, tyX5, tyX6, tyX7, tyX8, tyX9, tyX10, Nat.reduceMul, c_le, c_lt, c_eq, c_in, c_cl, c_add, c_rem, c_ofN, Int32.add_zero, Int32.zero_add, c_lt0, c_ge0, c_le0, c_gt0, c_e0, c_m1, c_m1', false_implies, true_implies, implies_true, not_false_eq_true, not_true_eq_false, Nat.not_lt_zero, up_s, up_1, up_m, eq_self, Nat.add_zero, lg_self, ffc_2046, ffk_2046, bbL_law_2046, bbL_law_2094, bbL_law_2111, cl_1, ca_1, cl_2, ca_2, LSt, b1, b2, b3, bL, h1, h2, h3, hc0, hc1, hc2, hs0, hs6, hs12, vi, hm3, ho3, kz, hv0]
    exact hN _ _ _ _ _ _ _ _ _ ⟨hX3, hM3, hU, _, ho3⟩ (by omega) (by omega)
  · unfold holdL
    simp only [List.getElem?_cons_zero, List.getElem?_cons_succ, fv4, Nat.reduceAdd, Nat.reduceSub, wpL, pst, stpL, LG, lput, ls_tl, two, bc, EL, pad, popN, csum, Option.toList, List.cons_append, List.nil_append, List.set_cons_zero, List.set_cons_succ, List.length_cons, List.length_nil, true_and, and_true, Nat.reduceLT, Nat.reduceLeDiff, Nat.zero_le, Nat.le_refl, RI_i, RI_z0, RI_z1, Int32.reduceOfInt, Int8.reduceOfInt, Int16.reduceOfInt, Int64.reduceOfInt, Int8.toInt32_ofNat, Int16.toInt32_ofNat, Int.reduceNeg, Int32.ofInt_neg, Int8.ofInt_neg, Int16.ofInt_neg, Int32.toInt64_ofNat, Int32.reduceToNatClampNeg, Fin.isValue, Fin.val_one, Fin.val_zero, Fin.val_two, Int64.reduceOfNat, Int32.reduceOfNat, hdl, cutc, Nat.reduceEqDiff, reduceIte, FV, tyC, tyX0, tyX1, tyX2, tyX3, tyX4, tyX5, tyX6, tyX7, tyX8, tyX9, tyX10, Nat.reduceMul, c_le, c_lt, c_eq, c_in, c_cl, c_add, c_rem, c_ofN, Int32.add_zero, Int32.zero_add, c_lt0, c_ge0, c_le0, c_gt0, c_e0, c_m1, c_m1', false_implies, true_implies, implies_true, not_false_eq_true, not_true_eq_false, Nat.not_lt_zero, up_s, up_1, up_m, eq_self, Nat.add_zero, lg_self, ffc_2046, ffk_2046, bbL_law_2046, bbL_law_2094, bbL_law_2111, cl_1, ca_1, cl_2, ca_2, LSt, b1, b2, b3, bL, h1, h2, h3, hc0, hc1, hc2, hs0, hs6, hs12, vi, hm3, ho3, kz]
    exact hN _ _ _ _ _ _ _ _ _ ⟨hX3, hM3, hU, _, ho3⟩ (by omega) (by omega)
theorem lw_codedShare (hR : RDY w x th U) (hi : i + 3 < sL) (hL : sL ≤ 2048) (hc2 : cs + 2 ≤ 601024) (hs12 : ss + 12 ≤ 7293034) (l5 l6 l7 l8 : Option Value) (hN : NXT Γ n h sb sL sx x i cs ss) : GL Γ (mLL n h) QL XL sb sL sx 2114 (LSt sb x i l5 l6 l7 l8) [] none w cs ss := by
  obtain ⟨hX, hM, hU, f, ho⟩ := hR
  have hx := hX.cells.1
  have vi := vi_o
  have bi : i < 2147483648 := by omega
  have b1 : i + 1 < 2147483648 := by omega
  have b2 : i + 2 < 2147483648 := by omega
  have b3 : i + 3 < 2147483648 := by omega
  have bL : sL < 2147483648 := by omega
  have h1 : i + 1 < sL := by omega
  have h2 : i + 2 < sL := by omega
  have h3 : i + 3 < sL := by omega
  have hc0 : cs ≤ 601024 := by omega
  have hc1 : cs + 1 ≤ 601024 := by omega
  have hs0 : ss ≤ 7293034 := by omega
  have hs6 : ss + 6 ≤ 7293034 := by omega
  refine wpL_ok (kdc_2114 n h) 400 2114 bbL_law_2114 _ _ _ _ _ _ (ooL_law_2114 n h) ?_
  simp only [List.getElem?_cons_zero, List.getElem?_cons_succ, fv4, Nat.reduceAdd, Nat.reduceSub, wpL, pst, stpL, LG, lput, ls_tl, two, bc, EL, pad, popN, csum, Option.toList, List.cons_append, List.nil_append, List.set_cons_zero, List.set_cons_succ, List.length_cons, List.length_nil, true_and, and_true, Nat.reduceLT, Nat.reduceLeDiff, Nat.zero_le, Nat.le_refl, RI_i, RI_z0, RI_z1, Int32.reduceOfInt, Int8.reduceOfInt, Int16.reduceOfInt, Int64.reduceOfInt, Int8.toInt32_ofNat, Int16.toInt32_ofNat, Int.reduceNeg, Int32.ofInt_neg, Int8.ofInt_neg, Int16.ofInt_neg, Int32.toInt64_ofNat, Int32.reduceToNatClampNeg, Fin.isValue, Fin.val_one, Fin.val_zero, Fin.val_two, Int64.reduceOfNat, Int32.reduceOfNat, hdl, cutc, Nat.reduceEqDiff, reduceIte, FV, tyC, tyX0, tyX1, tyX2, tyX3, tyX4, tyX5, tyX6, tyX7, tyX8, tyX9, tyX10, Nat.reduceMul, c_le, c_lt, c_eq, c_in, c_cl, c_add, c_rem, c_ofN, Int32.add_zero, Int32.zero_add, c_lt0, c_ge0, c_le0, c_gt0, c_e0, c_m1, c_m1', false_implies, true_implies, implies_true, not_false_eq_true, not_true_eq_false, Nat.not_lt_zero, up_s, up_1, up_m, eq_self, Nat.add_zero, lg_self, ffc_2114, ffk_2114, bbL_law_2114, bbL_law_2150, bbL_law_2152, LSt, b1, b2, b3, bL, h1, h2, h3, hc0, hc1, hc2, hs0, hs6, hs12, vi, hx]
  refine sp9_codedShare hX hU ?_
  obtain ⟨l2, hm2⟩ := hM.cell
  unfold holdL
  simp only [List.getElem?_cons_zero, List.getElem?_cons_succ, fv4, Nat.reduceAdd, Nat.reduceSub, wpL, pst, stpL, LG, lput, ls_tl, two, bc, EL, pad, popN, csum, Option.toList, List.cons_append, List.nil_append, List.set_cons_zero, List.set_cons_succ, List.length_cons, List.length_nil, true_and, and_true, Nat.reduceLT, Nat.reduceLeDiff, Nat.zero_le, Nat.le_refl, RI_i, RI_z0, RI_z1, Int32.reduceOfInt, Int8.reduceOfInt, Int16.reduceOfInt, Int64.reduceOfInt, Int8.toInt32_ofNat, Int16.toInt32_ofNat, Int.reduceNeg, Int32.ofInt_neg, Int8.ofInt_neg, Int16.ofInt_neg, Int32.toInt64_ofNat, Int32.reduceToNatClampNeg, Fin.isValue, Fin.val_one, Fin.val_zero, Fin.val_two, Int64.reduceOfNat, Int32.reduceOfNat, hdl, cutc, Nat.reduceEqDiff, reduceIte, FV, tyC, tyX0, tyX1, tyX2, tyX3, tyX4, tyX5, tyX6, tyX7, tyX8, tyX9, tyX10, Nat.reduceMul, c_le, c_lt, c_eq, c_in, c_cl, c_add, c_rem, c_ofN, Int32.add_zero, Int32.zero_add, c_lt0, c_ge0, c_le0, c_gt0, c_e0, c_m1, c_m1', false_implies, true_implies, implies_true, not_false_eq_true, not_true_eq_false, Nat.not_lt_zero, up_s, up_1, up_m, eq_self, Nat.add_zero, lg_self, ffc_2114, ffk_2114, bbL_law_2114, bbL_law_2150, bbL_law_2152, LSt, b1, b2, b3, bL, h1, h2, h3, hc0, hc1, hc2, hs0, hs6, hs12, vi, hm2]
  refine sp10_codedShare hM hU (fun w3 hM3 hf3 => ?_)
  have hX3 := hX.fr hf3 (by omega)
  have ho3 := (hf3.at (by omega)).trans ho
  by_cases kz : Op.cmpValue (FP.dcmp (shr (us_S U)) (shr (us_S U))) .l = 0
  · unfold holdL
    simp only [List.getElem?_cons_zero, List.getElem?_cons_succ, fv4, Nat.reduceAdd, Nat.reduceSub, wpL, pst, stpL, LG, lput, ls_tl, two, bc, EL, pad, popN, csum, Option.toList, List.cons_append, List.nil_append, List.set_cons_zero, List.set_cons_succ, List.length_cons, List.length_nil, true_and, and_true, Nat.reduceLT, Nat.reduceLeDiff, Nat.zero_le, Nat.le_refl, RI_i, RI_z0, RI_z1, Int32.reduceOfInt, Int8.reduceOfInt, Int16.reduceOfInt, Int64.reduceOfInt, Int8.toInt32_ofNat, Int16.toInt32_ofNat, Int.reduceNeg, Int32.ofInt_neg, Int8.ofInt_neg, Int16.ofInt_neg, Int32.toInt64_ofNat, Int32.reduceToNatClampNeg, Fin.isValue, Fin.val_one, Fin.val_zero, Fin.val_two, Int64.reduceOfNat, Int32.reduceOfNat, hdl, cutc, Nat.reduceEqDiff, reduceIte, FV, tyC, tyX0, tyX1, tyX2, tyX3, tyX4, tyX5, tyX6, tyX7, tyX8, tyX9, tyX10, Nat.reduceMul, c_le, c_lt, c_eq, c_in, c_cl, c_add, c_rem, c_ofN, Int32.add_zero, Int32.zero_add, c_lt0, c_ge0, c_le0, c_gt0, c_e0, c_m1, c_m1', false_implies, true_implies, implies_true, not_false_eq_true, not_true_eq_false, Nat.not_lt_zero, up_s, up_1, up_m, eq_self, Nat.add_zero, lg_self, ffc_2114, ffk_2114, bbL_law_2114, bbL_law_2150, bbL_law_2152, LSt, b1, b2, b3, bL, h1, h2, h3, hc0, hc1, hc2, hs0, hs6, hs12, vi, kz]
    exact hN _ _ _ _ _ _ _ _ _ ⟨hX3, hM3, hU, _, ho3⟩ (by omega) (by omega)
  · have kf := eq_false kz
    unfold holdL
    simp only [List.getElem?_cons_zero, List.getElem?_cons_succ, fv4, Nat.reduceAdd, Nat.reduceSub, wpL, pst, stpL, LG, lput, ls_tl, two, bc, EL, pad, popN, csum, Option.toList, List.cons_append, List.nil_append, List.set_cons_zero, List.set_cons_succ, List.length_cons, List.length_nil, true_and, and_true, Nat.reduceLT, Nat.reduceLeDiff, Nat.zero_le, Nat.le_refl, RI_i, RI_z0, RI_z1, Int32.reduceOfInt, Int8.reduceOfInt, Int16.reduceOfInt, Int64.reduceOfInt, Int8.toInt32_ofNat, Int16.toInt32_ofNat, Int.reduceNeg, Int32.ofInt_neg, Int8.ofInt_neg, Int16.ofInt_neg, Int32.toInt64_ofNat, Int32.reduceToNatClampNeg, Fin.isValue, Fin.val_one, Fin.val_zero, Fin.val_two, Int64.reduceOfNat, Int32.reduceOfNat, hdl, cutc, Nat.reduceEqDiff, reduceIte, FV, tyC, tyX0, tyX1, tyX2, tyX3, tyX4, tyX5, tyX6, tyX7, tyX8, tyX9, tyX10, Nat.reduceMul, c_le, c_lt, c_eq, c_in, c_cl, c_add, c_rem, c_ofN, Int32.add_zero, Int32.zero_add, c_lt0, c_ge0, c_le0, c_gt0, c_e0, c_m1, c_m1', false_implies, true_implies, implies_true, not_false_eq_true, not_true_eq_false, Nat.not_lt_zero, up_s, up_1, up_m, eq_self, Nat.add_zero, lg_self, ffc_2114, ffk_2114, bbL_law_2114, bbL_law_2150, bbL_law_2152, LSt, b1, b2, b3, bL, h1, h2, h3, hc0, hc1, hc2, hs0, hs6, hs12, vi, kf]
    exact hN _ _ _ _ _ _ _ _ _ ⟨hX3, hM3, hU, _, ho3⟩ (by omega) (by omega)
theorem lw_digest (hR : RDY w x th U) (hi : i + 3 < sL) (hL : sL ≤ 2048) (hc2 : cs + 2 ≤ 601024) (hs12 : ss + 12 ≤ 7293034) (l5 l6 l7 l8 : Option Value) (hN : NXT Γ n h sb sL sx x i cs ss) : GL Γ (mLL n h) QL XL sb sL sx 2155 (LSt sb x i l5 l6 l7 l8) [] none w cs ss := by
  obtain ⟨hX, hM, hU, f, ho⟩ := hR
  have hx := hX.cells.1
  have vi := vi_o
  have bi : i < 2147483648 := by omega
  have b1 : i + 1 < 2147483648 := by omega
  have b2 : i + 2 < 2147483648 := by omega
  have b3 : i + 3 < 2147483648 := by omega
  have bL : sL < 2147483648 := by omega
  have h1 : i + 1 < sL := by omega
  have h2 : i + 2 < sL := by omega
  have h3 : i + 3 < sL := by omega
  have hc0 : cs ≤ 601024 := by omega
  have hc1 : cs + 1 ≤ 601024 := by omega
  have hs0 : ss ≤ 7293034 := by omega
  have hs6 : ss + 6 ≤ 7293034 := by omega
  refine wpL_ok (kdc_2155 n h) 400 2155 bbL_law_2155 _ _ _ _ _ _ (ooL_law_2155 n h) ?_
  simp only [List.getElem?_cons_zero, List.getElem?_cons_succ, fv4, Nat.reduceAdd, Nat.reduceSub, wpL, pst, stpL, LG, lput, ls_tl, two, bc, EL, pad, popN, csum, Option.toList, List.cons_append, List.nil_append, List.set_cons_zero, List.set_cons_succ, List.length_cons, List.length_nil, true_and, and_true, Nat.reduceLT, Nat.reduceLeDiff, Nat.zero_le, Nat.le_refl, RI_i, RI_z0, RI_z1, Int32.reduceOfInt, Int8.reduceOfInt, Int16.reduceOfInt, Int64.reduceOfInt, Int8.toInt32_ofNat, Int16.toInt32_ofNat, Int.reduceNeg, Int32.ofInt_neg, Int8.ofInt_neg, Int16.ofInt_neg, Int32.toInt64_ofNat, Int32.reduceToNatClampNeg, Fin.isValue, Fin.val_one, Fin.val_zero, Fin.val_two, Int64.reduceOfNat, Int32.reduceOfNat, hdl, cutc, Nat.reduceEqDiff, reduceIte, FV, tyC, tyX0, tyX1, tyX2, tyX3, tyX4, tyX5, tyX6, tyX7, tyX8, tyX9, tyX10, Nat.reduceMul, c_le, c_lt, c_eq, c_in, c_cl, c_add, c_rem, c_ofN, Int32.add_zero, Int32.zero_add, c_lt0, c_ge0, c_le0, c_gt0, c_e0, c_m1, c_m1', false_implies, true_implies, implies_true, not_false_eq_true, not_true_eq_false, Nat.not_lt_zero, up_s, up_1, up_m, eq_self, Nat.add_zero, lg_self, ffc_2155, ffk_2155, bbL_law_2155, LSt, b1, b2, b3, bL, h1, h2, h3, hc0, hc1, hc2, hs0, hs6, hs12, vi, hx]
  refine sp9_digest hX hU (fun w1 hX1 hf1 => ?_)
  have hM1 := hM.fr hf1 (by omega)
  have ho1 := (hf1.at (by omega)).trans ho
  obtain ⟨l2, hm2⟩ := hM1.cell
  unfold holdL
  simp only [List.getElem?_cons_zero, List.getElem?_cons_succ, fv4, Nat.reduceAdd, Nat.reduceSub, wpL, pst, stpL, LG, lput, ls_tl, two, bc, EL, pad, popN, csum, Option.toList, List.cons_append, List.nil_append, List.set_cons_zero, List.set_cons_succ, List.length_cons, List.length_nil, true_and, and_true, Nat.reduceLT, Nat.reduceLeDiff, Nat.zero_le, Nat.le_refl, RI_i, RI_z0, RI_z1, Int32.reduceOfInt, Int8.reduceOfInt, Int16.reduceOfInt, Int64.reduceOfInt, Int8.toInt32_ofNat, Int16.toInt32_ofNat, Int.reduceNeg, Int32.ofInt_neg, Int8.ofInt_neg, Int16.ofInt_neg, Int32.toInt64_ofNat, Int32.reduceToNatClampNeg, Fin.isValue, Fin.val_one, Fin.val_zero, Fin.val_two, Int64.reduceOfNat, Int32.reduceOfNat, hdl, cutc, Nat.reduceEqDiff, reduceIte, FV, tyC, tyX0, tyX1, tyX2, tyX3, tyX4, tyX5, tyX6, tyX7, tyX8, tyX9, tyX10, Nat.reduceMul, c_le, c_lt, c_eq, c_in, c_cl, c_add, c_rem, c_ofN, Int32.add_zero, Int32.zero_add, c_lt0, c_ge0, c_le0, c_gt0, c_e0, c_m1, c_m1', false_implies, true_implies, implies_true, not_false_eq_true, not_true_eq_false, Nat.not_lt_zero, up_s, up_1, up_m, eq_self, Nat.add_zero, lg_self, ffc_2155, ffk_2155, bbL_law_2155, LSt, b1, b2, b3, bL, h1, h2, h3, hc0, hc1, hc2, hs0, hs6, hs12, vi, hm2]
  refine sp10_digest hM1 hU (fun w3 hM3 hf3 => ?_)
  have hX3 := hX1.fr hf3 (by omega)
  have ho3 := (hf3.at (by omega)).trans ho1
  unfold holdL
  simp only [List.getElem?_cons_zero, List.getElem?_cons_succ, fv4, Nat.reduceAdd, Nat.reduceSub, wpL, pst, stpL, LG, lput, ls_tl, two, bc, EL, pad, popN, csum, Option.toList, List.cons_append, List.nil_append, List.set_cons_zero, List.set_cons_succ, List.length_cons, List.length_nil, true_and, and_true, Nat.reduceLT, Nat.reduceLeDiff, Nat.zero_le, Nat.le_refl, RI_i, RI_z0, RI_z1, Int32.reduceOfInt, Int8.reduceOfInt, Int16.reduceOfInt, Int64.reduceOfInt, Int8.toInt32_ofNat, Int16.toInt32_ofNat, Int.reduceNeg, Int32.ofInt_neg, Int8.ofInt_neg, Int16.ofInt_neg, Int32.toInt64_ofNat, Int32.reduceToNatClampNeg, Fin.isValue, Fin.val_one, Fin.val_zero, Fin.val_two, Int64.reduceOfNat, Int32.reduceOfNat, hdl, cutc, Nat.reduceEqDiff, reduceIte, FV, tyC, tyX0, tyX1, tyX2, tyX3, tyX4, tyX5, tyX6, tyX7, tyX8, tyX9, tyX10, Nat.reduceMul, c_le, c_lt, c_eq, c_in, c_cl, c_add, c_rem, c_ofN, Int32.add_zero, Int32.zero_add, c_lt0, c_ge0, c_le0, c_gt0, c_e0, c_m1, c_m1', false_implies, true_implies, implies_true, not_false_eq_true, not_true_eq_false, Nat.not_lt_zero, up_s, up_1, up_m, eq_self, Nat.add_zero, lg_self, ffc_2155, ffk_2155, bbL_law_2155, LSt, b1, b2, b3, bL, h1, h2, h3, hc0, hc1, hc2, hs0, hs6, hs12, vi]
  exact hN _ _ _ _ _ _ _ _ _ ⟨hX3, hM3, hU, _, ho3⟩ (by omega) (by omega)
end LAW

/-! THE LAW'S CASES, 5 -/
section LAW
variable {Γ : Amb} {n : String} {h : List ((Nat × Nat × Nat × Nat) × String)} {sb sL : Nat} {sx : Nat → Int32} {w : PW} {x i cs ss : Nat} {U : US} {th : Int32}
theorem lw_wouldSend (hR : RDY w x th U) (hi : i + 3 < sL) (hL : sL ≤ 2048) (hc2 : cs + 2 ≤ 601024) (hs12 : ss + 12 ≤ 7293034) (l5 l6 l7 l8 : Option Value) (hN : NXT Γ n h sb sL sx x i cs ss) : GL Γ (mLL n h) QL XL sb sL sx 1656 (LSt sb x i l5 l6 l7 l8) [] none w cs ss := by
  obtain ⟨hX, hM, hU, f, ho⟩ := hR
  have hx := hX.cells.1
  have vi := vi_o
  have bi : i < 2147483648 := by omega
  have b1 : i + 1 < 2147483648 := by omega
  have b2 : i + 2 < 2147483648 := by omega
  have b3 : i + 3 < 2147483648 := by omega
  have bL : sL < 2147483648 := by omega
  have h1 : i + 1 < sL := by omega
  have h2 : i + 2 < sL := by omega
  have h3 : i + 3 < sL := by omega
  have hc0 : cs ≤ 601024 := by omega
  have hc1 : cs + 1 ≤ 601024 := by omega
  have hs0 : ss ≤ 7293034 := by omega
  have hs6 : ss + 6 ≤ 7293034 := by omega
  refine wpL_ok (kdc_1656 n h) 400 1656 bbL_law_1656 _ _ _ _ _ _ (ooL_law_1656 n h) ?_
  simp only [List.getElem?_cons_zero, List.getElem?_cons_succ, fv4, Nat.reduceAdd, Nat.reduceSub, wpL, pst, stpL, LG, lput, ls_tl, two, bc, EL, pad, popN, csum, Option.toList, List.cons_append, List.nil_append, List.set_cons_zero, List.set_cons_succ, List.length_cons, List.length_nil, true_and, and_true, Nat.reduceLT, Nat.reduceLeDiff, Nat.zero_le, Nat.le_refl, RI_i, RI_z0, RI_z1, Int32.reduceOfInt, Int8.reduceOfInt, Int16.reduceOfInt, Int64.reduceOfInt, Int8.toInt32_ofNat, Int16.toInt32_ofNat, Int.reduceNeg, Int32.ofInt_neg, Int8.ofInt_neg, Int16.ofInt_neg, Int32.toInt64_ofNat, Int32.reduceToNatClampNeg, Fin.isValue, Fin.val_one, Fin.val_zero, Fin.val_two, Int64.reduceOfNat, Int32.reduceOfNat, hdl, cutc, Nat.reduceEqDiff, reduceIte, FV, tyC, tyX0, tyX1, tyX2, tyX3, tyX4, tyX5, tyX6, tyX7, tyX8, tyX9, tyX10, Nat.reduceMul, c_le, c_lt, c_eq, c_in, c_cl, c_add, c_rem, c_ofN, Int32.add_zero, Int32.zero_add, c_lt0, c_ge0, c_le0, c_gt0, c_e0, c_m1, c_m1', false_implies, true_implies, implies_true, not_false_eq_true, not_true_eq_false, Nat.not_lt_zero, up_s, up_1, up_m, eq_self, Nat.add_zero, lg_self, ffc_1656, ffk_1656, bbL_law_1656, LSt, b1, b2, b3, bL, h1, h2, h3, hc0, hc1, hc2, hs0, hs6, hs12, vi, hx]
  refine sp9_wouldSend hX hU ?_
  obtain ⟨l2, hm2⟩ := hM.cell
  unfold holdL
  simp only [List.getElem?_cons_zero, List.getElem?_cons_succ, fv4, Nat.reduceAdd, Nat.reduceSub, wpL, pst, stpL, LG, lput, ls_tl, two, bc, EL, pad, popN, csum, Option.toList, List.cons_append, List.nil_append, List.set_cons_zero, List.set_cons_succ, List.length_cons, List.length_nil, true_and, and_true, Nat.reduceLT, Nat.reduceLeDiff, Nat.zero_le, Nat.le_refl, RI_i, RI_z0, RI_z1, Int32.reduceOfInt, Int8.reduceOfInt, Int16.reduceOfInt, Int64.reduceOfInt, Int8.toInt32_ofNat, Int16.toInt32_ofNat, Int.reduceNeg, Int32.ofInt_neg, Int8.ofInt_neg, Int16.ofInt_neg, Int32.toInt64_ofNat, Int32.reduceToNatClampNeg, Fin.isValue, Fin.val_one, Fin.val_zero, Fin.val_two, Int64.reduceOfNat, Int32.reduceOfNat, hdl, cutc, Nat.reduceEqDiff, reduceIte, FV, tyC, tyX0, tyX1, tyX2, tyX3, tyX4, tyX5, tyX6, tyX7, tyX8, tyX9, tyX10, Nat.reduceMul, c_le, c_lt, c_eq, c_in, c_cl, c_add, c_rem, c_ofN, Int32.add_zero, Int32.zero_add, c_lt0, c_ge0, c_le0, c_gt0, c_e0, c_m1, c_m1', false_implies, true_implies, implies_true, not_false_eq_true, not_true_eq_false, Nat.not_lt_zero, up_s, up_1, up_m, eq_self, Nat.add_zero, lg_self, ffc_1656, ffk_1656, bbL_law_1656, LSt, b1, b2, b3, bL, h1, h2, h3, hc0, hc1, hc2, hs0, hs6, hs12, vi, hm2]
  refine sp10_wouldSend hM hU (fun w3 hM3 hf3 => ?_)
  have hX3 := hX.fr hf3 (by omega)
  have ho3 := (hf3.at (by omega)).trans ho
  unfold holdL
  simp only [List.getElem?_cons_zero, List.getElem?_cons_succ, fv4, Nat.reduceAdd, Nat.reduceSub, wpL, pst, stpL, LG, lput, ls_tl, two, bc, EL, pad, popN, csum, Option.toList, List.cons_append, List.nil_append, List.set_cons_zero, List.set_cons_succ, List.length_cons, List.length_nil, true_and, and_true, Nat.reduceLT, Nat.reduceLeDiff, Nat.zero_le, Nat.le_refl, RI_i, RI_z0, RI_z1, Int32.reduceOfInt, Int8.reduceOfInt, Int16.reduceOfInt, Int64.reduceOfInt, Int8.toInt32_ofNat, Int16.toInt32_ofNat, Int.reduceNeg, Int32.ofInt_neg, Int8.ofInt_neg, Int16.ofInt_neg, Int32.toInt64_ofNat, Int32.reduceToNatClampNeg, Fin.isValue, Fin.val_one, Fin.val_zero, Fin.val_two, Int64.reduceOfNat, Int32.reduceOfNat, hdl, cutc, Nat.reduceEqDiff, reduceIte, FV, tyC, tyX0, tyX1, tyX2, tyX3, tyX4, tyX5, tyX6, tyX7, tyX8, tyX9, tyX10, Nat.reduceMul, c_le, c_lt, c_eq, c_in, c_cl, c_add, c_rem, c_ofN, Int32.add_zero, Int32.zero_add, c_lt0, c_ge0, c_le0, c_gt0, c_e0, c_m1, c_m1', false_implies, true_implies, implies_true, not_false_eq_true, not_true_eq_false, Nat.not_lt_zero, up_s, up_1, up_m, eq_self, Nat.add_zero, lg_self, ffc_1656, ffk_1656, bbL_law_1656, LSt, b1, b2, b3, bL, h1, h2, h3, hc0, hc1, hc2, hs0, hs6, hs12, vi]
  exact hN _ _ _ _ _ _ _ _ _ ⟨hX3, hM3, hU, _, ho3⟩ (by omega) (by omega)
theorem lw_streamLength (hR : RDY w x th U) (hi : i + 3 < sL) (hL : sL ≤ 2048) (hc2 : cs + 2 ≤ 601024) (hs12 : ss + 12 ≤ 7293034) (l5 l6 l7 l8 : Option Value) (hN : NXT Γ n h sb sL sx x i cs ss) : GL Γ (mLL n h) QL XL sb sL sx 1669 (LSt sb x i l5 l6 l7 l8) [] none w cs ss := by
  obtain ⟨hX, hM, hU, f, ho⟩ := hR
  have hx := hX.cells.1
  have vi := vi_o
  have bi : i < 2147483648 := by omega
  have b1 : i + 1 < 2147483648 := by omega
  have b2 : i + 2 < 2147483648 := by omega
  have b3 : i + 3 < 2147483648 := by omega
  have bL : sL < 2147483648 := by omega
  have h1 : i + 1 < sL := by omega
  have h2 : i + 2 < sL := by omega
  have h3 : i + 3 < sL := by omega
  have hc0 : cs ≤ 601024 := by omega
  have hc1 : cs + 1 ≤ 601024 := by omega
  have hs0 : ss ≤ 7293034 := by omega
  have hs6 : ss + 6 ≤ 7293034 := by omega
  refine wpL_ok (kdc_1669 n h) 400 1669 bbL_law_1669 _ _ _ _ _ _ (ooL_law_1669 n h) ?_
  simp only [List.getElem?_cons_zero, List.getElem?_cons_succ, fv4, Nat.reduceAdd, Nat.reduceSub, wpL, pst, stpL, LG, lput, ls_tl, two, bc, EL, pad, popN, csum, Option.toList, List.cons_append, List.nil_append, List.set_cons_zero, List.set_cons_succ, List.length_cons, List.length_nil, true_and, and_true, Nat.reduceLT, Nat.reduceLeDiff, Nat.zero_le, Nat.le_refl, RI_i, RI_z0, RI_z1, Int32.reduceOfInt, Int8.reduceOfInt, Int16.reduceOfInt, Int64.reduceOfInt, Int8.toInt32_ofNat, Int16.toInt32_ofNat, Int.reduceNeg, Int32.ofInt_neg, Int8.ofInt_neg, Int16.ofInt_neg, Int32.toInt64_ofNat, Int32.reduceToNatClampNeg, Fin.isValue, Fin.val_one, Fin.val_zero, Fin.val_two, Int64.reduceOfNat, Int32.reduceOfNat, hdl, cutc, Nat.reduceEqDiff, reduceIte, FV, tyC, tyX0, tyX1, tyX2, tyX3, tyX4, tyX5, tyX6, tyX7, tyX8, tyX9, tyX10, Nat.reduceMul, c_le, c_lt, c_eq, c_in, c_cl, c_add, c_rem, c_ofN, Int32.add_zero, Int32.zero_add, c_lt0, c_ge0, c_le0, c_gt0, c_e0, c_m1, c_m1', false_implies, true_implies, implies_true, not_false_eq_true, not_true_eq_false, Nat.not_lt_zero, up_s, up_1, up_m, eq_self, Nat.add_zero, lg_self, ffc_1669, ffk_1669, bbL_law_1669, LSt, b1, b2, b3, bL, h1, h2, h3, hc0, hc1, hc2, hs0, hs6, hs12, vi, hx]
  refine sp9_streamLength hX ?_
  obtain ⟨l2, hm2⟩ := hM.cell
  unfold holdL
  simp only [List.getElem?_cons_zero, List.getElem?_cons_succ, fv4, Nat.reduceAdd, Nat.reduceSub, wpL, pst, stpL, LG, lput, ls_tl, two, bc, EL, pad, popN, csum, Option.toList, List.cons_append, List.nil_append, List.set_cons_zero, List.set_cons_succ, List.length_cons, List.length_nil, true_and, and_true, Nat.reduceLT, Nat.reduceLeDiff, Nat.zero_le, Nat.le_refl, RI_i, RI_z0, RI_z1, Int32.reduceOfInt, Int8.reduceOfInt, Int16.reduceOfInt, Int64.reduceOfInt, Int8.toInt32_ofNat, Int16.toInt32_ofNat, Int.reduceNeg, Int32.ofInt_neg, Int8.ofInt_neg, Int16.ofInt_neg, Int32.toInt64_ofNat, Int32.reduceToNatClampNeg, Fin.isValue, Fin.val_one, Fin.val_zero, Fin.val_two, Int64.reduceOfNat, Int32.reduceOfNat, hdl, cutc, Nat.reduceEqDiff, reduceIte, FV, tyC, tyX0, tyX1, tyX2, tyX3, tyX4, tyX5, tyX6, tyX7, tyX8, tyX9, tyX10, Nat.reduceMul, c_le, c_lt, c_eq, c_in, c_cl, c_add, c_rem, c_ofN, Int32.add_zero, Int32.zero_add, c_lt0, c_ge0, c_le0, c_gt0, c_e0, c_m1, c_m1', false_implies, true_implies, implies_true, not_false_eq_true, not_true_eq_false, Nat.not_lt_zero, up_s, up_1, up_m, eq_self, Nat.add_zero, lg_self, ffc_1669, ffk_1669, bbL_law_1669, LSt, b1, b2, b3, bL, h1, h2, h3, hc0, hc1, hc2, hs0, hs6, hs12, vi, hm2]
  refine sp10_streamLength hM hU (fun w3 hM3 hf3 => ?_)
  have hX3 := hX.fr hf3 (by omega)
  have ho3 := (hf3.at (by omega)).trans ho
  unfold holdL
  simp only [List.getElem?_cons_zero, List.getElem?_cons_succ, fv4, Nat.reduceAdd, Nat.reduceSub, wpL, pst, stpL, LG, lput, ls_tl, two, bc, EL, pad, popN, csum, Option.toList, List.cons_append, List.nil_append, List.set_cons_zero, List.set_cons_succ, List.length_cons, List.length_nil, true_and, and_true, Nat.reduceLT, Nat.reduceLeDiff, Nat.zero_le, Nat.le_refl, RI_i, RI_z0, RI_z1, Int32.reduceOfInt, Int8.reduceOfInt, Int16.reduceOfInt, Int64.reduceOfInt, Int8.toInt32_ofNat, Int16.toInt32_ofNat, Int.reduceNeg, Int32.ofInt_neg, Int8.ofInt_neg, Int16.ofInt_neg, Int32.toInt64_ofNat, Int32.reduceToNatClampNeg, Fin.isValue, Fin.val_one, Fin.val_zero, Fin.val_two, Int64.reduceOfNat, Int32.reduceOfNat, hdl, cutc, Nat.reduceEqDiff, reduceIte, FV, tyC, tyX0, tyX1, tyX2, tyX3, tyX4, tyX5, tyX6, tyX7, tyX8, tyX9, tyX10, Nat.reduceMul, c_le, c_lt, c_eq, c_in, c_cl, c_add, c_rem, c_ofN, Int32.add_zero, Int32.zero_add, c_lt0, c_ge0, c_le0, c_gt0, c_e0, c_m1, c_m1', false_implies, true_implies, implies_true, not_false_eq_true, not_true_eq_false, Nat.not_lt_zero, up_s, up_1, up_m, eq_self, Nat.add_zero, lg_self, ffc_1669, ffk_1669, bbL_law_1669, LSt, b1, b2, b3, bL, h1, h2, h3, hc0, hc1, hc2, hs0, hs6, hs12, vi]
  exact hN _ _ _ _ _ _ _ _ _ ⟨hX3, hM3, hU, _, ho3⟩ (by omega) (by omega)
theorem lw_numberAt (hR : RDY w x th U) (hi : i + 3 < sL) (hL : sL ≤ 2048) (hc2 : cs + 2 ≤ 601024) (hs12 : ss + 12 ≤ 7293034) (l5 l6 l7 l8 : Option Value) (hN : NXT Γ n h sb sL sx x i cs ss) : GL Γ (mLL n h) QL XL sb sL sx 1682 (LSt sb x i l5 l6 l7 l8) [] none w cs ss := by
  obtain ⟨hX, hM, hU, f, ho⟩ := hR
  have hx := hX.cells.1
  have vi := vi_o
  have bi : i < 2147483648 := by omega
  have b1 : i + 1 < 2147483648 := by omega
  have b2 : i + 2 < 2147483648 := by omega
  have b3 : i + 3 < 2147483648 := by omega
  have bL : sL < 2147483648 := by omega
  have h1 : i + 1 < sL := by omega
  have h2 : i + 2 < sL := by omega
  have h3 : i + 3 < sL := by omega
  have hc0 : cs ≤ 601024 := by omega
  have hc1 : cs + 1 ≤ 601024 := by omega
  have hs0 : ss ≤ 7293034 := by omega
  have hs6 : ss + 6 ≤ 7293034 := by omega
  refine wpL_ok (kdc_1682 n h) 400 1682 bbL_law_1682 _ _ _ _ _ _ (ooL_law_1682 n h) ?_
  simp only [List.getElem?_cons_zero, List.getElem?_cons_succ, fv4, Nat.reduceAdd, Nat.reduceSub, wpL, pst, stpL, LG, lput, ls_tl, two, bc, EL, pad, popN, csum, Option.toList, List.cons_append, List.nil_append, List.set_cons_zero, List.set_cons_succ, List.length_cons, List.length_nil, true_and, and_true, Nat.reduceLT, Nat.reduceLeDiff, Nat.zero_le, Nat.le_refl, RI_i, RI_z0, RI_z1, Int32.reduceOfInt, Int8.reduceOfInt, Int16.reduceOfInt, Int64.reduceOfInt, Int8.toInt32_ofNat, Int16.toInt32_ofNat, Int.reduceNeg, Int32.ofInt_neg, Int8.ofInt_neg, Int16.ofInt_neg, Int32.toInt64_ofNat, Int32.reduceToNatClampNeg, Fin.isValue, Fin.val_one, Fin.val_zero, Fin.val_two, Int64.reduceOfNat, Int32.reduceOfNat, hdl, cutc, Nat.reduceEqDiff, reduceIte, FV, tyC, tyX0, tyX1, tyX2, tyX3, tyX4, tyX5, tyX6, tyX7, tyX8, tyX9, tyX10, Nat.reduceMul, c_le, c_lt, c_eq, c_in, c_cl, c_add, c_rem, c_ofN, Int32.add_zero, Int32.zero_add, c_lt0, c_ge0, c_le0, c_gt0, c_e0, c_m1, c_m1', false_implies, true_implies, implies_true, not_false_eq_true, not_true_eq_false, Nat.not_lt_zero, up_s, up_1, up_m, eq_self, Nat.add_zero, lg_self, ffc_1682, ffk_1682, bbL_law_1682, bbL_law_1718, bbL_law_1735, cl_1, ca_1, LSt, b1, b2, b3, bL, h1, h2, h3, hc0, hc1, hc2, hs0, hs6, hs12, vi]
  refine spL_numberAt hX hU (by omega) ho _ (fun w1 w2 f2 hX2 hf1 hf2 ho2 hv => ?_)
  have hM2 := (hM.fr hf1 (by omega)).fr hf2 (by omega)
  obtain ⟨l2, hm2⟩ := hM2.cell
  unfold holdL
  simp only [List.getElem?_cons_zero, List.getElem?_cons_succ, fv4, Nat.reduceAdd, Nat.reduceSub, wpL, pst, stpL, LG, lput, ls_tl, two, bc, EL, pad, popN, csum, Option.toList, List.cons_append, List.nil_append, List.set_cons_zero, List.set_cons_succ, List.length_cons, List.length_nil, true_and, and_true, Nat.reduceLT, Nat.reduceLeDiff, Nat.zero_le, Nat.le_refl, RI_i, RI_z0, RI_z1, Int32.reduceOfInt, Int8.reduceOfInt, Int16.reduceOfInt, Int64.reduceOfInt, Int8.toInt32_ofNat, Int16.toInt32_ofNat, Int.reduceNeg, Int32.ofInt_neg, Int8.ofInt_neg, Int16.ofInt_neg, Int32.toInt64_ofNat, Int32.reduceToNatClampNeg, Fin.isValue, Fin.val_one, Fin.val_zero, Fin.val_two, Int64.reduceOfNat, Int32.reduceOfNat, hdl, cutc, Nat.reduceEqDiff, reduceIte, FV, tyC, tyX0, tyX1, tyX2, tyX3, tyX4, tyX5, tyX6, tyX7, tyX8, tyX9, tyX10, Nat.reduceMul, c_le, c_lt, c_eq, c_in, c_cl, c_add, c_rem, c_ofN, Int32.add_zero, Int32.zero_add, c_lt0, c_ge0, c_le0, c_gt0, c_e0, c_m1, c_m1', false_implies, true_implies, implies_true, not_false_eq_true, not_true_eq_false, Nat.not_lt_zero, up_s, up_1, up_m, eq_self, Nat.add_zero, lg_self, ffc_1682, ffk_1682, bbL_law_1682, bbL_law_1718, bbL_law_1735, cl_1, ca_1, LSt, b1, b2, b3, bL, h1, h2, h3, hc0, hc1, hc2, hs0, hs6, hs12, vi, hm2]
  refine sp10_numberAt hM2 hU _ (fun w3 hM3 hf3 => ?_)
  have hX3 := hX2.fr hf3 (by omega)
  have ho3 := (hf3.at (by omega)).trans ho2
  obtain ⟨l3, hm3⟩ := hM3.cell
  unfold holdL
  simp only [List.getElem?_cons_zero, List.getElem?_cons_succ, fv4, Nat.reduceAdd, Nat.reduceSub, wpL, pst, stpL, LG, lput, ls_tl, two, bc, EL, pad, popN, csum, Option.toList, List.cons_append, List.nil_append, List.set_cons_zero, List.set_cons_succ, List.length_cons, List.length_nil, true_and, and_true, Nat.reduceLT, Nat.reduceLeDiff, Nat.zero_le, Nat.le_refl, RI_i, RI_z0, RI_z1, Int32.reduceOfInt, Int8.reduceOfInt, Int16.reduceOfInt, Int64.reduceOfInt, Int8.toInt32_ofNat, Int16.toInt32_ofNat, Int.reduceNeg, Int32.ofInt_neg, Int8.ofInt_neg, Int16.ofInt_neg, Int32.toInt64_ofNat, Int32.reduceToNatClampNeg, Fin.isValue, Fin.val_one, Fin.val_zero, Fin.val_two, Int64.reduceOfNat, Int32.reduceOfNat, hdl, cutc, Nat.reduceEqDiff, reduceIte, FV, tyC, tyX0, tyX1, tyX2, tyX3, tyX4, tyX5, tyX6, tyX7, tyX8, tyX9, tyX10, Nat.reduceMul, c_le, c_lt, c_eq, c_in, c_cl, c_add, c_rem, c_ofN, Int32.add_zero, Int32.zero_add, c_lt0, c_ge0, c_le0, c_gt0, c_e0, c_m1, c_m1', false_implies, true_implies, implies_true, not_false_eq_true, not_true_eq_false, Nat.not_lt_zero, up_s, up_1, up_m, eq_self, Nat.add_zero, lg_self, ffc_1682, ffk_1682, bbL_law_1682, bbL_law_1718, bbL_law_1735, cl_1, ca_1, LSt, b1, b2, b3, bL, h1, h2, h3, hc0, hc1, hc2, hs0, hs6, hs12, vi, hm3]
  refine sp10_thr hM3 ?_
  refine lw_fin (c := _) hv ?_ (fun kz hv0 => ?_) (fun kz => ?_)
  · exact cb_v_numberAt _ _
  · unfold holdL
    simp only [List.getElem?_cons_zero, List.getElem?_cons_succ, fv4, Nat.reduceAdd, Nat.reduceSub, wpL, pst, stpL, LG, lput, ls_tl, two, bc, EL, pad, popN, csum, Option.toList, List.cons_append, List.nil_append, List.set_cons_zero, List.set_cons_succ, List.length_cons, List.length_nil, true_and, and_true, Nat.reduceLT, Nat.reduceLeDiff, Nat.zero_le, Nat.le_refl, RI_i, RI_z0, RI_z1, Int32.reduceOfInt, Int8.reduceOfInt, Int16.reduceOfInt, Int64.reduceOfInt, Int8.toInt32_ofNat, Int16.toInt32_ofNat, Int.reduceNeg, Int32.ofInt_neg, Int8.ofInt_neg, Int16.ofInt_neg, Int32.toInt64_ofNat, Int32.reduceToNatClampNeg, Fin.isValue, Fin.val_one, Fin.val_zero, Fin.val_two, Int64.reduceOfNat, Int32.reduceOfNat, hdl, cutc, Nat.reduceEqDiff, reduceIte, FV, tyC, tyX0, tyX1, tyX2, tyX3, tyX4, tyX5, tyX6, tyX7, tyX8, tyX9, tyX10, Nat.reduceMul, c_le, c_lt, c_eq, c_in, c_cl, c_add, c_rem, c_ofN, Int32.add_zero, Int32.zero_add, c_lt0, c_ge0, c_le0, c_gt0, c_e0, c_m1, c_m1', false_implies, true_implies, implies_true, not_false_eq_true, not_true_eq_false, Nat.not_lt_zero, up_s, up_1, up_m, eq_self, Nat.add_zero, lg_self, ffc_1682, ffk_1682, bbL_law_1682, bbL_law_1718, bbL_law_1735, cl_1, ca_1, LSt, b1, b2, b3, bL, h1, h2, h3, hc0, hc1, hc2, hs0, hs6, hs12, vi, hm3, ho3, kz, hv0]
    exact hN _ _ _ _ _ _ _ _ _ ⟨hX3, hM3, hU, _, ho3⟩ (by omega) (by omega)
  · unfold holdL
    simp only [List.getElem?_cons_zero, List.getElem?_cons_succ, fv4, Nat.reduceAdd, Nat.reduceSub, wpL, pst, stpL, LG, lput, ls_tl, two, bc, EL, pad, popN, csum, Option.toList, List.cons_append, List.nil_append, List.set_cons_zero, List.set_cons_succ, List.length_cons, List.length_nil, true_and, and_true, Nat.reduceLT, Nat.reduceLeDiff, Nat.zero_le, Nat.le_refl, RI_i, RI_z0, RI_z1, Int32.reduceOfInt, Int8.reduceOfInt, Int16.reduceOfInt, Int64.reduceOfInt, Int8.toInt32_ofNat, Int16.toInt32_ofNat, Int.reduceNeg, Int32.ofInt_neg, Int8.ofInt_neg, Int16.ofInt_neg, Int32.toInt64_ofNat, Int32.reduceToNatClampNeg, Fin.isValue, Fin.val_one, Fin.val_zero, Fin.val_two, Int64.reduceOfNat, Int32.reduceOfNat, hdl, cutc, Nat.reduceEqDiff, reduceIte, FV, tyC, tyX0, tyX1, tyX2, tyX3, tyX4, tyX5, tyX6, tyX7, tyX8, tyX9, tyX10, Nat.reduceMul, c_le, c_lt, c_eq, c_in, c_cl, c_add, c_rem, c_ofN, Int32.add_zero, Int32.zero_add, c_lt0, c_ge0, c_le0, c_gt0, c_e0, c_m1, c_m1', false_implies, true_implies, implies_true, not_false_eq_true, not_true_eq_false, Nat.not_lt_zero, up_s, up_1, up_m, eq_self, Nat.add_zero, lg_self, ffc_1682, ffk_1682, bbL_law_1682, bbL_law_1718, bbL_law_1735, cl_1, ca_1, LSt, b1, b2, b3, bL, h1, h2, h3, hc0, hc1, hc2, hs0, hs6, hs12, vi, hm3, ho3, kz]
    exact hN _ _ _ _ _ _ _ _ _ ⟨hX3, hM3, hU, _, ho3⟩ (by omega) (by omega)
theorem lw_markers (hR : RDY w x th U) (hi : i + 3 < sL) (hL : sL ≤ 2048) (hc2 : cs + 2 ≤ 601024) (hs12 : ss + 12 ≤ 7293034) (l5 l6 l7 l8 : Option Value) (hN : NXT Γ n h sb sL sx x i cs ss) : GL Γ (mLL n h) QL XL sb sL sx 1738 (LSt sb x i l5 l6 l7 l8) [] none w cs ss := by
  obtain ⟨hX, hM, hU, f, ho⟩ := hR
  have hx := hX.cells.1
  have vi := vi_o
  have bi : i < 2147483648 := by omega
  have b1 : i + 1 < 2147483648 := by omega
  have b2 : i + 2 < 2147483648 := by omega
  have b3 : i + 3 < 2147483648 := by omega
  have bL : sL < 2147483648 := by omega
  have h1 : i + 1 < sL := by omega
  have h2 : i + 2 < sL := by omega
  have h3 : i + 3 < sL := by omega
  have hc0 : cs ≤ 601024 := by omega
  have hc1 : cs + 1 ≤ 601024 := by omega
  have hs0 : ss ≤ 7293034 := by omega
  have hs6 : ss + 6 ≤ 7293034 := by omega
  refine wpL_ok (kdc_1738 n h) 400 1738 bbL_law_1738 _ _ _ _ _ _ (ooL_law_1738 n h) ?_
  simp only [List.getElem?_cons_zero, List.getElem?_cons_succ, fv4, Nat.reduceAdd, Nat.reduceSub, wpL, pst, stpL, LG, lput, ls_tl, two, bc, EL, pad, popN, csum, Option.toList, List.cons_append, List.nil_append, List.set_cons_zero, List.set_cons_succ, List.length_cons, List.length_nil, true_and, and_true, Nat.reduceLT, Nat.reduceLeDiff, Nat.zero_le, Nat.le_refl, RI_i, RI_z0, RI_z1, Int32.reduceOfInt, Int8.reduceOfInt, Int16.reduceOfInt, Int64.reduceOfInt, Int8.toInt32_ofNat, Int16.toInt32_ofNat, Int.reduceNeg, Int32.ofInt_neg, Int8.ofInt_neg, Int16.ofInt_neg, Int32.toInt64_ofNat, Int32.reduceToNatClampNeg, Fin.isValue, Fin.val_one, Fin.val_zero, Fin.val_two, Int64.reduceOfNat, Int32.reduceOfNat, hdl, cutc, Nat.reduceEqDiff, reduceIte, FV, tyC, tyX0, tyX1, tyX2, tyX3, tyX4, tyX5, tyX6, tyX7, tyX8, tyX9, tyX10, Nat.reduceMul, c_le, c_lt, c_eq, c_in, c_cl, c_add, c_rem, c_ofN, Int32.add_zero, Int32.zero_add, c_lt0, c_ge0, c_le0, c_gt0, c_e0, c_m1, c_m1', false_implies, true_implies, implies_true, not_false_eq_true, not_true_eq_false, Nat.not_lt_zero, up_s, up_1, up_m, eq_self, Nat.add_zero, lg_self, ffc_1738, ffk_1738, bbL_law_1738, LSt, b1, b2, b3, bL, h1, h2, h3, hc0, hc1, hc2, hs0, hs6, hs12, vi, hx]
  refine sp9_markers hX hU ?_
  obtain ⟨l2, hm2⟩ := hM.cell
  unfold holdL
  simp only [List.getElem?_cons_zero, List.getElem?_cons_succ, fv4, Nat.reduceAdd, Nat.reduceSub, wpL, pst, stpL, LG, lput, ls_tl, two, bc, EL, pad, popN, csum, Option.toList, List.cons_append, List.nil_append, List.set_cons_zero, List.set_cons_succ, List.length_cons, List.length_nil, true_and, and_true, Nat.reduceLT, Nat.reduceLeDiff, Nat.zero_le, Nat.le_refl, RI_i, RI_z0, RI_z1, Int32.reduceOfInt, Int8.reduceOfInt, Int16.reduceOfInt, Int64.reduceOfInt, Int8.toInt32_ofNat, Int16.toInt32_ofNat, Int.reduceNeg, Int32.ofInt_neg, Int8.ofInt_neg, Int16.ofInt_neg, Int32.toInt64_ofNat, Int32.reduceToNatClampNeg, Fin.isValue, Fin.val_one, Fin.val_zero, Fin.val_two, Int64.reduceOfNat, Int32.reduceOfNat, hdl, cutc, Nat.reduceEqDiff, reduceIte, FV, tyC, tyX0, tyX1, tyX2, tyX3, tyX4, tyX5, tyX6, tyX7, tyX8, tyX9, tyX10, Nat.reduceMul, c_le, c_lt, c_eq, c_in, c_cl, c_add, c_rem, c_ofN, Int32.add_zero, Int32.zero_add, c_lt0, c_ge0, c_le0, c_gt0, c_e0, c_m1, c_m1', false_implies, true_implies, implies_true, not_false_eq_true, not_true_eq_false, Nat.not_lt_zero, up_s, up_1, up_m, eq_self, Nat.add_zero, lg_self, ffc_1738, ffk_1738, bbL_law_1738, LSt, b1, b2, b3, bL, h1, h2, h3, hc0, hc1, hc2, hs0, hs6, hs12, vi, hm2]
  refine sp10_markers hM hU (fun w3 hM3 hf3 => ?_)
  have hX3 := hX.fr hf3 (by omega)
  have ho3 := (hf3.at (by omega)).trans ho
  unfold holdL
  simp only [List.getElem?_cons_zero, List.getElem?_cons_succ, fv4, Nat.reduceAdd, Nat.reduceSub, wpL, pst, stpL, LG, lput, ls_tl, two, bc, EL, pad, popN, csum, Option.toList, List.cons_append, List.nil_append, List.set_cons_zero, List.set_cons_succ, List.length_cons, List.length_nil, true_and, and_true, Nat.reduceLT, Nat.reduceLeDiff, Nat.zero_le, Nat.le_refl, RI_i, RI_z0, RI_z1, Int32.reduceOfInt, Int8.reduceOfInt, Int16.reduceOfInt, Int64.reduceOfInt, Int8.toInt32_ofNat, Int16.toInt32_ofNat, Int.reduceNeg, Int32.ofInt_neg, Int8.ofInt_neg, Int16.ofInt_neg, Int32.toInt64_ofNat, Int32.reduceToNatClampNeg, Fin.isValue, Fin.val_one, Fin.val_zero, Fin.val_two, Int64.reduceOfNat, Int32.reduceOfNat, hdl, cutc, Nat.reduceEqDiff, reduceIte, FV, tyC, tyX0, tyX1, tyX2, tyX3, tyX4, tyX5, tyX6, tyX7, tyX8, tyX9, tyX10, Nat.reduceMul, c_le, c_lt, c_eq, c_in, c_cl, c_add, c_rem, c_ofN, Int32.add_zero, Int32.zero_add, c_lt0, c_ge0, c_le0, c_gt0, c_e0, c_m1, c_m1', false_implies, true_implies, implies_true, not_false_eq_true, not_true_eq_false, Nat.not_lt_zero, up_s, up_1, up_m, eq_self, Nat.add_zero, lg_self, ffc_1738, ffk_1738, bbL_law_1738, LSt, b1, b2, b3, bL, h1, h2, h3, hc0, hc1, hc2, hs0, hs6, hs12, vi]
  exact hN _ _ _ _ _ _ _ _ _ ⟨hX3, hM3, hU, _, ho3⟩ (by omega) (by omega)
theorem lw_isReceived (hR : RDY w x th U) (hi : i + 3 < sL) (hL : sL ≤ 2048) (hc2 : cs + 2 ≤ 601024) (hs12 : ss + 12 ≤ 7293034) (l5 l6 l7 l8 : Option Value) (hN : NXT Γ n h sb sL sx x i cs ss) : GL Γ (mLL n h) QL XL sb sL sx 1751 (LSt sb x i l5 l6 l7 l8) [] none w cs ss := by
  obtain ⟨hX, hM, hU, f, ho⟩ := hR
  have hx := hX.cells.1
  have vi := vi_o
  have bi : i < 2147483648 := by omega
  have b1 : i + 1 < 2147483648 := by omega
  have b2 : i + 2 < 2147483648 := by omega
  have b3 : i + 3 < 2147483648 := by omega
  have bL : sL < 2147483648 := by omega
  have h1 : i + 1 < sL := by omega
  have h2 : i + 2 < sL := by omega
  have h3 : i + 3 < sL := by omega
  have hc0 : cs ≤ 601024 := by omega
  have hc1 : cs + 1 ≤ 601024 := by omega
  have hs0 : ss ≤ 7293034 := by omega
  have hs6 : ss + 6 ≤ 7293034 := by omega
  refine wpL_ok (kdc_1751 n h) 400 1751 bbL_law_1751 _ _ _ _ _ _ (ooL_law_1751 n h) ?_
  simp only [List.getElem?_cons_zero, List.getElem?_cons_succ, fv4, Nat.reduceAdd, Nat.reduceSub, wpL, pst, stpL, LG, lput, ls_tl, two, bc, EL, pad, popN, csum, Option.toList, List.cons_append, List.nil_append, List.set_cons_zero, List.set_cons_succ, List.length_cons, List.length_nil, true_and, and_true, Nat.reduceLT, Nat.reduceLeDiff, Nat.zero_le, Nat.le_refl, RI_i, RI_z0, RI_z1, Int32.reduceOfInt, Int8.reduceOfInt, Int16.reduceOfInt, Int64.reduceOfInt, Int8.toInt32_ofNat, Int16.toInt32_ofNat, Int.reduceNeg, Int32.ofInt_neg, Int8.ofInt_neg, Int16.ofInt_neg, Int32.toInt64_ofNat, Int32.reduceToNatClampNeg, Fin.isValue, Fin.val_one, Fin.val_zero, Fin.val_two, Int64.reduceOfNat, Int32.reduceOfNat, hdl, cutc, Nat.reduceEqDiff, reduceIte, FV, tyC, tyX0, tyX1, tyX2, tyX3, tyX4, tyX5, tyX6, tyX7, tyX8, tyX9, tyX10, Nat.reduceMul, c_le, c_lt, c_eq, c_in, c_cl, c_add, c_rem, c_ofN, Int32.add_zero, Int32.zero_add, c_lt0, c_ge0, c_le0, c_gt0, c_e0, c_m1, c_m1', false_implies, true_implies, implies_true, not_false_eq_true, not_true_eq_false, Nat.not_lt_zero, up_s, up_1, up_m, eq_self, Nat.add_zero, lg_self, ffc_1751, ffk_1751, bbL_law_1751, bbL_law_1787, bbL_law_1804, bbL_law_1805, bbL_law_1811, cl_1, ca_1, LSt, b1, b2, b3, bL, h1, h2, h3, hc0, hc1, hc2, hs0, hs6, hs12, vi]
  refine spL_isReceived hX hU (by omega) ho _ (fun w1 w2 f2 hX2 hf1 hf2 ho2 hv => ?_)
  have hM2 := (hM.fr hf1 (by omega)).fr hf2 (by omega)
  obtain ⟨l2, hm2⟩ := hM2.cell
  unfold holdL
  simp only [List.getElem?_cons_zero, List.getElem?_cons_succ, fv4, Nat.reduceAdd, Nat.reduceSub, wpL, pst, stpL, LG, lput, ls_tl, two, bc, EL, pad, popN, csum, Option.toList, List.cons_append, List.nil_append, List.set_cons_zero, List.set_cons_succ, List.length_cons, List.length_nil, true_and, and_true, Nat.reduceLT, Nat.reduceLeDiff, Nat.zero_le, Nat.le_refl, RI_i, RI_z0, RI_z1, Int32.reduceOfInt, Int8.reduceOfInt, Int16.reduceOfInt, Int64.reduceOfInt, Int8.toInt32_ofNat, Int16.toInt32_ofNat, Int.reduceNeg, Int32.ofInt_neg, Int8.ofInt_neg, Int16.ofInt_neg, Int32.toInt64_ofNat, Int32.reduceToNatClampNeg, Fin.isValue, Fin.val_one, Fin.val_zero, Fin.val_two, Int64.reduceOfNat, Int32.reduceOfNat, hdl, cutc, Nat.reduceEqDiff, reduceIte, FV, tyC, tyX0, tyX1, tyX2, tyX3, tyX4, tyX5, tyX6, tyX7, tyX8, tyX9, tyX10, Nat.reduceMul, c_le, c_lt, c_eq, c_in, c_cl, c_add, c_rem, c_ofN, Int32.add_zero, Int32.zero_add, c_lt0, c_ge0, c_le0, c_gt0, c_e0, c_m1, c_m1', false_implies, true_implies, implies_true, not_false_eq_true, not_true_eq_false, Nat.not_lt_zero, up_s, up_1, up_m, eq_self, Nat.add_zero, lg_self, ffc_1751, ffk_1751, bbL_law_1751, bbL_law_1787, bbL_law_1804, bbL_law_1805, bbL_law_1811, cl_1, ca_1, LSt, b1, b2, b3, bL, h1, h2, h3, hc0, hc1, hc2, hs0, hs6, hs12, vi, hm2]
  refine sp10_isReceived hM2 hU _ (fun w3 hM3 hf3 => ?_)
  have hX3 := hX2.fr hf3 (by omega)
  have ho3 := (hf3.at (by omega)).trans ho2
  obtain ⟨l3, hm3⟩ := hM3.cell
  unfold holdL
  simp only [List.getElem?_cons_zero, List.getElem?_cons_succ, fv4, Nat.reduceAdd, Nat.reduceSub, wpL, pst, stpL, LG, lput, ls_tl, two, bc, EL, pad, popN, csum, Option.toList, List.cons_append, List.nil_append, List.set_cons_zero, List.set_cons_succ, List.length_cons, List.length_nil, true_and, and_true, Nat.reduceLT, Nat.reduceLeDiff, Nat.zero_le, Nat.le_refl, RI_i, RI_z0, RI_z1, Int32.reduceOfInt, Int8.reduceOfInt, Int16.reduceOfInt, Int64.reduceOfInt, Int8.toInt32_ofNat, Int16.toInt32_ofNat, Int.reduceNeg, Int32.ofInt_neg, Int8.ofInt_neg, Int16.ofInt_neg, Int32.toInt64_ofNat, Int32.reduceToNatClampNeg, Fin.isValue, Fin.val_one, Fin.val_zero, Fin.val_two, Int64.reduceOfNat, Int32.reduceOfNat, hdl, cutc, Nat.reduceEqDiff, reduceIte, FV, tyC, tyX0, tyX1, tyX2, tyX3, tyX4, tyX5, tyX6, tyX7, tyX8, tyX9, tyX10, Nat.reduceMul, c_le, c_lt, c_eq, c_in, c_cl, c_add, c_rem, c_ofN, Int32.add_zero, Int32.zero_add, c_lt0, c_ge0, c_le0, c_gt0, c_e0, c_m1, c_m1', false_implies, true_implies, implies_true, not_false_eq_true, not_true_eq_false, Nat.not_lt_zero, up_s, up_1, up_m, eq_self, Nat.add_zero, lg_self, ffc_1751, ffk_1751, bbL_law_1751, bbL_law_1787, bbL_law_1804, bbL_law_1805, bbL_law_1811, cl_1, ca_1, LSt, b1, b2, b3, bL, h1, h2, h3, hc0, hc1, hc2, hs0, hs6, hs12, vi, hm3]
  refine sp10_thr hM3 ?_
  refine lw_fin (c := _) hv ?_ (fun kz hv0 => ?_) (fun kz => ?_)
  · exact cb_v_isReceived _ _
  · unfold holdL
    simp only [List.getElem?_cons_zero, List.getElem?_cons_succ, fv4, Nat.reduceAdd, Nat.reduceSub, wpL, pst, stpL, LG, lput, ls_tl, two, bc, EL, pad, popN, csum, Option.toList, List.cons_append, List.nil_append, List.set_cons_zero, List.set_cons_succ, List.length_cons, List.length_nil, true_and, and_true, Nat.reduceLT, Nat.reduceLeDiff, Nat.zero_le, Nat.le_refl, RI_i, RI_z0, RI_z1, Int32.reduceOfInt, Int8.reduceOfInt, Int16.reduceOfInt, Int64.reduceOfInt, Int8.toInt32_ofNat, Int16.toInt32_ofNat, Int.reduceNeg, Int32.ofInt_neg, Int8.ofInt_neg, Int16.ofInt_neg, Int32.toInt64_ofNat, Int32.reduceToNatClampNeg, Fin.isValue, Fin.val_one, Fin.val_zero, Fin.val_two, Int64.reduceOfNat, Int32.reduceOfNat, hdl, cutc, Nat.reduceEqDiff, reduceIte, FV, tyC, tyX0, tyX1, tyX2, tyX3, tyX4, tyX5, tyX6, tyX7, tyX8, tyX9, tyX10, Nat.reduceMul, c_le, c_lt, c_eq, c_in, c_cl, c_add, c_rem, c_ofN, Int32.add_zero, Int32.zero_add, c_lt0, c_ge0, c_le0, c_gt0, c_e0, c_m1, c_m1', false_implies, true_implies, implies_true, not_false_eq_true, not_true_eq_false, Nat.not_lt_zero, up_s, up_1, up_m, eq_self, Nat.add_zero, lg_self, ffc_1751, ffk_1751, bbL_law_1751, bbL_law_1787, bbL_law_1804, bbL_law_1805, bbL_law_1811, cl_1, ca_1, LSt, b1, b2, b3, bL, h1, h2, h3, hc0, hc1, hc2, hs0, hs6, hs12, vi, hm3, ho3, kz, hv0]
    refine ⟨fun c0 => ⟨fun _ => hN _ _ _ _ _ _ _ _ _ ⟨hX3, hM3, hU, _, ho3⟩ (by omega) (by omega), fun hh => absurd ?_ hh⟩, fun c0 => ⟨fun _ => hN _ _ _ _ _ _ _ _ _ ⟨hX3, hM3, hU, _, ho3⟩ (by omega) (by omega), fun hh => absurd ?_ hh⟩⟩
    · rw [if_pos c0]; exact lg_self 0
    · rw [if_neg c0]; exact lg_self 1
  · unfold holdL
    simp only [List.getElem?_cons_zero, List.getElem?_cons_succ, fv4, Nat.reduceAdd, Nat.reduceSub, wpL, pst, stpL, LG, lput, ls_tl, two, bc, EL, pad, popN, csum, Option.toList, List.cons_append, List.nil_append, List.set_cons_zero, List.set_cons_succ, List.length_cons, List.length_nil, true_and, and_true, Nat.reduceLT, Nat.reduceLeDiff, Nat.zero_le, Nat.le_refl, RI_i, RI_z0, RI_z1, Int32.reduceOfInt, Int8.reduceOfInt, Int16.reduceOfInt, Int64.reduceOfInt, Int8.toInt32_ofNat, Int16.toInt32_ofNat, Int.reduceNeg, Int32.ofInt_neg, Int8.ofInt_neg, Int16.ofInt_neg, Int32.toInt64_ofNat, Int32.reduceToNatClampNeg, Fin.isValue, Fin.val_one, Fin.val_zero, Fin.val_two, Int64.reduceOfNat, Int32.reduceOfNat, hdl, cutc, Nat.reduceEqDiff, reduceIte, FV, tyC, tyX0, tyX1, tyX2, tyX3, tyX4, tyX5, tyX6, tyX7, tyX8, tyX9, tyX10, Nat.reduceMul, c_le, c_lt, c_eq, c_in, c_cl, c_add, c_rem, c_ofN, Int32.add_zero, Int32.zero_add, c_lt0, c_ge0, c_le0, c_gt0, c_e0, c_m1, c_m1', false_implies, true_implies, implies_true, not_false_eq_true, not_true_eq_false, Nat.not_lt_zero, up_s, up_1, up_m, eq_self, Nat.add_zero, lg_self, ffc_1751, ffk_1751, bbL_law_1751, bbL_law_1787, bbL_law_1804, bbL_law_1805, bbL_law_1811, cl_1, ca_1, LSt, b1, b2, b3, bL, h1, h2, h3, hc0, hc1, hc2, hs0, hs6, hs12, vi, hm3, ho3, kz]
    exact hN _ _ _ _ _ _ _ _ _ ⟨hX3, hM3, hU, _, ho3⟩ (by omega) (by omega)
theorem lw_receivedPixels (hR : RDY w x th U) (hi : i + 3 < sL) (hL : sL ≤ 2048) (hc2 : cs + 2 ≤ 601024) (hs12 : ss + 12 ≤ 7293034) (l5 l6 l7 l8 : Option Value) (hN : NXT Γ n h sb sL sx x i cs ss) : GL Γ (mLL n h) QL XL sb sL sx 1814 (LSt sb x i l5 l6 l7 l8) [] none w cs ss := by
  obtain ⟨hX, hM, hU, f, ho⟩ := hR
  have hx := hX.cells.1
  have vi := vi_o
  have bi : i < 2147483648 := by omega
  have b1 : i + 1 < 2147483648 := by omega
  have b2 : i + 2 < 2147483648 := by omega
  have b3 : i + 3 < 2147483648 := by omega
  have bL : sL < 2147483648 := by omega
  have h1 : i + 1 < sL := by omega
  have h2 : i + 2 < sL := by omega
  have h3 : i + 3 < sL := by omega
  have hc0 : cs ≤ 601024 := by omega
  have hc1 : cs + 1 ≤ 601024 := by omega
  have hs0 : ss ≤ 7293034 := by omega
  have hs6 : ss + 6 ≤ 7293034 := by omega
  refine wpL_ok (kdc_1814 n h) 400 1814 bbL_law_1814 _ _ _ _ _ _ (ooL_law_1814 n h) ?_
  simp only [List.getElem?_cons_zero, List.getElem?_cons_succ, fv4, Nat.reduceAdd, Nat.reduceSub, wpL, pst, stpL, LG, lput, ls_tl, two, bc, EL, pad, popN, csum, Option.toList, List.cons_append, List.nil_append, List.set_cons_zero, List.set_cons_succ, List.length_cons, List.length_nil, true_and, and_true, Nat.reduceLT, Nat.reduceLeDiff, Nat.zero_le, Nat.le_refl, RI_i, RI_z0, RI_z1, Int32.reduceOfInt, Int8.reduceOfInt, Int16.reduceOfInt, Int64.reduceOfInt, Int8.toInt32_ofNat, Int16.toInt32_ofNat, Int.reduceNeg, Int32.ofInt_neg, Int8.ofInt_neg, Int16.ofInt_neg, Int32.toInt64_ofNat, Int32.reduceToNatClampNeg, Fin.isValue, Fin.val_one, Fin.val_zero, Fin.val_two, Int64.reduceOfNat, Int32.reduceOfNat, hdl, cutc, Nat.reduceEqDiff, reduceIte, FV, tyC, tyX0, tyX1, tyX2, tyX3, tyX4, tyX5, tyX6, tyX7, tyX8, tyX9, tyX10, Nat.reduceMul, c_le, c_lt, c_eq, c_in, c_cl, c_add, c_rem, c_ofN, Int32.add_zero, Int32.zero_add, c_lt0, c_ge0, c_le0, c_gt0, c_e0, c_m1, c_m1', false_implies, true_implies, implies_true, not_false_eq_true, not_true_eq_false, Nat.not_lt_zero, up_s, up_1, up_m, eq_self, Nat.add_zero, lg_self, ffc_1814, ffk_1814, bbL_law_1814, bbL_law_1850, bbL_law_1866, cl_1, ca_1, LSt, b1, b2, b3, bL, h1, h2, h3, hc0, hc1, hc2, hs0, hs6, hs12, vi]
  refine spL_receivedPixels hX hU (by omega) ho _ (fun w1 w2 f2 hX2 hf1 hf2 ho2 hv => ?_)
  have hM2 := (hM.fr hf1 (by omega)).fr hf2 (by omega)
  obtain ⟨l2, hm2⟩ := hM2.cell
  unfold holdL
  simp only [List.getElem?_cons_zero, List.getElem?_cons_succ, fv4, Nat.reduceAdd, Nat.reduceSub, wpL, pst, stpL, LG, lput, ls_tl, two, bc, EL, pad, popN, csum, Option.toList, List.cons_append, List.nil_append, List.set_cons_zero, List.set_cons_succ, List.length_cons, List.length_nil, true_and, and_true, Nat.reduceLT, Nat.reduceLeDiff, Nat.zero_le, Nat.le_refl, RI_i, RI_z0, RI_z1, Int32.reduceOfInt, Int8.reduceOfInt, Int16.reduceOfInt, Int64.reduceOfInt, Int8.toInt32_ofNat, Int16.toInt32_ofNat, Int.reduceNeg, Int32.ofInt_neg, Int8.ofInt_neg, Int16.ofInt_neg, Int32.toInt64_ofNat, Int32.reduceToNatClampNeg, Fin.isValue, Fin.val_one, Fin.val_zero, Fin.val_two, Int64.reduceOfNat, Int32.reduceOfNat, hdl, cutc, Nat.reduceEqDiff, reduceIte, FV, tyC, tyX0, tyX1, tyX2, tyX3, tyX4, tyX5, tyX6, tyX7, tyX8, tyX9, tyX10, Nat.reduceMul, c_le, c_lt, c_eq, c_in, c_cl, c_add, c_rem, c_ofN, Int32.add_zero, Int32.zero_add, c_lt0, c_ge0, c_le0, c_gt0, c_e0, c_m1, c_m1', false_implies, true_implies, implies_true, not_false_eq_true, not_true_eq_false, Nat.not_lt_zero, up_s, up_1, up_m, eq_self, Nat.add_zero, lg_self, ffc_1814, ffk_1814, bbL_law_1814, bbL_law_1850, bbL_law_1866, cl_1, ca_1, LSt, b1, b2, b3, bL, h1, h2, h3, hc0, hc1, hc2, hs0, hs6, hs12, vi, hm2]
  refine sp10_receivedPixels hM2 hU _ (fun w3 hM3 hf3 => ?_)
  have hX3 := hX2.fr hf3 (by omega)
  have ho3 := (hf3.at (by omega)).trans ho2
  obtain ⟨l3, hm3⟩ := hM3.cell
  unfold holdL
  simp only [List.getElem?_cons_zero, List.getElem?_cons_succ, fv4, Nat.reduceAdd, Nat.reduceSub, wpL, pst, stpL, LG, lput, ls_tl, two, bc, EL, pad, popN, csum, Option.toList, List.cons_append, List.nil_append, List.set_cons_zero, List.set_cons_succ, List.length_cons, List.length_nil, true_and, and_true, Nat.reduceLT, Nat.reduceLeDiff, Nat.zero_le, Nat.le_refl, RI_i, RI_z0, RI_z1, Int32.reduceOfInt, Int8.reduceOfInt, Int16.reduceOfInt, Int64.reduceOfInt, Int8.toInt32_ofNat, Int16.toInt32_ofNat, Int.reduceNeg, Int32.ofInt_neg, Int8.ofInt_neg, Int16.ofInt_neg, Int32.toInt64_ofNat, Int32.reduceToNatClampNeg, Fin.isValue, Fin.val_one, Fin.val_zero, Fin.val_two, Int64.reduceOfNat, Int32.reduceOfNat, hdl, cutc, Nat.reduceEqDiff, reduceIte, FV, tyC, tyX0, tyX1, tyX2, tyX3, tyX4, tyX5, tyX6, tyX7, tyX8, tyX9, tyX10, Nat.reduceMul, c_le, c_lt, c_eq, c_in, c_cl, c_add, c_rem, c_ofN, Int32.add_zero, Int32.zero_add, c_lt0, c_ge0, c_le0, c_gt0, c_e0, c_m1, c_m1', false_implies, true_implies, implies_true, not_false_eq_true, not_true_eq_false, Nat.not_lt_zero, up_s, up_1, up_m, eq_self, Nat.add_zero, lg_self, ffc_1814, ffk_1814, bbL_law_1814, bbL_law_1850, bbL_law_1866, cl_1, ca_1, LSt, b1, b2, b3, bL, h1, h2, h3, hc0, hc1, hc2, hs0, hs6, hs12, vi, hm3]
  refine sp10_thr hM3 ?_
  refine lw_fin (c := _) hv ?_ (fun kz hv0 => ?_) (fun kz => ?_)
  · exact cb_v_receivedPixels _ _
  · unfold holdL
    simp only [List.getElem?_cons_zero, List.getElem?_cons_succ, fv4, Nat.reduceAdd, Nat.reduceSub, wpL, pst, stpL, LG, lput, ls_tl, two, bc, EL, pad, popN, csum, Option.toList, List.cons_append, List.nil_append, List.set_cons_zero, List.set_cons_succ, List.length_cons, List.length_nil, true_and, and_true, Nat.reduceLT, Nat.reduceLeDiff, Nat.zero_le, Nat.le_refl, RI_i, RI_z0, RI_z1, Int32.reduceOfInt, Int8.reduceOfInt, Int16.reduceOfInt, Int64.reduceOfInt, Int8.toInt32_ofNat, Int16.toInt32_ofNat, Int.reduceNeg, Int32.ofInt_neg, Int8.ofInt_neg, Int16.ofInt_neg, Int32.toInt64_ofNat, Int32.reduceToNatClampNeg, Fin.isValue, Fin.val_one, Fin.val_zero, Fin.val_two, Int64.reduceOfNat, Int32.reduceOfNat, hdl, cutc, Nat.reduceEqDiff, reduceIte, FV, tyC, tyX0, tyX1, tyX2, tyX3, tyX4, tyX5, tyX6, tyX7, tyX8, tyX9, tyX10, Nat.reduceMul, c_le, c_lt, c_eq, c_in, c_cl, c_add, c_rem, c_ofN, Int32.add_zero, Int32.zero_add, c_lt0, c_ge0, c_le0, c_gt0, c_e0, c_m1, c_m1', false_implies, true_implies, implies_true, not_false_eq_true, not_true_eq_false, Nat.not_lt_zero, up_s, up_1, up_m, eq_self, Nat.add_zero, lg_self, ffc_1814, ffk_1814, bbL_law_1814, bbL_law_1850, bbL_law_1866, cl_1, ca_1, LSt, b1, b2, b3, bL, h1, h2, h3, hc0, hc1, hc2, hs0, hs6, hs12, vi, hm3, ho3, kz, hv0]
    exact hN _ _ _ _ _ _ _ _ _ ⟨hX3, hM3, hU, _, ho3⟩ (by omega) (by omega)
  · unfold holdL
    simp only [List.getElem?_cons_zero, List.getElem?_cons_succ, fv4, Nat.reduceAdd, Nat.reduceSub, wpL, pst, stpL, LG, lput, ls_tl, two, bc, EL, pad, popN, csum, Option.toList, List.cons_append, List.nil_append, List.set_cons_zero, List.set_cons_succ, List.length_cons, List.length_nil, true_and, and_true, Nat.reduceLT, Nat.reduceLeDiff, Nat.zero_le, Nat.le_refl, RI_i, RI_z0, RI_z1, Int32.reduceOfInt, Int8.reduceOfInt, Int16.reduceOfInt, Int64.reduceOfInt, Int8.toInt32_ofNat, Int16.toInt32_ofNat, Int.reduceNeg, Int32.ofInt_neg, Int8.ofInt_neg, Int16.ofInt_neg, Int32.toInt64_ofNat, Int32.reduceToNatClampNeg, Fin.isValue, Fin.val_one, Fin.val_zero, Fin.val_two, Int64.reduceOfNat, Int32.reduceOfNat, hdl, cutc, Nat.reduceEqDiff, reduceIte, FV, tyC, tyX0, tyX1, tyX2, tyX3, tyX4, tyX5, tyX6, tyX7, tyX8, tyX9, tyX10, Nat.reduceMul, c_le, c_lt, c_eq, c_in, c_cl, c_add, c_rem, c_ofN, Int32.add_zero, Int32.zero_add, c_lt0, c_ge0, c_le0, c_gt0, c_e0, c_m1, c_m1', false_implies, true_implies, implies_true, not_false_eq_true, not_true_eq_false, Nat.not_lt_zero, up_s, up_1, up_m, eq_self, Nat.add_zero, lg_self, ffc_1814, ffk_1814, bbL_law_1814, bbL_law_1850, bbL_law_1866, cl_1, ca_1, LSt, b1, b2, b3, bL, h1, h2, h3, hc0, hc1, hc2, hs0, hs6, hs12, vi, hm3, ho3, kz]
    exact hN _ _ _ _ _ _ _ _ _ ⟨hX3, hM3, hU, _, ho3⟩ (by omega) (by omega)
theorem lw_received (hR : RDY w x th U) (hi : i + 3 < sL) (hL : sL ≤ 2048) (hc2 : cs + 2 ≤ 601024) (hs12 : ss + 12 ≤ 7293034) (l5 l6 l7 l8 : Option Value) (hN : NXT Γ n h sb sL sx x i cs ss) : GL Γ (mLL n h) QL XL sb sL sx 1869 (LSt sb x i l5 l6 l7 l8) [] none w cs ss := by
  obtain ⟨hX, hM, hU, f, ho⟩ := hR
  have hx := hX.cells.1
  have vi := vi_o
  have bi : i < 2147483648 := by omega
  have b1 : i + 1 < 2147483648 := by omega
  have b2 : i + 2 < 2147483648 := by omega
  have b3 : i + 3 < 2147483648 := by omega
  have bL : sL < 2147483648 := by omega
  have h1 : i + 1 < sL := by omega
  have h2 : i + 2 < sL := by omega
  have h3 : i + 3 < sL := by omega
  have hc0 : cs ≤ 601024 := by omega
  have hc1 : cs + 1 ≤ 601024 := by omega
  have hs0 : ss ≤ 7293034 := by omega
  have hs6 : ss + 6 ≤ 7293034 := by omega
  refine wpL_ok (kdc_1869 n h) 400 1869 bbL_law_1869 _ _ _ _ _ _ (ooL_law_1869 n h) ?_
  simp only [List.getElem?_cons_zero, List.getElem?_cons_succ, fv4, Nat.reduceAdd, Nat.reduceSub, wpL, pst, stpL, LG, lput, ls_tl, two, bc, EL, pad, popN, csum, Option.toList, List.cons_append, List.nil_append, List.set_cons_zero, List.set_cons_succ, List.length_cons, List.length_nil, true_and, and_true, Nat.reduceLT, Nat.reduceLeDiff, Nat.zero_le, Nat.le_refl, RI_i, RI_z0, RI_z1, Int32.reduceOfInt, Int8.reduceOfInt, Int16.reduceOfInt, Int64.reduceOfInt, Int8.toInt32_ofNat, Int16.toInt32_ofNat, Int.reduceNeg, Int32.ofInt_neg, Int8.ofInt_neg, Int16.ofInt_neg, Int32.toInt64_ofNat, Int32.reduceToNatClampNeg, Fin.isValue, Fin.val_one, Fin.val_zero, Fin.val_two, Int64.reduceOfNat, Int32.reduceOfNat, hdl, cutc, Nat.reduceEqDiff, reduceIte, FV, tyC, tyX0, tyX1, tyX2, tyX3, tyX4, tyX5, tyX6, tyX7, tyX8, tyX9, tyX10, Nat.reduceMul, c_le, c_lt, c_eq, c_in, c_cl, c_add, c_rem, c_ofN, Int32.add_zero, Int32.zero_add, c_lt0, c_ge0, c_le0, c_gt0, c_e0, c_m1, c_m1', false_implies, true_implies, implies_true, not_false_eq_true, not_true_eq_false, Nat.not_lt_zero, up_s, up_1, up_m, eq_self, Nat.add_zero, lg_self, ffc_1869, ffk_1869, bbL_law_1869, LSt, b1, b2, b3, bL, h1, h2, h3, hc0, hc1, hc2, hs0, hs6, hs12, vi, hx]
  refine sp9_received hX ?_
  obtain ⟨l2, hm2⟩ := hM.cell
  unfold holdL
  simp only [List.getElem?_cons_zero, List.getElem?_cons_succ, fv4, Nat.reduceAdd, Nat.reduceSub, wpL, pst, stpL, LG, lput, ls_tl, two, bc, EL, pad, popN, csum, Option.toList, List.cons_append, List.nil_append, List.set_cons_zero, List.set_cons_succ, List.length_cons, List.length_nil, true_and, and_true, Nat.reduceLT, Nat.reduceLeDiff, Nat.zero_le, Nat.le_refl, RI_i, RI_z0, RI_z1, Int32.reduceOfInt, Int8.reduceOfInt, Int16.reduceOfInt, Int64.reduceOfInt, Int8.toInt32_ofNat, Int16.toInt32_ofNat, Int.reduceNeg, Int32.ofInt_neg, Int8.ofInt_neg, Int16.ofInt_neg, Int32.toInt64_ofNat, Int32.reduceToNatClampNeg, Fin.isValue, Fin.val_one, Fin.val_zero, Fin.val_two, Int64.reduceOfNat, Int32.reduceOfNat, hdl, cutc, Nat.reduceEqDiff, reduceIte, FV, tyC, tyX0, tyX1, tyX2, tyX3, tyX4, tyX5, tyX6, tyX7, tyX8, tyX9, tyX10, Nat.reduceMul, c_le, c_lt, c_eq, c_in, c_cl, c_add, c_rem, c_ofN, Int32.add_zero, Int32.zero_add, c_lt0, c_ge0, c_le0, c_gt0, c_e0, c_m1, c_m1', false_implies, true_implies, implies_true, not_false_eq_true, not_true_eq_false, Nat.not_lt_zero, up_s, up_1, up_m, eq_self, Nat.add_zero, lg_self, ffc_1869, ffk_1869, bbL_law_1869, LSt, b1, b2, b3, bL, h1, h2, h3, hc0, hc1, hc2, hs0, hs6, hs12, vi, hm2]
  refine sp10_received hM hU (fun w3 hM3 hf3 => ?_)
  have hX3 := hX.fr hf3 (by omega)
  have ho3 := (hf3.at (by omega)).trans ho
  unfold holdL
  simp only [List.getElem?_cons_zero, List.getElem?_cons_succ, fv4, Nat.reduceAdd, Nat.reduceSub, wpL, pst, stpL, LG, lput, ls_tl, two, bc, EL, pad, popN, csum, Option.toList, List.cons_append, List.nil_append, List.set_cons_zero, List.set_cons_succ, List.length_cons, List.length_nil, true_and, and_true, Nat.reduceLT, Nat.reduceLeDiff, Nat.zero_le, Nat.le_refl, RI_i, RI_z0, RI_z1, Int32.reduceOfInt, Int8.reduceOfInt, Int16.reduceOfInt, Int64.reduceOfInt, Int8.toInt32_ofNat, Int16.toInt32_ofNat, Int.reduceNeg, Int32.ofInt_neg, Int8.ofInt_neg, Int16.ofInt_neg, Int32.toInt64_ofNat, Int32.reduceToNatClampNeg, Fin.isValue, Fin.val_one, Fin.val_zero, Fin.val_two, Int64.reduceOfNat, Int32.reduceOfNat, hdl, cutc, Nat.reduceEqDiff, reduceIte, FV, tyC, tyX0, tyX1, tyX2, tyX3, tyX4, tyX5, tyX6, tyX7, tyX8, tyX9, tyX10, Nat.reduceMul, c_le, c_lt, c_eq, c_in, c_cl, c_add, c_rem, c_ofN, Int32.add_zero, Int32.zero_add, c_lt0, c_ge0, c_le0, c_gt0, c_e0, c_m1, c_m1', false_implies, true_implies, implies_true, not_false_eq_true, not_true_eq_false, Nat.not_lt_zero, up_s, up_1, up_m, eq_self, Nat.add_zero, lg_self, ffc_1869, ffk_1869, bbL_law_1869, LSt, b1, b2, b3, bL, h1, h2, h3, hc0, hc1, hc2, hs0, hs6, hs12, vi]
  exact hN _ _ _ _ _ _ _ _ _ ⟨hX3, hM3, hU, _, ho3⟩ (by omega) (by omega)
theorem lw_right (hR : RDY w x th U) (hi : i + 3 < sL) (hL : sL ≤ 2048) (hc2 : cs + 2 ≤ 601024) (hs12 : ss + 12 ≤ 7293034) (l5 l6 l7 l8 : Option Value) (hN : NXT Γ n h sb sL sx x i cs ss) : GL Γ (mLL n h) QL XL sb sL sx 1882 (LSt sb x i l5 l6 l7 l8) [] none w cs ss := by
  obtain ⟨hX, hM, hU, f, ho⟩ := hR
  have hx := hX.cells.1
  have vi := vi_o
  have bi : i < 2147483648 := by omega
  have b1 : i + 1 < 2147483648 := by omega
  have b2 : i + 2 < 2147483648 := by omega
  have b3 : i + 3 < 2147483648 := by omega
  have bL : sL < 2147483648 := by omega
  have h1 : i + 1 < sL := by omega
  have h2 : i + 2 < sL := by omega
  have h3 : i + 3 < sL := by omega
  have hc0 : cs ≤ 601024 := by omega
  have hc1 : cs + 1 ≤ 601024 := by omega
  have hs0 : ss ≤ 7293034 := by omega
  have hs6 : ss + 6 ≤ 7293034 := by omega
  refine wpL_ok (kdc_1882 n h) 400 1882 bbL_law_1882 _ _ _ _ _ _ (ooL_law_1882 n h) ?_
  simp only [List.getElem?_cons_zero, List.getElem?_cons_succ, fv4, Nat.reduceAdd, Nat.reduceSub, wpL, pst, stpL, LG, lput, ls_tl, two, bc, EL, pad, popN, csum, Option.toList, List.cons_append, List.nil_append, List.set_cons_zero, List.set_cons_succ, List.length_cons, List.length_nil, true_and, and_true, Nat.reduceLT, Nat.reduceLeDiff, Nat.zero_le, Nat.le_refl, RI_i, RI_z0, RI_z1, Int32.reduceOfInt, Int8.reduceOfInt, Int16.reduceOfInt, Int64.reduceOfInt, Int8.toInt32_ofNat, Int16.toInt32_ofNat, Int.reduceNeg, Int32.ofInt_neg, Int8.ofInt_neg, Int16.ofInt_neg, Int32.toInt64_ofNat, Int32.reduceToNatClampNeg, Fin.isValue, Fin.val_one, Fin.val_zero, Fin.val_two, Int64.reduceOfNat, Int32.reduceOfNat, hdl, cutc, Nat.reduceEqDiff, reduceIte, FV, tyC, tyX0, tyX1, tyX2, tyX3, tyX4, tyX5, tyX6, tyX7, tyX8, tyX9, tyX10, Nat.reduceMul, c_le, c_lt, c_eq, c_in, c_cl, c_add, c_rem, c_ofN, Int32.add_zero, Int32.zero_add, c_lt0, c_ge0, c_le0, c_gt0, c_e0, c_m1, c_m1', false_implies, true_implies, implies_true, not_false_eq_true, not_true_eq_false, Nat.not_lt_zero, up_s, up_1, up_m, eq_self, Nat.add_zero, lg_self, ffc_1882, ffk_1882, bbL_law_1882, LSt, b1, b2, b3, bL, h1, h2, h3, hc0, hc1, hc2, hs0, hs6, hs12, vi, hx]
  refine sp9_right hX hU ?_
  obtain ⟨l2, hm2⟩ := hM.cell
  unfold holdL
  simp only [List.getElem?_cons_zero, List.getElem?_cons_succ, fv4, Nat.reduceAdd, Nat.reduceSub, wpL, pst, stpL, LG, lput, ls_tl, two, bc, EL, pad, popN, csum, Option.toList, List.cons_append, List.nil_append, List.set_cons_zero, List.set_cons_succ, List.length_cons, List.length_nil, true_and, and_true, Nat.reduceLT, Nat.reduceLeDiff, Nat.zero_le, Nat.le_refl, RI_i, RI_z0, RI_z1, Int32.reduceOfInt, Int8.reduceOfInt, Int16.reduceOfInt, Int64.reduceOfInt, Int8.toInt32_ofNat, Int16.toInt32_ofNat, Int.reduceNeg, Int32.ofInt_neg, Int8.ofInt_neg, Int16.ofInt_neg, Int32.toInt64_ofNat, Int32.reduceToNatClampNeg, Fin.isValue, Fin.val_one, Fin.val_zero, Fin.val_two, Int64.reduceOfNat, Int32.reduceOfNat, hdl, cutc, Nat.reduceEqDiff, reduceIte, FV, tyC, tyX0, tyX1, tyX2, tyX3, tyX4, tyX5, tyX6, tyX7, tyX8, tyX9, tyX10, Nat.reduceMul, c_le, c_lt, c_eq, c_in, c_cl, c_add, c_rem, c_ofN, Int32.add_zero, Int32.zero_add, c_lt0, c_ge0, c_le0, c_gt0, c_e0, c_m1, c_m1', false_implies, true_implies, implies_true, not_false_eq_true, not_true_eq_false, Nat.not_lt_zero, up_s, up_1, up_m, eq_self, Nat.add_zero, lg_self, ffc_1882, ffk_1882, bbL_law_1882, LSt, b1, b2, b3, bL, h1, h2, h3, hc0, hc1, hc2, hs0, hs6, hs12, vi, hm2]
  refine sp10_right hM hU (fun w3 hM3 hf3 => ?_)
  have hX3 := hX.fr hf3 (by omega)
  have ho3 := (hf3.at (by omega)).trans ho
  unfold holdL
  simp only [List.getElem?_cons_zero, List.getElem?_cons_succ, fv4, Nat.reduceAdd, Nat.reduceSub, wpL, pst, stpL, LG, lput, ls_tl, two, bc, EL, pad, popN, csum, Option.toList, List.cons_append, List.nil_append, List.set_cons_zero, List.set_cons_succ, List.length_cons, List.length_nil, true_and, and_true, Nat.reduceLT, Nat.reduceLeDiff, Nat.zero_le, Nat.le_refl, RI_i, RI_z0, RI_z1, Int32.reduceOfInt, Int8.reduceOfInt, Int16.reduceOfInt, Int64.reduceOfInt, Int8.toInt32_ofNat, Int16.toInt32_ofNat, Int.reduceNeg, Int32.ofInt_neg, Int8.ofInt_neg, Int16.ofInt_neg, Int32.toInt64_ofNat, Int32.reduceToNatClampNeg, Fin.isValue, Fin.val_one, Fin.val_zero, Fin.val_two, Int64.reduceOfNat, Int32.reduceOfNat, hdl, cutc, Nat.reduceEqDiff, reduceIte, FV, tyC, tyX0, tyX1, tyX2, tyX3, tyX4, tyX5, tyX6, tyX7, tyX8, tyX9, tyX10, Nat.reduceMul, c_le, c_lt, c_eq, c_in, c_cl, c_add, c_rem, c_ofN, Int32.add_zero, Int32.zero_add, c_lt0, c_ge0, c_le0, c_gt0, c_e0, c_m1, c_m1', false_implies, true_implies, implies_true, not_false_eq_true, not_true_eq_false, Nat.not_lt_zero, up_s, up_1, up_m, eq_self, Nat.add_zero, lg_self, ffc_1882, ffk_1882, bbL_law_1882, LSt, b1, b2, b3, bL, h1, h2, h3, hc0, hc1, hc2, hs0, hs6, hs12, vi]
  exact hN _ _ _ _ _ _ _ _ _ ⟨hX3, hM3, hU, _, ho3⟩ (by omega) (by omega)
end LAW

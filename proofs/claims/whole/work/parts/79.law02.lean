/-! THE LAW'S CASES, 2 -/
section LAW
variable {Γ : Amb} {n : String} {h : List ((Nat × Nat × Nat × Nat) × String)} {sb sL : Nat} {sx : Nat → Int32} {w : PW} {x i cs ss : Nat} {U : US} {th : Int32}
theorem lw_gain (hR : RDY w x th U) (hi : i + 3 < sL) (hL : sL ≤ 2048) (hc2 : cs + 2 ≤ 601024) (hs12 : ss + 12 ≤ 7293034) (l5 l6 l7 l8 : Option Value) (hN : NXT Γ n h sb sL sx x i cs ss) : GL Γ (mLL n h) QL XL sb sL sx 724 (LSt sb x i l5 l6 l7 l8) [] none w cs ss := by
  obtain ⟨hX, hM, hU, f, ho⟩ := hR
  have hx := hX.cells.1
  have vi := vi_o
  have bi : i < 2147483648 := by omega
  have b1 : i + 1 < 2147483648 := by omega
  have b2 : i + 2 < 2147483648 := by omega
  have b3 : i + 3 < 2147483648 := by omega
  have bL : sL < 2147483648 := by omega
  have h1 : i + 1 < sL := by omega
  have h2 : i + 2 < sL := by omega
  have h3 : i + 3 < sL := by omega
  have hc0 : cs ≤ 601024 := by omega
  have hc1 : cs + 1 ≤ 601024 := by omega
  have hs0 : ss ≤ 7293034 := by omega
  have hs6 : ss + 6 ≤ 7293034 := by omega
  refine wpL_ok (kdc_724 n h) 400 724 bbL_law_724 _ _ _ _ _ _ (ooL_law_724 n h) ?_
  simp only [List.getElem?_cons_zero, List.getElem?_cons_succ, fv4, Nat.reduceAdd, Nat.reduceSub, wpL, pst, stpL, LG, lput, ls_tl, two, bc, EL, pad, popN, csum, Option.toList, List.cons_append, List.nil_append, List.set_cons_zero, List.set_cons_succ, List.length_cons, List.length_nil, true_and, and_true, Nat.reduceLT, Nat.reduceLeDiff, Nat.zero_le, Nat.le_refl, RI_i, RI_z0, RI_z1, Int32.reduceOfInt, Int8.reduceOfInt, Int16.reduceOfInt, Int64.reduceOfInt, Int8.toInt32_ofNat, Int16.toInt32_ofNat, Int.reduceNeg, Int32.ofInt_neg, Int8.ofInt_neg, Int16.ofInt_neg, Int32.toInt64_ofNat, Int32.reduceToNatClampNeg, Fin.isValue, Fin.val_one, Fin.val_zero, Fin.val_two, Int64.reduceOfNat, Int32.reduceOfNat, hdl, cutc, Nat.reduceEqDiff, reduceIte, FV, tyC, tyX0, tyX1, tyX2, tyX3, tyX4, tyX5, tyX6, tyX7, tyX8, tyX9, tyX10, Nat.reduceMul, c_le, c_lt, c_eq, c_in, c_cl, c_add, c_rem, c_ofN, Int32.add_zero, Int32.zero_add, c_lt0, c_ge0, c_le0, c_gt0, c_e0, c_m1, c_m1', false_implies, true_implies, implies_true, not_false_eq_true, not_true_eq_false, Nat.not_lt_zero, up_s, up_1, up_m, eq_self, Nat.add_zero, lg_self, ffc_724, ffk_724, bbL_law_724, bbL_law_772, bbL_law_789, cl_1, ca_1, cl_2, ca_2, LSt, b1, b2, b3, bL, h1, h2, h3, hc0, hc1, hc2, hs0, hs6, hs12, vi]
  refine spL_gain hX hU (by omega) ho _ _ (fun w1 w2 f2 hX2 hf1 hf2 ho2 hv => ?_)
  have hM2 := (hM.fr hf1 (by omega)).fr hf2 (by omega)
  obtain ⟨l2, hm2⟩ := hM2.cell
  unfold holdL
  simp only [List.getElem?_cons_zero, List.getElem?_cons_succ, fv4, Nat.reduceAdd, Nat.reduceSub, wpL, pst, stpL, LG, lput, ls_tl, two, bc, EL, pad, popN, csum, Option.toList, List.cons_append, List.nil_append, List.set_cons_zero, List.set_cons_succ, List.length_cons, List.length_nil, true_and, and_true, Nat.reduceLT, Nat.reduceLeDiff, Nat.zero_le, Nat.le_refl, RI_i, RI_z0, RI_z1, Int32.reduceOfInt, Int8.reduceOfInt, Int16.reduceOfInt, Int64.reduceOfInt, Int8.toInt32_ofNat, Int16.toInt32_ofNat, Int.reduceNeg, Int32.ofInt_neg, Int8.ofInt_neg, Int16.ofInt_neg, Int32.toInt64_ofNat, Int32.reduceToNatClampNeg, Fin.isValue, Fin.val_one, Fin.val_zero, Fin.val_two, Int64.reduceOfNat, Int32.reduceOfNat, hdl, cutc, Nat.reduceEqDiff, reduceIte, FV, tyC, tyX0, tyX1, tyX2, tyX3, tyX4, tyX5, tyX6, tyX7, tyX8, tyX9, tyX10, Nat.reduceMul, c_le, c_lt, c_eq, c_in, c_cl, c_add, c_rem, c_ofN, Int32.add_zero, Int32.zero_add, c_lt0, c_ge0, c_le0, c_gt0, c_e0, c_m1, c_m1', false_implies, true_implies, implies_true, not_false_eq_true, not_true_eq_false, Nat.not_lt_zero, up_s, up_1, up_m, eq_self, Nat.add_zero, lg_self, ffc_724, ffk_724, bbL_law_724, bbL_law_772, bbL_law_789, cl_1, ca_1, cl_2, ca_2, LSt, b1, b2, b3, bL, h1, h2, h3, hc0, hc1, hc2, hs0, hs6, hs12, vi, hm2]
  refine sp10_gain hM2 hU _ _ (fun w3 hM3 hf3 => ?_)
  have hX3 := hX2.fr hf3 (by omega)
  have ho3 := (hf3.at (by omega)).trans ho2
  obtain ⟨l3, hm3⟩ := hM3.cell
  unfold holdL
  simp only [List.getElem?_cons_zero, List.getElem?_cons_succ, fv4, Nat.reduceAdd, Nat.reduceSub, wpL, pst, stpL, LG, lput, ls_tl, two, bc, EL, pad, popN, csum, Option.toList, List.cons_append, List.nil_append, List.set_cons_zero, List.set_cons_succ, List.length_cons, List.length_nil, true_and, and_true, Nat.reduceLT, Nat.reduceLeDiff, Nat.zero_le, Nat.le_refl, RI_i, RI_z0, RI_z1, Int32.reduceOfInt, Int8.reduceOfInt, Int16.reduceOfInt, Int64.reduceOfInt, Int8.toInt32_ofNat, Int16.toInt32_ofNat, Int.reduceNeg, Int32.ofInt_neg, Int8.ofInt_neg, Int16.ofInt_neg, Int32.toInt64_ofNat, Int32.reduceToNatClampNeg, Fin.isValue, Fin.val_one, Fin.val_zero, Fin.val_two, Int64.reduceOfNat, Int32.reduceOfNat, hdl, cutc, Nat.reduceEqDiff, reduceIte, FV, tyC, tyX0, tyX1, tyX2, tyX3, tyX4, tyX5, tyX6, tyX7, tyX8, tyX9, tyX10, Nat.reduceMul, c_le, c_lt, c_eq, c_in, c_cl, c_add, c_rem, c_ofN, Int32.add_zero, Int32.zero_add, c_lt0, c_ge0, c_le0, c_gt0, c_e0, c_m1, c_m1', false_implies, true_implies, implies_true, not_false_eq_true, not_true_eq_false, Nat.not_lt_zero, up_s, up_1, up_m, eq_self, Nat.add_zero, lg_self, ffc_724, ffk_724, bbL_law_724, bbL_law_772, bbL_law_789, cl_1, ca_1, cl_2, ca_2, LSt, b1, b2, b3, bL, h1, h2, h3, hc0, hc1, hc2, hs0, hs6, hs12, vi, hm3]
  refine sp10_thr hM3 ?_
  refine lw_fin (c := _) hv ?_ (fun kz hv0 => ?_) (fun kz => ?_)
  · exact cb_o_gain _ _ _
  · unfold holdL
    simp only [List.getElem?_cons_zero, List.getElem?_cons_succ, fv4, Nat.reduceAdd, Nat.reduceSub, wpL, pst, stpL, LG, lput, ls_tl, two, bc, EL, pad, popN, csum, Option.toList, List.cons_append, List.nil_append, List.set_cons_zero, List.set_cons_succ, List.length_cons, List.length_nil, true_and, and_true, Nat.reduceLT, Nat.reduceLeDiff, Nat.zero_le, Nat.le_refl, RI_i, RI_z0, RI_z1, Int32.reduceOfInt, Int8.reduceOfInt, Int16.reduceOfInt, Int64.reduceOfInt, Int8.toInt32_ofNat, Int16.toInt32_ofNat, Int.reduceNeg, Int32.ofInt_neg, Int8.ofInt_neg, Int16.ofInt_neg, Int32.toInt64_ofNat, Int32.reduceToNatClampNeg, Fin.isValue, Fin.val_one, Fin.val_zero, Fin.val_two, Int64.reduceOfNat, Int32.reduceOfNat, hdl, cutc, Nat.reduceEqDiff, reduceIte, FV, tyC, tyX0, tyX1, tyX2, tyX3, tyX4, tyX5, tyX6, tyX7, tyX8, tyX9, tyX10, Nat.reduceMul, c_le, c_lt, c_eq, c_in, c_cl, c_add, c_rem, c_ofN, Int32.add_zero, Int32.zero_add, c_lt0, c_ge0, c_le0, c_gt0, c_e0, c_m1, c_m1', false_implies, true_implies, implies_true, not_false_eq_true, not_true_eq_false, Nat.not_lt_zero, up_s, up_1, up_m, eq_self, Nat.add_zero, lg_self, ffc_724, ffk_724, bbL_law_724, bbL_law_772, bbL_law_789, cl_1, ca_1, cl_2, ca_2, LSt, b1, b2, b3, bL, h1, h2, h3, hc0, hc1, hc2, hs0, hs6, hs12, vi, hm3, ho3, kz, hv0]
    exact hN _ _ _ _ _ _ _ _ _ ⟨hX3, hM3, (ok_gain hU _ _), _, ho3⟩ (by omega) (by omega)
  · unfold holdL
    simp only [List.getElem?_cons_zero, List.getElem?_cons_succ, fv4, Nat.reduceAdd, Nat.reduceSub, wpL, pst, stpL, LG, lput, ls_tl, two, bc, EL, pad, popN, csum, Option.toList, List.cons_append, List.nil_append, List.set_cons_zero, List.set_cons_succ, List.length_cons, List.length_nil, true_and, and_true, Nat.reduceLT, Nat.reduceLeDiff, Nat.zero_le, Nat.le_refl, RI_i, RI_z0, RI_z1, Int32.reduceOfInt, Int8.reduceOfInt, Int16.reduceOfInt, Int64.reduceOfInt, Int8.toInt32_ofNat, Int16.toInt32_ofNat, Int.reduceNeg, Int32.ofInt_neg, Int8.ofInt_neg, Int16.ofInt_neg, Int32.toInt64_ofNat, Int32.reduceToNatClampNeg, Fin.isValue, Fin.val_one, Fin.val_zero, Fin.val_two, Int64.reduceOfNat, Int32.reduceOfNat, hdl, cutc, Nat.reduceEqDiff, reduceIte, FV, tyC, tyX0, tyX1, tyX2, tyX3, tyX4, tyX5, tyX6, tyX7, tyX8, tyX9, tyX10, Nat.reduceMul, c_le, c_lt, c_eq, c_in, c_cl, c_add, c_rem, c_ofN, Int32.add_zero, Int32.zero_add, c_lt0, c_ge0, c_le0, c_gt0, c_e0, c_m1, c_m1', false_implies, true_implies, implies_true, not_false_eq_true, not_true_eq_false, Nat.not_lt_zero, up_s, up_1, up_m, eq_self, Nat.add_zero, lg_self, ffc_724, ffk_724, bbL_law_724, bbL_law_772, bbL_law_789, cl_1, ca_1, cl_2, ca_2, LSt, b1, b2, b3, bL, h1, h2, h3, hc0, hc1, hc2, hs0, hs6, hs12, vi, hm3, ho3, kz]
    exact hN _ _ _ _ _ _ _ _ _ ⟨hX3, hM3, (ok_gain hU _ _), _, ho3⟩ (by omega) (by omega)
theorem lw_receive (hR : RDY w x th U) (hi : i + 3 < sL) (hL : sL ≤ 2048) (hc2 : cs + 2 ≤ 601024) (hs12 : ss + 12 ≤ 7293034) (l5 l6 l7 l8 : Option Value) (hN : NXT Γ n h sb sL sx x i cs ss) : GL Γ (mLL n h) QL XL sb sL sx 792 (LSt sb x i l5 l6 l7 l8) [] none w cs ss := by
  obtain ⟨hX, hM, hU, f, ho⟩ := hR
  have hx := hX.cells.1
  have vi := vi_o
  have bi : i < 2147483648 := by omega
  have b1 : i + 1 < 2147483648 := by omega
  have b2 : i + 2 < 2147483648 := by omega
  have b3 : i + 3 < 2147483648 := by omega
  have bL : sL < 2147483648 := by omega
  have h1 : i + 1 < sL := by omega
  have h2 : i + 2 < sL := by omega
  have h3 : i + 3 < sL := by omega
  have hc0 : cs ≤ 601024 := by omega
  have hc1 : cs + 1 ≤ 601024 := by omega
  have hs0 : ss ≤ 7293034 := by omega
  have hs6 : ss + 6 ≤ 7293034 := by omega
  refine wpL_ok (kdc_792 n h) 400 792 bbL_law_792 _ _ _ _ _ _ (ooL_law_792 n h) ?_
  simp only [List.getElem?_cons_zero, List.getElem?_cons_succ, fv4, Nat.reduceAdd, Nat.reduceSub, wpL, pst, stpL, LG, lput, ls_tl, two, bc, EL, pad, popN, csum, Option.toList, List.cons_append, List.nil_append, List.set_cons_zero, List.set_cons_succ, List.length_cons, List.length_nil, true_and, and_true, Nat.reduceLT, Nat.reduceLeDiff, Nat.zero_le, Nat.le_refl, RI_i, RI_z0, RI_z1, Int32.reduceOfInt, Int8.reduceOfInt, Int16.reduceOfInt, Int64.reduceOfInt, Int8.toInt32_ofNat, Int16.toInt32_ofNat, Int.reduceNeg, Int32.ofInt_neg, Int8.ofInt_neg, Int16.ofInt_neg, Int32.toInt64_ofNat, Int32.reduceToNatClampNeg, Fin.isValue, Fin.val_one, Fin.val_zero, Fin.val_two, Int64.reduceOfNat, Int32.reduceOfNat, hdl, cutc, Nat.reduceEqDiff, reduceIte, FV, tyC, tyX0, tyX1, tyX2, tyX3, tyX4, tyX5, tyX6, tyX7, tyX8, tyX9, tyX10, Nat.reduceMul, c_le, c_lt, c_eq, c_in, c_cl, c_add, c_rem, c_ofN, Int32.add_zero, Int32.zero_add, c_lt0, c_ge0, c_le0, c_gt0, c_e0, c_m1, c_m1', false_implies, true_implies, implies_true, not_false_eq_true, not_true_eq_false, Nat.not_lt_zero, up_s, up_1, up_m, eq_self, Nat.add_zero, lg_self, ffc_792, ffk_792, bbL_law_792, LSt, b1, b2, b3, bL, h1, h2, h3, hc0, hc1, hc2, hs0, hs6, hs12, vi, hx]
  refine sp9_receive hX hU (fun w1 hX1 hf1 => ?_)
  have hM1 := hM.fr hf1 (by omega)
  have ho1 := (hf1.at (by omega)).trans ho
  obtain ⟨l2, hm2⟩ := hM1.cell
  unfold holdL
  simp only [List.getElem?_cons_zero, List.getElem?_cons_succ, fv4, Nat.reduceAdd, Nat.reduceSub, wpL, pst, stpL, LG, lput, ls_tl, two, bc, EL, pad, popN, csum, Option.toList, List.cons_append, List.nil_append, List.set_cons_zero, List.set_cons_succ, List.length_cons, List.length_nil, true_and, and_true, Nat.reduceLT, Nat.reduceLeDiff, Nat.zero_le, Nat.le_refl, RI_i, RI_z0, RI_z1, Int32.reduceOfInt, Int8.reduceOfInt, Int16.reduceOfInt, Int64.reduceOfInt, Int8.toInt32_ofNat, Int16.toInt32_ofNat, Int.reduceNeg, Int32.ofInt_neg, Int8.ofInt_neg, Int16.ofInt_neg, Int32.toInt64_ofNat, Int32.reduceToNatClampNeg, Fin.isValue, Fin.val_one, Fin.val_zero, Fin.val_two, Int64.reduceOfNat, Int32.reduceOfNat, hdl, cutc, Nat.reduceEqDiff, reduceIte, FV, tyC, tyX0, tyX1, tyX2, tyX3, tyX4, tyX5, tyX6, tyX7, tyX8, tyX9, tyX10, Nat.reduceMul, c_le, c_lt, c_eq, c_in, c_cl, c_add, c_rem, c_ofN, Int32.add_zero, Int32.zero_add, c_lt0, c_ge0, c_le0, c_gt0, c_e0, c_m1, c_m1', false_implies, true_implies, implies_true, not_false_eq_true, not_true_eq_false, Nat.not_lt_zero, up_s, up_1, up_m, eq_self, Nat.add_zero, lg_self, ffc_792, ffk_792, bbL_law_792, LSt, b1, b2, b3, bL, h1, h2, h3, hc0, hc1, hc2, hs0, hs6, hs12, vi, hm2]
  refine sp10_receive hM1 hU (fun w3 hM3 hf3 => ?_)
  have hX3 := hX1.fr hf3 (by omega)
  have ho3 := (hf3.at (by omega)).trans ho1
  unfold holdL
  simp only [List.getElem?_cons_zero, List.getElem?_cons_succ, fv4, Nat.reduceAdd, Nat.reduceSub, wpL, pst, stpL, LG, lput, ls_tl, two, bc, EL, pad, popN, csum, Option.toList, List.cons_append, List.nil_append, List.set_cons_zero, List.set_cons_succ, List.length_cons, List.length_nil, true_and, and_true, Nat.reduceLT, Nat.reduceLeDiff, Nat.zero_le, Nat.le_refl, RI_i, RI_z0, RI_z1, Int32.reduceOfInt, Int8.reduceOfInt, Int16.reduceOfInt, Int64.reduceOfInt, Int8.toInt32_ofNat, Int16.toInt32_ofNat, Int.reduceNeg, Int32.ofInt_neg, Int8.ofInt_neg, Int16.ofInt_neg, Int32.toInt64_ofNat, Int32.reduceToNatClampNeg, Fin.isValue, Fin.val_one, Fin.val_zero, Fin.val_two, Int64.reduceOfNat, Int32.reduceOfNat, hdl, cutc, Nat.reduceEqDiff, reduceIte, FV, tyC, tyX0, tyX1, tyX2, tyX3, tyX4, tyX5, tyX6, tyX7, tyX8, tyX9, tyX10, Nat.reduceMul, c_le, c_lt, c_eq, c_in, c_cl, c_add, c_rem, c_ofN, Int32.add_zero, Int32.zero_add, c_lt0, c_ge0, c_le0, c_gt0, c_e0, c_m1, c_m1', false_implies, true_implies, implies_true, not_false_eq_true, not_true_eq_false, Nat.not_lt_zero, up_s, up_1, up_m, eq_self, Nat.add_zero, lg_self, ffc_792, ffk_792, bbL_law_792, LSt, b1, b2, b3, bL, h1, h2, h3, hc0, hc1, hc2, hs0, hs6, hs12, vi]
  exact hN _ _ _ _ _ _ _ _ _ ⟨hX3, hM3, (ok_receive hU), _, ho3⟩ (by omega) (by omega)
theorem lw_append (hR : RDY w x th U) (hi : i + 3 < sL) (hL : sL ≤ 2048) (hc2 : cs + 2 ≤ 601024) (hs12 : ss + 12 ≤ 7293034) (l5 l6 l7 l8 : Option Value) (hN : NXT Γ n h sb sL sx x i cs ss) : GL Γ (mLL n h) QL XL sb sL sx 805 (LSt sb x i l5 l6 l7 l8) [] none w cs ss := by
  obtain ⟨hX, hM, hU, f, ho⟩ := hR
  have hx := hX.cells.1
  have vi := vi_o
  have bi : i < 2147483648 := by omega
  have b1 : i + 1 < 2147483648 := by omega
  have b2 : i + 2 < 2147483648 := by omega
  have b3 : i + 3 < 2147483648 := by omega
  have bL : sL < 2147483648 := by omega
  have h1 : i + 1 < sL := by omega
  have h2 : i + 2 < sL := by omega
  have h3 : i + 3 < sL := by omega
  have hc0 : cs ≤ 601024 := by omega
  have hc1 : cs + 1 ≤ 601024 := by omega
  have hs0 : ss ≤ 7293034 := by omega
  have hs6 : ss + 6 ≤ 7293034 := by omega
  refine wpL_ok (kdc_805 n h) 400 805 bbL_law_805 _ _ _ _ _ _ (ooL_law_805 n h) ?_
  simp only [List.getElem?_cons_zero, List.getElem?_cons_succ, fv4, Nat.reduceAdd, Nat.reduceSub, wpL, pst, stpL, LG, lput, ls_tl, two, bc, EL, pad, popN, csum, Option.toList, List.cons_append, List.nil_append, List.set_cons_zero, List.set_cons_succ, List.length_cons, List.length_nil, true_and, and_true, Nat.reduceLT, Nat.reduceLeDiff, Nat.zero_le, Nat.le_refl, RI_i, RI_z0, RI_z1, Int32.reduceOfInt, Int8.reduceOfInt, Int16.reduceOfInt, Int64.reduceOfInt, Int8.toInt32_ofNat, Int16.toInt32_ofNat, Int.reduceNeg, Int32.ofInt_neg, Int8.ofInt_neg, Int16.ofInt_neg, Int32.toInt64_ofNat, Int32.reduceToNatClampNeg, Fin.isValue, Fin.val_one, Fin.val_zero, Fin.val_two, Int64.reduceOfNat, Int32.reduceOfNat, hdl, cutc, Nat.reduceEqDiff, reduceIte, FV, tyC, tyX0, tyX1, tyX2, tyX3, tyX4, tyX5, tyX6, tyX7, tyX8, tyX9, tyX10, Nat.reduceMul, c_le, c_lt, c_eq, c_in, c_cl, c_add, c_rem, c_ofN, Int32.add_zero, Int32.zero_add, c_lt0, c_ge0, c_le0, c_gt0, c_e0, c_m1, c_m1', false_implies, true_implies, implies_true, not_false_eq_true, not_true_eq_false, Nat.not_lt_zero, up_s, up_1, up_m, eq_self, Nat.add_zero, lg_self, ffc_805, ffk_805, bbL_law_805, bbL_law_841, bbL_law_858, cl_1, ca_1, LSt, b1, b2, b3, bL, h1, h2, h3, hc0, hc1, hc2, hs0, hs6, hs12, vi]
  refine spL_append hX hU (by omega) ho _ (fun w1 w2 f2 hX2 hf1 hf2 ho2 hv => ?_)
  have hM2 := (hM.fr hf1 (by omega)).fr hf2 (by omega)
  obtain ⟨l2, hm2⟩ := hM2.cell
  unfold holdL
  simp only [List.getElem?_cons_zero, List.getElem?_cons_succ, fv4, Nat.reduceAdd, Nat.reduceSub, wpL, pst, stpL, LG, lput, ls_tl, two, bc, EL, pad, popN, csum, Option.toList, List.cons_append, List.nil_append, List.set_cons_zero, List.set_cons_succ, List.length_cons, List.length_nil, true_and, and_true, Nat.reduceLT, Nat.reduceLeDiff, Nat.zero_le, Nat.le_refl, RI_i, RI_z0, RI_z1, Int32.reduceOfInt, Int8.reduceOfInt, Int16.reduceOfInt, Int64.reduceOfInt, Int8.toInt32_ofNat, Int16.toInt32_ofNat, Int.reduceNeg, Int32.ofInt_neg, Int8.ofInt_neg, Int16.ofInt_neg, Int32.toInt64_ofNat, Int32.reduceToNatClampNeg, Fin.isValue, Fin.val_one, Fin.val_zero, Fin.val_two, Int64.reduceOfNat, Int32.reduceOfNat, hdl, cutc, Nat.reduceEqDiff, reduceIte, FV, tyC, tyX0, tyX1, tyX2, tyX3, tyX4, tyX5, tyX6, tyX7, tyX8, tyX9, tyX10, Nat.reduceMul, c_le, c_lt, c_eq, c_in, c_cl, c_add, c_rem, c_ofN, Int32.add_zero, Int32.zero_add, c_lt0, c_ge0, c_le0, c_gt0, c_e0, c_m1, c_m1', false_implies, true_implies, implies_true, not_false_eq_true, not_true_eq_false, Nat.not_lt_zero, up_s, up_1, up_m, eq_self, Nat.add_zero, lg_self, ffc_805, ffk_805, bbL_law_805, bbL_law_841, bbL_law_858, cl_1, ca_1, LSt, b1, b2, b3, bL, h1, h2, h3, hc0, hc1, hc2, hs0, hs6, hs12, vi, hm2]
  refine sp10_append hM2 hU _ (fun w3 hM3 hf3 => ?_)
  have hX3 := hX2.fr hf3 (by omega)
  have ho3 := (hf3.at (by omega)).trans ho2
  obtain ⟨l3, hm3⟩ := hM3.cell
  unfold holdL
  simp only [List.getElem?_cons_zero, List.getElem?_cons_succ, fv4, Nat.reduceAdd, Nat.reduceSub, wpL, pst, stpL, LG, lput, ls_tl, two, bc, EL, pad, popN, csum, Option.toList, List.cons_append, List.nil_append, List.set_cons_zero, List.set_cons_succ, List.length_cons, List.length_nil, true_and, and_true, Nat.reduceLT, Nat.reduceLeDiff, Nat.zero_le, Nat.le_refl, RI_i, RI_z0, RI_z1, Int32.reduceOfInt, Int8.reduceOfInt, Int16.reduceOfInt, Int64.reduceOfInt, Int8.toInt32_ofNat, Int16.toInt32_ofNat, Int.reduceNeg, Int32.ofInt_neg, Int8.ofInt_neg, Int16.ofInt_neg, Int32.toInt64_ofNat, Int32.reduceToNatClampNeg, Fin.isValue, Fin.val_one, Fin.val_zero, Fin.val_two, Int64.reduceOfNat, Int32.reduceOfNat, hdl, cutc, Nat.reduceEqDiff, reduceIte, FV, tyC, tyX0, tyX1, tyX2, tyX3, tyX4, tyX5, tyX6, tyX7, tyX8, tyX9, tyX10, Nat.reduceMul, c_le, c_lt, c_eq, c_in, c_cl, c_add, c_rem, c_ofN, Int32.add_zero, Int32.zero_add, c_lt0, c_ge0, c_le0, c_gt0, c_e0, c_m1, c_m1', false_implies, true_implies, implies_true, not_false_eq_true, not_true_eq_false, Nat.not_lt_zero, up_s, up_1, up_m, eq_self, Nat.add_zero, lg_self, ffc_805, ffk_805, bbL_law_805, bbL_law_841, bbL_law_858, cl_1, ca_1, LSt, b1, b2, b3, bL, h1, h2, h3, hc0, hc1, hc2, hs0, hs6, hs12, vi, hm3]
  refine sp10_thr hM3 ?_
  refine lw_fin (c := _) hv ?_ (fun kz hv0 => ?_) (fun kz => ?_)
  · exact cb_o_append _ _
  · unfold holdL
    simp only [List.getElem?_cons_zero, List.getElem?_cons_succ, fv4, Nat.reduceAdd, Nat.reduceSub, wpL, pst, stpL, LG, lput, ls_tl, two, bc, EL, pad, popN, csum, Option.toList, List.cons_append, List.nil_append, List.set_cons_zero, List.set_cons_succ, List.length_cons, List.length_nil, true_and, and_true, Nat.reduceLT, Nat.reduceLeDiff, Nat.zero_le, Nat.le_refl, RI_i, RI_z0, RI_z1, Int32.reduceOfInt, Int8.reduceOfInt, Int16.reduceOfInt, Int64.reduceOfInt, Int8.toInt32_ofNat, Int16.toInt32_ofNat, Int.reduceNeg, Int32.ofInt_neg, Int8.ofInt_neg, Int16.ofInt_neg, Int32.toInt64_ofNat, Int32.reduceToNatClampNeg, Fin.isValue, Fin.val_one, Fin.val_zero, Fin.val_two, Int64.reduceOfNat, Int32.reduceOfNat, hdl, cutc, Nat.reduceEqDiff, reduceIte, FV, tyC, tyX0, tyX1, tyX2, tyX3, tyX4, tyX5, tyX6, tyX7, tyX8, tyX9, tyX10, Nat.reduceMul, c_le, c_lt, c_eq, c_in, c_cl, c_add, c_rem, c_ofN, Int32.add_zero, Int32.zero_add, c_lt0, c_ge0, c_le0, c_gt0, c_e0, c_m1, c_m1', false_implies, true_implies, implies_true, not_false_eq_true, not_true_eq_false, Nat.not_lt_zero, up_s, up_1, up_m, eq_self, Nat.add_zero, lg_self, ffc_805, ffk_805, bbL_law_805, bbL_law_841, bbL_law_858, cl_1, ca_1, LSt, b1, b2, b3, bL, h1, h2, h3, hc0, hc1, hc2, hs0, hs6, hs12, vi, hm3, ho3, kz, hv0]
    exact hN _ _ _ _ _ _ _ _ _ ⟨hX3, hM3, (ok_append hU _), _, ho3⟩ (by omega) (by omega)
  · unfold holdL
    simp only [List.getElem?_cons_zero, List.getElem?_cons_succ, fv4, Nat.reduceAdd, Nat.reduceSub, wpL, pst, stpL, LG, lput, ls_tl, two, bc, EL, pad, popN, csum, Option.toList, List.cons_append, List.nil_append, List.set_cons_zero, List.set_cons_succ, List.length_cons, List.length_nil, true_and, and_true, Nat.reduceLT, Nat.reduceLeDiff, Nat.zero_le, Nat.le_refl, RI_i, RI_z0, RI_z1, Int32.reduceOfInt, Int8.reduceOfInt, Int16.reduceOfInt, Int64.reduceOfInt, Int8.toInt32_ofNat, Int16.toInt32_ofNat, Int.reduceNeg, Int32.ofInt_neg, Int8.ofInt_neg, Int16.ofInt_neg, Int32.toInt64_ofNat, Int32.reduceToNatClampNeg, Fin.isValue, Fin.val_one, Fin.val_zero, Fin.val_two, Int64.reduceOfNat, Int32.reduceOfNat, hdl, cutc, Nat.reduceEqDiff, reduceIte, FV, tyC, tyX0, tyX1, tyX2, tyX3, tyX4, tyX5, tyX6, tyX7, tyX8, tyX9, tyX10, Nat.reduceMul, c_le, c_lt, c_eq, c_in, c_cl, c_add, c_rem, c_ofN, Int32.add_zero, Int32.zero_add, c_lt0, c_ge0, c_le0, c_gt0, c_e0, c_m1, c_m1', false_implies, true_implies, implies_true, not_false_eq_true, not_true_eq_false, Nat.not_lt_zero, up_s, up_1, up_m, eq_self, Nat.add_zero, lg_self, ffc_805, ffk_805, bbL_law_805, bbL_law_841, bbL_law_858, cl_1, ca_1, LSt, b1, b2, b3, bL, h1, h2, h3, hc0, hc1, hc2, hs0, hs6, hs12, vi, hm3, ho3, kz]
    exact hN _ _ _ _ _ _ _ _ _ ⟨hX3, hM3, (ok_append hU _), _, ho3⟩ (by omega) (by omega)
theorem lw_clearBuffer (hR : RDY w x th U) (hi : i + 3 < sL) (hL : sL ≤ 2048) (hc2 : cs + 2 ≤ 601024) (hs12 : ss + 12 ≤ 7293034) (l5 l6 l7 l8 : Option Value) (hN : NXT Γ n h sb sL sx x i cs ss) : GL Γ (mLL n h) QL XL sb sL sx 861 (LSt sb x i l5 l6 l7 l8) [] none w cs ss := by
  obtain ⟨hX, hM, hU, f, ho⟩ := hR
  have hx := hX.cells.1
  have vi := vi_o
  have bi : i < 2147483648 := by omega
  have b1 : i + 1 < 2147483648 := by omega
  have b2 : i + 2 < 2147483648 := by omega
  have b3 : i + 3 < 2147483648 := by omega
  have bL : sL < 2147483648 := by omega
  have h1 : i + 1 < sL := by omega
  have h2 : i + 2 < sL := by omega
  have h3 : i + 3 < sL := by omega
  have hc0 : cs ≤ 601024 := by omega
  have hc1 : cs + 1 ≤ 601024 := by omega
  have hs0 : ss ≤ 7293034 := by omega
  have hs6 : ss + 6 ≤ 7293034 := by omega
  refine wpL_ok (kdc_861 n h) 400 861 bbL_law_861 _ _ _ _ _ _ (ooL_law_861 n h) ?_
  simp only [List.getElem?_cons_zero, List.getElem?_cons_succ, fv4, Nat.reduceAdd, Nat.reduceSub, wpL, pst, stpL, LG, lput, ls_tl, two, bc, EL, pad, popN, csum, Option.toList, List.cons_append, List.nil_append, List.set_cons_zero, List.set_cons_succ, List.length_cons, List.length_nil, true_and, and_true, Nat.reduceLT, Nat.reduceLeDiff, Nat.zero_le, Nat.le_refl, RI_i, RI_z0, RI_z1, Int32.reduceOfInt, Int8.reduceOfInt, Int16.reduceOfInt, Int64.reduceOfInt, Int8.toInt32_ofNat, Int16.toInt32_ofNat, Int.reduceNeg, Int32.ofInt_neg, Int8.ofInt_neg, Int16.ofInt_neg, Int32.toInt64_ofNat, Int32.reduceToNatClampNeg, Fin.isValue, Fin.val_one, Fin.val_zero, Fin.val_two, Int64.reduceOfNat, Int32.reduceOfNat, hdl, cutc, Nat.reduceEqDiff, reduceIte, FV, tyC, tyX0, tyX1, tyX2, tyX3, tyX4, tyX5, tyX6, tyX7, tyX8, tyX9, tyX10, Nat.reduceMul, c_le, c_lt, c_eq, c_in, c_cl, c_add, c_rem, c_ofN, Int32.add_zero, Int32.zero_add, c_lt0, c_ge0, c_le0, c_gt0, c_e0, c_m1, c_m1', false_implies, true_implies, implies_true, not_false_eq_true, not_true_eq_false, Nat.not_lt_zero, up_s, up_1, up_m, eq_self, Nat.add_zero, lg_self, ffc_861, ffk_861, bbL_law_861, LSt, b1, b2, b3, bL, h1, h2, h3, hc0, hc1, hc2, hs0, hs6, hs12, vi, hx]
  refine sp9_clearBuffer hX (fun w1 hX1 hf1 => ?_)
  have hM1 := hM.fr hf1 (by omega)
  have ho1 := (hf1.at (by omega)).trans ho
  obtain ⟨l2, hm2⟩ := hM1.cell
  unfold holdL
  simp only [List.getElem?_cons_zero, List.getElem?_cons_succ, fv4, Nat.reduceAdd, Nat.reduceSub, wpL, pst, stpL, LG, lput, ls_tl, two, bc, EL, pad, popN, csum, Option.toList, List.cons_append, List.nil_append, List.set_cons_zero, List.set_cons_succ, List.length_cons, List.length_nil, true_and, and_true, Nat.reduceLT, Nat.reduceLeDiff, Nat.zero_le, Nat.le_refl, RI_i, RI_z0, RI_z1, Int32.reduceOfInt, Int8.reduceOfInt, Int16.reduceOfInt, Int64.reduceOfInt, Int8.toInt32_ofNat, Int16.toInt32_ofNat, Int.reduceNeg, Int32.ofInt_neg, Int8.ofInt_neg, Int16.ofInt_neg, Int32.toInt64_ofNat, Int32.reduceToNatClampNeg, Fin.isValue, Fin.val_one, Fin.val_zero, Fin.val_two, Int64.reduceOfNat, Int32.reduceOfNat, hdl, cutc, Nat.reduceEqDiff, reduceIte, FV, tyC, tyX0, tyX1, tyX2, tyX3, tyX4, tyX5, tyX6, tyX7, tyX8, tyX9, tyX10, Nat.reduceMul, c_le, c_lt, c_eq, c_in, c_cl, c_add, c_rem, c_ofN, Int32.add_zero, Int32.zero_add, c_lt0, c_ge0, c_le0, c_gt0, c_e0, c_m1, c_m1', false_implies, true_implies, implies_true, not_false_eq_true, not_true_eq_false, Nat.not_lt_zero, up_s, up_1, up_m, eq_self, Nat.add_zero, lg_self, ffc_861, ffk_861, bbL_law_861, LSt, b1, b2, b3, bL, h1, h2, h3, hc0, hc1, hc2, hs0, hs6, hs12, vi, hm2]
  refine sp10_clearBuffer hM1 hU (fun w3 hM3 hf3 => ?_)
  have hX3 := hX1.fr hf3 (by omega)
  have ho3 := (hf3.at (by omega)).trans ho1
  unfold holdL
  simp only [List.getElem?_cons_zero, List.getElem?_cons_succ, fv4, Nat.reduceAdd, Nat.reduceSub, wpL, pst, stpL, LG, lput, ls_tl, two, bc, EL, pad, popN, csum, Option.toList, List.cons_append, List.nil_append, List.set_cons_zero, List.set_cons_succ, List.length_cons, List.length_nil, true_and, and_true, Nat.reduceLT, Nat.reduceLeDiff, Nat.zero_le, Nat.le_refl, RI_i, RI_z0, RI_z1, Int32.reduceOfInt, Int8.reduceOfInt, Int16.reduceOfInt, Int64.reduceOfInt, Int8.toInt32_ofNat, Int16.toInt32_ofNat, Int.reduceNeg, Int32.ofInt_neg, Int8.ofInt_neg, Int16.ofInt_neg, Int32.toInt64_ofNat, Int32.reduceToNatClampNeg, Fin.isValue, Fin.val_one, Fin.val_zero, Fin.val_two, Int64.reduceOfNat, Int32.reduceOfNat, hdl, cutc, Nat.reduceEqDiff, reduceIte, FV, tyC, tyX0, tyX1, tyX2, tyX3, tyX4, tyX5, tyX6, tyX7, tyX8, tyX9, tyX10, Nat.reduceMul, c_le, c_lt, c_eq, c_in, c_cl, c_add, c_rem, c_ofN, Int32.add_zero, Int32.zero_add, c_lt0, c_ge0, c_le0, c_gt0, c_e0, c_m1, c_m1', false_implies, true_implies, implies_true, not_false_eq_true, not_true_eq_false, Nat.not_lt_zero, up_s, up_1, up_m, eq_self, Nat.add_zero, lg_self, ffc_861, ffk_861, bbL_law_861, LSt, b1, b2, b3, bL, h1, h2, h3, hc0, hc1, hc2, hs0, hs6, hs12, vi]
  exact hN _ _ _ _ _ _ _ _ _ ⟨hX3, hM3, (ok_clearBuffer hU), _, ho3⟩ (by omega) (by omega)
theorem lw_firstError (hR : RDY w x th U) (hi : i + 3 < sL) (hL : sL ≤ 2048) (hc2 : cs + 2 ≤ 601024) (hs12 : ss + 12 ≤ 7293034) (l5 l6 l7 l8 : Option Value) (hN : NXT Γ n h sb sL sx x i cs ss) : GL Γ (mLL n h) QL XL sb sL sx 874 (LSt sb x i l5 l6 l7 l8) [] none w cs ss := by
  obtain ⟨hX, hM, hU, f, ho⟩ := hR
  have hx := hX.cells.1
  have vi := vi_o
  have bi : i < 2147483648 := by omega
  have b1 : i + 1 < 2147483648 := by omega
  have b2 : i + 2 < 2147483648 := by omega
  have b3 : i + 3 < 2147483648 := by omega
  have bL : sL < 2147483648 := by omega
  have h1 : i + 1 < sL := by omega
  have h2 : i + 2 < sL := by omega
  have h3 : i + 3 < sL := by omega
  have hc0 : cs ≤ 601024 := by omega
  have hc1 : cs + 1 ≤ 601024 := by omega
  have hs0 : ss ≤ 7293034 := by omega
  have hs6 : ss + 6 ≤ 7293034 := by omega
  refine wpL_ok (kdc_874 n h) 400 874 bbL_law_874 _ _ _ _ _ _ (ooL_law_874 n h) ?_
  simp only [List.getElem?_cons_zero, List.getElem?_cons_succ, fv4, Nat.reduceAdd, Nat.reduceSub, wpL, pst, stpL, LG, lput, ls_tl, two, bc, EL, pad, popN, csum, Option.toList, List.cons_append, List.nil_append, List.set_cons_zero, List.set_cons_succ, List.length_cons, List.length_nil, true_and, and_true, Nat.reduceLT, Nat.reduceLeDiff, Nat.zero_le, Nat.le_refl, RI_i, RI_z0, RI_z1, Int32.reduceOfInt, Int8.reduceOfInt, Int16.reduceOfInt, Int64.reduceOfInt, Int8.toInt32_ofNat, Int16.toInt32_ofNat, Int.reduceNeg, Int32.ofInt_neg, Int8.ofInt_neg, Int16.ofInt_neg, Int32.toInt64_ofNat, Int32.reduceToNatClampNeg, Fin.isValue, Fin.val_one, Fin.val_zero, Fin.val_two, Int64.reduceOfNat, Int32.reduceOfNat, hdl, cutc, Nat.reduceEqDiff, reduceIte, FV, tyC, tyX0, tyX1, tyX2, tyX3, tyX4, tyX5, tyX6, tyX7, tyX8, tyX9, tyX10, Nat.reduceMul, c_le, c_lt, c_eq, c_in, c_cl, c_add, c_rem, c_ofN, Int32.add_zero, Int32.zero_add, c_lt0, c_ge0, c_le0, c_gt0, c_e0, c_m1, c_m1', false_implies, true_implies, implies_true, not_false_eq_true, not_true_eq_false, Nat.not_lt_zero, up_s, up_1, up_m, eq_self, Nat.add_zero, lg_self, ffc_874, ffk_874, bbL_law_874, LSt, b1, b2, b3, bL, h1, h2, h3, hc0, hc1, hc2, hs0, hs6, hs12, vi, hx]
  refine sp9_firstError hX hU (fun w1 hX1 hf1 => ?_)
  have hM1 := hM.fr hf1 (by omega)
  have ho1 := (hf1.at (by omega)).trans ho
  obtain ⟨l2, hm2⟩ := hM1.cell
  unfold holdL
  simp only [List.getElem?_cons_zero, List.getElem?_cons_succ, fv4, Nat.reduceAdd, Nat.reduceSub, wpL, pst, stpL, LG, lput, ls_tl, two, bc, EL, pad, popN, csum, Option.toList, List.cons_append, List.nil_append, List.set_cons_zero, List.set_cons_succ, List.length_cons, List.length_nil, true_and, and_true, Nat.reduceLT, Nat.reduceLeDiff, Nat.zero_le, Nat.le_refl, RI_i, RI_z0, RI_z1, Int32.reduceOfInt, Int8.reduceOfInt, Int16.reduceOfInt, Int64.reduceOfInt, Int8.toInt32_ofNat, Int16.toInt32_ofNat, Int.reduceNeg, Int32.ofInt_neg, Int8.ofInt_neg, Int16.ofInt_neg, Int32.toInt64_ofNat, Int32.reduceToNatClampNeg, Fin.isValue, Fin.val_one, Fin.val_zero, Fin.val_two, Int64.reduceOfNat, Int32.reduceOfNat, hdl, cutc, Nat.reduceEqDiff, reduceIte, FV, tyC, tyX0, tyX1, tyX2, tyX3, tyX4, tyX5, tyX6, tyX7, tyX8, tyX9, tyX10, Nat.reduceMul, c_le, c_lt, c_eq, c_in, c_cl, c_add, c_rem, c_ofN, Int32.add_zero, Int32.zero_add, c_lt0, c_ge0, c_le0, c_gt0, c_e0, c_m1, c_m1', false_implies, true_implies, implies_true, not_false_eq_true, not_true_eq_false, Nat.not_lt_zero, up_s, up_1, up_m, eq_self, Nat.add_zero, lg_self, ffc_874, ffk_874, bbL_law_874, LSt, b1, b2, b3, bL, h1, h2, h3, hc0, hc1, hc2, hs0, hs6, hs12, vi, hm2]
  refine sp10_firstError hM1 hU (fun w3 hM3 hf3 => ?_)
  have hX3 := hX1.fr hf3 (by omega)
  have ho3 := (hf3.at (by omega)).trans ho1
  unfold holdL
  simp only [List.getElem?_cons_zero, List.getElem?_cons_succ, fv4, Nat.reduceAdd, Nat.reduceSub, wpL, pst, stpL, LG, lput, ls_tl, two, bc, EL, pad, popN, csum, Option.toList, List.cons_append, List.nil_append, List.set_cons_zero, List.set_cons_succ, List.length_cons, List.length_nil, true_and, and_true, Nat.reduceLT, Nat.reduceLeDiff, Nat.zero_le, Nat.le_refl, RI_i, RI_z0, RI_z1, Int32.reduceOfInt, Int8.reduceOfInt, Int16.reduceOfInt, Int64.reduceOfInt, Int8.toInt32_ofNat, Int16.toInt32_ofNat, Int.reduceNeg, Int32.ofInt_neg, Int8.ofInt_neg, Int16.ofInt_neg, Int32.toInt64_ofNat, Int32.reduceToNatClampNeg, Fin.isValue, Fin.val_one, Fin.val_zero, Fin.val_two, Int64.reduceOfNat, Int32.reduceOfNat, hdl, cutc, Nat.reduceEqDiff, reduceIte, FV, tyC, tyX0, tyX1, tyX2, tyX3, tyX4, tyX5, tyX6, tyX7, tyX8, tyX9, tyX10, Nat.reduceMul, c_le, c_lt, c_eq, c_in, c_cl, c_add, c_rem, c_ofN, Int32.add_zero, Int32.zero_add, c_lt0, c_ge0, c_le0, c_gt0, c_e0, c_m1, c_m1', false_implies, true_implies, implies_true, not_false_eq_true, not_true_eq_false, Nat.not_lt_zero, up_s, up_1, up_m, eq_self, Nat.add_zero, lg_self, ffc_874, ffk_874, bbL_law_874, LSt, b1, b2, b3, bL, h1, h2, h3, hc0, hc1, hc2, hs0, hs6, hs12, vi]
  exact hN _ _ _ _ _ _ _ _ _ ⟨hX3, hM3, hU, _, ho3⟩ (by omega) (by omega)
theorem lw_play (hR : RDY w x th U) (hi : i + 3 < sL) (hL : sL ≤ 2048) (hc2 : cs + 2 ≤ 601024) (hs12 : ss + 12 ≤ 7293034) (l5 l6 l7 l8 : Option Value) (hN : NXT Γ n h sb sL sx x i cs ss) : GL Γ (mLL n h) QL XL sb sL sx 887 (LSt sb x i l5 l6 l7 l8) [] none w cs ss := by
  obtain ⟨hX, hM, hU, f, ho⟩ := hR
  have hx := hX.cells.1
  have vi := vi_o
  have bi : i < 2147483648 := by omega
  have b1 : i + 1 < 2147483648 := by omega
  have b2 : i + 2 < 2147483648 := by omega
  have b3 : i + 3 < 2147483648 := by omega
  have bL : sL < 2147483648 := by omega
  have h1 : i + 1 < sL := by omega
  have h2 : i + 2 < sL := by omega
  have h3 : i + 3 < sL := by omega
  have hc0 : cs ≤ 601024 := by omega
  have hc1 : cs + 1 ≤ 601024 := by omega
  have hs0 : ss ≤ 7293034 := by omega
  have hs6 : ss + 6 ≤ 7293034 := by omega
  refine wpL_ok (kdc_887 n h) 400 887 bbL_law_887 _ _ _ _ _ _ (ooL_law_887 n h) ?_
  simp only [List.getElem?_cons_zero, List.getElem?_cons_succ, fv4, Nat.reduceAdd, Nat.reduceSub, wpL, pst, stpL, LG, lput, ls_tl, two, bc, EL, pad, popN, csum, Option.toList, List.cons_append, List.nil_append, List.set_cons_zero, List.set_cons_succ, List.length_cons, List.length_nil, true_and, and_true, Nat.reduceLT, Nat.reduceLeDiff, Nat.zero_le, Nat.le_refl, RI_i, RI_z0, RI_z1, Int32.reduceOfInt, Int8.reduceOfInt, Int16.reduceOfInt, Int64.reduceOfInt, Int8.toInt32_ofNat, Int16.toInt32_ofNat, Int.reduceNeg, Int32.ofInt_neg, Int8.ofInt_neg, Int16.ofInt_neg, Int32.toInt64_ofNat, Int32.reduceToNatClampNeg, Fin.isValue, Fin.val_one, Fin.val_zero, Fin.val_two, Int64.reduceOfNat, Int32.reduceOfNat, hdl, cutc, Nat.reduceEqDiff, reduceIte, FV, tyC, tyX0, tyX1, tyX2, tyX3, tyX4, tyX5, tyX6, tyX7, tyX8, tyX9, tyX10, Nat.reduceMul, c_le, c_lt, c_eq, c_in, c_cl, c_add, c_rem, c_ofN, Int32.add_zero, Int32.zero_add, c_lt0, c_ge0, c_le0, c_gt0, c_e0, c_m1, c_m1', false_implies, true_implies, implies_true, not_false_eq_true, not_true_eq_false, Nat.not_lt_zero, up_s, up_1, up_m, eq_self, Nat.add_zero, lg_self, ffc_887, ffk_887, bbL_law_887, bbL_law_911, bbL_law_928, LSt, b1, b2, b3, bL, h1, h2, h3, hc0, hc1, hc2, hs0, hs6, hs12, vi]
  refine spL_play hX hU (by omega) ho (fun w1 w2 f2 hX2 hf1 hf2 ho2 hv => ?_)
  have hM2 := (hM.fr hf1 (by omega)).fr hf2 (by omega)
  obtain ⟨l2, hm2⟩ := hM2.cell
  unfold holdL
  simp only [List.getElem?_cons_zero, List.getElem?_cons_succ, fv4, Nat.reduceAdd, Nat.reduceSub, wpL, pst, stpL, LG, lput, ls_tl, two, bc, EL, pad, popN, csum, Option.toList, List.cons_append, List.nil_append, List.set_cons_zero, List.set_cons_succ, List.length_cons, List.length_nil, true_and, and_true, Nat.reduceLT, Nat.reduceLeDiff, Nat.zero_le, Nat.le_refl, RI_i, RI_z0, RI_z1, Int32.reduceOfInt, Int8.reduceOfInt, Int16.reduceOfInt, Int64.reduceOfInt, Int8.toInt32_ofNat, Int16.toInt32_ofNat, Int.reduceNeg, Int32.ofInt_neg, Int8.ofInt_neg, Int16.ofInt_neg, Int32.toInt64_ofNat, Int32.reduceToNatClampNeg, Fin.isValue, Fin.val_one, Fin.val_zero, Fin.val_two, Int64.reduceOfNat, Int32.reduceOfNat, hdl, cutc, Nat.reduceEqDiff, reduceIte, FV, tyC, tyX0, tyX1, tyX2, tyX3, tyX4, tyX5, tyX6, tyX7, tyX8, tyX9, tyX10, Nat.reduceMul, c_le, c_lt, c_eq, c_in, c_cl, c_add, c_rem, c_ofN, Int32.add_zero, Int32.zero_add, c_lt0, c_ge0, c_le0, c_gt0, c_e0, c_m1, c_m1', false_implies, true_implies, implies_true, not_false_eq_true, not_true_eq_false, Nat.not_lt_zero, up_s, up_1, up_m, eq_self, Nat.add_zero, lg_self, ffc_887, ffk_887, bbL_law_887, bbL_law_911, bbL_law_928, LSt, b1, b2, b3, bL, h1, h2, h3, hc0, hc1, hc2, hs0, hs6, hs12, vi, hm2]
  refine sp10_play hM2 hU (fun w3 hM3 hf3 => ?_)
  have hX3 := hX2.fr hf3 (by omega)
  have ho3 := (hf3.at (by omega)).trans ho2
  obtain ⟨l3, hm3⟩ := hM3.cell
  unfold holdL
  simp only [List.getElem?_cons_zero, List.getElem?_cons_succ, fv4, Nat.reduceAdd, Nat.reduceSub, wpL, pst, stpL, LG, lput, ls_tl, two, bc, EL, pad, popN, csum, Option.toList, List.cons_append, List.nil_append, List.set_cons_zero, List.set_cons_succ, List.length_cons, List.length_nil, true_and, and_true, Nat.reduceLT, Nat.reduceLeDiff, Nat.zero_le, Nat.le_refl, RI_i, RI_z0, RI_z1, Int32.reduceOfInt, Int8.reduceOfInt, Int16.reduceOfInt, Int64.reduceOfInt, Int8.toInt32_ofNat, Int16.toInt32_ofNat, Int.reduceNeg, Int32.ofInt_neg, Int8.ofInt_neg, Int16.ofInt_neg, Int32.toInt64_ofNat, Int32.reduceToNatClampNeg, Fin.isValue, Fin.val_one, Fin.val_zero, Fin.val_two, Int64.reduceOfNat, Int32.reduceOfNat, hdl, cutc, Nat.reduceEqDiff, reduceIte, FV, tyC, tyX0, tyX1, tyX2, tyX3, tyX4, tyX5, tyX6, tyX7, tyX8, tyX9, tyX10, Nat.reduceMul, c_le, c_lt, c_eq, c_in, c_cl, c_add, c_rem, c_ofN, Int32.add_zero, Int32.zero_add, c_lt0, c_ge0, c_le0, c_gt0, c_e0, c_m1, c_m1', false_implies, true_implies, implies_true, not_false_eq_true, not_true_eq_false, Nat.not_lt_zero, up_s, up_1, up_m, eq_self, Nat.add_zero, lg_self, ffc_887, ffk_887, bbL_law_887, bbL_law_911, bbL_law_928, LSt, b1, b2, b3, bL, h1, h2, h3, hc0, hc1, hc2, hs0, hs6, hs12, vi, hm3]
  refine sp10_thr hM3 ?_
  refine lw_fin (c := _) hv ?_ (fun kz hv0 => ?_) (fun kz => ?_)
  · exact cb_o_play _
  · unfold holdL
    simp only [List.getElem?_cons_zero, List.getElem?_cons_succ, fv4, Nat.reduceAdd, Nat.reduceSub, wpL, pst, stpL, LG, lput, ls_tl, two, bc, EL, pad, popN, csum, Option.toList, List.cons_append, List.nil_append, List.set_cons_zero, List.set_cons_succ, List.length_cons, List.length_nil, true_and, and_true, Nat.reduceLT, Nat.reduceLeDiff, Nat.zero_le, Nat.le_refl, RI_i, RI_z0, RI_z1, Int32.reduceOfInt, Int8.reduceOfInt, Int16.reduceOfInt, Int64.reduceOfInt, Int8.toInt32_ofNat, Int16.toInt32_ofNat, Int.reduceNeg, Int32.ofInt_neg, Int8.ofInt_neg, Int16.ofInt_neg, Int32.toInt64_ofNat, Int32.reduceToNatClampNeg, Fin.isValue, Fin.val_one, Fin.val_zero, Fin.val_two, Int64.reduceOfNat, Int32.reduceOfNat, hdl, cutc, Nat.reduceEqDiff, reduceIte, FV, tyC, tyX0, tyX1, tyX2, tyX3, tyX4, tyX5, tyX6, tyX7, tyX8, tyX9, tyX10, Nat.reduceMul, c_le, c_lt, c_eq, c_in, c_cl, c_add, c_rem, c_ofN, Int32.add_zero, Int32.zero_add, c_lt0, c_ge0, c_le0, c_gt0, c_e0, c_m1, c_m1', false_implies, true_implies, implies_true, not_false_eq_true, not_true_eq_false, Nat.not_lt_zero, up_s, up_1, up_m, eq_self, Nat.add_zero, lg_self, ffc_887, ffk_887, bbL_law_887, bbL_law_911, bbL_law_928, LSt, b1, b2, b3, bL, h1, h2, h3, hc0, hc1, hc2, hs0, hs6, hs12, vi, hm3, ho3, kz, hv0]
    exact hN _ _ _ _ _ _ _ _ _ ⟨hX3, hM3, (ok_play hU), _, ho3⟩ (by omega) (by omega)
  · unfold holdL
    simp only [List.getElem?_cons_zero, List.getElem?_cons_succ, fv4, Nat.reduceAdd, Nat.reduceSub, wpL, pst, stpL, LG, lput, ls_tl, two, bc, EL, pad, popN, csum, Option.toList, List.cons_append, List.nil_append, List.set_cons_zero, List.set_cons_succ, List.length_cons, List.length_nil, true_and, and_true, Nat.reduceLT, Nat.reduceLeDiff, Nat.zero_le, Nat.le_refl, RI_i, RI_z0, RI_z1, Int32.reduceOfInt, Int8.reduceOfInt, Int16.reduceOfInt, Int64.reduceOfInt, Int8.toInt32_ofNat, Int16.toInt32_ofNat, Int.reduceNeg, Int32.ofInt_neg, Int8.ofInt_neg, Int16.ofInt_neg, Int32.toInt64_ofNat, Int32.reduceToNatClampNeg, Fin.isValue, Fin.val_one, Fin.val_zero, Fin.val_two, Int64.reduceOfNat, Int32.reduceOfNat, hdl, cutc, Nat.reduceEqDiff, reduceIte, FV, tyC, tyX0, tyX1, tyX2, tyX3, tyX4, tyX5, tyX6, tyX7, tyX8, tyX9, tyX10, Nat.reduceMul, c_le, c_lt, c_eq, c_in, c_cl, c_add, c_rem, c_ofN, Int32.add_zero, Int32.zero_add, c_lt0, c_ge0, c_le0, c_gt0, c_e0, c_m1, c_m1', false_implies, true_implies, implies_true, not_false_eq_true, not_true_eq_false, Nat.not_lt_zero, up_s, up_1, up_m, eq_self, Nat.add_zero, lg_self, ffc_887, ffk_887, bbL_law_887, bbL_law_911, bbL_law_928, LSt, b1, b2, b3, bL, h1, h2, h3, hc0, hc1, hc2, hs0, hs6, hs12, vi, hm3, ho3, kz]
    exact hN _ _ _ _ _ _ _ _ _ ⟨hX3, hM3, (ok_play hU), _, ho3⟩ (by omega) (by omega)
theorem lw_hasStopped (hR : RDY w x th U) (hi : i + 3 < sL) (hL : sL ≤ 2048) (hc2 : cs + 2 ≤ 601024) (hs12 : ss + 12 ≤ 7293034) (l5 l6 l7 l8 : Option Value) (hN : NXT Γ n h sb sL sx x i cs ss) : GL Γ (mLL n h) QL XL sb sL sx 931 (LSt sb x i l5 l6 l7 l8) [] none w cs ss := by
  obtain ⟨hX, hM, hU, f, ho⟩ := hR
  have hx := hX.cells.1
  have vi := vi_o
  have bi : i < 2147483648 := by omega
  have b1 : i + 1 < 2147483648 := by omega
  have b2 : i + 2 < 2147483648 := by omega
  have b3 : i + 3 < 2147483648 := by omega
  have bL : sL < 2147483648 := by omega
  have h1 : i + 1 < sL := by omega
  have h2 : i + 2 < sL := by omega
  have h3 : i + 3 < sL := by omega
  have hc0 : cs ≤ 601024 := by omega
  have hc1 : cs + 1 ≤ 601024 := by omega
  have hs0 : ss ≤ 7293034 := by omega
  have hs6 : ss + 6 ≤ 7293034 := by omega
  refine wpL_ok (kdc_931 n h) 400 931 bbL_law_931 _ _ _ _ _ _ (ooL_law_931 n h) ?_
  simp only [List.getElem?_cons_zero, List.getElem?_cons_succ, fv4, Nat.reduceAdd, Nat.reduceSub, wpL, pst, stpL, LG, lput, ls_tl, two, bc, EL, pad, popN, csum, Option.toList, List.cons_append, List.nil_append, List.set_cons_zero, List.set_cons_succ, List.length_cons, List.length_nil, true_and, and_true, Nat.reduceLT, Nat.reduceLeDiff, Nat.zero_le, Nat.le_refl, RI_i, RI_z0, RI_z1, Int32.reduceOfInt, Int8.reduceOfInt, Int16.reduceOfInt, Int64.reduceOfInt, Int8.toInt32_ofNat, Int16.toInt32_ofNat, Int.reduceNeg, Int32.ofInt_neg, Int8.ofInt_neg, Int16.ofInt_neg, Int32.toInt64_ofNat, Int32.reduceToNatClampNeg, Fin.isValue, Fin.val_one, Fin.val_zero, Fin.val_two, Int64.reduceOfNat, Int32.reduceOfNat, hdl, cutc, Nat.reduceEqDiff, reduceIte, FV, tyC, tyX0, tyX1, tyX2, tyX3, tyX4, tyX5, tyX6, tyX7, tyX8, tyX9, tyX10, Nat.reduceMul, c_le, c_lt, c_eq, c_in, c_cl, c_add, c_rem, c_ofN, Int32.add_zero, Int32.zero_add, c_lt0, c_ge0, c_le0, c_gt0, c_e0, c_m1, c_m1', false_implies, true_implies, implies_true, not_false_eq_true, not_true_eq_false, Nat.not_lt_zero, up_s, up_1, up_m, eq_self, Nat.add_zero, lg_self, ffc_931, ffk_931, bbL_law_931, LSt, b1, b2, b3, bL, h1, h2, h3, hc0, hc1, hc2, hs0, hs6, hs12, vi, hx]
  refine sp9_hasStopped hX ?_
  obtain ⟨l2, hm2⟩ := hM.cell
  unfold holdL
  simp only [List.getElem?_cons_zero, List.getElem?_cons_succ, fv4, Nat.reduceAdd, Nat.reduceSub, wpL, pst, stpL, LG, lput, ls_tl, two, bc, EL, pad, popN, csum, Option.toList, List.cons_append, List.nil_append, List.set_cons_zero, List.set_cons_succ, List.length_cons, List.length_nil, true_and, and_true, Nat.reduceLT, Nat.reduceLeDiff, Nat.zero_le, Nat.le_refl, RI_i, RI_z0, RI_z1, Int32.reduceOfInt, Int8.reduceOfInt, Int16.reduceOfInt, Int64.reduceOfInt, Int8.toInt32_ofNat, Int16.toInt32_ofNat, Int.reduceNeg, Int32.ofInt_neg, Int8.ofInt_neg, Int16.ofInt_neg, Int32.toInt64_ofNat, Int32.reduceToNatClampNeg, Fin.isValue, Fin.val_one, Fin.val_zero, Fin.val_two, Int64.reduceOfNat, Int32.reduceOfNat, hdl, cutc, Nat.reduceEqDiff, reduceIte, FV, tyC, tyX0, tyX1, tyX2, tyX3, tyX4, tyX5, tyX6, tyX7, tyX8, tyX9, tyX10, Nat.reduceMul, c_le, c_lt, c_eq, c_in, c_cl, c_add, c_rem, c_ofN, Int32.add_zero, Int32.zero_add, c_lt0, c_ge0, c_le0, c_gt0, c_e0, c_m1, c_m1', false_implies, true_implies, implies_true, not_false_eq_true, not_true_eq_false, Nat.not_lt_zero, up_s, up_1, up_m, eq_self, Nat.add_zero, lg_self, ffc_931, ffk_931, bbL_law_931, LSt, b1, b2, b3, bL, h1, h2, h3, hc0, hc1, hc2, hs0, hs6, hs12, vi, hm2]
  refine sp10_hasStopped hM hU (fun w3 hM3 hf3 => ?_)
  have hX3 := hX.fr hf3 (by omega)
  have ho3 := (hf3.at (by omega)).trans ho
  unfold holdL
  simp only [List.getElem?_cons_zero, List.getElem?_cons_succ, fv4, Nat.reduceAdd, Nat.reduceSub, wpL, pst, stpL, LG, lput, ls_tl, two, bc, EL, pad, popN, csum, Option.toList, List.cons_append, List.nil_append, List.set_cons_zero, List.set_cons_succ, List.length_cons, List.length_nil, true_and, and_true, Nat.reduceLT, Nat.reduceLeDiff, Nat.zero_le, Nat.le_refl, RI_i, RI_z0, RI_z1, Int32.reduceOfInt, Int8.reduceOfInt, Int16.reduceOfInt, Int64.reduceOfInt, Int8.toInt32_ofNat, Int16.toInt32_ofNat, Int.reduceNeg, Int32.ofInt_neg, Int8.ofInt_neg, Int16.ofInt_neg, Int32.toInt64_ofNat, Int32.reduceToNatClampNeg, Fin.isValue, Fin.val_one, Fin.val_zero, Fin.val_two, Int64.reduceOfNat, Int32.reduceOfNat, hdl, cutc, Nat.reduceEqDiff, reduceIte, FV, tyC, tyX0, tyX1, tyX2, tyX3, tyX4, tyX5, tyX6, tyX7, tyX8, tyX9, tyX10, Nat.reduceMul, c_le, c_lt, c_eq, c_in, c_cl, c_add, c_rem, c_ofN, Int32.add_zero, Int32.zero_add, c_lt0, c_ge0, c_le0, c_gt0, c_e0, c_m1, c_m1', false_implies, true_implies, implies_true, not_false_eq_true, not_true_eq_false, Nat.not_lt_zero, up_s, up_1, up_m, eq_self, Nat.add_zero, lg_self, ffc_931, ffk_931, bbL_law_931, LSt, b1, b2, b3, bL, h1, h2, h3, hc0, hc1, hc2, hs0, hs6, hs12, vi]
  exact hN _ _ _ _ _ _ _ _ _ ⟨hX3, hM3, hU, _, ho3⟩ (by omega) (by omega)
theorem lw_stoppedPart (hR : RDY w x th U) (hi : i + 3 < sL) (hL : sL ≤ 2048) (hc2 : cs + 2 ≤ 601024) (hs12 : ss + 12 ≤ 7293034) (l5 l6 l7 l8 : Option Value) (hN : NXT Γ n h sb sL sx x i cs ss) : GL Γ (mLL n h) QL XL sb sL sx 944 (LSt sb x i l5 l6 l7 l8) [] none w cs ss := by
  obtain ⟨hX, hM, hU, f, ho⟩ := hR
  have hx := hX.cells.1
  have vi := vi_o
  have bi : i < 2147483648 := by omega
  have b1 : i + 1 < 2147483648 := by omega
  have b2 : i + 2 < 2147483648 := by omega
  have b3 : i + 3 < 2147483648 := by omega
  have bL : sL < 2147483648 := by omega
  have h1 : i + 1 < sL := by omega
  have h2 : i + 2 < sL := by omega
  have h3 : i + 3 < sL := by omega
  have hc0 : cs ≤ 601024 := by omega
  have hc1 : cs + 1 ≤ 601024 := by omega
  have hs0 : ss ≤ 7293034 := by omega
  have hs6 : ss + 6 ≤ 7293034 := by omega
  refine wpL_ok (kdc_944 n h) 400 944 bbL_law_944 _ _ _ _ _ _ (ooL_law_944 n h) ?_
  simp only [List.getElem?_cons_zero, List.getElem?_cons_succ, fv4, Nat.reduceAdd, Nat.reduceSub, wpL, pst, stpL, LG, lput, ls_tl, two, bc, EL, pad, popN, csum, Option.toList, List.cons_append, List.nil_append, List.set_cons_zero, List.set_cons_succ, List.length_cons, List.length_nil, true_and, and_true, Nat.reduceLT, Nat.reduceLeDiff, Nat.zero_le, Nat.le_refl, RI_i, RI_z0, RI_z1, Int32.reduceOfInt, Int8.reduceOfInt, Int16.reduceOfInt, Int64.reduceOfInt, Int8.toInt32_ofNat, Int16.toInt32_ofNat, Int.reduceNeg, Int32.ofInt_neg, Int8.ofInt_neg, Int16.ofInt_neg, Int32.toInt64_ofNat, Int32.reduceToNatClampNeg, Fin.isValue, Fin.val_one, Fin.val_zero, Fin.val_two, Int64.reduceOfNat, Int32.reduceOfNat, hdl, cutc, Nat.reduceEqDiff, reduceIte, FV, tyC, tyX0, tyX1, tyX2, tyX3, tyX4, tyX5, tyX6, tyX7, tyX8, tyX9, tyX10, Nat.reduceMul, c_le, c_lt, c_eq, c_in, c_cl, c_add, c_rem, c_ofN, Int32.add_zero, Int32.zero_add, c_lt0, c_ge0, c_le0, c_gt0, c_e0, c_m1, c_m1', false_implies, true_implies, implies_true, not_false_eq_true, not_true_eq_false, Nat.not_lt_zero, up_s, up_1, up_m, eq_self, Nat.add_zero, lg_self, ffc_944, ffk_944, bbL_law_944, bbL_law_968, bbL_law_985, LSt, b1, b2, b3, bL, h1, h2, h3, hc0, hc1, hc2, hs0, hs6, hs12, vi]
  refine spL_stoppedPart hX hU (by omega) ho (fun w1 w2 f2 hX2 hf1 hf2 ho2 hv => ?_)
  have hM2 := (hM.fr hf1 (by omega)).fr hf2 (by omega)
  obtain ⟨l2, hm2⟩ := hM2.cell
  unfold holdL
  simp only [List.getElem?_cons_zero, List.getElem?_cons_succ, fv4, Nat.reduceAdd, Nat.reduceSub, wpL, pst, stpL, LG, lput, ls_tl, two, bc, EL, pad, popN, csum, Option.toList, List.cons_append, List.nil_append, List.set_cons_zero, List.set_cons_succ, List.length_cons, List.length_nil, true_and, and_true, Nat.reduceLT, Nat.reduceLeDiff, Nat.zero_le, Nat.le_refl, RI_i, RI_z0, RI_z1, Int32.reduceOfInt, Int8.reduceOfInt, Int16.reduceOfInt, Int64.reduceOfInt, Int8.toInt32_ofNat, Int16.toInt32_ofNat, Int.reduceNeg, Int32.ofInt_neg, Int8.ofInt_neg, Int16.ofInt_neg, Int32.toInt64_ofNat, Int32.reduceToNatClampNeg, Fin.isValue, Fin.val_one, Fin.val_zero, Fin.val_two, Int64.reduceOfNat, Int32.reduceOfNat, hdl, cutc, Nat.reduceEqDiff, reduceIte, FV, tyC, tyX0, tyX1, tyX2, tyX3, tyX4, tyX5, tyX6, tyX7, tyX8, tyX9, tyX10, Nat.reduceMul, c_le, c_lt, c_eq, c_in, c_cl, c_add, c_rem, c_ofN, Int32.add_zero, Int32.zero_add, c_lt0, c_ge0, c_le0, c_gt0, c_e0, c_m1, c_m1', false_implies, true_implies, implies_true, not_false_eq_true, not_true_eq_false, Nat.not_lt_zero, up_s, up_1, up_m, eq_self, Nat.add_zero, lg_self, ffc_944, ffk_944, bbL_law_944, bbL_law_968, bbL_law_985, LSt, b1, b2, b3, bL, h1, h2, h3, hc0, hc1, hc2, hs0, hs6, hs12, vi, hm2]
  refine sp10_stoppedPart hM2 hU (fun w3 hM3 hf3 => ?_)
  have hX3 := hX2.fr hf3 (by omega)
  have ho3 := (hf3.at (by omega)).trans ho2
  obtain ⟨l3, hm3⟩ := hM3.cell
  unfold holdL
  simp only [List.getElem?_cons_zero, List.getElem?_cons_succ, fv4, Nat.reduceAdd, Nat.reduceSub, wpL, pst, stpL, LG, lput, ls_tl, two, bc, EL, pad, popN, csum, Option.toList, List.cons_append, List.nil_append, List.set_cons_zero, List.set_cons_succ, List.length_cons, List.length_nil, true_and, and_true, Nat.reduceLT, Nat.reduceLeDiff, Nat.zero_le, Nat.le_refl, RI_i, RI_z0, RI_z1, Int32.reduceOfInt, Int8.reduceOfInt, Int16.reduceOfInt, Int64.reduceOfInt, Int8.toInt32_ofNat, Int16.toInt32_ofNat, Int.reduceNeg, Int32.ofInt_neg, Int8.ofInt_neg, Int16.ofInt_neg, Int32.toInt64_ofNat, Int32.reduceToNatClampNeg, Fin.isValue, Fin.val_one, Fin.val_zero, Fin.val_two, Int64.reduceOfNat, Int32.reduceOfNat, hdl, cutc, Nat.reduceEqDiff, reduceIte, FV, tyC, tyX0, tyX1, tyX2, tyX3, tyX4, tyX5, tyX6, tyX7, tyX8, tyX9, tyX10, Nat.reduceMul, c_le, c_lt, c_eq, c_in, c_cl, c_add, c_rem, c_ofN, Int32.add_zero, Int32.zero_add, c_lt0, c_ge0, c_le0, c_gt0, c_e0, c_m1, c_m1', false_implies, true_implies, implies_true, not_false_eq_true, not_true_eq_false, Nat.not_lt_zero, up_s, up_1, up_m, eq_self, Nat.add_zero, lg_self, ffc_944, ffk_944, bbL_law_944, bbL_law_968, bbL_law_985, LSt, b1, b2, b3, bL, h1, h2, h3, hc0, hc1, hc2, hs0, hs6, hs12, vi, hm3]
  refine sp10_thr hM3 ?_
  refine lw_fin (c := _) hv ?_ (fun kz hv0 => ?_) (fun kz => ?_)
  · exact cb_v_stopped _
  · unfold holdL
    simp only [List.getElem?_cons_zero, List.getElem?_cons_succ, fv4, Nat.reduceAdd, Nat.reduceSub, wpL, pst, stpL, LG, lput, ls_tl, two, bc, EL, pad, popN, csum, Option.toList, List.cons_append, List.nil_append, List.set_cons_zero, List.set_cons_succ, List.length_cons, List.length_nil, true_and, and_true, Nat.reduceLT, Nat.reduceLeDiff, Nat.zero_le, Nat.le_refl, RI_i, RI_z0, RI_z1, Int32.reduceOfInt, Int8.reduceOfInt, Int16.reduceOfInt, Int64.reduceOfInt, Int8.toInt32_ofNat, Int16.toInt32_ofNat, Int.reduceNeg, Int32.ofInt_neg, Int8.ofInt_neg, Int16.ofInt_neg, Int32.toInt64_ofNat, Int32.reduceToNatClampNeg, Fin.isValue, Fin.val_one, Fin.val_zero, Fin.val_two, Int64.reduceOfNat, Int32.reduceOfNat, hdl, cutc, Nat.reduceEqDiff, reduceIte, FV, tyC, tyX0, tyX1, tyX2, tyX3, tyX4, tyX5, tyX6, tyX7, tyX8, tyX9, tyX10, Nat.reduceMul, c_le, c_lt, c_eq, c_in, c_cl, c_add, c_rem, c_ofN, Int32.add_zero, Int32.zero_add, c_lt0, c_ge0, c_le0, c_gt0, c_e0, c_m1, c_m1', false_implies, true_implies, implies_true, not_false_eq_true, not_true_eq_false, Nat.not_lt_zero, up_s, up_1, up_m, eq_self, Nat.add_zero, lg_self, ffc_944, ffk_944, bbL_law_944, bbL_law_968, bbL_law_985, LSt, b1, b2, b3, bL, h1, h2, h3, hc0, hc1, hc2, hs0, hs6, hs12, vi, hm3, ho3, kz, hv0]
    exact hN _ _ _ _ _ _ _ _ _ ⟨hX3, hM3, hU, _, ho3⟩ (by omega) (by omega)
  · unfold holdL
    simp only [List.getElem?_cons_zero, List.getElem?_cons_succ, fv4, Nat.reduceAdd, Nat.reduceSub, wpL, pst, stpL, LG, lput, ls_tl, two, bc, EL, pad, popN, csum, Option.toList, List.cons_append, List.nil_append, List.set_cons_zero, List.set_cons_succ, List.length_cons, List.length_nil, true_and, and_true, Nat.reduceLT, Nat.reduceLeDiff, Nat.zero_le, Nat.le_refl, RI_i, RI_z0, RI_z1, Int32.reduceOfInt, Int8.reduceOfInt, Int16.reduceOfInt, Int64.reduceOfInt, Int8.toInt32_ofNat, Int16.toInt32_ofNat, Int.reduceNeg, Int32.ofInt_neg, Int8.ofInt_neg, Int16.ofInt_neg, Int32.toInt64_ofNat, Int32.reduceToNatClampNeg, Fin.isValue, Fin.val_one, Fin.val_zero, Fin.val_two, Int64.reduceOfNat, Int32.reduceOfNat, hdl, cutc, Nat.reduceEqDiff, reduceIte, FV, tyC, tyX0, tyX1, tyX2, tyX3, tyX4, tyX5, tyX6, tyX7, tyX8, tyX9, tyX10, Nat.reduceMul, c_le, c_lt, c_eq, c_in, c_cl, c_add, c_rem, c_ofN, Int32.add_zero, Int32.zero_add, c_lt0, c_ge0, c_le0, c_gt0, c_e0, c_m1, c_m1', false_implies, true_implies, implies_true, not_false_eq_true, not_true_eq_false, Nat.not_lt_zero, up_s, up_1, up_m, eq_self, Nat.add_zero, lg_self, ffc_944, ffk_944, bbL_law_944, bbL_law_968, bbL_law_985, LSt, b1, b2, b3, bL, h1, h2, h3, hc0, hc1, hc2, hs0, hs6, hs12, vi, hm3, ho3, kz]
    exact hN _ _ _ _ _ _ _ _ _ ⟨hX3, hM3, hU, _, ho3⟩ (by omega) (by omega)
end LAW

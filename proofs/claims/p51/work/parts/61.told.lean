/-! WHAT IS TOLD OF AN OBJECT -/
def tI (S : AS) : Int64 := 31 * (31 * (31 * (31 * (31 * (31 * 3 + lN (a_wd S)) + lN (a_L S).length) + lN (a_sy S)) + lN (a_s S).length) + lN (cntR (a_R S))) + lN (a_E S).length
def tA (S : AS) : Nat → Int64
  | 0 => tI S
  | k + 1 => 31 * tA S k + lN ((a_L S).getD k 0)
def tB (S : AS) : Nat → Int64
  | 0 => tA S (a_L S).length
  | k + 1 => 31 * tB S k + lN ((a_s S).getD k 0)
def tC (S : AS) : Nat → Int64
  | 0 => tB S (a_s S).length
  | k + 1 => match (a_R S).getD k none with
    | some p => 31 * tC S k + lN p
    | none => 31 * tC S k - 1
def tD (S : AS) : Nat → Int64
  | 0 => tC S 10
  | k + 1 => 31 * (31 * tD S k + lN ((a_E S).getD k (0, 0)).1) + lN ((a_E S).getD k (0, 0)).2
def tld (S : AS) : Int64 := 31 * tD S (a_E S).length + (match a_st S with
  | some k => lN (1 + k)
  | none => lN 0)
section TOLD
variable {Γ : Amb} {w : PW} {Q : Option Value → Option Nat → PW → Prop} {QX : String → PW → Prop} {x : Nat} {U : US}
theorem told_D (h : XU w x U) (hU : UOK U) (hQ : Q (some (.long (tld (us_S U)))) none w) : ∀ (n k : Nat) (j3 : Option Value), n + k = (a_E (us_S U)).length → G Γ mL_told Q QX 181 [some (.ref x), some (.long (tD (us_S U) k)), none, j3, some (.int (nI k))] [] none w (550 + 2 * k) (3300 + 12 * k) := by
  have hx := (show XO w x (us_S U) (us_N U) (us_T U) (us_B U) from h).cells.1
  obtain ⟨k1, k2, k3, k4, k5, k6, k7, k8, k9, k10, k11, k12⟩ := hU.1
  have b2 : (a_E (us_S U)).length < 2147483648 := by omega
  intro n
  induction n with
  | zero =>
    intro k j3 hk
    have b1 : k < 2147483648 := by omega
    refine wp_ok kdL_told 400 181 bbL_told_181 _ _ _ _ _ _ ooL_told_181 ?_
    simp only [List.getElem?_cons_zero, List.getElem?_cons_succ, fv4, Nat.reduceAdd, Nat.reduceSub, wp, pst, stp, LG, lput, ls_tl, two, bc, EL, pad, popN, csum, Option.toList, List.cons_append, List.nil_append, List.set_cons_zero, List.set_cons_succ, List.length_cons, List.length_nil, true_and, and_true, Nat.reduceLT, Nat.reduceLeDiff, Nat.zero_le, Nat.le_refl, RI_i, RI_z0, RI_z1, Int32.reduceOfInt, Int8.reduceOfInt, Int16.reduceOfInt, Int64.reduceOfInt, Int8.toInt32_ofNat, Int16.toInt32_ofNat, Int.reduceNeg, Int32.ofInt_neg, Int8.ofInt_neg, Int16.ofInt_neg, Int32.toInt64_ofNat, Int32.reduceToNatClampNeg, Fin.isValue, Fin.val_one, Fin.val_zero, Fin.val_two, Int64.reduceOfNat, Int32.reduceOfNat, hdl, cutc, Nat.reduceEqDiff, reduceIte, FV, tyC, tyX0, tyX1, tyX2, tyX3, tyX4, tyX5, tyX6, tyX7, tyX8, tyX9, tyX10, Nat.reduceMul, c_le, c_lt, c_eq, c_in, c_cl, c_add, c_rem, c_ofN, Int32.add_zero, Int32.zero_add, c_lt0, c_ge0, c_le0, c_gt0, c_e0, c_m1, c_m1', false_implies, true_implies, implies_true, not_false_eq_true, not_true_eq_false, Nat.not_lt_zero, up_s, up_1, up_m, ffL_told, bbL_told_0, bbL_told_70, bbL_told_96, bbL_told_104, bbL_told_130, bbL_told_133, bbL_told_164, bbL_told_171, bbL_told_178, bbL_told_181, bbL_told_222, bbL_told_243, bbL_told_244, cl_1, ca_1, cl_10, ca_10, hx, Nat.add_zero]
    refine ⟨by omega, by omega, ?_⟩
    refine sp9_errors h ?_
    unfold holdL
    simp only [List.getElem?_cons_zero, List.getElem?_cons_succ, fv4, Nat.reduceAdd, Nat.reduceSub, wp, pst, stp, LG, lput, ls_tl, two, bc, EL, pad, popN, csum, Option.toList, List.cons_append, List.nil_append, List.set_cons_zero, List.set_cons_succ, List.length_cons, List.length_nil, true_and, and_true, Nat.reduceLT, Nat.reduceLeDiff, Nat.zero_le, Nat.le_refl, RI_i, RI_z0, RI_z1, Int32.reduceOfInt, Int8.reduceOfInt, Int16.reduceOfInt, Int64.reduceOfInt, Int8.toInt32_ofNat, Int16.toInt32_ofNat, Int.reduceNeg, Int32.ofInt_neg, Int8.ofInt_neg, Int16.ofInt_neg, Int32.toInt64_ofNat, Int32.reduceToNatClampNeg, Fin.isValue, Fin.val_one, Fin.val_zero, Fin.val_two, Int64.reduceOfNat, Int32.reduceOfNat, hdl, cutc, Nat.reduceEqDiff, reduceIte, FV, tyC, tyX0, tyX1, tyX2, tyX3, tyX4, tyX5, tyX6, tyX7, tyX8, tyX9, tyX10, Nat.reduceMul, c_le, c_lt, c_eq, c_in, c_cl, c_add, c_rem, c_ofN, Int32.add_zero, Int32.zero_add, c_lt0, c_ge0, c_le0, c_gt0, c_e0, c_m1, c_m1', false_implies, true_implies, implies_true, not_false_eq_true, not_true_eq_false, Nat.not_lt_zero, up_s, up_1, up_m, ffL_told, bbL_told_0, bbL_told_70, bbL_told_96, bbL_told_104, bbL_told_130, bbL_told_133, bbL_told_164, bbL_told_171, bbL_told_178, bbL_told_181, bbL_told_222, bbL_told_243, bbL_told_244, cl_1, ca_1, cl_10, ca_10, hx, b1, b2, Nat.add_zero]
    refine ⟨fun _ => ⟨by omega, by omega, ?_⟩, fun hh => absurd hh (by omega)⟩
    refine sp9_hasStopped h ?_
    rw [show k = (a_E (us_S U)).length by omega]
    unfold tld at hQ
    cases hst : a_st (us_S U) with
    | none =>
      rw [hst] at hQ
      unfold holdL
      simp only [List.getElem?_cons_zero, List.getElem?_cons_succ, fv4, Nat.reduceAdd, Nat.reduceSub, wp, pst, stp, LG, lput, ls_tl, two, bc, EL, pad, popN, csum, Option.toList, List.cons_append, List.nil_append, List.set_cons_zero, List.set_cons_succ, List.length_cons, List.length_nil, true_and, and_true, Nat.reduceLT, Nat.reduceLeDiff, Nat.zero_le, Nat.le_refl, RI_i, RI_z0, RI_z1, Int32.reduceOfInt, Int8.reduceOfInt, Int16.reduceOfInt, Int64.reduceOfInt, Int8.toInt32_ofNat, Int16.toInt32_ofNat, Int.reduceNeg, Int32.ofInt_neg, Int8.ofInt_neg, Int16.ofInt_neg, Int32.toInt64_ofNat, Int32.reduceToNatClampNeg, Fin.isValue, Fin.val_one, Fin.val_zero, Fin.val_two, Int64.reduceOfNat, Int32.reduceOfNat, hdl, cutc, Nat.reduceEqDiff, reduceIte, FV, tyC, tyX0, tyX1, tyX2, tyX3, tyX4, tyX5, tyX6, tyX7, tyX8, tyX9, tyX10, Nat.reduceMul, c_le, c_lt, c_eq, c_in, c_cl, c_add, c_rem, c_ofN, Int32.add_zero, Int32.zero_add, c_lt0, c_ge0, c_le0, c_gt0, c_e0, c_m1, c_m1', false_implies, true_implies, implies_true, not_false_eq_true, not_true_eq_false, Nat.not_lt_zero, up_s, up_1, up_m, ffL_told, bbL_told_0, bbL_told_70, bbL_told_96, bbL_told_104, bbL_told_130, bbL_told_133, bbL_told_164, bbL_told_171, bbL_told_178, bbL_told_181, bbL_told_222, bbL_told_243, bbL_told_244, cl_1, ca_1, cl_10, ca_10, hx, Nat.add_zero, stI]
      sorry
    | some q =>
      rw [hst] at hQ
      unfold holdL
      simp only [List.getElem?_cons_zero, List.getElem?_cons_succ, fv4, Nat.reduceAdd, Nat.reduceSub, wp, pst, stp, LG, lput, ls_tl, two, bc, EL, pad, popN, csum, Option.toList, List.cons_append, List.nil_append, List.set_cons_zero, List.set_cons_succ, List.length_cons, List.length_nil, true_and, and_true, Nat.reduceLT, Nat.reduceLeDiff, Nat.zero_le, Nat.le_refl, RI_i, RI_z0, RI_z1, Int32.reduceOfInt, Int8.reduceOfInt, Int16.reduceOfInt, Int64.reduceOfInt, Int8.toInt32_ofNat, Int16.toInt32_ofNat, Int.reduceNeg, Int32.ofInt_neg, Int8.ofInt_neg, Int16.ofInt_neg, Int32.toInt64_ofNat, Int32.reduceToNatClampNeg, Fin.isValue, Fin.val_one, Fin.val_zero, Fin.val_two, Int64.reduceOfNat, Int32.reduceOfNat, hdl, cutc, Nat.reduceEqDiff, reduceIte, FV, tyC, tyX0, tyX1, tyX2, tyX3, tyX4, tyX5, tyX6, tyX7, tyX8, tyX9, tyX10, Nat.reduceMul, c_le, c_lt, c_eq, c_in, c_cl, c_add, c_rem, c_ofN, Int32.add_zero, Int32.zero_add, c_lt0, c_ge0, c_le0, c_gt0, c_e0, c_m1, c_m1', false_implies, true_implies, implies_true, not_false_eq_true, not_true_eq_false, Nat.not_lt_zero, up_s, up_1, up_m, ffL_told, bbL_told_0, bbL_told_70, bbL_told_96, bbL_told_104, bbL_told_130, bbL_told_133, bbL_told_164, bbL_told_171, bbL_told_178, bbL_told_181, bbL_told_222, bbL_told_243, bbL_told_244, cl_1, ca_1, cl_10, ca_10, hx, Nat.add_zero, stI]
      sorry
  | succ n ih =>
    intro k j3 hk
    have b1 : k < 2147483648 := by omega
    refine wp_ok kdL_told 400 181 bbL_told_181 _ _ _ _ _ _ ooL_told_181 ?_
    simp only [List.getElem?_cons_zero, List.getElem?_cons_succ, fv4, Nat.reduceAdd, Nat.reduceSub, wp, pst, stp, LG, lput, ls_tl, two, bc, EL, pad, popN, csum, Option.toList, List.cons_append, List.nil_append, List.set_cons_zero, List.set_cons_succ, List.length_cons, List.length_nil, true_and, and_true, Nat.reduceLT, Nat.reduceLeDiff, Nat.zero_le, Nat.le_refl, RI_i, RI_z0, RI_z1, Int32.reduceOfInt, Int8.reduceOfInt, Int16.reduceOfInt, Int64.reduceOfInt, Int8.toInt32_ofNat, Int16.toInt32_ofNat, Int.reduceNeg, Int32.ofInt_neg, Int8.ofInt_neg, Int16.ofInt_neg, Int32.toInt64_ofNat, Int32.reduceToNatClampNeg, Fin.isValue, Fin.val_one, Fin.val_zero, Fin.val_two, Int64.reduceOfNat, Int32.reduceOfNat, hdl, cutc, Nat.reduceEqDiff, reduceIte, FV, tyC, tyX0, tyX1, tyX2, tyX3, tyX4, tyX5, tyX6, tyX7, tyX8, tyX9, tyX10, Nat.reduceMul, c_le, c_lt, c_eq, c_in, c_cl, c_add, c_rem, c_ofN, Int32.add_zero, Int32.zero_add, c_lt0, c_ge0, c_le0, c_gt0, c_e0, c_m1, c_m1', false_implies, true_implies, implies_true, not_false_eq_true, not_true_eq_false, Nat.not_lt_zero, up_s, up_1, up_m, ffL_told, bbL_told_0, bbL_told_70, bbL_told_96, bbL_told_104, bbL_told_130, bbL_told_133, bbL_told_164, bbL_told_171, bbL_told_178, bbL_told_181, bbL_told_222, bbL_told_243, bbL_told_244, cl_1, ca_1, cl_10, ca_10, hx, Nat.add_zero]
    refine ⟨by omega, by omega, ?_⟩
    refine sp9_errors h ?_
    unfold holdL
    simp only [List.getElem?_cons_zero, List.getElem?_cons_succ, fv4, Nat.reduceAdd, Nat.reduceSub, wp, pst, stp, LG, lput, ls_tl, two, bc, EL, pad, popN, csum, Option.toList, List.cons_append, List.nil_append, List.set_cons_zero, List.set_cons_succ, List.length_cons, List.length_nil, true_and, and_true, Nat.reduceLT, Nat.reduceLeDiff, Nat.zero_le, Nat.le_refl, RI_i, RI_z0, RI_z1, Int32.reduceOfInt, Int8.reduceOfInt, Int16.reduceOfInt, Int64.reduceOfInt, Int8.toInt32_ofNat, Int16.toInt32_ofNat, Int.reduceNeg, Int32.ofInt_neg, Int8.ofInt_neg, Int16.ofInt_neg, Int32.toInt64_ofNat, Int32.reduceToNatClampNeg, Fin.isValue, Fin.val_one, Fin.val_zero, Fin.val_two, Int64.reduceOfNat, Int32.reduceOfNat, hdl, cutc, Nat.reduceEqDiff, reduceIte, FV, tyC, tyX0, tyX1, tyX2, tyX3, tyX4, tyX5, tyX6, tyX7, tyX8, tyX9, tyX10, Nat.reduceMul, c_le, c_lt, c_eq, c_in, c_cl, c_add, c_rem, c_ofN, Int32.add_zero, Int32.zero_add, c_lt0, c_ge0, c_le0, c_gt0, c_e0, c_m1, c_m1', false_implies, true_implies, implies_true, not_false_eq_true, not_true_eq_false, Nat.not_lt_zero, up_s, up_1, up_m, ffL_told, bbL_told_0, bbL_told_70, bbL_told_96, bbL_told_104, bbL_told_130, bbL_told_133, bbL_told_164, bbL_told_171, bbL_told_178, bbL_told_181, bbL_told_222, bbL_told_243, bbL_told_244, cl_1, ca_1, cl_10, ca_10, hx, b1, b2, Nat.add_zero]
    refine ⟨fun hh => absurd hh (by omega), fun _ => ⟨by omega, by omega, ?_⟩⟩
    refine sq_errorPlace h hU (show k < (a_E (us_S U)).length by omega) ?_
    unfold holdL
    simp only [List.getElem?_cons_zero, List.getElem?_cons_succ, fv4, Nat.reduceAdd, Nat.reduceSub, wp, pst, stp, LG, lput, ls_tl, two, bc, EL, pad, popN, csum, Option.toList, List.cons_append, List.nil_append, List.set_cons_zero, List.set_cons_succ, List.length_cons, List.length_nil, true_and, and_true, Nat.reduceLT, Nat.reduceLeDiff, Nat.zero_le, Nat.le_refl, RI_i, RI_z0, RI_z1, Int32.reduceOfInt, Int8.reduceOfInt, Int16.reduceOfInt, Int64.reduceOfInt, Int8.toInt32_ofNat, Int16.toInt32_ofNat, Int.reduceNeg, Int32.ofInt_neg, Int8.ofInt_neg, Int16.ofInt_neg, Int32.toInt64_ofNat, Int32.reduceToNatClampNeg, Fin.isValue, Fin.val_one, Fin.val_zero, Fin.val_two, Int64.reduceOfNat, Int32.reduceOfNat, hdl, cutc, Nat.reduceEqDiff, reduceIte, FV, tyC, tyX0, tyX1, tyX2, tyX3, tyX4, tyX5, tyX6, tyX7, tyX8, tyX9, tyX10, Nat.reduceMul, c_le, c_lt, c_eq, c_in, c_cl, c_add, c_rem, c_ofN, Int32.add_zero, Int32.zero_add, c_lt0, c_ge0, c_le0, c_gt0, c_e0, c_m1, c_m1', false_implies, true_implies, implies_true, not_false_eq_true, not_true_eq_false, Nat.not_lt_zero, up_s, up_1, up_m, ffL_told, bbL_told_0, bbL_told_70, bbL_told_96, bbL_told_104, bbL_told_130, bbL_told_133, bbL_told_164, bbL_told_171, bbL_told_178, bbL_told_181, bbL_told_222, bbL_told_243, bbL_told_244, cl_1, ca_1, cl_10, ca_10, hx, Nat.add_zero, Nat.add_assoc]
    sorry
end TOLD

/-! THE MODEL'S DIGEST -/
theorem xh (h : Int64) (v : Nat) : 31 * h + lN v = hx h v := rfl
theorem xh0 (h : Int64) : 31 * h + 0 = hx h 0 := rfl
theorem xh1 (h : Int64) : 31 * h + 1 = hx h 1 := rfl
theorem raw_bits (D : UInt64) : D.toInt64 = lN D.toNat := by
  apply Int64.toBitVec_inj.mp
  show D.toBitVec = BitVec.ofNat 64 D.toNat
  exact (BitVec.ofNat_toNat 64 D.toBitVec).symm.trans rfl |>.symm ▸ rfl
section MDIG
variable {Γ : Amb} {w : PW} {Q : Option Value → Option Nat → PW → Prop} {m : Nat} {th : Int32} {U : US}
theorem spJ_bits {S : AS} (h : SOK S) (hQ : Q (some (.long (lN (shr S).toNat))) none w) : Sp Γ mJxe99ae_doubleToLongBits [.double (shr S)] none w Q := by
  have hc : Op.cmpValue (FP.dcmp (shr S) (shr S)) .l = 0 := by
    by_cases hz : (a_L S).length = 0
    · have hs : shr S = FP.dconst0 := if_pos hz
      rw [hs]; decide +kernel
    · obtain ⟨E, F, hs, s1, s2, s3⟩ := shr_ok h (Nat.pos_of_ne_zero hz)
      rw [hs, dcmp_self (by omega) (by omega) s3]; rfl
  rw [← raw_bits] at hQ
  generalize shr S = D at *
  have hn : ∀ Q' : Option Value → Option Nat → PW → Prop, Q' (some (.int 0)) none w → Sp Γ mJxe99ae_isNaN [.double D] none w Q' := by
    intro Q' hq'
    refine entry Γ mJxe99ae_isNaN rfl _ (Nat.le_of_ble_eq_true rfl) _ _ _ ?_
    refine wp_ok kdJxe99ae_isNaN 400 0 bbJxe99ae_isNaN_0 _ _ _ _ _ _ ooJxe99ae_isNaN_0 ?_
    simp only [List.getElem?_cons_zero, List.getElem?_cons_succ, fv4, Nat.reduceAdd, Nat.reduceSub, wp, pst, stp, LG, lput, ls_tl, two, bc, EL, pad, popN, csum, Option.toList, List.cons_append, List.nil_append, List.set_cons_zero, List.set_cons_succ, List.length_cons, List.length_nil, true_and, and_true, Nat.reduceLT, Nat.reduceLeDiff, Nat.zero_le, Nat.le_refl, RI_i, RI_z0, RI_z1, Int32.reduceOfInt, Int8.reduceOfInt, Int16.reduceOfInt, Int64.reduceOfInt, Int8.toInt32_ofNat, Int16.toInt32_ofNat, Int.reduceNeg, Int32.ofInt_neg, Int8.ofInt_neg, Int16.ofInt_neg, Int32.toInt64_ofNat, Int32.reduceToNatClampNeg, Fin.isValue, Fin.val_one, Fin.val_zero, Fin.val_two, Int64.reduceOfNat, Int32.reduceOfNat, hdl, cutc, Nat.reduceEqDiff, reduceIte, FV, tyC, tyX0, tyX1, tyX2, tyX3, tyX4, tyX5, tyX6, tyX7, tyX8, tyX9, tyX10, Nat.reduceMul, c_le, c_lt, c_eq, c_in, c_cl, c_add, c_rem, c_ofN, Int32.add_zero, Int32.zero_add, c_lt0, c_ge0, c_le0, c_gt0, c_e0, c_m1, c_m1', false_implies, true_implies, implies_true, not_false_eq_true, not_true_eq_false, Nat.not_lt_zero, up_s, up_1, up_m, ffJxe99ae_isNaN, bbJxe99ae_isNaN_0, bbJxe99ae_isNaN_10, bbJxe99ae_isNaN_11, cl_1, ca_1, hc]
    exact hq'
  refine entry Γ mJxe99ae_doubleToLongBits rfl _ (Nat.le_of_ble_eq_true rfl) _ _ _ ?_
  refine wp_ok kdJxe99ae_doubleToLongBits 400 0 bbJxe99ae_doubleToLongBits_0 _ _ _ _ _ _ ooJxe99ae_doubleToLongBits_0 ?_
  simp only [List.getElem?_cons_zero, List.getElem?_cons_succ, fv4, Nat.reduceAdd, Nat.reduceSub, wp, pst, stp, LG, lput, ls_tl, two, bc, EL, pad, popN, csum, Option.toList, List.cons_append, List.nil_append, List.set_cons_zero, List.set_cons_succ, List.length_cons, List.length_nil, true_and, and_true, Nat.reduceLT, Nat.reduceLeDiff, Nat.zero_le, Nat.le_refl, RI_i, RI_z0, RI_z1, Int32.reduceOfInt, Int8.reduceOfInt, Int16.reduceOfInt, Int64.reduceOfInt, Int8.toInt32_ofNat, Int16.toInt32_ofNat, Int.reduceNeg, Int32.ofInt_neg, Int8.ofInt_neg, Int16.ofInt_neg, Int32.toInt64_ofNat, Int32.reduceToNatClampNeg, Fin.isValue, Fin.val_one, Fin.val_zero, Fin.val_two, Int64.reduceOfNat, Int32.reduceOfNat, hdl, cutc, Nat.reduceEqDiff, reduceIte, FV, tyC, tyX0, tyX1, tyX2, tyX3, tyX4, tyX5, tyX6, tyX7, tyX8, tyX9, tyX10, Nat.reduceMul, c_le, c_lt, c_eq, c_in, c_cl, c_add, c_rem, c_ofN, Int32.add_zero, Int32.zero_add, c_lt0, c_ge0, c_le0, c_gt0, c_e0, c_m1, c_m1', false_implies, true_implies, implies_true, not_false_eq_true, not_true_eq_false, Nat.not_lt_zero, up_s, up_1, up_m, ffJxe99ae_doubleToLongBits, bbJxe99ae_doubleToLongBits_0, bbJxe99ae_doubleToLongBits_12]
  refine hn _ ?_
  unfold holdL
  simp only [List.getElem?_cons_zero, List.getElem?_cons_succ, fv4, Nat.reduceAdd, Nat.reduceSub, wp, pst, stp, LG, lput, ls_tl, two, bc, EL, pad, popN, csum, Option.toList, List.cons_append, List.nil_append, List.set_cons_zero, List.set_cons_succ, List.length_cons, List.length_nil, true_and, and_true, Nat.reduceLT, Nat.reduceLeDiff, Nat.zero_le, Nat.le_refl, RI_i, RI_z0, RI_z1, Int32.reduceOfInt, Int8.reduceOfInt, Int16.reduceOfInt, Int64.reduceOfInt, Int8.toInt32_ofNat, Int16.toInt32_ofNat, Int.reduceNeg, Int32.ofInt_neg, Int8.ofInt_neg, Int16.ofInt_neg, Int32.toInt64_ofNat, Int32.reduceToNatClampNeg, Fin.isValue, Fin.val_one, Fin.val_zero, Fin.val_two, Int64.reduceOfNat, Int32.reduceOfNat, hdl, cutc, Nat.reduceEqDiff, reduceIte, FV, tyC, tyX0, tyX1, tyX2, tyX3, tyX4, tyX5, tyX6, tyX7, tyX8, tyX9, tyX10, Nat.reduceMul, c_le, c_lt, c_eq, c_in, c_cl, c_add, c_rem, c_ofN, Int32.add_zero, Int32.zero_add, c_lt0, c_ge0, c_le0, c_gt0, c_e0, c_m1, c_m1', false_implies, true_implies, implies_true, not_false_eq_true, not_true_eq_false, Nat.not_lt_zero, up_s, up_1, up_m, ffJxe99ae_doubleToLongBits, bbJxe99ae_doubleToLongBits_0, bbJxe99ae_doubleToLongBits_12]
  exact hQ
theorem sp10_digestLine {th sm hs ln at_ iw rm rn cm su pl wy px : Int32} {fs fa ft fn fx fr fu fc : Nat → Int32} {S : AS} (hS : StF fs 0 S) (oS : SOK S) (b : Int64) (j : Nat) (hj : j < (a_L S).length) (hQ : ∀ rn' cm' su' fu' fc', Q (some (.long (hl b (lineL S j)))) none (mw w m th sm hs ln at_ iw rm (rn') (cm') (su') pl wy px fs fa ft fn fx fr (fu') (fc'))) : Sp Γ m10_digestLine [.ref m, .long b, .int (nI j)] none (mw w m th sm hs ln at_ iw rm rn cm su pl wy px fs fa ft fn fx fr fu fc) Q := by
  obtain ⟨k1, k2, k3, k4, k5, k6, k7, k8, k9, k10, k11, k12⟩ := id oS
  obtain ⟨z0, z1, zL, -⟩ := id hS
  have e0 : fs 0 = nI (a_wd S) := z0
  have e1 : fs 1 = nI (a_sy S) := z1
  have bj : j < 2147483648 := by omega
  have b1 : 8 + j < 2147483648 := by omega
  have b2 : 8 + j < 568 := by omega
  have ev := zL.2 j hj
  rw [Nat.zero_add] at ev
  have hct := fb_ct_le (bord ((a_L S).getD j 0) (a_wd S)).testBit 32
  have hrc := runs_cnt (a_wd S) ((a_L S).getD j 0) k2
  have i1 := i2l_n (v := (runs (a_wd S) ((a_L S).getD j 0)).length) (by omega)
  have hmx := mxL_le (a_wd S) ((a_L S).getD j 0) (by omega)
  have i2 := i2l_n (v := mxL (runs (a_wd S) ((a_L S).getD j 0))) (by omega)
  have hmd := modeS_lt k3 j
  have i3 : (nI (if a_sy S = 3 then bestM (a_wd S) (a_L S) j else a_sy S)).toInt64 = lN (modeS S j) := i2l_n (v := modeS S j) (by omega)
  unfold lineL at hQ
  rw [hl_app] at hQ
  generalize hB : hl b [(a_L S).getD j 0, (runs (a_wd S) ((a_L S).getD j 0)).length, mxL (runs (a_wd S) ((a_L S).getD j 0)), modeS S j] = B at hQ
  have loop : ∀ (n md : Nat) (rn cm su : Int32) (fu fc : Nat → Int32), n + md = 3 → G Γ m10_digestLine Q (fun _ _ => False) 60 [some (.ref m), some (.long b), none, some (.int (nI j)), some (.long (hl B (pre (fun md => [clen (a_wd S) (a_L S) j md, clen (a_wd S) (a_L S) j md, chk (a_wd S) (a_L S) j md]) md))), none, some (.int (nI md))] [] none (mw w m th sm hs ln at_ iw rm rn cm su pl wy px fs fa ft fn fx fr fu fc) 0 0 := by
    intro n
    induction n with
    | zero =>
      intro md rn cm su fu fc hm
      have hm3 : md = 3 := by omega
      subst hm3
      have hq := hQ rn cm su fu fc
      refine wp_ok kd10_digestLine 400 60 bb10_digestLine_60 _ _ _ _ _ _ oo10_digestLine_60 ?_
      simp only [List.getElem?_cons_zero, List.getElem?_cons_succ, fv4, Nat.reduceAdd, Nat.reduceSub, wp, pst, stp, LG, lput, ls_tl, two, bc, EL, pad, popN, csum, Option.toList, List.cons_append, List.nil_append, List.set_cons_zero, List.set_cons_succ, List.length_cons, List.length_nil, true_and, and_true, Nat.reduceLT, Nat.reduceLeDiff, Nat.zero_le, Nat.le_refl, RI_i, RI_z0, RI_z1, Int32.reduceOfInt, Int8.reduceOfInt, Int16.reduceOfInt, Int64.reduceOfInt, Int8.toInt32_ofNat, Int16.toInt32_ofNat, Int.reduceNeg, Int32.ofInt_neg, Int8.ofInt_neg, Int16.ofInt_neg, Int32.toInt64_ofNat, Int32.reduceToNatClampNeg, Fin.isValue, Fin.val_one, Fin.val_zero, Fin.val_two, Int64.reduceOfNat, Int32.reduceOfNat, hdl, cutc, Nat.reduceEqDiff, reduceIte, FV, tyC, tyX0, tyX1, tyX2, tyX3, tyX4, tyX5, tyX6, tyX7, tyX8, tyX9, tyX10, Nat.reduceMul, c_le, c_lt, c_eq, c_in, c_cl, c_add, c_rem, c_ofN, Int32.add_zero, Int32.zero_add, c_lt0, c_ge0, c_le0, c_gt0, c_e0, c_m1, c_m1', false_implies, true_implies, implies_true, not_false_eq_true, not_true_eq_false, Nat.not_lt_zero, up_s, up_1, up_m, ff10_digestLine, bb10_digestLine_0, bb10_digestLine_60, bb10_digestLine_115, cl_1, ca_1, cl_3, ca_3, cl_8, ca_8, mw_0, mw_1, mw_2, mw_3, mw_4, mw_5, mw_6, mw_7, mw_8, mu_0, mu_1, mu_2, mu_3, mu_4, mu_5, mu_6, mu_7, mu_8, vi_0, vi_1, vi_2, vi_3, vi_4, vi_5, vi_6]
      exact hq
    | succ n ih =>
      intro md rn cm su fu fc hm
      have bm : md < 2147483648 := by omega
      have hcl := clen_le (a_wd S) (a_L S) j md k2
      have i4 := i2l_n (v := clen (a_wd S) (a_L S) j md) (by omega)
      have i5 := i2l_n (v := chk (a_wd S) (a_L S) j md) (by have := Nat.mod_lt (j + md + (ker (a_wd S) (kpx (a_L S) j md) md).sum) (show 0 < 15 by decide); unfold chk; omega)
      have hr := fun rn cm su fu fc => ih (md + 1) rn cm su fu fc (by omega)
      rw [pre, hl_app, hl_cons, hl_cons, hl_cons, hl_nil] at hr
      refine wp_ok kd10_digestLine 400 60 bb10_digestLine_60 _ _ _ _ _ _ oo10_digestLine_60 ?_
      simp only [List.getElem?_cons_zero, List.getElem?_cons_succ, fv4, Nat.reduceAdd, Nat.reduceSub, wp, pst, stp, LG, lput, ls_tl, two, bc, EL, pad, popN, csum, Option.toList, List.cons_append, List.nil_append, List.set_cons_zero, List.set_cons_succ, List.length_cons, List.length_nil, true_and, and_true, Nat.reduceLT, Nat.reduceLeDiff, Nat.zero_le, Nat.le_refl, RI_i, RI_z0, RI_z1, Int32.reduceOfInt, Int8.reduceOfInt, Int16.reduceOfInt, Int64.reduceOfInt, Int8.toInt32_ofNat, Int16.toInt32_ofNat, Int.reduceNeg, Int32.ofInt_neg, Int8.ofInt_neg, Int16.ofInt_neg, Int32.toInt64_ofNat, Int32.reduceToNatClampNeg, Fin.isValue, Fin.val_one, Fin.val_zero, Fin.val_two, Int64.reduceOfNat, Int32.reduceOfNat, hdl, cutc, Nat.reduceEqDiff, reduceIte, FV, tyC, tyX0, tyX1, tyX2, tyX3, tyX4, tyX5, tyX6, tyX7, tyX8, tyX9, tyX10, Nat.reduceMul, c_le, c_lt, c_eq, c_in, c_cl, c_add, c_rem, c_ofN, Int32.add_zero, Int32.zero_add, c_lt0, c_ge0, c_le0, c_gt0, c_e0, c_m1, c_m1', false_implies, true_implies, implies_true, not_false_eq_true, not_true_eq_false, Nat.not_lt_zero, up_s, up_1, up_m, ff10_digestLine, bb10_digestLine_0, bb10_digestLine_60, bb10_digestLine_115, cl_1, ca_1, cl_3, ca_3, cl_8, ca_8, mw_0, mw_1, mw_2, mw_3, mw_4, mw_5, mw_6, mw_7, mw_8, mu_0, mu_1, mu_2, mu_3, mu_4, mu_5, mu_6, mu_7, mu_8, vi_0, vi_1, vi_2, vi_3, vi_4, vi_5, vi_6, bm]
      refine ⟨fun hh => absurd hh (by omega), fun _ => ?_⟩
      refine sp10_codes (a_wd S) j md e0 (by omega) k2 zL k5 oS.lok hj (by omega) (fun rn' fu' fc' _ => ?_)
      unfold holdL
      simp only [List.getElem?_cons_zero, List.getElem?_cons_succ, fv4, Nat.reduceAdd, Nat.reduceSub, wp, pst, stp, LG, lput, ls_tl, two, bc, EL, pad, popN, csum, Option.toList, List.cons_append, List.nil_append, List.set_cons_zero, List.set_cons_succ, List.length_cons, List.length_nil, true_and, and_true, Nat.reduceLT, Nat.reduceLeDiff, Nat.zero_le, Nat.le_refl, RI_i, RI_z0, RI_z1, Int32.reduceOfInt, Int8.reduceOfInt, Int16.reduceOfInt, Int64.reduceOfInt, Int8.toInt32_ofNat, Int16.toInt32_ofNat, Int.reduceNeg, Int32.ofInt_neg, Int8.ofInt_neg, Int16.ofInt_neg, Int32.toInt64_ofNat, Int32.reduceToNatClampNeg, Fin.isValue, Fin.val_one, Fin.val_zero, Fin.val_two, Int64.reduceOfNat, Int32.reduceOfNat, hdl, cutc, Nat.reduceEqDiff, reduceIte, FV, tyC, tyX0, tyX1, tyX2, tyX3, tyX4, tyX5, tyX6, tyX7, tyX8, tyX9, tyX10, Nat.reduceMul, c_le, c_lt, c_eq, c_in, c_cl, c_add, c_rem, c_ofN, Int32.add_zero, Int32.zero_add, c_lt0, c_ge0, c_le0, c_gt0, c_e0, c_m1, c_m1', false_implies, true_implies, implies_true, not_false_eq_true, not_true_eq_false, Nat.not_lt_zero, up_s, up_1, up_m, ff10_digestLine, bb10_digestLine_0, bb10_digestLine_60, bb10_digestLine_115, cl_1, ca_1, cl_3, ca_3, cl_8, ca_8, mw_0, mw_1, mw_2, mw_3, mw_4, mw_5, mw_6, mw_7, mw_8, mu_0, mu_1, mu_2, mu_3, mu_4, mu_5, mu_6, mu_7, mu_8, vi_0, vi_1, vi_2, vi_3, vi_4, vi_5, vi_6, i4, xh]
      refine sp10_codes (a_wd S) j md e0 (by omega) k2 zL k5 oS.lok hj (by omega) (fun rn2 fu2 fc2 _ => ?_)
      unfold holdL
      simp only [List.getElem?_cons_zero, List.getElem?_cons_succ, fv4, Nat.reduceAdd, Nat.reduceSub, wp, pst, stp, LG, lput, ls_tl, two, bc, EL, pad, popN, csum, Option.toList, List.cons_append, List.nil_append, List.set_cons_zero, List.set_cons_succ, List.length_cons, List.length_nil, true_and, and_true, Nat.reduceLT, Nat.reduceLeDiff, Nat.zero_le, Nat.le_refl, RI_i, RI_z0, RI_z1, Int32.reduceOfInt, Int8.reduceOfInt, Int16.reduceOfInt, Int64.reduceOfInt, Int8.toInt32_ofNat, Int16.toInt32_ofNat, Int.reduceNeg, Int32.ofInt_neg, Int8.ofInt_neg, Int16.ofInt_neg, Int32.toInt64_ofNat, Int32.reduceToNatClampNeg, Fin.isValue, Fin.val_one, Fin.val_zero, Fin.val_two, Int64.reduceOfNat, Int32.reduceOfNat, hdl, cutc, Nat.reduceEqDiff, reduceIte, FV, tyC, tyX0, tyX1, tyX2, tyX3, tyX4, tyX5, tyX6, tyX7, tyX8, tyX9, tyX10, Nat.reduceMul, c_le, c_lt, c_eq, c_in, c_cl, c_add, c_rem, c_ofN, Int32.add_zero, Int32.zero_add, c_lt0, c_ge0, c_le0, c_gt0, c_e0, c_m1, c_m1', false_implies, true_implies, implies_true, not_false_eq_true, not_true_eq_false, Nat.not_lt_zero, up_s, up_1, up_m, ff10_digestLine, bb10_digestLine_0, bb10_digestLine_60, bb10_digestLine_115, cl_1, ca_1, cl_3, ca_3, cl_8, ca_8, mw_0, mw_1, mw_2, mw_3, mw_4, mw_5, mw_6, mw_7, mw_8, mu_0, mu_1, mu_2, mu_3, mu_4, mu_5, mu_6, mu_7, mu_8, vi_0, vi_1, vi_2, vi_3, vi_4, vi_5, vi_6, i4, xh]
      refine sp10_check (a_wd S) j md e0 (by omega) k2 zL k5 oS.lok hj (by omega) (fun rn3 cm3 su3 fu3 fc3 => ?_)
      unfold holdL
      simp only [List.getElem?_cons_zero, List.getElem?_cons_succ, fv4, Nat.reduceAdd, Nat.reduceSub, wp, pst, stp, LG, lput, ls_tl, two, bc, EL, pad, popN, csum, Option.toList, List.cons_append, List.nil_append, List.set_cons_zero, List.set_cons_succ, List.length_cons, List.length_nil, true_and, and_true, Nat.reduceLT, Nat.reduceLeDiff, Nat.zero_le, Nat.le_refl, RI_i, RI_z0, RI_z1, Int32.reduceOfInt, Int8.reduceOfInt, Int16.reduceOfInt, Int64.reduceOfInt, Int8.toInt32_ofNat, Int16.toInt32_ofNat, Int.reduceNeg, Int32.ofInt_neg, Int8.ofInt_neg, Int16.ofInt_neg, Int32.toInt64_ofNat, Int32.reduceToNatClampNeg, Fin.isValue, Fin.val_one, Fin.val_zero, Fin.val_two, Int64.reduceOfNat, Int32.reduceOfNat, hdl, cutc, Nat.reduceEqDiff, reduceIte, FV, tyC, tyX0, tyX1, tyX2, tyX3, tyX4, tyX5, tyX6, tyX7, tyX8, tyX9, tyX10, Nat.reduceMul, c_le, c_lt, c_eq, c_in, c_cl, c_add, c_rem, c_ofN, Int32.add_zero, Int32.zero_add, c_lt0, c_ge0, c_le0, c_gt0, c_e0, c_m1, c_m1', false_implies, true_implies, implies_true, not_false_eq_true, not_true_eq_false, Nat.not_lt_zero, up_s, up_1, up_m, ff10_digestLine, bb10_digestLine_0, bb10_digestLine_60, bb10_digestLine_115, cl_1, ca_1, cl_3, ca_3, cl_8, ca_8, mw_0, mw_1, mw_2, mw_3, mw_4, mw_5, mw_6, mw_7, mw_8, mu_0, mu_1, mu_2, mu_3, mu_4, mu_5, mu_6, mu_7, mu_8, vi_0, vi_1, vi_2, vi_3, vi_4, vi_5, vi_6, i5, xh, bm]
      exact hr _ _ _ _ _
  have hl0 := fun rn cm su fu fc => loop 3 0 rn cm su fu fc rfl
  rw [pre, hl_nil, ← hB, hl_cons, hl_cons, hl_cons, hl_cons, hl_nil] at hl0
  refine entry Γ m10_digestLine rfl _ (Nat.le_of_ble_eq_true rfl) _ _ _ ?_
  refine wp_ok kd10_digestLine 400 0 bb10_digestLine_0 _ _ _ _ _ _ oo10_digestLine_0 ?_
  simp only [List.getElem?_cons_zero, List.getElem?_cons_succ, fv4, Nat.reduceAdd, Nat.reduceSub, wp, pst, stp, LG, lput, ls_tl, two, bc, EL, pad, popN, csum, Option.toList, List.cons_append, List.nil_append, List.set_cons_zero, List.set_cons_succ, List.length_cons, List.length_nil, true_and, and_true, Nat.reduceLT, Nat.reduceLeDiff, Nat.zero_le, Nat.le_refl, RI_i, RI_z0, RI_z1, Int32.reduceOfInt, Int8.reduceOfInt, Int16.reduceOfInt, Int64.reduceOfInt, Int8.toInt32_ofNat, Int16.toInt32_ofNat, Int.reduceNeg, Int32.ofInt_neg, Int8.ofInt_neg, Int16.ofInt_neg, Int32.toInt64_ofNat, Int32.reduceToNatClampNeg, Fin.isValue, Fin.val_one, Fin.val_zero, Fin.val_two, Int64.reduceOfNat, Int32.reduceOfNat, hdl, cutc, Nat.reduceEqDiff, reduceIte, FV, tyC, tyX0, tyX1, tyX2, tyX3, tyX4, tyX5, tyX6, tyX7, tyX8, tyX9, tyX10, Nat.reduceMul, c_le, c_lt, c_eq, c_in, c_cl, c_add, c_rem, c_ofN, Int32.add_zero, Int32.zero_add, c_lt0, c_ge0, c_le0, c_gt0, c_e0, c_m1, c_m1', false_implies, true_implies, implies_true, not_false_eq_true, not_true_eq_false, Nat.not_lt_zero, up_s, up_1, up_m, ff10_digestLine, bb10_digestLine_0, bb10_digestLine_60, bb10_digestLine_115, cl_1, ca_1, cl_3, ca_3, cl_8, ca_8, mw_0, mw_1, mw_2, mw_3, mw_4, mw_5, mw_6, mw_7, mw_8, mu_0, mu_1, mu_2, mu_3, mu_4, mu_5, mu_6, mu_7, mu_8, vi_0, vi_1, vi_2, vi_3, vi_4, vi_5, vi_6, b1, b2, ev]
  refine sp10_asLong _ (oS.lok j) ?_
  unfold holdL
  simp only [List.getElem?_cons_zero, List.getElem?_cons_succ, fv4, Nat.reduceAdd, Nat.reduceSub, wp, pst, stp, LG, lput, ls_tl, two, bc, EL, pad, popN, csum, Option.toList, List.cons_append, List.nil_append, List.set_cons_zero, List.set_cons_succ, List.length_cons, List.length_nil, true_and, and_true, Nat.reduceLT, Nat.reduceLeDiff, Nat.zero_le, Nat.le_refl, RI_i, RI_z0, RI_z1, Int32.reduceOfInt, Int8.reduceOfInt, Int16.reduceOfInt, Int64.reduceOfInt, Int8.toInt32_ofNat, Int16.toInt32_ofNat, Int.reduceNeg, Int32.ofInt_neg, Int8.ofInt_neg, Int16.ofInt_neg, Int32.toInt64_ofNat, Int32.reduceToNatClampNeg, Fin.isValue, Fin.val_one, Fin.val_zero, Fin.val_two, Int64.reduceOfNat, Int32.reduceOfNat, hdl, cutc, Nat.reduceEqDiff, reduceIte, FV, tyC, tyX0, tyX1, tyX2, tyX3, tyX4, tyX5, tyX6, tyX7, tyX8, tyX9, tyX10, Nat.reduceMul, c_le, c_lt, c_eq, c_in, c_cl, c_add, c_rem, c_ofN, Int32.add_zero, Int32.zero_add, c_lt0, c_ge0, c_le0, c_gt0, c_e0, c_m1, c_m1', false_implies, true_implies, implies_true, not_false_eq_true, not_true_eq_false, Nat.not_lt_zero, up_s, up_1, up_m, ff10_digestLine, bb10_digestLine_0, bb10_digestLine_60, bb10_digestLine_115, cl_1, ca_1, cl_3, ca_3, cl_8, ca_8, mw_0, mw_1, mw_2, mw_3, mw_4, mw_5, mw_6, mw_7, mw_8, mu_0, mu_1, mu_2, mu_3, mu_4, mu_5, mu_6, mu_7, mu_8, vi_0, vi_1, vi_2, vi_3, vi_4, vi_5, vi_6, xh]
  refine sp10_manyRuns (a_wd S) j e0 k2 zL k5 hj (fun rn' fu' => ?_)
  unfold holdL
  simp only [List.getElem?_cons_zero, List.getElem?_cons_succ, fv4, Nat.reduceAdd, Nat.reduceSub, wp, pst, stp, LG, lput, ls_tl, two, bc, EL, pad, popN, csum, Option.toList, List.cons_append, List.nil_append, List.set_cons_zero, List.set_cons_succ, List.length_cons, List.length_nil, true_and, and_true, Nat.reduceLT, Nat.reduceLeDiff, Nat.zero_le, Nat.le_refl, RI_i, RI_z0, RI_z1, Int32.reduceOfInt, Int8.reduceOfInt, Int16.reduceOfInt, Int64.reduceOfInt, Int8.toInt32_ofNat, Int16.toInt32_ofNat, Int.reduceNeg, Int32.ofInt_neg, Int8.ofInt_neg, Int16.ofInt_neg, Int32.toInt64_ofNat, Int32.reduceToNatClampNeg, Fin.isValue, Fin.val_one, Fin.val_zero, Fin.val_two, Int64.reduceOfNat, Int32.reduceOfNat, hdl, cutc, Nat.reduceEqDiff, reduceIte, FV, tyC, tyX0, tyX1, tyX2, tyX3, tyX4, tyX5, tyX6, tyX7, tyX8, tyX9, tyX10, Nat.reduceMul, c_le, c_lt, c_eq, c_in, c_cl, c_add, c_rem, c_ofN, Int32.add_zero, Int32.zero_add, c_lt0, c_ge0, c_le0, c_gt0, c_e0, c_m1, c_m1', false_implies, true_implies, implies_true, not_false_eq_true, not_true_eq_false, Nat.not_lt_zero, up_s, up_1, up_m, ff10_digestLine, bb10_digestLine_0, bb10_digestLine_60, bb10_digestLine_115, cl_1, ca_1, cl_3, ca_3, cl_8, ca_8, mw_0, mw_1, mw_2, mw_3, mw_4, mw_5, mw_6, mw_7, mw_8, mu_0, mu_1, mu_2, mu_3, mu_4, mu_5, mu_6, mu_7, mu_8, vi_0, vi_1, vi_2, vi_3, vi_4, vi_5, vi_6, i1, xh]
  refine sp10_longest (a_wd S) j e0 (by omega) k2 zL k5 hj (fun rn2 fu2 => ?_)
  unfold holdL
  simp only [List.getElem?_cons_zero, List.getElem?_cons_succ, fv4, Nat.reduceAdd, Nat.reduceSub, wp, pst, stp, LG, lput, ls_tl, two, bc, EL, pad, popN, csum, Option.toList, List.cons_append, List.nil_append, List.set_cons_zero, List.set_cons_succ, List.length_cons, List.length_nil, true_and, and_true, Nat.reduceLT, Nat.reduceLeDiff, Nat.zero_le, Nat.le_refl, RI_i, RI_z0, RI_z1, Int32.reduceOfInt, Int8.reduceOfInt, Int16.reduceOfInt, Int64.reduceOfInt, Int8.toInt32_ofNat, Int16.toInt32_ofNat, Int.reduceNeg, Int32.ofInt_neg, Int8.ofInt_neg, Int16.ofInt_neg, Int32.toInt64_ofNat, Int32.reduceToNatClampNeg, Fin.isValue, Fin.val_one, Fin.val_zero, Fin.val_two, Int64.reduceOfNat, Int32.reduceOfNat, hdl, cutc, Nat.reduceEqDiff, reduceIte, FV, tyC, tyX0, tyX1, tyX2, tyX3, tyX4, tyX5, tyX6, tyX7, tyX8, tyX9, tyX10, Nat.reduceMul, c_le, c_lt, c_eq, c_in, c_cl, c_add, c_rem, c_ofN, Int32.add_zero, Int32.zero_add, c_lt0, c_ge0, c_le0, c_gt0, c_e0, c_m1, c_m1', false_implies, true_implies, implies_true, not_false_eq_true, not_true_eq_false, Nat.not_lt_zero, up_s, up_1, up_m, ff10_digestLine, bb10_digestLine_0, bb10_digestLine_60, bb10_digestLine_115, cl_1, ca_1, cl_3, ca_3, cl_8, ca_8, mw_0, mw_1, mw_2, mw_3, mw_4, mw_5, mw_6, mw_7, mw_8, mu_0, mu_1, mu_2, mu_3, mu_4, mu_5, mu_6, mu_7, mu_8, vi_0, vi_1, vi_2, vi_3, vi_4, vi_5, vi_6, i2, xh]
  refine sp10_bestMode (a_wd S) (a_sy S) j e0 e1 k3 (by omega) k2 zL k5 oS.lok hj (fun rn3 cm3 su3 fu3 fc3 => ?_)
  unfold holdL
  simp only [List.getElem?_cons_zero, List.getElem?_cons_succ, fv4, Nat.reduceAdd, Nat.reduceSub, wp, pst, stp, LG, lput, ls_tl, two, bc, EL, pad, popN, csum, Option.toList, List.cons_append, List.nil_append, List.set_cons_zero, List.set_cons_succ, List.length_cons, List.length_nil, true_and, and_true, Nat.reduceLT, Nat.reduceLeDiff, Nat.zero_le, Nat.le_refl, RI_i, RI_z0, RI_z1, Int32.reduceOfInt, Int8.reduceOfInt, Int16.reduceOfInt, Int64.reduceOfInt, Int8.toInt32_ofNat, Int16.toInt32_ofNat, Int.reduceNeg, Int32.ofInt_neg, Int8.ofInt_neg, Int16.ofInt_neg, Int32.toInt64_ofNat, Int32.reduceToNatClampNeg, Fin.isValue, Fin.val_one, Fin.val_zero, Fin.val_two, Int64.reduceOfNat, Int32.reduceOfNat, hdl, cutc, Nat.reduceEqDiff, reduceIte, FV, tyC, tyX0, tyX1, tyX2, tyX3, tyX4, tyX5, tyX6, tyX7, tyX8, tyX9, tyX10, Nat.reduceMul, c_le, c_lt, c_eq, c_in, c_cl, c_add, c_rem, c_ofN, Int32.add_zero, Int32.zero_add, c_lt0, c_ge0, c_le0, c_gt0, c_e0, c_m1, c_m1', false_implies, true_implies, implies_true, not_false_eq_true, not_true_eq_false, Nat.not_lt_zero, up_s, up_1, up_m, ff10_digestLine, bb10_digestLine_0, bb10_digestLine_60, bb10_digestLine_115, cl_1, ca_1, cl_3, ca_3, cl_8, ca_8, mw_0, mw_1, mw_2, mw_3, mw_4, mw_5, mw_6, mw_7, mw_8, mu_0, mu_1, mu_2, mu_3, mu_4, mu_5, mu_6, mu_7, mu_8, vi_0, vi_1, vi_2, vi_3, vi_4, vi_5, vi_6, i3, xh]
  exact hl0 _ _ _ _ _
theorem md_B {at_ iw rm : Int32} {ft fn fx fr : Nat → Int32} (hU : UOK U) (hB : IA fx (us_B U)) (A : Int64) (hQ : ∀ (rn cm su pl wy px : Int32) (fs fa fu fc : Nat → Int32), StF fs 0 (us_S U) → Q (some (.long (hl A (pre (fun k => [(us_B U).getD k 0]) (us_B U).length)))) none (mw w m 0 (nI (us_T U).length) (hsI (us_N U)) (nI (us_B U).length) at_ iw rm rn cm su pl wy px fs fa ft fn fx fr fu fc)) : ∀ (n k : Nat) (rn cm su pl wy px : Int32) (fs fa fu fc : Nat → Int32), StF fs 0 (us_S U) → n + k = (us_B U).length → G Γ m10_digest Q (fun _ _ => False) 423 [some (.ref m), some (.long (hl A (pre (fun k => [(us_B U).getD k 0]) k))), none, some (.int (nI k))] [] none (mw w m 0 (nI (us_T U).length) (hsI (us_N U)) (nI (us_B U).length) at_ iw rm rn cm su pl wy px fs fa ft fn fx fr fu fc) 0 0 := by
  obtain ⟨k1, k2, k3, k4, k5, k6, k7, k8, k9, k10, k11, k12⟩ := id hU.1
  have hB60 := hU.2.2.2.2.2
  have hT5 := hU.2.2.2.1
  have bB : (us_B U).length < 2147483648 := by omega
  have bL : (a_L (us_S U)).length < 2147483648 := by omega
  have bS : (a_s (us_S U)).length < 2147483648 := by omega
  have bE : (a_E (us_S U)).length < 2147483648 := by omega
  intro n
  induction n with
  | zero =>
    intro k rn cm su pl wy px fs fa fu fc hS hk
    have bk : k < 2147483648 := by omega
    have hq := hQ rn cm su pl wy px fs fa fu fc hS
    refine wp_ok kd10_digest 400 423 bb10_digest_423 _ _ _ _ _ _ oo10_digest_423 ?_
    simp only [List.getElem?_cons_zero, List.getElem?_cons_succ, fv4, Nat.reduceAdd, Nat.reduceSub, wp, pst, stp, LG, lput, ls_tl, two, bc, EL, pad, popN, csum, Option.toList, List.cons_append, List.nil_append, List.set_cons_zero, List.set_cons_succ, List.length_cons, List.length_nil, true_and, and_true, Nat.reduceLT, Nat.reduceLeDiff, Nat.zero_le, Nat.le_refl, RI_i, RI_z0, RI_z1, Int32.reduceOfInt, Int8.reduceOfInt, Int16.reduceOfInt, Int64.reduceOfInt, Int8.toInt32_ofNat, Int16.toInt32_ofNat, Int.reduceNeg, Int32.ofInt_neg, Int8.ofInt_neg, Int16.ofInt_neg, Int32.toInt64_ofNat, Int32.reduceToNatClampNeg, Fin.isValue, Fin.val_one, Fin.val_zero, Fin.val_two, Int64.reduceOfNat, Int32.reduceOfNat, hdl, cutc, Nat.reduceEqDiff, reduceIte, FV, tyC, tyX0, tyX1, tyX2, tyX3, tyX4, tyX5, tyX6, tyX7, tyX8, tyX9, tyX10, Nat.reduceMul, c_le, c_lt, c_eq, c_in, c_cl, c_add, c_rem, c_ofN, Int32.add_zero, Int32.zero_add, c_lt0, c_ge0, c_le0, c_gt0, c_e0, c_m1, c_m1', false_implies, true_implies, implies_true, not_false_eq_true, not_true_eq_false, Nat.not_lt_zero, up_s, up_1, up_m, ff10_digest, bb10_digest_0, bb10_digest_161, bb10_digest_184, bb10_digest_186, bb10_digest_219, bb10_digest_221, bb10_digest_244, bb10_digest_245, bb10_digest_277, bb10_digest_278, bb10_digest_285, bb10_digest_287, bb10_digest_341, bb10_digest_361, bb10_digest_362, bb10_digest_380, bb10_digest_394, bb10_digest_423, bb10_digest_451, cl_1, ca_1, cl_2, ca_2, cl_3, ca_3, cl_5, ca_5, cl_6, ca_6, cl_10, ca_10, cl_18, ca_18, cl_28, ca_28, cl_68, ca_68, mw_0, mw_1, mw_2, mw_3, mw_4, mw_5, mw_6, mw_7, mw_8, mu_0, mu_1, mu_2, mu_3, mu_4, mu_5, mu_6, mu_7, mu_8, vi_0, vi_1, vi_2, vi_3, vi_4, vi_5, vi_6, bk, bB]
    refine ⟨fun _ => ?_, fun hh => absurd hh (by omega)⟩
    rw [show k = (us_B U).length by omega]
    exact hq
  | succ n ih =>
    intro k rn cm su pl wy px fs fa fu fc hS hk
    have bk : k < 2147483648 := by omega
    have bk2 : k < 60 := by omega
    have hv : (us_B U).getD k 0 < 1000 := hU.txt _ (List.mem_of_getElem? (getD_some (show k < (us_B U).length by omega)))
    have ev := hB k (by omega)
    have i := i2l_n (v := (us_B U).getD k 0) (by omega)
    have hr := ih (k + 1) rn cm su pl wy px fs fa fu fc hS (by omega)
    rw [pre, hl_app, hl_cons, hl_nil] at hr
    refine wp_ok kd10_digest 400 423 bb10_digest_423 _ _ _ _ _ _ oo10_digest_423 ?_
    simp only [List.getElem?_cons_zero, List.getElem?_cons_succ, fv4, Nat.reduceAdd, Nat.reduceSub, wp, pst, stp, LG, lput, ls_tl, two, bc, EL, pad, popN, csum, Option.toList, List.cons_append, List.nil_append, List.set_cons_zero, List.set_cons_succ, List.length_cons, List.length_nil, true_and, and_true, Nat.reduceLT, Nat.reduceLeDiff, Nat.zero_le, Nat.le_refl, RI_i, RI_z0, RI_z1, Int32.reduceOfInt, Int8.reduceOfInt, Int16.reduceOfInt, Int64.reduceOfInt, Int8.toInt32_ofNat, Int16.toInt32_ofNat, Int.reduceNeg, Int32.ofInt_neg, Int8.ofInt_neg, Int16.ofInt_neg, Int32.toInt64_ofNat, Int32.reduceToNatClampNeg, Fin.isValue, Fin.val_one, Fin.val_zero, Fin.val_two, Int64.reduceOfNat, Int32.reduceOfNat, hdl, cutc, Nat.reduceEqDiff, reduceIte, FV, tyC, tyX0, tyX1, tyX2, tyX3, tyX4, tyX5, tyX6, tyX7, tyX8, tyX9, tyX10, Nat.reduceMul, c_le, c_lt, c_eq, c_in, c_cl, c_add, c_rem, c_ofN, Int32.add_zero, Int32.zero_add, c_lt0, c_ge0, c_le0, c_gt0, c_e0, c_m1, c_m1', false_implies, true_implies, implies_true, not_false_eq_true, not_true_eq_false, Nat.not_lt_zero, up_s, up_1, up_m, ff10_digest, bb10_digest_0, bb10_digest_161, bb10_digest_184, bb10_digest_186, bb10_digest_219, bb10_digest_221, bb10_digest_244, bb10_digest_245, bb10_digest_277, bb10_digest_278, bb10_digest_285, bb10_digest_287, bb10_digest_341, bb10_digest_361, bb10_digest_362, bb10_digest_380, bb10_digest_394, bb10_digest_423, bb10_digest_451, cl_1, ca_1, cl_2, ca_2, cl_3, ca_3, cl_5, ca_5, cl_6, ca_6, cl_10, ca_10, cl_18, ca_18, cl_28, ca_28, cl_68, ca_68, mw_0, mw_1, mw_2, mw_3, mw_4, mw_5, mw_6, mw_7, mw_8, mu_0, mu_1, mu_2, mu_3, mu_4, mu_5, mu_6, mu_7, mu_8, vi_0, vi_1, vi_2, vi_3, vi_4, vi_5, vi_6, bk, bk2, bB, ev, i, xh]
    exact ⟨fun hh => absurd hh (by omega), fun _ => hr⟩
theorem md_S {at_ iw rm : Int32} {ft fn fx fr : Nat → Int32} (hU : UOK U) (hB : IA fx (us_B U)) (A : Int64) (hQ : ∀ (rn cm su pl wy px : Int32) (fs fa fu fc : Nat → Int32), StF fs 0 (us_S U) → Q (some (.long (hl (hl A [(shr (us_S U)).toNat, (us_B U).length]) (pre (fun k => [(us_B U).getD k 0]) (us_B U).length)))) none (mw w m 0 (nI (us_T U).length) (hsI (us_N U)) (nI (us_B U).length) at_ iw rm rn cm su pl wy px fs fa ft fn fx fr fu fc)) : ∀ (j1 j3 : Option Value) (rn cm su pl wy px : Int32) (fs fa fu fc : Nat → Int32), StF fs 0 (us_S U) → G Γ m10_digest Q (fun _ _ => False) 394 [some (.ref m), j1, none, j3] [.long A] none (mw w m 0 (nI (us_T U).length) (hsI (us_N U)) (nI (us_B U).length) at_ iw rm rn cm su pl wy px fs fa ft fn fx fr fu fc) 0 0 := by
  obtain ⟨k1, k2, k3, k4, k5, k6, k7, k8, k9, k10, k11, k12⟩ := id hU.1
  have hB60 := hU.2.2.2.2.2
  have hT5 := hU.2.2.2.1
  have bB : (us_B U).length < 2147483648 := by omega
  have bL : (a_L (us_S U)).length < 2147483648 := by omega
  have bS : (a_s (us_S U)).length < 2147483648 := by omega
  have bE : (a_E (us_S U)).length < 2147483648 := by omega
  have hb := md_B (Γ := Γ) (at_ := at_) (iw := iw) (rm := rm) (ft := ft) (fn := fn) (fr := fr) hU hB _ hQ
  have i := i2l_n bB
  intro j1 j3 rn cm su pl wy px fs fa fu fc hS
  have hr := fun rn cm su fu fc => hb _ 0 rn cm su pl wy px fs fa fu fc hS rfl
  rw [pre, hl_nil, hl_cons, hl_cons, hl_nil] at hr
  have hV : ∃ V, (shr (us_S U)).toNat = V := ⟨_, rfl⟩
  obtain ⟨V, hV⟩ := hV
  have hbits : ∀ (w1 : PW) (Q' : Option Value → Option Nat → PW → Prop), Q' (some (.long (lN V))) none w1 → Sp Γ mJxe99ae_doubleToLongBits [.double (shr (us_S U))] none w1 Q' := fun w1 Q' hq => spJ_bits hU.1 (by rw [hV]; exact hq)
  rw [hV] at hr
  refine wp_ok (kd_cut 423 kd10_digest) 400 394 bb10_digest_394 _ _ _ _ _ _ oo10_digest_394 ?_
  simp only [List.getElem?_cons_zero, List.getElem?_cons_succ, fv4, Nat.reduceAdd, Nat.reduceSub, wp, pst, stp, LG, lput, ls_tl, two, bc, EL, pad, popN, csum, Option.toList, List.cons_append, List.nil_append, List.set_cons_zero, List.set_cons_succ, List.length_cons, List.length_nil, true_and, and_true, Nat.reduceLT, Nat.reduceLeDiff, Nat.zero_le, Nat.le_refl, RI_i, RI_z0, RI_z1, Int32.reduceOfInt, Int8.reduceOfInt, Int16.reduceOfInt, Int64.reduceOfInt, Int8.toInt32_ofNat, Int16.toInt32_ofNat, Int.reduceNeg, Int32.ofInt_neg, Int8.ofInt_neg, Int16.ofInt_neg, Int32.toInt64_ofNat, Int32.reduceToNatClampNeg, Fin.isValue, Fin.val_one, Fin.val_zero, Fin.val_two, Int64.reduceOfNat, Int32.reduceOfNat, hdl, cutc, Nat.reduceEqDiff, reduceIte, FV, tyC, tyX0, tyX1, tyX2, tyX3, tyX4, tyX5, tyX6, tyX7, tyX8, tyX9, tyX10, Nat.reduceMul, c_le, c_lt, c_eq, c_in, c_cl, c_add, c_rem, c_ofN, Int32.add_zero, Int32.zero_add, c_lt0, c_ge0, c_le0, c_gt0, c_e0, c_m1, c_m1', false_implies, true_implies, implies_true, not_false_eq_true, not_true_eq_false, Nat.not_lt_zero, up_s, up_1, up_m, ff10_digest, bb10_digest_0, bb10_digest_161, bb10_digest_184, bb10_digest_186, bb10_digest_219, bb10_digest_221, bb10_digest_244, bb10_digest_245, bb10_digest_277, bb10_digest_278, bb10_digest_285, bb10_digest_287, bb10_digest_341, bb10_digest_361, bb10_digest_362, bb10_digest_380, bb10_digest_394, bb10_digest_423, bb10_digest_451, cl_1, ca_1, cl_2, ca_2, cl_3, ca_3, cl_5, ca_5, cl_6, ca_6, cl_10, ca_10, cl_18, ca_18, cl_28, ca_28, cl_68, ca_68, mw_0, mw_1, mw_2, mw_3, mw_4, mw_5, mw_6, mw_7, mw_8, mu_0, mu_1, mu_2, mu_3, mu_4, mu_5, mu_6, mu_7, mu_8, vi_0, vi_1, vi_2, vi_3, vi_4, vi_5, vi_6]
  refine sp10_share hS hU.1 (fun rn' cm' su' fu' fc' => ?_)
  generalize shr (us_S U) = D at hbits ⊢
  unfold holdL
  simp only [List.getElem?_cons_zero, List.getElem?_cons_succ, fv4, Nat.reduceAdd, Nat.reduceSub, wp, pst, stp, LG, lput, ls_tl, two, bc, EL, pad, popN, csum, Option.toList, List.cons_append, List.nil_append, List.set_cons_zero, List.set_cons_succ, List.length_cons, List.length_nil, true_and, and_true, Nat.reduceLT, Nat.reduceLeDiff, Nat.zero_le, Nat.le_refl, RI_i, RI_z0, RI_z1, Int32.reduceOfInt, Int8.reduceOfInt, Int16.reduceOfInt, Int64.reduceOfInt, Int8.toInt32_ofNat, Int16.toInt32_ofNat, Int.reduceNeg, Int32.ofInt_neg, Int8.ofInt_neg, Int16.ofInt_neg, Int32.toInt64_ofNat, Int32.reduceToNatClampNeg, Fin.isValue, Fin.val_one, Fin.val_zero, Fin.val_two, Int64.reduceOfNat, Int32.reduceOfNat, hdl, cutc, Nat.reduceEqDiff, reduceIte, FV, tyC, tyX0, tyX1, tyX2, tyX3, tyX4, tyX5, tyX6, tyX7, tyX8, tyX9, tyX10, Nat.reduceMul, c_le, c_lt, c_eq, c_in, c_cl, c_add, c_rem, c_ofN, Int32.add_zero, Int32.zero_add, c_lt0, c_ge0, c_le0, c_gt0, c_e0, c_m1, c_m1', false_implies, true_implies, implies_true, not_false_eq_true, not_true_eq_false, Nat.not_lt_zero, up_s, up_1, up_m, ff10_digest, bb10_digest_0, bb10_digest_161, bb10_digest_184, bb10_digest_186, bb10_digest_219, bb10_digest_221, bb10_digest_244, bb10_digest_245, bb10_digest_277, bb10_digest_278, bb10_digest_285, bb10_digest_287, bb10_digest_341, bb10_digest_361, bb10_digest_362, bb10_digest_380, bb10_digest_394, bb10_digest_423, bb10_digest_451, cl_1, ca_1, cl_2, ca_2, cl_3, ca_3, cl_5, ca_5, cl_6, ca_6, cl_10, ca_10, cl_18, ca_18, cl_28, ca_28, cl_68, ca_68, mw_0, mw_1, mw_2, mw_3, mw_4, mw_5, mw_6, mw_7, mw_8, mu_0, mu_1, mu_2, mu_3, mu_4, mu_5, mu_6, mu_7, mu_8, vi_0, vi_1, vi_2, vi_3, vi_4, vi_5, vi_6]
  refine hbits _ _ ?_
  unfold holdL
  simp only [List.getElem?_cons_zero, List.getElem?_cons_succ, fv4, Nat.reduceAdd, Nat.reduceSub, wp, pst, stp, LG, lput, ls_tl, two, bc, EL, pad, popN, csum, Option.toList, List.cons_append, List.nil_append, List.set_cons_zero, List.set_cons_succ, List.length_cons, List.length_nil, true_and, and_true, Nat.reduceLT, Nat.reduceLeDiff, Nat.zero_le, Nat.le_refl, RI_i, RI_z0, RI_z1, Int32.reduceOfInt, Int8.reduceOfInt, Int16.reduceOfInt, Int64.reduceOfInt, Int8.toInt32_ofNat, Int16.toInt32_ofNat, Int.reduceNeg, Int32.ofInt_neg, Int8.ofInt_neg, Int16.ofInt_neg, Int32.toInt64_ofNat, Int32.reduceToNatClampNeg, Fin.isValue, Fin.val_one, Fin.val_zero, Fin.val_two, Int64.reduceOfNat, Int32.reduceOfNat, hdl, cutc, Nat.reduceEqDiff, reduceIte, FV, tyC, tyX0, tyX1, tyX2, tyX3, tyX4, tyX5, tyX6, tyX7, tyX8, tyX9, tyX10, Nat.reduceMul, c_le, c_lt, c_eq, c_in, c_cl, c_add, c_rem, c_ofN, Int32.add_zero, Int32.zero_add, c_lt0, c_ge0, c_le0, c_gt0, c_e0, c_m1, c_m1', false_implies, true_implies, implies_true, not_false_eq_true, not_true_eq_false, Nat.not_lt_zero, up_s, up_1, up_m, ff10_digest, bb10_digest_0, bb10_digest_161, bb10_digest_184, bb10_digest_186, bb10_digest_219, bb10_digest_221, bb10_digest_244, bb10_digest_245, bb10_digest_277, bb10_digest_278, bb10_digest_285, bb10_digest_287, bb10_digest_341, bb10_digest_361, bb10_digest_362, bb10_digest_380, bb10_digest_394, bb10_digest_423, bb10_digest_451, cl_1, ca_1, cl_2, ca_2, cl_3, ca_3, cl_5, ca_5, cl_6, ca_6, cl_10, ca_10, cl_18, ca_18, cl_28, ca_28, cl_68, ca_68, mw_0, mw_1, mw_2, mw_3, mw_4, mw_5, mw_6, mw_7, mw_8, mu_0, mu_1, mu_2, mu_3, mu_4, mu_5, mu_6, mu_7, mu_8, vi_0, vi_1, vi_2, vi_3, vi_4, vi_5, vi_6, xh, i]
  exact hr _ _ _ _ _
theorem md_T {at_ iw rm : Int32} {ft fn fx fr : Nat → Int32} (hU : UOK U) (hB : IA fx (us_B U)) (A : Int64) (hQ : ∀ (rn cm su pl wy px : Int32) (fs fa fu fc : Nat → Int32), StF fs 0 (us_S U) → Q (some (.long (hl (hl (hl A (stL (a_st (us_S U)))) [(shr (us_S U)).toNat, (us_B U).length]) (pre (fun k => [(us_B U).getD k 0]) (us_B U).length)))) none (mw w m 0 (nI (us_T U).length) (hsI (us_N U)) (nI (us_B U).length) at_ iw rm rn cm su pl wy px fs fa ft fn fx fr fu fc)) : ∀ (k : Int32) (rn cm su pl wy px : Int32) (fs fa fu fc : Nat → Int32), StF fs 0 (us_S U) → G Γ m10_digest Q (fun _ _ => False) 341 [some (.ref m), some (.long (A)), none, some (.int (k))] [] none (mw w m 0 (nI (us_T U).length) (hsI (us_N U)) (nI (us_B U).length) at_ iw rm rn cm su pl wy px fs fa ft fn fx fr fu fc) 0 0 := by
  obtain ⟨k1, k2, k3, k4, k5, k6, k7, k8, k9, k10, k11, k12⟩ := id hU.1
  have hB60 := hU.2.2.2.2.2
  have hT5 := hU.2.2.2.1
  have bB : (us_B U).length < 2147483648 := by omega
  have bL : (a_L (us_S U)).length < 2147483648 := by omega
  have bS : (a_s (us_S U)).length < 2147483648 := by omega
  have bE : (a_E (us_S U)).length < 2147483648 := by omega
  intro k rn cm su pl wy px fs fa fu fc hS
  obtain ⟨z0, z1, zL, zS, zG, zE, z6⟩ := id hS
  have e0 : fs 0 = nI (a_wd (us_S U)) := z0
  have e1 : fs 1 = nI (a_sy (us_S U)) := z1
  have e2 : fs 2 = nI (a_L (us_S U)).length := zL.1
  have e3 : fs 3 = nI (a_s (us_S U)).length := zS.1
  have e5 : fs 5 = nI (a_E (us_S U)).length := zE.1
  have e6 : fs 6 = stN (a_st (us_S U)) := z6
  cases hst : a_st (us_S U) with
  | none =>
    rw [hst] at hQ e6
    unfold stL at hQ
    unfold stN at e6
    dsimp only at e6
    have hb := md_S (Γ := Γ) (at_ := at_) (iw := iw) (rm := rm) (ft := ft) (fn := fn) (fr := fr) hU hB _ hQ
    rw [hl_cons, hl_nil] at hb
    refine wp_ok (kd_cut 394 kd10_digest) 400 341 bb10_digest_341 _ _ _ _ _ _ oo10_digest_341 ?_
    simp only [List.getElem?_cons_zero, List.getElem?_cons_succ, fv4, Nat.reduceAdd, Nat.reduceSub, wp, pst, stp, LG, lput, ls_tl, two, bc, EL, pad, popN, csum, Option.toList, List.cons_append, List.nil_append, List.set_cons_zero, List.set_cons_succ, List.length_cons, List.length_nil, true_and, and_true, Nat.reduceLT, Nat.reduceLeDiff, Nat.zero_le, Nat.le_refl, RI_i, RI_z0, RI_z1, Int32.reduceOfInt, Int8.reduceOfInt, Int16.reduceOfInt, Int64.reduceOfInt, Int8.toInt32_ofNat, Int16.toInt32_ofNat, Int.reduceNeg, Int32.ofInt_neg, Int8.ofInt_neg, Int16.ofInt_neg, Int32.toInt64_ofNat, Int32.reduceToNatClampNeg, Fin.isValue, Fin.val_one, Fin.val_zero, Fin.val_two, Int64.reduceOfNat, Int32.reduceOfNat, hdl, cutc, Nat.reduceEqDiff, reduceIte, FV, tyC, tyX0, tyX1, tyX2, tyX3, tyX4, tyX5, tyX6, tyX7, tyX8, tyX9, tyX10, Nat.reduceMul, c_le, c_lt, c_eq, c_in, c_cl, c_add, c_rem, c_ofN, Int32.add_zero, Int32.zero_add, c_lt0, c_ge0, c_le0, c_gt0, c_e0, c_m1, c_m1', false_implies, true_implies, implies_true, not_false_eq_true, not_true_eq_false, Nat.not_lt_zero, up_s, up_1, up_m, ff10_digest, bb10_digest_0, bb10_digest_161, bb10_digest_184, bb10_digest_186, bb10_digest_219, bb10_digest_221, bb10_digest_244, bb10_digest_245, bb10_digest_277, bb10_digest_278, bb10_digest_285, bb10_digest_287, bb10_digest_341, bb10_digest_361, bb10_digest_362, bb10_digest_380, bb10_digest_394, bb10_digest_423, bb10_digest_451, cl_1, ca_1, cl_2, ca_2, cl_3, ca_3, cl_5, ca_5, cl_6, ca_6, cl_10, ca_10, cl_18, ca_18, cl_28, ca_28, cl_68, ca_68, mw_0, mw_1, mw_2, mw_3, mw_4, mw_5, mw_6, mw_7, mw_8, mu_0, mu_1, mu_2, mu_3, mu_4, mu_5, mu_6, mu_7, mu_8, vi_0, vi_1, vi_2, vi_3, vi_4, vi_5, vi_6, e6, show (0 : Int32).toInt64 = 0 from rfl, xh0]
    exact hb _ _ _ _ _ _ _ _ _ _ _ _ hS
  | some q =>
    have bq : q < 2147483648 := by have := k12 q hst; omega
    have i := i2l_n bq
    rw [hst] at hQ e6
    unfold stL at hQ
    unfold stN at e6
    dsimp only at e6
    have hb := md_S (Γ := Γ) (at_ := at_) (iw := iw) (rm := rm) (ft := ft) (fn := fn) (fr := fr) hU hB _ hQ
    rw [hl_cons, hl_cons, hl_nil] at hb
    refine wp_ok (kd_cut 394 kd10_digest) 400 341 bb10_digest_341 _ _ _ _ _ _ oo10_digest_341 ?_
    simp only [List.getElem?_cons_zero, List.getElem?_cons_succ, fv4, Nat.reduceAdd, Nat.reduceSub, wp, pst, stp, LG, lput, ls_tl, two, bc, EL, pad, popN, csum, Option.toList, List.cons_append, List.nil_append, List.set_cons_zero, List.set_cons_succ, List.length_cons, List.length_nil, true_and, and_true, Nat.reduceLT, Nat.reduceLeDiff, Nat.zero_le, Nat.le_refl, RI_i, RI_z0, RI_z1, Int32.reduceOfInt, Int8.reduceOfInt, Int16.reduceOfInt, Int64.reduceOfInt, Int8.toInt32_ofNat, Int16.toInt32_ofNat, Int.reduceNeg, Int32.ofInt_neg, Int8.ofInt_neg, Int16.ofInt_neg, Int32.toInt64_ofNat, Int32.reduceToNatClampNeg, Fin.isValue, Fin.val_one, Fin.val_zero, Fin.val_two, Int64.reduceOfNat, Int32.reduceOfNat, hdl, cutc, Nat.reduceEqDiff, reduceIte, FV, tyC, tyX0, tyX1, tyX2, tyX3, tyX4, tyX5, tyX6, tyX7, tyX8, tyX9, tyX10, Nat.reduceMul, c_le, c_lt, c_eq, c_in, c_cl, c_add, c_rem, c_ofN, Int32.add_zero, Int32.zero_add, c_lt0, c_ge0, c_le0, c_gt0, c_e0, c_m1, c_m1', false_implies, true_implies, implies_true, not_false_eq_true, not_true_eq_false, Nat.not_lt_zero, up_s, up_1, up_m, ff10_digest, bb10_digest_0, bb10_digest_161, bb10_digest_184, bb10_digest_186, bb10_digest_219, bb10_digest_221, bb10_digest_244, bb10_digest_245, bb10_digest_277, bb10_digest_278, bb10_digest_285, bb10_digest_287, bb10_digest_341, bb10_digest_361, bb10_digest_362, bb10_digest_380, bb10_digest_394, bb10_digest_423, bb10_digest_451, cl_1, ca_1, cl_2, ca_2, cl_3, ca_3, cl_5, ca_5, cl_6, ca_6, cl_10, ca_10, cl_18, ca_18, cl_28, ca_28, cl_68, ca_68, mw_0, mw_1, mw_2, mw_3, mw_4, mw_5, mw_6, mw_7, mw_8, mu_0, mu_1, mu_2, mu_3, mu_4, mu_5, mu_6, mu_7, mu_8, vi_0, vi_1, vi_2, vi_3, vi_4, vi_5, vi_6, e6, bq, show (1 : Int32).toInt64 = 1 from rfl, xh1, xh, i]
    exact hb _ _ _ _ _ _ _ _ _ _ _ _ hS
theorem md_E {at_ iw rm : Int32} {ft fn fx fr : Nat → Int32} (hU : UOK U) (hB : IA fx (us_B U)) (A : Int64) (hQ : ∀ (rn cm su pl wy px : Int32) (fs fa fu fc : Nat → Int32), StF fs 0 (us_S U) → Q (some (.long (hl (hl (hl (hl A (pre (errL (a_E (us_S U))) (a_E (us_S U)).length)) (stL (a_st (us_S U)))) [(shr (us_S U)).toNat, (us_B U).length]) (pre (fun k => [(us_B U).getD k 0]) (us_B U).length)))) none (mw w m 0 (nI (us_T U).length) (hsI (us_N U)) (nI (us_B U).length) at_ iw rm rn cm su pl wy px fs fa ft fn fx fr fu fc)) : ∀ (n k : Nat) (rn cm su pl wy px : Int32) (fs fa fu fc : Nat → Int32), StF fs 0 (us_S U) → n + k = (a_E (us_S U)).length → G Γ m10_digest Q (fun _ _ => False) 287 [some (.ref m), some (.long (hl A (pre (errL (a_E (us_S U))) k))), none, some (.int (nI k))] [] none (mw w m 0 (nI (us_T U).length) (hsI (us_N U)) (nI (us_B U).length) at_ iw rm rn cm su pl wy px fs fa ft fn fx fr fu fc) 0 0 := by
  obtain ⟨k1, k2, k3, k4, k5, k6, k7, k8, k9, k10, k11, k12⟩ := id hU.1
  have hB60 := hU.2.2.2.2.2
  have hT5 := hU.2.2.2.1
  have bB : (us_B U).length < 2147483648 := by omega
  have bL : (a_L (us_S U)).length < 2147483648 := by omega
  have bS : (a_s (us_S U)).length < 2147483648 := by omega
  have bE : (a_E (us_S U)).length < 2147483648 := by omega
  have hb := md_T (Γ := Γ) (at_ := at_) (iw := iw) (rm := rm) (ft := ft) (fn := fn) (fr := fr) hU hB _ hQ
  intro n
  induction n with
  | zero =>
    intro k rn cm su pl wy px fs fa fu fc hS hk
    obtain ⟨z0, z1, zL, zS, zG, zE, z6⟩ := id hS
    have e0 : fs 0 = nI (a_wd (us_S U)) := z0
    have e1 : fs 1 = nI (a_sy (us_S U)) := z1
    have e2 : fs 2 = nI (a_L (us_S U)).length := zL.1
    have e3 : fs 3 = nI (a_s (us_S U)).length := zS.1
    have e5 : fs 5 = nI (a_E (us_S U)).length := zE.1
    have e6 : fs 6 = stN (a_st (us_S U)) := z6
    have bk : k < 2147483648 := by omega
    have hr := hb (nI k) rn cm su pl wy px fs fa fu fc hS
    refine wp_ok (kd_cut 341 kd10_digest) 400 287 bb10_digest_287 _ _ _ _ _ _ oo10_digest_287 ?_
    simp only [List.getElem?_cons_zero, List.getElem?_cons_succ, fv4, Nat.reduceAdd, Nat.reduceSub, wp, pst, stp, LG, lput, ls_tl, two, bc, EL, pad, popN, csum, Option.toList, List.cons_append, List.nil_append, List.set_cons_zero, List.set_cons_succ, List.length_cons, List.length_nil, true_and, and_true, Nat.reduceLT, Nat.reduceLeDiff, Nat.zero_le, Nat.le_refl, RI_i, RI_z0, RI_z1, Int32.reduceOfInt, Int8.reduceOfInt, Int16.reduceOfInt, Int64.reduceOfInt, Int8.toInt32_ofNat, Int16.toInt32_ofNat, Int.reduceNeg, Int32.ofInt_neg, Int8.ofInt_neg, Int16.ofInt_neg, Int32.toInt64_ofNat, Int32.reduceToNatClampNeg, Fin.isValue, Fin.val_one, Fin.val_zero, Fin.val_two, Int64.reduceOfNat, Int32.reduceOfNat, hdl, cutc, Nat.reduceEqDiff, reduceIte, FV, tyC, tyX0, tyX1, tyX2, tyX3, tyX4, tyX5, tyX6, tyX7, tyX8, tyX9, tyX10, Nat.reduceMul, c_le, c_lt, c_eq, c_in, c_cl, c_add, c_rem, c_ofN, Int32.add_zero, Int32.zero_add, c_lt0, c_ge0, c_le0, c_gt0, c_e0, c_m1, c_m1', false_implies, true_implies, implies_true, not_false_eq_true, not_true_eq_false, Nat.not_lt_zero, up_s, up_1, up_m, ff10_digest, bb10_digest_0, bb10_digest_161, bb10_digest_184, bb10_digest_186, bb10_digest_219, bb10_digest_221, bb10_digest_244, bb10_digest_245, bb10_digest_277, bb10_digest_278, bb10_digest_285, bb10_digest_287, bb10_digest_341, bb10_digest_361, bb10_digest_362, bb10_digest_380, bb10_digest_394, bb10_digest_423, bb10_digest_451, cl_1, ca_1, cl_2, ca_2, cl_3, ca_3, cl_5, ca_5, cl_6, ca_6, cl_10, ca_10, cl_18, ca_18, cl_28, ca_28, cl_68, ca_68, mw_0, mw_1, mw_2, mw_3, mw_4, mw_5, mw_6, mw_7, mw_8, mu_0, mu_1, mu_2, mu_3, mu_4, mu_5, mu_6, mu_7, mu_8, vi_0, vi_1, vi_2, vi_3, vi_4, vi_5, vi_6, bk, bE, e5]
    refine ⟨fun _ => ?_, fun hh => absurd hh (by omega)⟩
    rw [show k = (a_E (us_S U)).length by omega] at hr ⊢
    exact hr
  | succ n ih =>
    intro k rn cm su pl wy px fs fa fu fc hS hk
    obtain ⟨z0, z1, zL, zS, zG, zE, z6⟩ := id hS
    have e0 : fs 0 = nI (a_wd (us_S U)) := z0
    have e1 : fs 1 = nI (a_sy (us_S U)) := z1
    have e2 : fs 2 = nI (a_L (us_S U)).length := zL.1
    have e3 : fs 3 = nI (a_s (us_S U)).length := zS.1
    have e5 : fs 5 = nI (a_E (us_S U)).length := zE.1
    have e6 : fs 6 = stN (a_st (us_S U)) := z6
    have bk : k < 2147483648 := by omega
    have hkl : k < (a_E (us_S U)).length := by omega
    have hv : ((a_E (us_S U)).getD k (0, 0)).1 < 500 ∧ ((a_E (us_S U)).getD k (0, 0)).2 ≤ 8 := by
      refine k11 _ (List.mem_of_getElem? (i := k) ?_)
      rw [List.getD_eq_getElem?_getD, List.getElem?_eq_getElem hkl]
      rfl
    obtain ⟨v1, v2⟩ := zE.2 k hkl
    rw [show 0 + 28 + 2 * k = 28 + 2 * k by omega] at v1
    rw [show 0 + 29 + 2 * k = 28 + 2 * k + 1 by omega] at v2
    have c1 : 28 + 2 * k < 2147483648 := by omega
    have c2 : 28 + 2 * k < 568 := by omega
    have c3 : 28 + 2 * k + 1 < 2147483648 := by omega
    have c4 : 28 + 2 * k + 1 < 568 := by omega
    have i1 := i2l_n (v := ((a_E (us_S U)).getD k (0, 0)).1) (by omega)
    have i2 := i2l_n (v := ((a_E (us_S U)).getD k (0, 0)).2) (by omega)
    have hr := ih (k + 1) rn cm su pl wy px fs fa fu fc hS (by omega)
    rw [pre, hl_app, errL, hl_cons, hl_cons, hl_nil] at hr
    refine wp_ok (kd_cut 341 kd10_digest) 400 287 bb10_digest_287 _ _ _ _ _ _ oo10_digest_287 ?_
    simp only [List.getElem?_cons_zero, List.getElem?_cons_succ, fv4, Nat.reduceAdd, Nat.reduceSub, wp, pst, stp, LG, lput, ls_tl, two, bc, EL, pad, popN, csum, Option.toList, List.cons_append, List.nil_append, List.set_cons_zero, List.set_cons_succ, List.length_cons, List.length_nil, true_and, and_true, Nat.reduceLT, Nat.reduceLeDiff, Nat.zero_le, Nat.le_refl, RI_i, RI_z0, RI_z1, Int32.reduceOfInt, Int8.reduceOfInt, Int16.reduceOfInt, Int64.reduceOfInt, Int8.toInt32_ofNat, Int16.toInt32_ofNat, Int.reduceNeg, Int32.ofInt_neg, Int8.ofInt_neg, Int16.ofInt_neg, Int32.toInt64_ofNat, Int32.reduceToNatClampNeg, Fin.isValue, Fin.val_one, Fin.val_zero, Fin.val_two, Int64.reduceOfNat, Int32.reduceOfNat, hdl, cutc, Nat.reduceEqDiff, reduceIte, FV, tyC, tyX0, tyX1, tyX2, tyX3, tyX4, tyX5, tyX6, tyX7, tyX8, tyX9, tyX10, Nat.reduceMul, c_le, c_lt, c_eq, c_in, c_cl, c_add, c_rem, c_ofN, Int32.add_zero, Int32.zero_add, c_lt0, c_ge0, c_le0, c_gt0, c_e0, c_m1, c_m1', false_implies, true_implies, implies_true, not_false_eq_true, not_true_eq_false, Nat.not_lt_zero, up_s, up_1, up_m, ff10_digest, bb10_digest_0, bb10_digest_161, bb10_digest_184, bb10_digest_186, bb10_digest_219, bb10_digest_221, bb10_digest_244, bb10_digest_245, bb10_digest_277, bb10_digest_278, bb10_digest_285, bb10_digest_287, bb10_digest_341, bb10_digest_361, bb10_digest_362, bb10_digest_380, bb10_digest_394, bb10_digest_423, bb10_digest_451, cl_1, ca_1, cl_2, ca_2, cl_3, ca_3, cl_5, ca_5, cl_6, ca_6, cl_10, ca_10, cl_18, ca_18, cl_28, ca_28, cl_68, ca_68, mw_0, mw_1, mw_2, mw_3, mw_4, mw_5, mw_6, mw_7, mw_8, mu_0, mu_1, mu_2, mu_3, mu_4, mu_5, mu_6, mu_7, mu_8, vi_0, vi_1, vi_2, vi_3, vi_4, vi_5, vi_6, bk, bE, e5, c1, c2, c3, c4, v1, v2, i1, i2, xh]
    exact ⟨fun hh => absurd hh (by omega), fun _ => hr⟩
theorem md_R {at_ iw rm : Int32} {ft fn fx fr : Nat → Int32} (hU : UOK U) (hB : IA fx (us_B U)) (A : Int64) (hQ : ∀ (rn cm su pl wy px : Int32) (fs fa fu fc : Nat → Int32), StF fs 0 (us_S U) → Q (some (.long (hl (hl (hl (hl (hl A (pre (recL (a_R (us_S U))) 10)) (pre (errL (a_E (us_S U))) (a_E (us_S U)).length)) (stL (a_st (us_S U)))) [(shr (us_S U)).toNat, (us_B U).length]) (pre (fun k => [(us_B U).getD k 0]) (us_B U).length)))) none (mw w m 0 (nI (us_T U).length) (hsI (us_N U)) (nI (us_B U).length) at_ iw rm rn cm su pl wy px fs fa ft fn fx fr fu fc)) : ∀ (n k : Nat) (rn cm su pl wy px : Int32) (fs fa fu fc : Nat → Int32), StF fs 0 (us_S U) → n + k = 10 → G Γ m10_digest Q (fun _ _ => False) 221 [some (.ref m), some (.long (hl A (pre (recL (a_R (us_S U))) k))), none, some (.int (nI k))] [] none (mw w m 0 (nI (us_T U).length) (hsI (us_N U)) (nI (us_B U).length) at_ iw rm rn cm su pl wy px fs fa ft fn fx fr fu fc) 0 0 := by
  obtain ⟨k1, k2, k3, k4, k5, k6, k7, k8, k9, k10, k11, k12⟩ := id hU.1
  have hB60 := hU.2.2.2.2.2
  have hT5 := hU.2.2.2.1
  have bB : (us_B U).length < 2147483648 := by omega
  have bL : (a_L (us_S U)).length < 2147483648 := by omega
  have bS : (a_s (us_S U)).length < 2147483648 := by omega
  have bE : (a_E (us_S U)).length < 2147483648 := by omega
  have hb := md_E (Γ := Γ) (at_ := at_) (iw := iw) (rm := rm) (ft := ft) (fn := fn) (fr := fr) hU hB _ hQ
  intro n
  induction n with
  | zero =>
    intro k rn cm su pl wy px fs fa fu fc hS hk
    have hk2 : k = 10 := by omega
    subst hk2
    have hr := hb _ 0 rn cm su pl wy px fs fa fu fc hS rfl
    rw [pre, hl_nil] at hr
    refine wp_ok (kd_cut 287 kd10_digest) 400 221 bb10_digest_221 _ _ _ _ _ _ oo10_digest_221 ?_
    simp only [List.getElem?_cons_zero, List.getElem?_cons_succ, fv4, Nat.reduceAdd, Nat.reduceSub, wp, pst, stp, LG, lput, ls_tl, two, bc, EL, pad, popN, csum, Option.toList, List.cons_append, List.nil_append, List.set_cons_zero, List.set_cons_succ, List.length_cons, List.length_nil, true_and, and_true, Nat.reduceLT, Nat.reduceLeDiff, Nat.zero_le, Nat.le_refl, RI_i, RI_z0, RI_z1, Int32.reduceOfInt, Int8.reduceOfInt, Int16.reduceOfInt, Int64.reduceOfInt, Int8.toInt32_ofNat, Int16.toInt32_ofNat, Int.reduceNeg, Int32.ofInt_neg, Int8.ofInt_neg, Int16.ofInt_neg, Int32.toInt64_ofNat, Int32.reduceToNatClampNeg, Fin.isValue, Fin.val_one, Fin.val_zero, Fin.val_two, Int64.reduceOfNat, Int32.reduceOfNat, hdl, cutc, Nat.reduceEqDiff, reduceIte, FV, tyC, tyX0, tyX1, tyX2, tyX3, tyX4, tyX5, tyX6, tyX7, tyX8, tyX9, tyX10, Nat.reduceMul, c_le, c_lt, c_eq, c_in, c_cl, c_add, c_rem, c_ofN, Int32.add_zero, Int32.zero_add, c_lt0, c_ge0, c_le0, c_gt0, c_e0, c_m1, c_m1', false_implies, true_implies, implies_true, not_false_eq_true, not_true_eq_false, Nat.not_lt_zero, up_s, up_1, up_m, ff10_digest, bb10_digest_0, bb10_digest_161, bb10_digest_184, bb10_digest_186, bb10_digest_219, bb10_digest_221, bb10_digest_244, bb10_digest_245, bb10_digest_277, bb10_digest_278, bb10_digest_285, bb10_digest_287, bb10_digest_341, bb10_digest_361, bb10_digest_362, bb10_digest_380, bb10_digest_394, bb10_digest_423, bb10_digest_451, cl_1, ca_1, cl_2, ca_2, cl_3, ca_3, cl_5, ca_5, cl_6, ca_6, cl_10, ca_10, cl_18, ca_18, cl_28, ca_28, cl_68, ca_68, mw_0, mw_1, mw_2, mw_3, mw_4, mw_5, mw_6, mw_7, mw_8, mu_0, mu_1, mu_2, mu_3, mu_4, mu_5, mu_6, mu_7, mu_8, vi_0, vi_1, vi_2, vi_3, vi_4, vi_5, vi_6]
    exact hr
  | succ n ih =>
    intro k rn cm su pl wy px fs fa fu fc hS hk
    obtain ⟨z0, z1, zL, zS, zG, zE, z6⟩ := id hS
    have e0 : fs 0 = nI (a_wd (us_S U)) := z0
    have e1 : fs 1 = nI (a_sy (us_S U)) := z1
    have e2 : fs 2 = nI (a_L (us_S U)).length := zL.1
    have e3 : fs 3 = nI (a_s (us_S U)).length := zS.1
    have e5 : fs 5 = nI (a_E (us_S U)).length := zE.1
    have e6 : fs 6 = stN (a_st (us_S U)) := z6
    have bk : k < 2147483648 := by omega
    have c1 : 18 + k < 2147483648 := by omega
    have c2 : 18 + k < 568 := by omega
    have hr := ih (k + 1) rn cm su pl wy px fs fa fu fc hS (by omega)
    rw [pre, hl_app, recL] at hr
    refine wp_ok (kd_cut 287 kd10_digest) 400 221 bb10_digest_221 _ _ _ _ _ _ oo10_digest_221 ?_
    simp only [List.getElem?_cons_zero, List.getElem?_cons_succ, fv4, Nat.reduceAdd, Nat.reduceSub, wp, pst, stp, LG, lput, ls_tl, two, bc, EL, pad, popN, csum, Option.toList, List.cons_append, List.nil_append, List.set_cons_zero, List.set_cons_succ, List.length_cons, List.length_nil, true_and, and_true, Nat.reduceLT, Nat.reduceLeDiff, Nat.zero_le, Nat.le_refl, RI_i, RI_z0, RI_z1, Int32.reduceOfInt, Int8.reduceOfInt, Int16.reduceOfInt, Int64.reduceOfInt, Int8.toInt32_ofNat, Int16.toInt32_ofNat, Int.reduceNeg, Int32.ofInt_neg, Int8.ofInt_neg, Int16.ofInt_neg, Int32.toInt64_ofNat, Int32.reduceToNatClampNeg, Fin.isValue, Fin.val_one, Fin.val_zero, Fin.val_two, Int64.reduceOfNat, Int32.reduceOfNat, hdl, cutc, Nat.reduceEqDiff, reduceIte, FV, tyC, tyX0, tyX1, tyX2, tyX3, tyX4, tyX5, tyX6, tyX7, tyX8, tyX9, tyX10, Nat.reduceMul, c_le, c_lt, c_eq, c_in, c_cl, c_add, c_rem, c_ofN, Int32.add_zero, Int32.zero_add, c_lt0, c_ge0, c_le0, c_gt0, c_e0, c_m1, c_m1', false_implies, true_implies, implies_true, not_false_eq_true, not_true_eq_false, Nat.not_lt_zero, up_s, up_1, up_m, ff10_digest, bb10_digest_0, bb10_digest_161, bb10_digest_184, bb10_digest_186, bb10_digest_219, bb10_digest_221, bb10_digest_244, bb10_digest_245, bb10_digest_277, bb10_digest_278, bb10_digest_285, bb10_digest_287, bb10_digest_341, bb10_digest_361, bb10_digest_362, bb10_digest_380, bb10_digest_394, bb10_digest_423, bb10_digest_451, cl_1, ca_1, cl_2, ca_2, cl_3, ca_3, cl_5, ca_5, cl_6, ca_6, cl_10, ca_10, cl_18, ca_18, cl_28, ca_28, cl_68, ca_68, mw_0, mw_1, mw_2, mw_3, mw_4, mw_5, mw_6, mw_7, mw_8, mu_0, mu_1, mu_2, mu_3, mu_4, mu_5, mu_6, mu_7, mu_8, vi_0, vi_1, vi_2, vi_3, vi_4, vi_5, vi_6, bk]
    refine ⟨fun hh => absurd hh (by omega), fun _ => ?_⟩
    refine sp10_isGot zG k (by omega) ?_
    cases hR : (a_R (us_S U)).getD k none with
    | none =>
      rw [hR] at hr
      dsimp only at hr
      rw [hl_cons, hl_nil] at hr
      have hg : gotN (a_R (us_S U)) k = 0 := by unfold gotN; rw [hR]
      rw [hg]
      unfold holdL
      simp only [List.getElem?_cons_zero, List.getElem?_cons_succ, fv4, Nat.reduceAdd, Nat.reduceSub, wp, pst, stp, LG, lput, ls_tl, two, bc, EL, pad, popN, csum, Option.toList, List.cons_append, List.nil_append, List.set_cons_zero, List.set_cons_succ, List.length_cons, List.length_nil, true_and, and_true, Nat.reduceLT, Nat.reduceLeDiff, Nat.zero_le, Nat.le_refl, RI_i, RI_z0, RI_z1, Int32.reduceOfInt, Int8.reduceOfInt, Int16.reduceOfInt, Int64.reduceOfInt, Int8.toInt32_ofNat, Int16.toInt32_ofNat, Int.reduceNeg, Int32.ofInt_neg, Int8.ofInt_neg, Int16.ofInt_neg, Int32.toInt64_ofNat, Int32.reduceToNatClampNeg, Fin.isValue, Fin.val_one, Fin.val_zero, Fin.val_two, Int64.reduceOfNat, Int32.reduceOfNat, hdl, cutc, Nat.reduceEqDiff, reduceIte, FV, tyC, tyX0, tyX1, tyX2, tyX3, tyX4, tyX5, tyX6, tyX7, tyX8, tyX9, tyX10, Nat.reduceMul, c_le, c_lt, c_eq, c_in, c_cl, c_add, c_rem, c_ofN, Int32.add_zero, Int32.zero_add, c_lt0, c_ge0, c_le0, c_gt0, c_e0, c_m1, c_m1', false_implies, true_implies, implies_true, not_false_eq_true, not_true_eq_false, Nat.not_lt_zero, up_s, up_1, up_m, ff10_digest, bb10_digest_0, bb10_digest_161, bb10_digest_184, bb10_digest_186, bb10_digest_219, bb10_digest_221, bb10_digest_244, bb10_digest_245, bb10_digest_277, bb10_digest_278, bb10_digest_285, bb10_digest_287, bb10_digest_341, bb10_digest_361, bb10_digest_362, bb10_digest_380, bb10_digest_394, bb10_digest_423, bb10_digest_451, cl_1, ca_1, cl_2, ca_2, cl_3, ca_3, cl_5, ca_5, cl_6, ca_6, cl_10, ca_10, cl_18, ca_18, cl_28, ca_28, cl_68, ca_68, mw_0, mw_1, mw_2, mw_3, mw_4, mw_5, mw_6, mw_7, mw_8, mu_0, mu_1, mu_2, mu_3, mu_4, mu_5, mu_6, mu_7, mu_8, vi_0, vi_1, vi_2, vi_3, vi_4, vi_5, vi_6, show nI 0 = 0 from rfl, show (0 : Int32).toInt64 = 0 from rfl, xh0, bk]
      refine sp10_isGot zG k (by omega) ?_
      rw [hg]
      unfold holdL
      simp only [List.getElem?_cons_zero, List.getElem?_cons_succ, fv4, Nat.reduceAdd, Nat.reduceSub, wp, pst, stp, LG, lput, ls_tl, two, bc, EL, pad, popN, csum, Option.toList, List.cons_append, List.nil_append, List.set_cons_zero, List.set_cons_succ, List.length_cons, List.length_nil, true_and, and_true, Nat.reduceLT, Nat.reduceLeDiff, Nat.zero_le, Nat.le_refl, RI_i, RI_z0, RI_z1, Int32.reduceOfInt, Int8.reduceOfInt, Int16.reduceOfInt, Int64.reduceOfInt, Int8.toInt32_ofNat, Int16.toInt32_ofNat, Int.reduceNeg, Int32.ofInt_neg, Int8.ofInt_neg, Int16.ofInt_neg, Int32.toInt64_ofNat, Int32.reduceToNatClampNeg, Fin.isValue, Fin.val_one, Fin.val_zero, Fin.val_two, Int64.reduceOfNat, Int32.reduceOfNat, hdl, cutc, Nat.reduceEqDiff, reduceIte, FV, tyC, tyX0, tyX1, tyX2, tyX3, tyX4, tyX5, tyX6, tyX7, tyX8, tyX9, tyX10, Nat.reduceMul, c_le, c_lt, c_eq, c_in, c_cl, c_add, c_rem, c_ofN, Int32.add_zero, Int32.zero_add, c_lt0, c_ge0, c_le0, c_gt0, c_e0, c_m1, c_m1', false_implies, true_implies, implies_true, not_false_eq_true, not_true_eq_false, Nat.not_lt_zero, up_s, up_1, up_m, ff10_digest, bb10_digest_0, bb10_digest_161, bb10_digest_184, bb10_digest_186, bb10_digest_219, bb10_digest_221, bb10_digest_244, bb10_digest_245, bb10_digest_277, bb10_digest_278, bb10_digest_285, bb10_digest_287, bb10_digest_341, bb10_digest_361, bb10_digest_362, bb10_digest_380, bb10_digest_394, bb10_digest_423, bb10_digest_451, cl_1, ca_1, cl_2, ca_2, cl_3, ca_3, cl_5, ca_5, cl_6, ca_6, cl_10, ca_10, cl_18, ca_18, cl_28, ca_28, cl_68, ca_68, mw_0, mw_1, mw_2, mw_3, mw_4, mw_5, mw_6, mw_7, mw_8, mu_0, mu_1, mu_2, mu_3, mu_4, mu_5, mu_6, mu_7, mu_8, vi_0, vi_1, vi_2, vi_3, vi_4, vi_5, vi_6, show nI 0 = 0 from rfl, bk]
      exact hr
    | some q =>
      rw [hR] at hr
      dsimp only at hr
      rw [hl_cons, hl_cons, hl_nil] at hr
      have hg : gotN (a_R (us_S U)) k = 1 := by unfold gotN; rw [hR]
      have ev := zG.2 k q (by omega) hR
      rw [Nat.zero_add] at ev
      rw [hg]
      unfold holdL
      simp only [List.getElem?_cons_zero, List.getElem?_cons_succ, fv4, Nat.reduceAdd, Nat.reduceSub, wp, pst, stp, LG, lput, ls_tl, two, bc, EL, pad, popN, csum, Option.toList, List.cons_append, List.nil_append, List.set_cons_zero, List.set_cons_succ, List.length_cons, List.length_nil, true_and, and_true, Nat.reduceLT, Nat.reduceLeDiff, Nat.zero_le, Nat.le_refl, RI_i, RI_z0, RI_z1, Int32.reduceOfInt, Int8.reduceOfInt, Int16.reduceOfInt, Int64.reduceOfInt, Int8.toInt32_ofNat, Int16.toInt32_ofNat, Int.reduceNeg, Int32.ofInt_neg, Int8.ofInt_neg, Int16.ofInt_neg, Int32.toInt64_ofNat, Int32.reduceToNatClampNeg, Fin.isValue, Fin.val_one, Fin.val_zero, Fin.val_two, Int64.reduceOfNat, Int32.reduceOfNat, hdl, cutc, Nat.reduceEqDiff, reduceIte, FV, tyC, tyX0, tyX1, tyX2, tyX3, tyX4, tyX5, tyX6, tyX7, tyX8, tyX9, tyX10, Nat.reduceMul, c_le, c_lt, c_eq, c_in, c_cl, c_add, c_rem, c_ofN, Int32.add_zero, Int32.zero_add, c_lt0, c_ge0, c_le0, c_gt0, c_e0, c_m1, c_m1', false_implies, true_implies, implies_true, not_false_eq_true, not_true_eq_false, Nat.not_lt_zero, up_s, up_1, up_m, ff10_digest, bb10_digest_0, bb10_digest_161, bb10_digest_184, bb10_digest_186, bb10_digest_219, bb10_digest_221, bb10_digest_244, bb10_digest_245, bb10_digest_277, bb10_digest_278, bb10_digest_285, bb10_digest_287, bb10_digest_341, bb10_digest_361, bb10_digest_362, bb10_digest_380, bb10_digest_394, bb10_digest_423, bb10_digest_451, cl_1, ca_1, cl_2, ca_2, cl_3, ca_3, cl_5, ca_5, cl_6, ca_6, cl_10, ca_10, cl_18, ca_18, cl_28, ca_28, cl_68, ca_68, mw_0, mw_1, mw_2, mw_3, mw_4, mw_5, mw_6, mw_7, mw_8, mu_0, mu_1, mu_2, mu_3, mu_4, mu_5, mu_6, mu_7, mu_8, vi_0, vi_1, vi_2, vi_3, vi_4, vi_5, vi_6, n10, show nI 1 = 1 from rfl, show (1 : Int32).toInt64 = 1 from rfl, xh1, bk]
      refine sp10_isGot zG k (by omega) ?_
      rw [hg]
      unfold holdL
      simp only [List.getElem?_cons_zero, List.getElem?_cons_succ, fv4, Nat.reduceAdd, Nat.reduceSub, wp, pst, stp, LG, lput, ls_tl, two, bc, EL, pad, popN, csum, Option.toList, List.cons_append, List.nil_append, List.set_cons_zero, List.set_cons_succ, List.length_cons, List.length_nil, true_and, and_true, Nat.reduceLT, Nat.reduceLeDiff, Nat.zero_le, Nat.le_refl, RI_i, RI_z0, RI_z1, Int32.reduceOfInt, Int8.reduceOfInt, Int16.reduceOfInt, Int64.reduceOfInt, Int8.toInt32_ofNat, Int16.toInt32_ofNat, Int.reduceNeg, Int32.ofInt_neg, Int8.ofInt_neg, Int16.ofInt_neg, Int32.toInt64_ofNat, Int32.reduceToNatClampNeg, Fin.isValue, Fin.val_one, Fin.val_zero, Fin.val_two, Int64.reduceOfNat, Int32.reduceOfNat, hdl, cutc, Nat.reduceEqDiff, reduceIte, FV, tyC, tyX0, tyX1, tyX2, tyX3, tyX4, tyX5, tyX6, tyX7, tyX8, tyX9, tyX10, Nat.reduceMul, c_le, c_lt, c_eq, c_in, c_cl, c_add, c_rem, c_ofN, Int32.add_zero, Int32.zero_add, c_lt0, c_ge0, c_le0, c_gt0, c_e0, c_m1, c_m1', false_implies, true_implies, implies_true, not_false_eq_true, not_true_eq_false, Nat.not_lt_zero, up_s, up_1, up_m, ff10_digest, bb10_digest_0, bb10_digest_161, bb10_digest_184, bb10_digest_186, bb10_digest_219, bb10_digest_221, bb10_digest_244, bb10_digest_245, bb10_digest_277, bb10_digest_278, bb10_digest_285, bb10_digest_287, bb10_digest_341, bb10_digest_361, bb10_digest_362, bb10_digest_380, bb10_digest_394, bb10_digest_423, bb10_digest_451, cl_1, ca_1, cl_2, ca_2, cl_3, ca_3, cl_5, ca_5, cl_6, ca_6, cl_10, ca_10, cl_18, ca_18, cl_28, ca_28, cl_68, ca_68, mw_0, mw_1, mw_2, mw_3, mw_4, mw_5, mw_6, mw_7, mw_8, mu_0, mu_1, mu_2, mu_3, mu_4, mu_5, mu_6, mu_7, mu_8, vi_0, vi_1, vi_2, vi_3, vi_4, vi_5, vi_6, n10, show nI 1 = 1 from rfl, c1, c2, ev]
      refine sp10_asLong _ (k9 k q hR) ?_
      unfold holdL
      simp only [List.getElem?_cons_zero, List.getElem?_cons_succ, fv4, Nat.reduceAdd, Nat.reduceSub, wp, pst, stp, LG, lput, ls_tl, two, bc, EL, pad, popN, csum, Option.toList, List.cons_append, List.nil_append, List.set_cons_zero, List.set_cons_succ, List.length_cons, List.length_nil, true_and, and_true, Nat.reduceLT, Nat.reduceLeDiff, Nat.zero_le, Nat.le_refl, RI_i, RI_z0, RI_z1, Int32.reduceOfInt, Int8.reduceOfInt, Int16.reduceOfInt, Int64.reduceOfInt, Int8.toInt32_ofNat, Int16.toInt32_ofNat, Int.reduceNeg, Int32.ofInt_neg, Int8.ofInt_neg, Int16.ofInt_neg, Int32.toInt64_ofNat, Int32.reduceToNatClampNeg, Fin.isValue, Fin.val_one, Fin.val_zero, Fin.val_two, Int64.reduceOfNat, Int32.reduceOfNat, hdl, cutc, Nat.reduceEqDiff, reduceIte, FV, tyC, tyX0, tyX1, tyX2, tyX3, tyX4, tyX5, tyX6, tyX7, tyX8, tyX9, tyX10, Nat.reduceMul, c_le, c_lt, c_eq, c_in, c_cl, c_add, c_rem, c_ofN, Int32.add_zero, Int32.zero_add, c_lt0, c_ge0, c_le0, c_gt0, c_e0, c_m1, c_m1', false_implies, true_implies, implies_true, not_false_eq_true, not_true_eq_false, Nat.not_lt_zero, up_s, up_1, up_m, ff10_digest, bb10_digest_0, bb10_digest_161, bb10_digest_184, bb10_digest_186, bb10_digest_219, bb10_digest_221, bb10_digest_244, bb10_digest_245, bb10_digest_277, bb10_digest_278, bb10_digest_285, bb10_digest_287, bb10_digest_341, bb10_digest_361, bb10_digest_362, bb10_digest_380, bb10_digest_394, bb10_digest_423, bb10_digest_451, cl_1, ca_1, cl_2, ca_2, cl_3, ca_3, cl_5, ca_5, cl_6, ca_6, cl_10, ca_10, cl_18, ca_18, cl_28, ca_28, cl_68, ca_68, mw_0, mw_1, mw_2, mw_3, mw_4, mw_5, mw_6, mw_7, mw_8, mu_0, mu_1, mu_2, mu_3, mu_4, mu_5, mu_6, mu_7, mu_8, vi_0, vi_1, vi_2, vi_3, vi_4, vi_5, vi_6, xh, bk]
      exact hr
theorem md_Z {at_ iw rm : Int32} {ft fn fx fr : Nat → Int32} (hU : UOK U) (hB : IA fx (us_B U)) (A : Int64) (hQ : ∀ (rn cm su pl wy px : Int32) (fs fa fu fc : Nat → Int32), StF fs 0 (us_S U) → Q (some (.long (hl (hl (hl (hl (hl (hl A (pre (fun k => [(a_s (us_S U)).getD k 0]) (a_s (us_S U)).length)) (pre (recL (a_R (us_S U))) 10)) (pre (errL (a_E (us_S U))) (a_E (us_S U)).length)) (stL (a_st (us_S U)))) [(shr (us_S U)).toNat, (us_B U).length]) (pre (fun k => [(us_B U).getD k 0]) (us_B U).length)))) none (mw w m 0 (nI (us_T U).length) (hsI (us_N U)) (nI (us_B U).length) at_ iw rm rn cm su pl wy px fs fa ft fn fx fr fu fc)) : ∀ (n k : Nat) (rn cm su pl wy px : Int32) (fs fa fu fc : Nat → Int32), StF fs 0 (us_S U) → n + k = (a_s (us_S U)).length → G Γ m10_digest Q (fun _ _ => False) 186 [some (.ref m), some (.long (hl A (pre (fun k => [(a_s (us_S U)).getD k 0]) k))), none, some (.int (nI k))] [] none (mw w m 0 (nI (us_T U).length) (hsI (us_N U)) (nI (us_B U).length) at_ iw rm rn cm su pl wy px fs fa ft fn fx fr fu fc) 0 0 := by
  obtain ⟨k1, k2, k3, k4, k5, k6, k7, k8, k9, k10, k11, k12⟩ := id hU.1
  have hB60 := hU.2.2.2.2.2
  have hT5 := hU.2.2.2.1
  have bB : (us_B U).length < 2147483648 := by omega
  have bL : (a_L (us_S U)).length < 2147483648 := by omega
  have bS : (a_s (us_S U)).length < 2147483648 := by omega
  have bE : (a_E (us_S U)).length < 2147483648 := by omega
  have hb := md_R (Γ := Γ) (at_ := at_) (iw := iw) (rm := rm) (ft := ft) (fn := fn) (fr := fr) hU hB _ hQ
  intro n
  induction n with
  | zero =>
    intro k rn cm su pl wy px fs fa fu fc hS hk
    obtain ⟨z0, z1, zL, zS, zG, zE, z6⟩ := id hS
    have e0 : fs 0 = nI (a_wd (us_S U)) := z0
    have e1 : fs 1 = nI (a_sy (us_S U)) := z1
    have e2 : fs 2 = nI (a_L (us_S U)).length := zL.1
    have e3 : fs 3 = nI (a_s (us_S U)).length := zS.1
    have e5 : fs 5 = nI (a_E (us_S U)).length := zE.1
    have e6 : fs 6 = stN (a_st (us_S U)) := z6
    have bk : k < 2147483648 := by omega
    have hr := hb 10 0 rn cm su pl wy px fs fa fu fc hS rfl
    rw [pre, hl_nil] at hr
    refine wp_ok (kd_cut 221 kd10_digest) 400 186 bb10_digest_186 _ _ _ _ _ _ oo10_digest_186 ?_
    simp only [List.getElem?_cons_zero, List.getElem?_cons_succ, fv4, Nat.reduceAdd, Nat.reduceSub, wp, pst, stp, LG, lput, ls_tl, two, bc, EL, pad, popN, csum, Option.toList, List.cons_append, List.nil_append, List.set_cons_zero, List.set_cons_succ, List.length_cons, List.length_nil, true_and, and_true, Nat.reduceLT, Nat.reduceLeDiff, Nat.zero_le, Nat.le_refl, RI_i, RI_z0, RI_z1, Int32.reduceOfInt, Int8.reduceOfInt, Int16.reduceOfInt, Int64.reduceOfInt, Int8.toInt32_ofNat, Int16.toInt32_ofNat, Int.reduceNeg, Int32.ofInt_neg, Int8.ofInt_neg, Int16.ofInt_neg, Int32.toInt64_ofNat, Int32.reduceToNatClampNeg, Fin.isValue, Fin.val_one, Fin.val_zero, Fin.val_two, Int64.reduceOfNat, Int32.reduceOfNat, hdl, cutc, Nat.reduceEqDiff, reduceIte, FV, tyC, tyX0, tyX1, tyX2, tyX3, tyX4, tyX5, tyX6, tyX7, tyX8, tyX9, tyX10, Nat.reduceMul, c_le, c_lt, c_eq, c_in, c_cl, c_add, c_rem, c_ofN, Int32.add_zero, Int32.zero_add, c_lt0, c_ge0, c_le0, c_gt0, c_e0, c_m1, c_m1', false_implies, true_implies, implies_true, not_false_eq_true, not_true_eq_false, Nat.not_lt_zero, up_s, up_1, up_m, ff10_digest, bb10_digest_0, bb10_digest_161, bb10_digest_184, bb10_digest_186, bb10_digest_219, bb10_digest_221, bb10_digest_244, bb10_digest_245, bb10_digest_277, bb10_digest_278, bb10_digest_285, bb10_digest_287, bb10_digest_341, bb10_digest_361, bb10_digest_362, bb10_digest_380, bb10_digest_394, bb10_digest_423, bb10_digest_451, cl_1, ca_1, cl_2, ca_2, cl_3, ca_3, cl_5, ca_5, cl_6, ca_6, cl_10, ca_10, cl_18, ca_18, cl_28, ca_28, cl_68, ca_68, mw_0, mw_1, mw_2, mw_3, mw_4, mw_5, mw_6, mw_7, mw_8, mu_0, mu_1, mu_2, mu_3, mu_4, mu_5, mu_6, mu_7, mu_8, vi_0, vi_1, vi_2, vi_3, vi_4, vi_5, vi_6, bk, bS, e3]
    refine ⟨fun _ => ?_, fun hh => absurd hh (by omega)⟩
    rw [show k = (a_s (us_S U)).length by omega]
    exact hr
  | succ n ih =>
    intro k rn cm su pl wy px fs fa fu fc hS hk
    obtain ⟨z0, z1, zL, zS, zG, zE, z6⟩ := id hS
    have e0 : fs 0 = nI (a_wd (us_S U)) := z0
    have e1 : fs 1 = nI (a_sy (us_S U)) := z1
    have e2 : fs 2 = nI (a_L (us_S U)).length := zL.1
    have e3 : fs 3 = nI (a_s (us_S U)).length := zS.1
    have e5 : fs 5 = nI (a_E (us_S U)).length := zE.1
    have e6 : fs 6 = stN (a_st (us_S U)) := z6
    have bk : k < 2147483648 := by omega
    have c1 : 68 + k < 2147483648 := by omega
    have c2 : 68 + k < 568 := by omega
    have ev := zS.2 k (by omega)
    rw [Nat.zero_add] at ev
    have hv : (a_s (us_S U)).getD k 0 < 16 := getD_lt k6 k
    have i := i2l_n (v := (a_s (us_S U)).getD k 0) (by omega)
    have hr := ih (k + 1) rn cm su pl wy px fs fa fu fc hS (by omega)
    rw [pre, hl_app, hl_cons, hl_nil] at hr
    refine wp_ok (kd_cut 221 kd10_digest) 400 186 bb10_digest_186 _ _ _ _ _ _ oo10_digest_186 ?_
    simp only [List.getElem?_cons_zero, List.getElem?_cons_succ, fv4, Nat.reduceAdd, Nat.reduceSub, wp, pst, stp, LG, lput, ls_tl, two, bc, EL, pad, popN, csum, Option.toList, List.cons_append, List.nil_append, List.set_cons_zero, List.set_cons_succ, List.length_cons, List.length_nil, true_and, and_true, Nat.reduceLT, Nat.reduceLeDiff, Nat.zero_le, Nat.le_refl, RI_i, RI_z0, RI_z1, Int32.reduceOfInt, Int8.reduceOfInt, Int16.reduceOfInt, Int64.reduceOfInt, Int8.toInt32_ofNat, Int16.toInt32_ofNat, Int.reduceNeg, Int32.ofInt_neg, Int8.ofInt_neg, Int16.ofInt_neg, Int32.toInt64_ofNat, Int32.reduceToNatClampNeg, Fin.isValue, Fin.val_one, Fin.val_zero, Fin.val_two, Int64.reduceOfNat, Int32.reduceOfNat, hdl, cutc, Nat.reduceEqDiff, reduceIte, FV, tyC, tyX0, tyX1, tyX2, tyX3, tyX4, tyX5, tyX6, tyX7, tyX8, tyX9, tyX10, Nat.reduceMul, c_le, c_lt, c_eq, c_in, c_cl, c_add, c_rem, c_ofN, Int32.add_zero, Int32.zero_add, c_lt0, c_ge0, c_le0, c_gt0, c_e0, c_m1, c_m1', false_implies, true_implies, implies_true, not_false_eq_true, not_true_eq_false, Nat.not_lt_zero, up_s, up_1, up_m, ff10_digest, bb10_digest_0, bb10_digest_161, bb10_digest_184, bb10_digest_186, bb10_digest_219, bb10_digest_221, bb10_digest_244, bb10_digest_245, bb10_digest_277, bb10_digest_278, bb10_digest_285, bb10_digest_287, bb10_digest_341, bb10_digest_361, bb10_digest_362, bb10_digest_380, bb10_digest_394, bb10_digest_423, bb10_digest_451, cl_1, ca_1, cl_2, ca_2, cl_3, ca_3, cl_5, ca_5, cl_6, ca_6, cl_10, ca_10, cl_18, ca_18, cl_28, ca_28, cl_68, ca_68, mw_0, mw_1, mw_2, mw_3, mw_4, mw_5, mw_6, mw_7, mw_8, mu_0, mu_1, mu_2, mu_3, mu_4, mu_5, mu_6, mu_7, mu_8, vi_0, vi_1, vi_2, vi_3, vi_4, vi_5, vi_6, bk, bS, e3, c1, c2, ev, i, xh]
    exact ⟨fun hh => absurd hh (by omega), fun _ => hr⟩
theorem md_L {at_ iw rm : Int32} {ft fn fx fr : Nat → Int32} (hU : UOK U) (hB : IA fx (us_B U)) (A : Int64) (hQ : ∀ (rn cm su pl wy px : Int32) (fs fa fu fc : Nat → Int32), StF fs 0 (us_S U) → Q (some (.long (hl (hl (hl (hl (hl (hl (hl A (pre (lineL (us_S U)) (a_L (us_S U)).length)) (pre (fun k => [(a_s (us_S U)).getD k 0]) (a_s (us_S U)).length)) (pre (recL (a_R (us_S U))) 10)) (pre (errL (a_E (us_S U))) (a_E (us_S U)).length)) (stL (a_st (us_S U)))) [(shr (us_S U)).toNat, (us_B U).length]) (pre (fun k => [(us_B U).getD k 0]) (us_B U).length)))) none (mw w m 0 (nI (us_T U).length) (hsI (us_N U)) (nI (us_B U).length) at_ iw rm rn cm su pl wy px fs fa ft fn fx fr fu fc)) : ∀ (n k : Nat) (rn cm su pl wy px : Int32) (fs fa fu fc : Nat → Int32), StF fs 0 (us_S U) → n + k = (a_L (us_S U)).length → G Γ m10_digest Q (fun _ _ => False) 161 [some (.ref m), some (.long (hl A (pre (lineL (us_S U)) k))), none, some (.int (nI k))] [] none (mw w m 0 (nI (us_T U).length) (hsI (us_N U)) (nI (us_B U).length) at_ iw rm rn cm su pl wy px fs fa ft fn fx fr fu fc) 0 0 := by
  obtain ⟨k1, k2, k3, k4, k5, k6, k7, k8, k9, k10, k11, k12⟩ := id hU.1
  have hB60 := hU.2.2.2.2.2
  have hT5 := hU.2.2.2.1
  have bB : (us_B U).length < 2147483648 := by omega
  have bL : (a_L (us_S U)).length < 2147483648 := by omega
  have bS : (a_s (us_S U)).length < 2147483648 := by omega
  have bE : (a_E (us_S U)).length < 2147483648 := by omega
  have hb := md_Z (Γ := Γ) (at_ := at_) (iw := iw) (rm := rm) (ft := ft) (fn := fn) (fr := fr) hU hB _ hQ
  intro n
  induction n with
  | zero =>
    intro k rn cm su pl wy px fs fa fu fc hS hk
    obtain ⟨z0, z1, zL, zS, zG, zE, z6⟩ := id hS
    have e0 : fs 0 = nI (a_wd (us_S U)) := z0
    have e1 : fs 1 = nI (a_sy (us_S U)) := z1
    have e2 : fs 2 = nI (a_L (us_S U)).length := zL.1
    have e3 : fs 3 = nI (a_s (us_S U)).length := zS.1
    have e5 : fs 5 = nI (a_E (us_S U)).length := zE.1
    have e6 : fs 6 = stN (a_st (us_S U)) := z6
    have bk : k < 2147483648 := by omega
    have hr := hb _ 0 rn cm su pl wy px fs fa fu fc hS rfl
    rw [pre, hl_nil] at hr
    refine wp_ok (kd_cut 186 kd10_digest) 400 161 bb10_digest_161 _ _ _ _ _ _ oo10_digest_161 ?_
    simp only [List.getElem?_cons_zero, List.getElem?_cons_succ, fv4, Nat.reduceAdd, Nat.reduceSub, wp, pst, stp, LG, lput, ls_tl, two, bc, EL, pad, popN, csum, Option.toList, List.cons_append, List.nil_append, List.set_cons_zero, List.set_cons_succ, List.length_cons, List.length_nil, true_and, and_true, Nat.reduceLT, Nat.reduceLeDiff, Nat.zero_le, Nat.le_refl, RI_i, RI_z0, RI_z1, Int32.reduceOfInt, Int8.reduceOfInt, Int16.reduceOfInt, Int64.reduceOfInt, Int8.toInt32_ofNat, Int16.toInt32_ofNat, Int.reduceNeg, Int32.ofInt_neg, Int8.ofInt_neg, Int16.ofInt_neg, Int32.toInt64_ofNat, Int32.reduceToNatClampNeg, Fin.isValue, Fin.val_one, Fin.val_zero, Fin.val_two, Int64.reduceOfNat, Int32.reduceOfNat, hdl, cutc, Nat.reduceEqDiff, reduceIte, FV, tyC, tyX0, tyX1, tyX2, tyX3, tyX4, tyX5, tyX6, tyX7, tyX8, tyX9, tyX10, Nat.reduceMul, c_le, c_lt, c_eq, c_in, c_cl, c_add, c_rem, c_ofN, Int32.add_zero, Int32.zero_add, c_lt0, c_ge0, c_le0, c_gt0, c_e0, c_m1, c_m1', false_implies, true_implies, implies_true, not_false_eq_true, not_true_eq_false, Nat.not_lt_zero, up_s, up_1, up_m, ff10_digest, bb10_digest_0, bb10_digest_161, bb10_digest_184, bb10_digest_186, bb10_digest_219, bb10_digest_221, bb10_digest_244, bb10_digest_245, bb10_digest_277, bb10_digest_278, bb10_digest_285, bb10_digest_287, bb10_digest_341, bb10_digest_361, bb10_digest_362, bb10_digest_380, bb10_digest_394, bb10_digest_423, bb10_digest_451, cl_1, ca_1, cl_2, ca_2, cl_3, ca_3, cl_5, ca_5, cl_6, ca_6, cl_10, ca_10, cl_18, ca_18, cl_28, ca_28, cl_68, ca_68, mw_0, mw_1, mw_2, mw_3, mw_4, mw_5, mw_6, mw_7, mw_8, mu_0, mu_1, mu_2, mu_3, mu_4, mu_5, mu_6, mu_7, mu_8, vi_0, vi_1, vi_2, vi_3, vi_4, vi_5, vi_6, bk, bL, e2]
    refine ⟨fun _ => ?_, fun hh => absurd hh (by omega)⟩
    rw [show k = (a_L (us_S U)).length by omega]
    exact hr
  | succ n ih =>
    intro k rn cm su pl wy px fs fa fu fc hS hk
    obtain ⟨z0, z1, zL, zS, zG, zE, z6⟩ := id hS
    have e0 : fs 0 = nI (a_wd (us_S U)) := z0
    have e1 : fs 1 = nI (a_sy (us_S U)) := z1
    have e2 : fs 2 = nI (a_L (us_S U)).length := zL.1
    have e3 : fs 3 = nI (a_s (us_S U)).length := zS.1
    have e5 : fs 5 = nI (a_E (us_S U)).length := zE.1
    have e6 : fs 6 = stN (a_st (us_S U)) := z6
    have bk : k < 2147483648 := by omega
    have hr := fun rn cm su fu fc => ih (k + 1) rn cm su pl wy px fs fa fu fc hS (by omega)
    rw [pre, hl_app] at hr
    refine wp_ok (kd_cut 186 kd10_digest) 400 161 bb10_digest_161 _ _ _ _ _ _ oo10_digest_161 ?_
    simp only [List.getElem?_cons_zero, List.getElem?_cons_succ, fv4, Nat.reduceAdd, Nat.reduceSub, wp, pst, stp, LG, lput, ls_tl, two, bc, EL, pad, popN, csum, Option.toList, List.cons_append, List.nil_append, List.set_cons_zero, List.set_cons_succ, List.length_cons, List.length_nil, true_and, and_true, Nat.reduceLT, Nat.reduceLeDiff, Nat.zero_le, Nat.le_refl, RI_i, RI_z0, RI_z1, Int32.reduceOfInt, Int8.reduceOfInt, Int16.reduceOfInt, Int64.reduceOfInt, Int8.toInt32_ofNat, Int16.toInt32_ofNat, Int.reduceNeg, Int32.ofInt_neg, Int8.ofInt_neg, Int16.ofInt_neg, Int32.toInt64_ofNat, Int32.reduceToNatClampNeg, Fin.isValue, Fin.val_one, Fin.val_zero, Fin.val_two, Int64.reduceOfNat, Int32.reduceOfNat, hdl, cutc, Nat.reduceEqDiff, reduceIte, FV, tyC, tyX0, tyX1, tyX2, tyX3, tyX4, tyX5, tyX6, tyX7, tyX8, tyX9, tyX10, Nat.reduceMul, c_le, c_lt, c_eq, c_in, c_cl, c_add, c_rem, c_ofN, Int32.add_zero, Int32.zero_add, c_lt0, c_ge0, c_le0, c_gt0, c_e0, c_m1, c_m1', false_implies, true_implies, implies_true, not_false_eq_true, not_true_eq_false, Nat.not_lt_zero, up_s, up_1, up_m, ff10_digest, bb10_digest_0, bb10_digest_161, bb10_digest_184, bb10_digest_186, bb10_digest_219, bb10_digest_221, bb10_digest_244, bb10_digest_245, bb10_digest_277, bb10_digest_278, bb10_digest_285, bb10_digest_287, bb10_digest_341, bb10_digest_361, bb10_digest_362, bb10_digest_380, bb10_digest_394, bb10_digest_423, bb10_digest_451, cl_1, ca_1, cl_2, ca_2, cl_3, ca_3, cl_5, ca_5, cl_6, ca_6, cl_10, ca_10, cl_18, ca_18, cl_28, ca_28, cl_68, ca_68, mw_0, mw_1, mw_2, mw_3, mw_4, mw_5, mw_6, mw_7, mw_8, mu_0, mu_1, mu_2, mu_3, mu_4, mu_5, mu_6, mu_7, mu_8, vi_0, vi_1, vi_2, vi_3, vi_4, vi_5, vi_6, bk, bL, e2]
    refine ⟨fun hh => absurd hh (by omega), fun _ => ?_⟩
    refine sp10_digestLine hS hU.1 _ k (by omega) (fun rn' cm' su' fu' fc' => ?_)
    unfold holdL
    simp only [List.getElem?_cons_zero, List.getElem?_cons_succ, fv4, Nat.reduceAdd, Nat.reduceSub, wp, pst, stp, LG, lput, ls_tl, two, bc, EL, pad, popN, csum, Option.toList, List.cons_append, List.nil_append, List.set_cons_zero, List.set_cons_succ, List.length_cons, List.length_nil, true_and, and_true, Nat.reduceLT, Nat.reduceLeDiff, Nat.zero_le, Nat.le_refl, RI_i, RI_z0, RI_z1, Int32.reduceOfInt, Int8.reduceOfInt, Int16.reduceOfInt, Int64.reduceOfInt, Int8.toInt32_ofNat, Int16.toInt32_ofNat, Int.reduceNeg, Int32.ofInt_neg, Int8.ofInt_neg, Int16.ofInt_neg, Int32.toInt64_ofNat, Int32.reduceToNatClampNeg, Fin.isValue, Fin.val_one, Fin.val_zero, Fin.val_two, Int64.reduceOfNat, Int32.reduceOfNat, hdl, cutc, Nat.reduceEqDiff, reduceIte, FV, tyC, tyX0, tyX1, tyX2, tyX3, tyX4, tyX5, tyX6, tyX7, tyX8, tyX9, tyX10, Nat.reduceMul, c_le, c_lt, c_eq, c_in, c_cl, c_add, c_rem, c_ofN, Int32.add_zero, Int32.zero_add, c_lt0, c_ge0, c_le0, c_gt0, c_e0, c_m1, c_m1', false_implies, true_implies, implies_true, not_false_eq_true, not_true_eq_false, Nat.not_lt_zero, up_s, up_1, up_m, ff10_digest, bb10_digest_0, bb10_digest_161, bb10_digest_184, bb10_digest_186, bb10_digest_219, bb10_digest_221, bb10_digest_244, bb10_digest_245, bb10_digest_277, bb10_digest_278, bb10_digest_285, bb10_digest_287, bb10_digest_341, bb10_digest_361, bb10_digest_362, bb10_digest_380, bb10_digest_394, bb10_digest_423, bb10_digest_451, cl_1, ca_1, cl_2, ca_2, cl_3, ca_3, cl_5, ca_5, cl_6, ca_6, cl_10, ca_10, cl_18, ca_18, cl_28, ca_28, cl_68, ca_68, mw_0, mw_1, mw_2, mw_3, mw_4, mw_5, mw_6, mw_7, mw_8, mu_0, mu_1, mu_2, mu_3, mu_4, mu_5, mu_6, mu_7, mu_8, vi_0, vi_1, vi_2, vi_3, vi_4, vi_5, vi_6, bk]
    exact hr _ _ _ _ _
theorem sp10_digest (h : MU w m th U) (hU : UOK U) (hQ : ∀ w', MU w' m 0 U → Fr w w' m 9 → Q (some (.long (dig U))) none w') : Sp Γ m10_digest [.ref m] none w Q := by
  obtain ⟨at_, iw, rm, rn, cm, su, pl, wy, px, fs, fa, ft, fn, fx, fr, fu, fc, hw, hS, hT, hN, hB⟩ := h
  obtain ⟨k1, k2, k3, k4, k5, k6, k7, k8, k9, k10, k11, k12⟩ := id hU.1
  have hB60 := hU.2.2.2.2.2
  have hT5 := hU.2.2.2.1
  have bB : (us_B U).length < 2147483648 := by omega
  have bL : (a_L (us_S U)).length < 2147483648 := by omega
  have bS : (a_s (us_S U)).length < 2147483648 := by omega
  have bE : (a_E (us_S U)).length < 2147483648 := by omega
  obtain ⟨z0, z1, zL, zS, zG, zE, z6⟩ := id hS
  have e0 : fs 0 = nI (a_wd (us_S U)) := z0
  have e1 : fs 1 = nI (a_sy (us_S U)) := z1
  have e2 : fs 2 = nI (a_L (us_S U)).length := zL.1
  have e3 : fs 3 = nI (a_s (us_S U)).length := zS.1
  have e5 : fs 5 = nI (a_E (us_S U)).length := zE.1
  have e6 : fs 6 = stN (a_st (us_S U)) := z6
  rw [hw]
  have i1 := i2l_n (v := a_wd (us_S U)) (by omega)
  have i2 := i2l_n bL
  have i3 := i2l_n (v := a_sy (us_S U)) (by omega)
  have i4 := i2l_n (v := blk (a_L (us_S U)) (a_L (us_S U)).length) (by have := blk_le (a_L (us_S U)) (a_L (us_S U)).length; omega)
  have i5 := i2l_n (v := wsend (us_S U) (a_L (us_S U)).length) (by have := wsend_le (us_S U) k2 (a_L (us_S U)).length; omega)
  have i6 := i2l_n bS
  have i7 := i2l_n (v := mkn (a_s (us_S U)) 0 (a_s (us_S U)).length) (by have := mkn_le (a_s (us_S U)) (a_s (us_S U)).length 0; omega)
  have i8 := i2l_n (v := cntR (a_R (us_S U))) (by have := fb_ct_le (fun j => ((a_R (us_S U)).getD j none).isSome) 10; unfold cntR; omega)
  have i9 := i2l_n (v := alike (a_R (us_S U)) (a_L (us_S U)) (a_L (us_S U)).length) (by have := alike_le (a_R (us_S U)) (a_L (us_S U)) (a_L (us_S U)).length; omega)
  have i10 := i2l_n bE
  have i11 := i2l_n (v := wget (us_S U)) (by have := fb_ct_le (fun j => ((readA (a_s (us_S U)) (a_wd (us_S U))).1.getD j none).isSome) 10; unfold wget cntR; omega)
  have i12 := i2l_n (v := wright (us_S U)) (by have := alike_le (readA (a_s (us_S U)) (a_wd (us_S U))).1 (a_L (us_S U)) (a_L (us_S U)).length; unfold wright; omega)
  have i13 := i2l_n (v := (us_T U).length) (by omega)
  unfold dig dgL at hQ
  simp only [hl_app] at hQ
  have hX : ∀ x y z, hl (hl x y) z = hl (hl x y) z := fun _ _ _ => rfl
  have hL := md_L (Γ := Γ) (w := w) (m := m) (Q := Q) (at_ := at_) (iw := iw) (rm := rm) (ft := ft) (fn := fn) (fx := fx) (fr := fr) hU hB _ (fun rn cm su pl wy px fs fa fu fc hS => hQ _ (MU.mk' (U := U) hS hT hN hB) mw_fr0)
  have hr := fun rn cm su pl wy px fs fa fu fc hS => hL _ 0 rn cm su pl wy px fs fa fu fc hS rfl
  rw [pre, hl_nil] at hr
  simp only [hl_cons, hl_nil] at hr
  clear hL hQ
  refine entry Γ m10_digest rfl _ (Nat.le_of_ble_eq_true rfl) _ _ _ ?_
  refine wp_ok (kd_cut 161 kd10_digest) 400 0 bb10_digest_0 _ _ _ _ _ _ oo10_digest_0 ?_
  simp only [List.getElem?_cons_zero, List.getElem?_cons_succ, fv4, Nat.reduceAdd, Nat.reduceSub, wp, pst, stp, LG, lput, ls_tl, two, bc, EL, pad, popN, csum, Option.toList, List.cons_append, List.nil_append, List.set_cons_zero, List.set_cons_succ, List.length_cons, List.length_nil, true_and, and_true, Nat.reduceLT, Nat.reduceLeDiff, Nat.zero_le, Nat.le_refl, RI_i, RI_z0, RI_z1, Int32.reduceOfInt, Int8.reduceOfInt, Int16.reduceOfInt, Int64.reduceOfInt, Int8.toInt32_ofNat, Int16.toInt32_ofNat, Int.reduceNeg, Int32.ofInt_neg, Int8.ofInt_neg, Int16.ofInt_neg, Int32.toInt64_ofNat, Int32.reduceToNatClampNeg, Fin.isValue, Fin.val_one, Fin.val_zero, Fin.val_two, Int64.reduceOfNat, Int32.reduceOfNat, hdl, cutc, Nat.reduceEqDiff, reduceIte, FV, tyC, tyX0, tyX1, tyX2, tyX3, tyX4, tyX5, tyX6, tyX7, tyX8, tyX9, tyX10, Nat.reduceMul, c_le, c_lt, c_eq, c_in, c_cl, c_add, c_rem, c_ofN, Int32.add_zero, Int32.zero_add, c_lt0, c_ge0, c_le0, c_gt0, c_e0, c_m1, c_m1', false_implies, true_implies, implies_true, not_false_eq_true, not_true_eq_false, Nat.not_lt_zero, up_s, up_1, up_m, ff10_digest, bb10_digest_0, bb10_digest_161, bb10_digest_184, bb10_digest_186, bb10_digest_219, bb10_digest_221, bb10_digest_244, bb10_digest_245, bb10_digest_277, bb10_digest_278, bb10_digest_285, bb10_digest_287, bb10_digest_341, bb10_digest_361, bb10_digest_362, bb10_digest_380, bb10_digest_394, bb10_digest_423, bb10_digest_451, cl_1, ca_1, cl_2, ca_2, cl_3, ca_3, cl_5, ca_5, cl_6, ca_6, cl_10, ca_10, cl_18, ca_18, cl_28, ca_28, cl_68, ca_68, mw_0, mw_1, mw_2, mw_3, mw_4, mw_5, mw_6, mw_7, mw_8, mu_0, mu_1, mu_2, mu_3, mu_4, mu_5, mu_6, mu_7, mu_8, vi_0, vi_1, vi_2, vi_3, vi_4, vi_5, vi_6, e0, e1, e2, i1, i2, i3, xh, show (4409 : Int64) = lN 4409 from rfl]
  refine sp10_black zL k5 ?_
  unfold holdL
  simp only [List.getElem?_cons_zero, List.getElem?_cons_succ, fv4, Nat.reduceAdd, Nat.reduceSub, wp, pst, stp, LG, lput, ls_tl, two, bc, EL, pad, popN, csum, Option.toList, List.cons_append, List.nil_append, List.set_cons_zero, List.set_cons_succ, List.length_cons, List.length_nil, true_and, and_true, Nat.reduceLT, Nat.reduceLeDiff, Nat.zero_le, Nat.le_refl, RI_i, RI_z0, RI_z1, Int32.reduceOfInt, Int8.reduceOfInt, Int16.reduceOfInt, Int64.reduceOfInt, Int8.toInt32_ofNat, Int16.toInt32_ofNat, Int.reduceNeg, Int32.ofInt_neg, Int8.ofInt_neg, Int16.ofInt_neg, Int32.toInt64_ofNat, Int32.reduceToNatClampNeg, Fin.isValue, Fin.val_one, Fin.val_zero, Fin.val_two, Int64.reduceOfNat, Int32.reduceOfNat, hdl, cutc, Nat.reduceEqDiff, reduceIte, FV, tyC, tyX0, tyX1, tyX2, tyX3, tyX4, tyX5, tyX6, tyX7, tyX8, tyX9, tyX10, Nat.reduceMul, c_le, c_lt, c_eq, c_in, c_cl, c_add, c_rem, c_ofN, Int32.add_zero, Int32.zero_add, c_lt0, c_ge0, c_le0, c_gt0, c_e0, c_m1, c_m1', false_implies, true_implies, implies_true, not_false_eq_true, not_true_eq_false, Nat.not_lt_zero, up_s, up_1, up_m, ff10_digest, bb10_digest_0, bb10_digest_161, bb10_digest_184, bb10_digest_186, bb10_digest_219, bb10_digest_221, bb10_digest_244, bb10_digest_245, bb10_digest_277, bb10_digest_278, bb10_digest_285, bb10_digest_287, bb10_digest_341, bb10_digest_361, bb10_digest_362, bb10_digest_380, bb10_digest_394, bb10_digest_423, bb10_digest_451, cl_1, ca_1, cl_2, ca_2, cl_3, ca_3, cl_5, ca_5, cl_6, ca_6, cl_10, ca_10, cl_18, ca_18, cl_28, ca_28, cl_68, ca_68, mw_0, mw_1, mw_2, mw_3, mw_4, mw_5, mw_6, mw_7, mw_8, mu_0, mu_1, mu_2, mu_3, mu_4, mu_5, mu_6, mu_7, mu_8, vi_0, vi_1, vi_2, vi_3, vi_4, vi_5, vi_6, i4, xh]
  refine sp10_sendsMany hS hU.1 (fun rn' cm' su' fu' fc' => ?_)
  unfold holdL
  simp only [List.getElem?_cons_zero, List.getElem?_cons_succ, fv4, Nat.reduceAdd, Nat.reduceSub, wp, pst, stp, LG, lput, ls_tl, two, bc, EL, pad, popN, csum, Option.toList, List.cons_append, List.nil_append, List.set_cons_zero, List.set_cons_succ, List.length_cons, List.length_nil, true_and, and_true, Nat.reduceLT, Nat.reduceLeDiff, Nat.zero_le, Nat.le_refl, RI_i, RI_z0, RI_z1, Int32.reduceOfInt, Int8.reduceOfInt, Int16.reduceOfInt, Int64.reduceOfInt, Int8.toInt32_ofNat, Int16.toInt32_ofNat, Int.reduceNeg, Int32.ofInt_neg, Int8.ofInt_neg, Int16.ofInt_neg, Int32.toInt64_ofNat, Int32.reduceToNatClampNeg, Fin.isValue, Fin.val_one, Fin.val_zero, Fin.val_two, Int64.reduceOfNat, Int32.reduceOfNat, hdl, cutc, Nat.reduceEqDiff, reduceIte, FV, tyC, tyX0, tyX1, tyX2, tyX3, tyX4, tyX5, tyX6, tyX7, tyX8, tyX9, tyX10, Nat.reduceMul, c_le, c_lt, c_eq, c_in, c_cl, c_add, c_rem, c_ofN, Int32.add_zero, Int32.zero_add, c_lt0, c_ge0, c_le0, c_gt0, c_e0, c_m1, c_m1', false_implies, true_implies, implies_true, not_false_eq_true, not_true_eq_false, Nat.not_lt_zero, up_s, up_1, up_m, ff10_digest, bb10_digest_0, bb10_digest_161, bb10_digest_184, bb10_digest_186, bb10_digest_219, bb10_digest_221, bb10_digest_244, bb10_digest_245, bb10_digest_277, bb10_digest_278, bb10_digest_285, bb10_digest_287, bb10_digest_341, bb10_digest_361, bb10_digest_362, bb10_digest_380, bb10_digest_394, bb10_digest_423, bb10_digest_451, cl_1, ca_1, cl_2, ca_2, cl_3, ca_3, cl_5, ca_5, cl_6, ca_6, cl_10, ca_10, cl_18, ca_18, cl_28, ca_28, cl_68, ca_68, mw_0, mw_1, mw_2, mw_3, mw_4, mw_5, mw_6, mw_7, mw_8, mu_0, mu_1, mu_2, mu_3, mu_4, mu_5, mu_6, mu_7, mu_8, vi_0, vi_1, vi_2, vi_3, vi_4, vi_5, vi_6, e3, i5, i6, xh]
  refine sp10_markerMany zS k7 k6 ?_
  unfold holdL
  simp only [List.getElem?_cons_zero, List.getElem?_cons_succ, fv4, Nat.reduceAdd, Nat.reduceSub, wp, pst, stp, LG, lput, ls_tl, two, bc, EL, pad, popN, csum, Option.toList, List.cons_append, List.nil_append, List.set_cons_zero, List.set_cons_succ, List.length_cons, List.length_nil, true_and, and_true, Nat.reduceLT, Nat.reduceLeDiff, Nat.zero_le, Nat.le_refl, RI_i, RI_z0, RI_z1, Int32.reduceOfInt, Int8.reduceOfInt, Int16.reduceOfInt, Int64.reduceOfInt, Int8.toInt32_ofNat, Int16.toInt32_ofNat, Int.reduceNeg, Int32.ofInt_neg, Int8.ofInt_neg, Int16.ofInt_neg, Int32.toInt64_ofNat, Int32.reduceToNatClampNeg, Fin.isValue, Fin.val_one, Fin.val_zero, Fin.val_two, Int64.reduceOfNat, Int32.reduceOfNat, hdl, cutc, Nat.reduceEqDiff, reduceIte, FV, tyC, tyX0, tyX1, tyX2, tyX3, tyX4, tyX5, tyX6, tyX7, tyX8, tyX9, tyX10, Nat.reduceMul, c_le, c_lt, c_eq, c_in, c_cl, c_add, c_rem, c_ofN, Int32.add_zero, Int32.zero_add, c_lt0, c_ge0, c_le0, c_gt0, c_e0, c_m1, c_m1', false_implies, true_implies, implies_true, not_false_eq_true, not_true_eq_false, Nat.not_lt_zero, up_s, up_1, up_m, ff10_digest, bb10_digest_0, bb10_digest_161, bb10_digest_184, bb10_digest_186, bb10_digest_219, bb10_digest_221, bb10_digest_244, bb10_digest_245, bb10_digest_277, bb10_digest_278, bb10_digest_285, bb10_digest_287, bb10_digest_341, bb10_digest_361, bb10_digest_362, bb10_digest_380, bb10_digest_394, bb10_digest_423, bb10_digest_451, cl_1, ca_1, cl_2, ca_2, cl_3, ca_3, cl_5, ca_5, cl_6, ca_6, cl_10, ca_10, cl_18, ca_18, cl_28, ca_28, cl_68, ca_68, mw_0, mw_1, mw_2, mw_3, mw_4, mw_5, mw_6, mw_7, mw_8, mu_0, mu_1, mu_2, mu_3, mu_4, mu_5, mu_6, mu_7, mu_8, vi_0, vi_1, vi_2, vi_3, vi_4, vi_5, vi_6, i7, xh]
  refine sp10_gotMany zG ?_
  unfold holdL
  simp only [List.getElem?_cons_zero, List.getElem?_cons_succ, fv4, Nat.reduceAdd, Nat.reduceSub, wp, pst, stp, LG, lput, ls_tl, two, bc, EL, pad, popN, csum, Option.toList, List.cons_append, List.nil_append, List.set_cons_zero, List.set_cons_succ, List.length_cons, List.length_nil, true_and, and_true, Nat.reduceLT, Nat.reduceLeDiff, Nat.zero_le, Nat.le_refl, RI_i, RI_z0, RI_z1, Int32.reduceOfInt, Int8.reduceOfInt, Int16.reduceOfInt, Int64.reduceOfInt, Int8.toInt32_ofNat, Int16.toInt32_ofNat, Int.reduceNeg, Int32.ofInt_neg, Int8.ofInt_neg, Int16.ofInt_neg, Int32.toInt64_ofNat, Int32.reduceToNatClampNeg, Fin.isValue, Fin.val_one, Fin.val_zero, Fin.val_two, Int64.reduceOfNat, Int32.reduceOfNat, hdl, cutc, Nat.reduceEqDiff, reduceIte, FV, tyC, tyX0, tyX1, tyX2, tyX3, tyX4, tyX5, tyX6, tyX7, tyX8, tyX9, tyX10, Nat.reduceMul, c_le, c_lt, c_eq, c_in, c_cl, c_add, c_rem, c_ofN, Int32.add_zero, Int32.zero_add, c_lt0, c_ge0, c_le0, c_gt0, c_e0, c_m1, c_m1', false_implies, true_implies, implies_true, not_false_eq_true, not_true_eq_false, Nat.not_lt_zero, up_s, up_1, up_m, ff10_digest, bb10_digest_0, bb10_digest_161, bb10_digest_184, bb10_digest_186, bb10_digest_219, bb10_digest_221, bb10_digest_244, bb10_digest_245, bb10_digest_277, bb10_digest_278, bb10_digest_285, bb10_digest_287, bb10_digest_341, bb10_digest_361, bb10_digest_362, bb10_digest_380, bb10_digest_394, bb10_digest_423, bb10_digest_451, cl_1, ca_1, cl_2, ca_2, cl_3, ca_3, cl_5, ca_5, cl_6, ca_6, cl_10, ca_10, cl_18, ca_18, cl_28, ca_28, cl_68, ca_68, mw_0, mw_1, mw_2, mw_3, mw_4, mw_5, mw_6, mw_7, mw_8, mu_0, mu_1, mu_2, mu_3, mu_4, mu_5, mu_6, mu_7, mu_8, vi_0, vi_1, vi_2, vi_3, vi_4, vi_5, vi_6, i8, xh]
  refine sp10_rightMany zG zL k5 k9 hU.1.lok ?_
  unfold holdL
  simp only [List.getElem?_cons_zero, List.getElem?_cons_succ, fv4, Nat.reduceAdd, Nat.reduceSub, wp, pst, stp, LG, lput, ls_tl, two, bc, EL, pad, popN, csum, Option.toList, List.cons_append, List.nil_append, List.set_cons_zero, List.set_cons_succ, List.length_cons, List.length_nil, true_and, and_true, Nat.reduceLT, Nat.reduceLeDiff, Nat.zero_le, Nat.le_refl, RI_i, RI_z0, RI_z1, Int32.reduceOfInt, Int8.reduceOfInt, Int16.reduceOfInt, Int64.reduceOfInt, Int8.toInt32_ofNat, Int16.toInt32_ofNat, Int.reduceNeg, Int32.ofInt_neg, Int8.ofInt_neg, Int16.ofInt_neg, Int32.toInt64_ofNat, Int32.reduceToNatClampNeg, Fin.isValue, Fin.val_one, Fin.val_zero, Fin.val_two, Int64.reduceOfNat, Int32.reduceOfNat, hdl, cutc, Nat.reduceEqDiff, reduceIte, FV, tyC, tyX0, tyX1, tyX2, tyX3, tyX4, tyX5, tyX6, tyX7, tyX8, tyX9, tyX10, Nat.reduceMul, c_le, c_lt, c_eq, c_in, c_cl, c_add, c_rem, c_ofN, Int32.add_zero, Int32.zero_add, c_lt0, c_ge0, c_le0, c_gt0, c_e0, c_m1, c_m1', false_implies, true_implies, implies_true, not_false_eq_true, not_true_eq_false, Nat.not_lt_zero, up_s, up_1, up_m, ff10_digest, bb10_digest_0, bb10_digest_161, bb10_digest_184, bb10_digest_186, bb10_digest_219, bb10_digest_221, bb10_digest_244, bb10_digest_245, bb10_digest_277, bb10_digest_278, bb10_digest_285, bb10_digest_287, bb10_digest_341, bb10_digest_361, bb10_digest_362, bb10_digest_380, bb10_digest_394, bb10_digest_423, bb10_digest_451, cl_1, ca_1, cl_2, ca_2, cl_3, ca_3, cl_5, ca_5, cl_6, ca_6, cl_10, ca_10, cl_18, ca_18, cl_28, ca_28, cl_68, ca_68, mw_0, mw_1, mw_2, mw_3, mw_4, mw_5, mw_6, mw_7, mw_8, mu_0, mu_1, mu_2, mu_3, mu_4, mu_5, mu_6, mu_7, mu_8, vi_0, vi_1, vi_2, vi_3, vi_4, vi_5, vi_6, e5, i9, i10, xh]
  refine sp10_wouldGet hS hU.1 (fun f1 fa1 su1 pl1 wy1 px1 hf1 => ?_)
  have hS1 : StF f1 0 (us_S U) := hS.cp hU.1 (fun k hk => by rw [Nat.zero_add]; exact hf1 k hk)
  unfold holdL
  simp only [List.getElem?_cons_zero, List.getElem?_cons_succ, fv4, Nat.reduceAdd, Nat.reduceSub, wp, pst, stp, LG, lput, ls_tl, two, bc, EL, pad, popN, csum, Option.toList, List.cons_append, List.nil_append, List.set_cons_zero, List.set_cons_succ, List.length_cons, List.length_nil, true_and, and_true, Nat.reduceLT, Nat.reduceLeDiff, Nat.zero_le, Nat.le_refl, RI_i, RI_z0, RI_z1, Int32.reduceOfInt, Int8.reduceOfInt, Int16.reduceOfInt, Int64.reduceOfInt, Int8.toInt32_ofNat, Int16.toInt32_ofNat, Int.reduceNeg, Int32.ofInt_neg, Int8.ofInt_neg, Int16.ofInt_neg, Int32.toInt64_ofNat, Int32.reduceToNatClampNeg, Fin.isValue, Fin.val_one, Fin.val_zero, Fin.val_two, Int64.reduceOfNat, Int32.reduceOfNat, hdl, cutc, Nat.reduceEqDiff, reduceIte, FV, tyC, tyX0, tyX1, tyX2, tyX3, tyX4, tyX5, tyX6, tyX7, tyX8, tyX9, tyX10, Nat.reduceMul, c_le, c_lt, c_eq, c_in, c_cl, c_add, c_rem, c_ofN, Int32.add_zero, Int32.zero_add, c_lt0, c_ge0, c_le0, c_gt0, c_e0, c_m1, c_m1', false_implies, true_implies, implies_true, not_false_eq_true, not_true_eq_false, Nat.not_lt_zero, up_s, up_1, up_m, ff10_digest, bb10_digest_0, bb10_digest_161, bb10_digest_184, bb10_digest_186, bb10_digest_219, bb10_digest_221, bb10_digest_244, bb10_digest_245, bb10_digest_277, bb10_digest_278, bb10_digest_285, bb10_digest_287, bb10_digest_341, bb10_digest_361, bb10_digest_362, bb10_digest_380, bb10_digest_394, bb10_digest_423, bb10_digest_451, cl_1, ca_1, cl_2, ca_2, cl_3, ca_3, cl_5, ca_5, cl_6, ca_6, cl_10, ca_10, cl_18, ca_18, cl_28, ca_28, cl_68, ca_68, mw_0, mw_1, mw_2, mw_3, mw_4, mw_5, mw_6, mw_7, mw_8, mu_0, mu_1, mu_2, mu_3, mu_4, mu_5, mu_6, mu_7, mu_8, vi_0, vi_1, vi_2, vi_3, vi_4, vi_5, vi_6, i11, xh]
  refine sp10_wouldRight hS1 hU.1 (fun f2 fa2 su2 pl2 wy2 px2 hf2 => ?_)
  have hS2 : StF f2 0 (us_S U) := hS1.cp hU.1 (fun k hk => by rw [Nat.zero_add]; exact hf2 k hk)
  unfold holdL
  simp only [List.getElem?_cons_zero, List.getElem?_cons_succ, fv4, Nat.reduceAdd, Nat.reduceSub, wp, pst, stp, LG, lput, ls_tl, two, bc, EL, pad, popN, csum, Option.toList, List.cons_append, List.nil_append, List.set_cons_zero, List.set_cons_succ, List.length_cons, List.length_nil, true_and, and_true, Nat.reduceLT, Nat.reduceLeDiff, Nat.zero_le, Nat.le_refl, RI_i, RI_z0, RI_z1, Int32.reduceOfInt, Int8.reduceOfInt, Int16.reduceOfInt, Int64.reduceOfInt, Int8.toInt32_ofNat, Int16.toInt32_ofNat, Int.reduceNeg, Int32.ofInt_neg, Int8.ofInt_neg, Int16.ofInt_neg, Int32.toInt64_ofNat, Int32.reduceToNatClampNeg, Fin.isValue, Fin.val_one, Fin.val_zero, Fin.val_two, Int64.reduceOfNat, Int32.reduceOfNat, hdl, cutc, Nat.reduceEqDiff, reduceIte, FV, tyC, tyX0, tyX1, tyX2, tyX3, tyX4, tyX5, tyX6, tyX7, tyX8, tyX9, tyX10, Nat.reduceMul, c_le, c_lt, c_eq, c_in, c_cl, c_add, c_rem, c_ofN, Int32.add_zero, Int32.zero_add, c_lt0, c_ge0, c_le0, c_gt0, c_e0, c_m1, c_m1', false_implies, true_implies, implies_true, not_false_eq_true, not_true_eq_false, Nat.not_lt_zero, up_s, up_1, up_m, ff10_digest, bb10_digest_0, bb10_digest_161, bb10_digest_184, bb10_digest_186, bb10_digest_219, bb10_digest_221, bb10_digest_244, bb10_digest_245, bb10_digest_277, bb10_digest_278, bb10_digest_285, bb10_digest_287, bb10_digest_341, bb10_digest_361, bb10_digest_362, bb10_digest_380, bb10_digest_394, bb10_digest_423, bb10_digest_451, cl_1, ca_1, cl_2, ca_2, cl_3, ca_3, cl_5, ca_5, cl_6, ca_6, cl_10, ca_10, cl_18, ca_18, cl_28, ca_28, cl_68, ca_68, mw_0, mw_1, mw_2, mw_3, mw_4, mw_5, mw_6, mw_7, mw_8, mu_0, mu_1, mu_2, mu_3, mu_4, mu_5, mu_6, mu_7, mu_8, vi_0, vi_1, vi_2, vi_3, vi_4, vi_5, vi_6, i12, i13, xh]
  exact hr _ _ _ _ _ _ _ _ _ _ hS2
end MDIG

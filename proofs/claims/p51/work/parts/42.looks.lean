/-! LOOKS -/
def v_pixelsOf (l : Int32) (U : US) : Nat × Nat := match ix l (a_L (us_S U)).length with
  | some j => (0, (a_L (us_S U)).getD j 0)
  | none => (1, 0)
def v_isBlack (l p : Int32) (U : US) : Nat × Nat := match ix l (a_L (us_S U)).length with
  | some j => match ix p (a_wd (us_S U)) with
    | some i => (0, bN ((a_L (us_S U)).getD j 0) i)
    | none => (1, 0)
  | none => (1, 0)
def v_runsOf (l : Int32) (U : US) : Nat × Nat := match ix l (a_L (us_S U)).length with
  | some j => (0, (runs (a_wd (us_S U)) ((a_L (us_S U)).getD j 0)).length)
  | none => (1, 0)
def v_longestRun (l : Int32) (U : US) : Nat × Nat := match ix l (a_L (us_S U)).length with
  | some j => (0, mxL (runs (a_wd (us_S U)) ((a_L (us_S U)).getD j 0)))
  | none => (1, 0)
def blk (L : List Nat) : Nat → Nat
  | 0 => 0
  | n + 1 => blk L n + fb_ct (L.getD n 0).testBit 32
def v_clen (l m : Int32) (U : US) : Nat × Nat := match ix l (a_L (us_S U)).length with
  | some j => match ix m 3 with
    | some k => (0, clen (a_wd (us_S U)) (a_L (us_S U)) j k)
    | none => (2, 0)
  | none => (1, 0)
def v_chk (l m : Int32) (U : US) : Nat × Nat := match ix l (a_L (us_S U)).length with
  | some j => match ix m 3 with
    | some k => (0, chk (a_wd (us_S U)) (a_L (us_S U)) j k)
    | none => (2, 0)
  | none => (1, 0)
def v_modeOf (l : Int32) (U : US) : Nat × Nat := match ix l (a_L (us_S U)).length with
  | some j => (0, modeS (us_S U) j)
  | none => (1, 0)
def wsend (S : AS) : Nat → Nat
  | 0 => 0
  | n + 1 => wsend S n + clen (a_wd S) (a_L S) n (modeS S n)
def v_numberAt (l : Int32) (U : US) : Nat × Nat := match ix l (a_s (us_S U)).length with
  | some j => (0, (a_s (us_S U)).getD j 0)
  | none => (1, 0)
def gotN (R : List (Option Nat)) (j : Nat) : Nat := match R.getD j none with
  | some _ => 1
  | none => 0
def v_isReceived (l : Int32) (U : US) : Nat × Nat := match ix l 10 with
  | some j => (0, gotN (a_R (us_S U)) j)
  | none => (1, 0)
def v_receivedPixels (l : Int32) (U : US) : Nat × Nat := match ix l 10 with
  | some j => match (a_R (us_S U)).getD j none with
    | some p => (0, p)
    | none => (2, 0)
  | none => (1, 0)
def v_errorPlace (l : Int32) (U : US) : Nat × Nat := match ix l (a_E (us_S U)).length with
  | some j => (0, ((a_E (us_S U)).getD j (0, 0)).1)
  | none => (1, 0)
def v_errorReason (l : Int32) (U : US) : Nat × Nat := match ix l (a_E (us_S U)).length with
  | some j => (0, ((a_E (us_S U)).getD j (0, 0)).2)
  | none => (1, 0)
def wget (S : AS) : Nat := cntR (readA (a_s S) (a_wd S)).1
def wright (S : AS) : Nat := alike (readA (a_s S) (a_wd S)).1 (a_L S) (a_L S).length
def v_rightIf (l v : Int32) (U : US) : Nat × Nat := match ix l (a_s (us_S U)).length with
  | some j => match ix v 16 with
    | some n => (0, wright (s_s (us_S U) ((a_s (us_S U)).set j n)))
    | none => (2, 0)
  | none => (1, 0)
theorem clen_small {U : US} (hU : UOK U) (n m : Nat) : clen (a_wd (us_S U)) (a_L (us_S U)) n m < 2147483648 := Nat.lt_of_le_of_lt (clen_le _ _ _ _ hU.1.2.1) (by decide)
section LOOKS
variable {Γ : Amb} {w : PW} {Q : Option Value → Option Nat → PW → Prop} {QX : String → PW → Prop} {x : Nat} {U : US}
theorem sp9_pixelsOf (h : XU w x U) (hU : UOK U) (l : Int32) (h1 : (v_pixelsOf l U).1 = 0 → Q (some (.long (lN (v_pixelsOf l U).2))) none w) (h0 : (v_pixelsOf l U).1 ≠ 0 → QX (xc [eIO] (v_pixelsOf l U).1) w) : SpX Γ m9_pixelsOf [.ref x, .int l] none w Q QX := by
  unfold XU at h
  have hl := hU.1.2.2.2.2.1
  unfold v_pixelsOf at h1 h0
  obtain ⟨e0, ⟨v', e1, -⟩, e2, e3, e4⟩ := h.cells
  refine entryX Γ m9_pixelsOf rfl _ (Nat.le_of_ble_eq_true rfl) _ _ _ _ ?_
  refine wp_ok kd9_pixelsOf 400 0 bb9_pixelsOf_0 _ _ _ _ _ _ oo9_pixelsOf_0 ?_
  simp only [List.getElem?_cons_zero, List.getElem?_cons_succ, fv4, Nat.reduceAdd, Nat.reduceSub, wp, pst, stp, LG, lput, ls_tl, two, bc, EL, pad, popN, csum, Option.toList, List.cons_append, List.nil_append, List.set_cons_zero, List.set_cons_succ, List.length_cons, List.length_nil, true_and, and_true, Nat.reduceLT, Nat.reduceLeDiff, Nat.zero_le, Nat.le_refl, RI_i, RI_z0, RI_z1, Int32.reduceOfInt, Int8.reduceOfInt, Int16.reduceOfInt, Int64.reduceOfInt, Int8.toInt32_ofNat, Int16.toInt32_ofNat, Int.reduceNeg, Int32.ofInt_neg, Int8.ofInt_neg, Int16.ofInt_neg, Int32.toInt64_ofNat, Int32.reduceToNatClampNeg, Fin.isValue, Fin.val_one, Fin.val_zero, Fin.val_two, Int64.reduceOfNat, Int32.reduceOfNat, hdl, cutc, Nat.reduceEqDiff, reduceIte, FV, tyC, tyX0, tyX1, tyX2, tyX3, tyX4, tyX5, tyX6, tyX7, tyX8, tyX9, tyX10, Nat.reduceMul, c_le, c_lt, c_eq, c_in, c_cl, c_add, c_rem, c_ofN, Int32.add_zero, Int32.zero_add, c_lt0, c_ge0, c_le0, c_gt0, c_e0, c_m1, c_m1', false_implies, true_implies, implies_true, not_false_eq_true, not_true_eq_false, Nat.not_lt_zero, up_s, up_1, up_m, ff9_pixelsOf, bb9_pixelsOf_0, e0]
  rcases ix_cases l (a_L (us_S U)).length (by omega) with ⟨j, hj, rfl, ej⟩ | ⟨hnl, ej⟩
  · rw [ej] at h1
    refine sp9_needLine h _ (fun j' hj' hv' => ?_) (fun hn => absurd rfl (hn j hj))
    unfold holdL
    simp only [List.getElem?_cons_zero, List.getElem?_cons_succ, fv4, Nat.reduceAdd, Nat.reduceSub, wp, pst, stp, LG, lput, ls_tl, two, bc, EL, pad, popN, csum, Option.toList, List.cons_append, List.nil_append, List.set_cons_zero, List.set_cons_succ, List.length_cons, List.length_nil, true_and, and_true, Nat.reduceLT, Nat.reduceLeDiff, Nat.zero_le, Nat.le_refl, RI_i, RI_z0, RI_z1, Int32.reduceOfInt, Int8.reduceOfInt, Int16.reduceOfInt, Int64.reduceOfInt, Int8.toInt32_ofNat, Int16.toInt32_ofNat, Int.reduceNeg, Int32.ofInt_neg, Int8.ofInt_neg, Int16.ofInt_neg, Int32.toInt64_ofNat, Int32.reduceToNatClampNeg, Fin.isValue, Fin.val_one, Fin.val_zero, Fin.val_two, Int64.reduceOfNat, Int32.reduceOfNat, hdl, cutc, Nat.reduceEqDiff, reduceIte, FV, tyC, tyX0, tyX1, tyX2, tyX3, tyX4, tyX5, tyX6, tyX7, tyX8, tyX9, tyX10, Nat.reduceMul, c_le, c_lt, c_eq, c_in, c_cl, c_add, c_rem, c_ofN, Int32.add_zero, Int32.zero_add, c_lt0, c_ge0, c_le0, c_gt0, c_e0, c_m1, c_m1', false_implies, true_implies, implies_true, not_false_eq_true, not_true_eq_false, Nat.not_lt_zero, up_s, up_1, up_m, ff9_pixelsOf, bb9_pixelsOf_0, e0, e1, e2]
    refine sp2_rowOf h.2.1.1 j hj ?_
    unfold holdL
    simp only [List.getElem?_cons_zero, List.getElem?_cons_succ, fv4, Nat.reduceAdd, Nat.reduceSub, wp, pst, stp, LG, lput, ls_tl, two, bc, EL, pad, popN, csum, Option.toList, List.cons_append, List.nil_append, List.set_cons_zero, List.set_cons_succ, List.length_cons, List.length_nil, true_and, and_true, Nat.reduceLT, Nat.reduceLeDiff, Nat.zero_le, Nat.le_refl, RI_i, RI_z0, RI_z1, Int32.reduceOfInt, Int8.reduceOfInt, Int16.reduceOfInt, Int64.reduceOfInt, Int8.toInt32_ofNat, Int16.toInt32_ofNat, Int.reduceNeg, Int32.ofInt_neg, Int8.ofInt_neg, Int16.ofInt_neg, Int32.toInt64_ofNat, Int32.reduceToNatClampNeg, Fin.isValue, Fin.val_one, Fin.val_zero, Fin.val_two, Int64.reduceOfNat, Int32.reduceOfNat, hdl, cutc, Nat.reduceEqDiff, reduceIte, FV, tyC, tyX0, tyX1, tyX2, tyX3, tyX4, tyX5, tyX6, tyX7, tyX8, tyX9, tyX10, Nat.reduceMul, c_le, c_lt, c_eq, c_in, c_cl, c_add, c_rem, c_ofN, Int32.add_zero, Int32.zero_add, c_lt0, c_ge0, c_le0, c_gt0, c_e0, c_m1, c_m1', false_implies, true_implies, implies_true, not_false_eq_true, not_true_eq_false, Nat.not_lt_zero, up_s, up_1, up_m, ff9_pixelsOf, bb9_pixelsOf_0]
    exact h1 rfl
  · rw [ej] at h0
    refine sp9_needLine h _ (fun j' hj' hv' => absurd hv' (hnl j' hj')) (fun hn => ?_)
    exact h0 (Nat.succ_ne_zero _)
theorem sp9_isBlack (h : XU w x U) (hU : UOK U) (l p : Int32) (h1 : (v_isBlack l p U).1 = 0 → Q (some (.int (nI (v_isBlack l p U).2))) none w) (h0 : (v_isBlack l p U).1 ≠ 0 → QX (xc [eIO] (v_isBlack l p U).1) w) : SpX Γ m9_isBlack [.ref x, .int l, .int p] none w Q QX := by
  unfold XU at h
  have hl := hU.1.2.2.2.2.1
  have hw := hU.1.2.1
  have hlok := hU.1.lok
  unfold v_isBlack at h1 h0
  obtain ⟨e0, ⟨v', e1, -⟩, e2, e3, e4⟩ := h.cells
  have b2 : a_wd (us_S U) < 2147483648 := by omega
  refine entryX Γ m9_isBlack rfl _ (Nat.le_of_ble_eq_true rfl) _ _ _ _ ?_
  refine wp_ok kd9_isBlack 400 0 bb9_isBlack_0 _ _ _ _ _ _ oo9_isBlack_0 ?_
  simp only [List.getElem?_cons_zero, List.getElem?_cons_succ, fv4, Nat.reduceAdd, Nat.reduceSub, wp, pst, stp, LG, lput, ls_tl, two, bc, EL, pad, popN, csum, Option.toList, List.cons_append, List.nil_append, List.set_cons_zero, List.set_cons_succ, List.length_cons, List.length_nil, true_and, and_true, Nat.reduceLT, Nat.reduceLeDiff, Nat.zero_le, Nat.le_refl, RI_i, RI_z0, RI_z1, Int32.reduceOfInt, Int8.reduceOfInt, Int16.reduceOfInt, Int64.reduceOfInt, Int8.toInt32_ofNat, Int16.toInt32_ofNat, Int.reduceNeg, Int32.ofInt_neg, Int8.ofInt_neg, Int16.ofInt_neg, Int32.toInt64_ofNat, Int32.reduceToNatClampNeg, Fin.isValue, Fin.val_one, Fin.val_zero, Fin.val_two, Int64.reduceOfNat, Int32.reduceOfNat, hdl, cutc, Nat.reduceEqDiff, reduceIte, FV, tyC, tyX0, tyX1, tyX2, tyX3, tyX4, tyX5, tyX6, tyX7, tyX8, tyX9, tyX10, Nat.reduceMul, c_le, c_lt, c_eq, c_in, c_cl, c_add, c_rem, c_ofN, Int32.add_zero, Int32.zero_add, c_lt0, c_ge0, c_le0, c_gt0, c_e0, c_m1, c_m1', false_implies, true_implies, implies_true, not_false_eq_true, not_true_eq_false, Nat.not_lt_zero, up_s, up_1, up_m, ff9_isBlack, bb9_isBlack_0, bb9_isBlack_32, bb9_isBlack_42, e0, e1, e2]
  rcases ix_cases l (a_L (us_S U)).length (by omega) with ⟨j, hj, rfl, ej⟩ | ⟨hnl, ej⟩
  · rw [ej] at h1 h0
    dsimp only at h1 h0
    refine sp2_has h.2.1.1 _ (fun j' hj' hv' => ?_) (fun hn => absurd rfl (hn j hj))
    rcases ix_cases p (a_wd (us_S U)) (by omega) with ⟨i, hi, rfl, ei⟩ | ⟨hni, ei⟩
    · have b1 : i < 2147483648 := by omega
      rw [ei] at h1
      dsimp only at h1
      unfold holdL
      simp only [List.getElem?_cons_zero, List.getElem?_cons_succ, fv4, Nat.reduceAdd, Nat.reduceSub, wp, pst, stp, LG, lput, ls_tl, two, bc, EL, pad, popN, csum, Option.toList, List.cons_append, List.nil_append, List.set_cons_zero, List.set_cons_succ, List.length_cons, List.length_nil, true_and, and_true, Nat.reduceLT, Nat.reduceLeDiff, Nat.zero_le, Nat.le_refl, RI_i, RI_z0, RI_z1, Int32.reduceOfInt, Int8.reduceOfInt, Int16.reduceOfInt, Int64.reduceOfInt, Int8.toInt32_ofNat, Int16.toInt32_ofNat, Int.reduceNeg, Int32.ofInt_neg, Int8.ofInt_neg, Int16.ofInt_neg, Int32.toInt64_ofNat, Int32.reduceToNatClampNeg, Fin.isValue, Fin.val_one, Fin.val_zero, Fin.val_two, Int64.reduceOfNat, Int32.reduceOfNat, hdl, cutc, Nat.reduceEqDiff, reduceIte, FV, tyC, tyX0, tyX1, tyX2, tyX3, tyX4, tyX5, tyX6, tyX7, tyX8, tyX9, tyX10, Nat.reduceMul, c_le, c_lt, c_eq, c_in, c_cl, c_add, c_rem, c_ofN, Int32.add_zero, Int32.zero_add, c_lt0, c_ge0, c_le0, c_gt0, c_e0, c_m1, c_m1', false_implies, true_implies, implies_true, not_false_eq_true, not_true_eq_false, Nat.not_lt_zero, up_s, up_1, up_m, ff9_isBlack, bb9_isBlack_0, bb9_isBlack_32, bb9_isBlack_42, n10, e0, e1, e2, b1, b2, hi]
      refine sp2_rowOf h.2.1.1 j hj ?_
      unfold holdL
      simp only [List.getElem?_cons_zero, List.getElem?_cons_succ, fv4, Nat.reduceAdd, Nat.reduceSub, wp, pst, stp, LG, lput, ls_tl, two, bc, EL, pad, popN, csum, Option.toList, List.cons_append, List.nil_append, List.set_cons_zero, List.set_cons_succ, List.length_cons, List.length_nil, true_and, and_true, Nat.reduceLT, Nat.reduceLeDiff, Nat.zero_le, Nat.le_refl, RI_i, RI_z0, RI_z1, Int32.reduceOfInt, Int8.reduceOfInt, Int16.reduceOfInt, Int64.reduceOfInt, Int8.toInt32_ofNat, Int16.toInt32_ofNat, Int.reduceNeg, Int32.ofInt_neg, Int8.ofInt_neg, Int16.ofInt_neg, Int32.toInt64_ofNat, Int32.reduceToNatClampNeg, Fin.isValue, Fin.val_one, Fin.val_zero, Fin.val_two, Int64.reduceOfNat, Int32.reduceOfNat, hdl, cutc, Nat.reduceEqDiff, reduceIte, FV, tyC, tyX0, tyX1, tyX2, tyX3, tyX4, tyX5, tyX6, tyX7, tyX8, tyX9, tyX10, Nat.reduceMul, c_le, c_lt, c_eq, c_in, c_cl, c_add, c_rem, c_ofN, Int32.add_zero, Int32.zero_add, c_lt0, c_ge0, c_le0, c_gt0, c_e0, c_m1, c_m1', false_implies, true_implies, implies_true, not_false_eq_true, not_true_eq_false, Nat.not_lt_zero, up_s, up_1, up_m, ff9_isBlack, bb9_isBlack_0, bb9_isBlack_32, bb9_isBlack_42]
      have hlj := hlok j
      unfold bN at h1
      refine sp9_blackAt _ i (by omega) (by omega) (fun hb => ?_) (fun hb => ?_)
      · unfold holdL
        simp only [List.getElem?_cons_zero, List.getElem?_cons_succ, fv4, Nat.reduceAdd, Nat.reduceSub, wp, pst, stp, LG, lput, ls_tl, two, bc, EL, pad, popN, csum, Option.toList, List.cons_append, List.nil_append, List.set_cons_zero, List.set_cons_succ, List.length_cons, List.length_nil, true_and, and_true, Nat.reduceLT, Nat.reduceLeDiff, Nat.zero_le, Nat.le_refl, RI_i, RI_z0, RI_z1, Int32.reduceOfInt, Int8.reduceOfInt, Int16.reduceOfInt, Int64.reduceOfInt, Int8.toInt32_ofNat, Int16.toInt32_ofNat, Int.reduceNeg, Int32.ofInt_neg, Int8.ofInt_neg, Int16.ofInt_neg, Int32.toInt64_ofNat, Int32.reduceToNatClampNeg, Fin.isValue, Fin.val_one, Fin.val_zero, Fin.val_two, Int64.reduceOfNat, Int32.reduceOfNat, hdl, cutc, Nat.reduceEqDiff, reduceIte, FV, tyC, tyX0, tyX1, tyX2, tyX3, tyX4, tyX5, tyX6, tyX7, tyX8, tyX9, tyX10, Nat.reduceMul, c_le, c_lt, c_eq, c_in, c_cl, c_add, c_rem, c_ofN, Int32.add_zero, Int32.zero_add, c_lt0, c_ge0, c_le0, c_gt0, c_e0, c_m1, c_m1', false_implies, true_implies, implies_true, not_false_eq_true, not_true_eq_false, Nat.not_lt_zero, up_s, up_1, up_m, ff9_isBlack, bb9_isBlack_0, bb9_isBlack_32, bb9_isBlack_42]
        rw [hb] at h1
        exact h1 rfl
      · unfold holdL
        simp only [List.getElem?_cons_zero, List.getElem?_cons_succ, fv4, Nat.reduceAdd, Nat.reduceSub, wp, pst, stp, LG, lput, ls_tl, two, bc, EL, pad, popN, csum, Option.toList, List.cons_append, List.nil_append, List.set_cons_zero, List.set_cons_succ, List.length_cons, List.length_nil, true_and, and_true, Nat.reduceLT, Nat.reduceLeDiff, Nat.zero_le, Nat.le_refl, RI_i, RI_z0, RI_z1, Int32.reduceOfInt, Int8.reduceOfInt, Int16.reduceOfInt, Int64.reduceOfInt, Int8.toInt32_ofNat, Int16.toInt32_ofNat, Int.reduceNeg, Int32.ofInt_neg, Int8.ofInt_neg, Int16.ofInt_neg, Int32.toInt64_ofNat, Int32.reduceToNatClampNeg, Fin.isValue, Fin.val_one, Fin.val_zero, Fin.val_two, Int64.reduceOfNat, Int32.reduceOfNat, hdl, cutc, Nat.reduceEqDiff, reduceIte, FV, tyC, tyX0, tyX1, tyX2, tyX3, tyX4, tyX5, tyX6, tyX7, tyX8, tyX9, tyX10, Nat.reduceMul, c_le, c_lt, c_eq, c_in, c_cl, c_add, c_rem, c_ofN, Int32.add_zero, Int32.zero_add, c_lt0, c_ge0, c_le0, c_gt0, c_e0, c_m1, c_m1', false_implies, true_implies, implies_true, not_false_eq_true, not_true_eq_false, Nat.not_lt_zero, up_s, up_1, up_m, ff9_isBlack, bb9_isBlack_0, bb9_isBlack_32, bb9_isBlack_42]
        rw [hb] at h1
        exact h1 rfl
    · rw [ei] at h0
      rcases i_cases p with hv | ⟨i, hi, rfl⟩
      · unfold holdL
        simp only [List.getElem?_cons_zero, List.getElem?_cons_succ, fv4, Nat.reduceAdd, Nat.reduceSub, wp, pst, stp, LG, lput, ls_tl, two, bc, EL, pad, popN, csum, Option.toList, List.cons_append, List.nil_append, List.set_cons_zero, List.set_cons_succ, List.length_cons, List.length_nil, true_and, and_true, Nat.reduceLT, Nat.reduceLeDiff, Nat.zero_le, Nat.le_refl, RI_i, RI_z0, RI_z1, Int32.reduceOfInt, Int8.reduceOfInt, Int16.reduceOfInt, Int64.reduceOfInt, Int8.toInt32_ofNat, Int16.toInt32_ofNat, Int.reduceNeg, Int32.ofInt_neg, Int8.ofInt_neg, Int16.ofInt_neg, Int32.toInt64_ofNat, Int32.reduceToNatClampNeg, Fin.isValue, Fin.val_one, Fin.val_zero, Fin.val_two, Int64.reduceOfNat, Int32.reduceOfNat, hdl, cutc, Nat.reduceEqDiff, reduceIte, FV, tyC, tyX0, tyX1, tyX2, tyX3, tyX4, tyX5, tyX6, tyX7, tyX8, tyX9, tyX10, Nat.reduceMul, c_le, c_lt, c_eq, c_in, c_cl, c_add, c_rem, c_ofN, Int32.add_zero, Int32.zero_add, c_lt0, c_ge0, c_le0, c_gt0, c_e0, c_m1, c_m1', false_implies, true_implies, implies_true, not_false_eq_true, not_true_eq_false, Nat.not_lt_zero, up_s, up_1, up_m, ff9_isBlack, bb9_isBlack_0, bb9_isBlack_32, bb9_isBlack_42, n10, hv, kX]
        exact h0 (Nat.succ_ne_zero _)
      · unfold holdL
        simp only [List.getElem?_cons_zero, List.getElem?_cons_succ, fv4, Nat.reduceAdd, Nat.reduceSub, wp, pst, stp, LG, lput, ls_tl, two, bc, EL, pad, popN, csum, Option.toList, List.cons_append, List.nil_append, List.set_cons_zero, List.set_cons_succ, List.length_cons, List.length_nil, true_and, and_true, Nat.reduceLT, Nat.reduceLeDiff, Nat.zero_le, Nat.le_refl, RI_i, RI_z0, RI_z1, Int32.reduceOfInt, Int8.reduceOfInt, Int16.reduceOfInt, Int64.reduceOfInt, Int8.toInt32_ofNat, Int16.toInt32_ofNat, Int.reduceNeg, Int32.ofInt_neg, Int8.ofInt_neg, Int16.ofInt_neg, Int32.toInt64_ofNat, Int32.reduceToNatClampNeg, Fin.isValue, Fin.val_one, Fin.val_zero, Fin.val_two, Int64.reduceOfNat, Int32.reduceOfNat, hdl, cutc, Nat.reduceEqDiff, reduceIte, FV, tyC, tyX0, tyX1, tyX2, tyX3, tyX4, tyX5, tyX6, tyX7, tyX8, tyX9, tyX10, Nat.reduceMul, c_le, c_lt, c_eq, c_in, c_cl, c_add, c_rem, c_ofN, Int32.add_zero, Int32.zero_add, c_lt0, c_ge0, c_le0, c_gt0, c_e0, c_m1, c_m1', false_implies, true_implies, implies_true, not_false_eq_true, not_true_eq_false, Nat.not_lt_zero, up_s, up_1, up_m, ff9_isBlack, bb9_isBlack_0, bb9_isBlack_32, bb9_isBlack_42, n10, e0, e1, e2, hi, b2, kX]
        exact ⟨fun hh => absurd rfl (hni i hh), fun _ => h0 (Nat.succ_ne_zero _)⟩
  · rw [ej] at h0
    refine sp2_has h.2.1.1 _ (fun j' hj' hv' => absurd hv' (hnl j' hj')) (fun hn => ?_)
    unfold holdL
    simp only [List.getElem?_cons_zero, List.getElem?_cons_succ, fv4, Nat.reduceAdd, Nat.reduceSub, wp, pst, stp, LG, lput, ls_tl, two, bc, EL, pad, popN, csum, Option.toList, List.cons_append, List.nil_append, List.set_cons_zero, List.set_cons_succ, List.length_cons, List.length_nil, true_and, and_true, Nat.reduceLT, Nat.reduceLeDiff, Nat.zero_le, Nat.le_refl, RI_i, RI_z0, RI_z1, Int32.reduceOfInt, Int8.reduceOfInt, Int16.reduceOfInt, Int64.reduceOfInt, Int8.toInt32_ofNat, Int16.toInt32_ofNat, Int.reduceNeg, Int32.ofInt_neg, Int8.ofInt_neg, Int16.ofInt_neg, Int32.toInt64_ofNat, Int32.reduceToNatClampNeg, Fin.isValue, Fin.val_one, Fin.val_zero, Fin.val_two, Int64.reduceOfNat, Int32.reduceOfNat, hdl, cutc, Nat.reduceEqDiff, reduceIte, FV, tyC, tyX0, tyX1, tyX2, tyX3, tyX4, tyX5, tyX6, tyX7, tyX8, tyX9, tyX10, Nat.reduceMul, c_le, c_lt, c_eq, c_in, c_cl, c_add, c_rem, c_ofN, Int32.add_zero, Int32.zero_add, c_lt0, c_ge0, c_le0, c_gt0, c_e0, c_m1, c_m1', false_implies, true_implies, implies_true, not_false_eq_true, not_true_eq_false, Nat.not_lt_zero, up_s, up_1, up_m, ff9_isBlack, bb9_isBlack_0, bb9_isBlack_32, bb9_isBlack_42, kX]
    exact h0 (Nat.succ_ne_zero _)
theorem sp9_runsOf (h : XU w x U) (hU : UOK U) (l : Int32) (h1 : (v_runsOf l U).1 = 0 → Q (some (.int (nI (v_runsOf l U).2))) none w) (h0 : (v_runsOf l U).1 ≠ 0 → QX (xc [eIO] (v_runsOf l U).1) w) : SpX Γ m9_runsOf [.ref x, .int l] none w Q QX := by
  unfold XU at h
  have hl := hU.1.2.2.2.2.1
  have hw := hU.1.2.1
  have hlok := hU.1.lok
  unfold v_runsOf at h1 h0
  obtain ⟨e0, ⟨v', e1, -⟩, e2, e3, e4⟩ := h.cells
  refine entryX Γ m9_runsOf rfl _ (Nat.le_of_ble_eq_true rfl) _ _ _ _ ?_
  refine wp_ok kd9_runsOf 400 0 bb9_runsOf_0 _ _ _ _ _ _ oo9_runsOf_0 ?_
  simp only [List.getElem?_cons_zero, List.getElem?_cons_succ, fv4, Nat.reduceAdd, Nat.reduceSub, wp, pst, stp, LG, lput, ls_tl, two, bc, EL, pad, popN, csum, Option.toList, List.cons_append, List.nil_append, List.set_cons_zero, List.set_cons_succ, List.length_cons, List.length_nil, true_and, and_true, Nat.reduceLT, Nat.reduceLeDiff, Nat.zero_le, Nat.le_refl, RI_i, RI_z0, RI_z1, Int32.reduceOfInt, Int8.reduceOfInt, Int16.reduceOfInt, Int64.reduceOfInt, Int8.toInt32_ofNat, Int16.toInt32_ofNat, Int.reduceNeg, Int32.ofInt_neg, Int8.ofInt_neg, Int16.ofInt_neg, Int32.toInt64_ofNat, Int32.reduceToNatClampNeg, Fin.isValue, Fin.val_one, Fin.val_zero, Fin.val_two, Int64.reduceOfNat, Int32.reduceOfNat, hdl, cutc, Nat.reduceEqDiff, reduceIte, FV, tyC, tyX0, tyX1, tyX2, tyX3, tyX4, tyX5, tyX6, tyX7, tyX8, tyX9, tyX10, Nat.reduceMul, c_le, c_lt, c_eq, c_in, c_cl, c_add, c_rem, c_ofN, Int32.add_zero, Int32.zero_add, c_lt0, c_ge0, c_le0, c_gt0, c_e0, c_m1, c_m1', false_implies, true_implies, implies_true, not_false_eq_true, not_true_eq_false, Nat.not_lt_zero, up_s, up_1, up_m, ff9_runsOf, bb9_runsOf_0, cl_1, ca_1, e0]
  rcases ix_cases l (a_L (us_S U)).length (by omega) with ⟨j, hj, rfl, ej⟩ | ⟨hnl, ej⟩
  · rw [ej] at h1
    refine sp9_needLine h _ (fun j' hj' hv' => ?_) (fun hn => absurd rfl (hn j hj))
    unfold holdL
    simp only [List.getElem?_cons_zero, List.getElem?_cons_succ, fv4, Nat.reduceAdd, Nat.reduceSub, wp, pst, stp, LG, lput, ls_tl, two, bc, EL, pad, popN, csum, Option.toList, List.cons_append, List.nil_append, List.set_cons_zero, List.set_cons_succ, List.length_cons, List.length_nil, true_and, and_true, Nat.reduceLT, Nat.reduceLeDiff, Nat.zero_le, Nat.le_refl, RI_i, RI_z0, RI_z1, Int32.reduceOfInt, Int8.reduceOfInt, Int16.reduceOfInt, Int64.reduceOfInt, Int8.toInt32_ofNat, Int16.toInt32_ofNat, Int.reduceNeg, Int32.ofInt_neg, Int8.ofInt_neg, Int16.ofInt_neg, Int32.toInt64_ofNat, Int32.reduceToNatClampNeg, Fin.isValue, Fin.val_one, Fin.val_zero, Fin.val_two, Int64.reduceOfNat, Int32.reduceOfNat, hdl, cutc, Nat.reduceEqDiff, reduceIte, FV, tyC, tyX0, tyX1, tyX2, tyX3, tyX4, tyX5, tyX6, tyX7, tyX8, tyX9, tyX10, Nat.reduceMul, c_le, c_lt, c_eq, c_in, c_cl, c_add, c_rem, c_ofN, Int32.add_zero, Int32.zero_add, c_lt0, c_ge0, c_le0, c_gt0, c_e0, c_m1, c_m1', false_implies, true_implies, implies_true, not_false_eq_true, not_true_eq_false, Nat.not_lt_zero, up_s, up_1, up_m, ff9_runsOf, bb9_runsOf_0, cl_1, ca_1, e0, e1, e2]
    refine sp2_rowOf h.2.1.1 j hj ?_
    unfold holdL
    simp only [List.getElem?_cons_zero, List.getElem?_cons_succ, fv4, Nat.reduceAdd, Nat.reduceSub, wp, pst, stp, LG, lput, ls_tl, two, bc, EL, pad, popN, csum, Option.toList, List.cons_append, List.nil_append, List.set_cons_zero, List.set_cons_succ, List.length_cons, List.length_nil, true_and, and_true, Nat.reduceLT, Nat.reduceLeDiff, Nat.zero_le, Nat.le_refl, RI_i, RI_z0, RI_z1, Int32.reduceOfInt, Int8.reduceOfInt, Int16.reduceOfInt, Int64.reduceOfInt, Int8.toInt32_ofNat, Int16.toInt32_ofNat, Int.reduceNeg, Int32.ofInt_neg, Int8.ofInt_neg, Int16.ofInt_neg, Int32.toInt64_ofNat, Int32.reduceToNatClampNeg, Fin.isValue, Fin.val_one, Fin.val_zero, Fin.val_two, Int64.reduceOfNat, Int32.reduceOfNat, hdl, cutc, Nat.reduceEqDiff, reduceIte, FV, tyC, tyX0, tyX1, tyX2, tyX3, tyX4, tyX5, tyX6, tyX7, tyX8, tyX9, tyX10, Nat.reduceMul, c_le, c_lt, c_eq, c_in, c_cl, c_add, c_rem, c_ofN, Int32.add_zero, Int32.zero_add, c_lt0, c_ge0, c_le0, c_gt0, c_e0, c_m1, c_m1', false_implies, true_implies, implies_true, not_false_eq_true, not_true_eq_false, Nat.not_lt_zero, up_s, up_1, up_m, ff9_runsOf, bb9_runsOf_0, cl_1, ca_1, e0, e1, e2]
    refine sp9_bordersOf _ _ (hlok j) hw ?_
    unfold holdL
    simp only [List.getElem?_cons_zero, List.getElem?_cons_succ, fv4, Nat.reduceAdd, Nat.reduceSub, wp, pst, stp, LG, lput, ls_tl, two, bc, EL, pad, popN, csum, Option.toList, List.cons_append, List.nil_append, List.set_cons_zero, List.set_cons_succ, List.length_cons, List.length_nil, true_and, and_true, Nat.reduceLT, Nat.reduceLeDiff, Nat.zero_le, Nat.le_refl, RI_i, RI_z0, RI_z1, Int32.reduceOfInt, Int8.reduceOfInt, Int16.reduceOfInt, Int64.reduceOfInt, Int8.toInt32_ofNat, Int16.toInt32_ofNat, Int.reduceNeg, Int32.ofInt_neg, Int8.ofInt_neg, Int16.ofInt_neg, Int32.toInt64_ofNat, Int32.reduceToNatClampNeg, Fin.isValue, Fin.val_one, Fin.val_zero, Fin.val_two, Int64.reduceOfNat, Int32.reduceOfNat, hdl, cutc, Nat.reduceEqDiff, reduceIte, FV, tyC, tyX0, tyX1, tyX2, tyX3, tyX4, tyX5, tyX6, tyX7, tyX8, tyX9, tyX10, Nat.reduceMul, c_le, c_lt, c_eq, c_in, c_cl, c_add, c_rem, c_ofN, Int32.add_zero, Int32.zero_add, c_lt0, c_ge0, c_le0, c_gt0, c_e0, c_m1, c_m1', false_implies, true_implies, implies_true, not_false_eq_true, not_true_eq_false, Nat.not_lt_zero, up_s, up_1, up_m, ff9_runsOf, bb9_runsOf_0, cl_1, ca_1]
    refine spJ13_bitCount _ (bord_lt _ _ hw) ?_
    have h2 := h1 rfl
    dsimp only at h2
    rw [runs_cnt _ _ hw] at h2
    unfold holdL
    simp only [List.getElem?_cons_zero, List.getElem?_cons_succ, fv4, Nat.reduceAdd, Nat.reduceSub, wp, pst, stp, LG, lput, ls_tl, two, bc, EL, pad, popN, csum, Option.toList, List.cons_append, List.nil_append, List.set_cons_zero, List.set_cons_succ, List.length_cons, List.length_nil, true_and, and_true, Nat.reduceLT, Nat.reduceLeDiff, Nat.zero_le, Nat.le_refl, RI_i, RI_z0, RI_z1, Int32.reduceOfInt, Int8.reduceOfInt, Int16.reduceOfInt, Int64.reduceOfInt, Int8.toInt32_ofNat, Int16.toInt32_ofNat, Int.reduceNeg, Int32.ofInt_neg, Int8.ofInt_neg, Int16.ofInt_neg, Int32.toInt64_ofNat, Int32.reduceToNatClampNeg, Fin.isValue, Fin.val_one, Fin.val_zero, Fin.val_two, Int64.reduceOfNat, Int32.reduceOfNat, hdl, cutc, Nat.reduceEqDiff, reduceIte, FV, tyC, tyX0, tyX1, tyX2, tyX3, tyX4, tyX5, tyX6, tyX7, tyX8, tyX9, tyX10, Nat.reduceMul, c_le, c_lt, c_eq, c_in, c_cl, c_add, c_rem, c_ofN, Int32.add_zero, Int32.zero_add, c_lt0, c_ge0, c_le0, c_gt0, c_e0, c_m1, c_m1', false_implies, true_implies, implies_true, not_false_eq_true, not_true_eq_false, Nat.not_lt_zero, up_s, up_1, up_m, ff9_runsOf, bb9_runsOf_0, cl_1, ca_1]
    exact h2
  · rw [ej] at h0
    refine sp9_needLine h _ (fun j' hj' hv' => absurd hv' (hnl j' hj')) (fun hn => ?_)
    exact h0 (Nat.succ_ne_zero _)
theorem sp9_longestBetween (p wd : Nat) (hw : wd ≤ 32) (hQ : Q (some (.int (nI (mxL (runs wd p))))) none w) : Sp Γ m9_longestBetween [.long (lN (bord p wd)), .int (nI wd)] none w Q := by
  have b2 : wd < 2147483648 := by omega
  have hbl := bord_lt p wd hw
  have key : ∀ (n i r a : Nat), n + i = wd → r ≤ i → r ≤ a → a ≤ i → max a (mxL (rl p n i (decide (0 < i) && p.testBit (i - 1)) r)) = mxL (runs wd p) → G Γ m9_longestBetween Q (fun _ _ => False) 8 [some (.long (lN (bord p wd))), none, some (.int (nI wd)), some (.int (nI a)), some (.int (nI r)), some (.int (nI i))] [] none w 0 0 := by
    intro n
    induction n with
    | zero =>
      intro i r a hk hr hra ha hs
      have b1 : i < 2147483648 := by omega
      have b3 : a < 2147483648 := by omega
      simp only [rl, mxL] at hs
      rw [← hs, show max a (max r 0) = a by omega] at hQ
      refine wp_ok kd9_longestBetween 400 8 bb9_longestBetween_8 _ _ _ _ _ _ oo9_longestBetween_8 ?_
      simp only [List.getElem?_cons_zero, List.getElem?_cons_succ, fv4, Nat.reduceAdd, Nat.reduceSub, wp, pst, stp, LG, lput, ls_tl, two, bc, EL, pad, popN, csum, Option.toList, List.cons_append, List.nil_append, List.set_cons_zero, List.set_cons_succ, List.length_cons, List.length_nil, true_and, and_true, Nat.reduceLT, Nat.reduceLeDiff, Nat.zero_le, Nat.le_refl, RI_i, RI_z0, RI_z1, Int32.reduceOfInt, Int8.reduceOfInt, Int16.reduceOfInt, Int64.reduceOfInt, Int8.toInt32_ofNat, Int16.toInt32_ofNat, Int.reduceNeg, Int32.ofInt_neg, Int8.ofInt_neg, Int16.ofInt_neg, Int32.toInt64_ofNat, Int32.reduceToNatClampNeg, Fin.isValue, Fin.val_one, Fin.val_zero, Fin.val_two, Int64.reduceOfNat, Int32.reduceOfNat, hdl, cutc, Nat.reduceEqDiff, reduceIte, FV, tyC, tyX0, tyX1, tyX2, tyX3, tyX4, tyX5, tyX6, tyX7, tyX8, tyX9, tyX10, Nat.reduceMul, c_le, c_lt, c_eq, c_in, c_cl, c_add, c_rem, c_ofN, Int32.add_zero, Int32.zero_add, c_lt0, c_ge0, c_le0, c_gt0, c_e0, c_m1, c_m1', false_implies, true_implies, implies_true, not_false_eq_true, not_true_eq_false, Nat.not_lt_zero, up_s, up_1, up_m, ff9_longestBetween, bb9_longestBetween_0, bb9_longestBetween_8, bb9_longestBetween_27, bb9_longestBetween_31, bb9_longestBetween_46, cl_1, ca_1, b1, b2]
      exact ⟨fun _ => hQ, fun h => absurd h (by omega)⟩
    | succ n ih =>
      intro i r a hk hr hra ha hs
      have b1 : i < 2147483648 := by omega
      have b3 : a < 2147483648 := by omega
      have b4 : r < 2147483648 := by omega
      refine wp_ok kd9_longestBetween 400 8 bb9_longestBetween_8 _ _ _ _ _ _ oo9_longestBetween_8 ?_
      simp only [List.getElem?_cons_zero, List.getElem?_cons_succ, fv4, Nat.reduceAdd, Nat.reduceSub, wp, pst, stp, LG, lput, ls_tl, two, bc, EL, pad, popN, csum, Option.toList, List.cons_append, List.nil_append, List.set_cons_zero, List.set_cons_succ, List.length_cons, List.length_nil, true_and, and_true, Nat.reduceLT, Nat.reduceLeDiff, Nat.zero_le, Nat.le_refl, RI_i, RI_z0, RI_z1, Int32.reduceOfInt, Int8.reduceOfInt, Int16.reduceOfInt, Int64.reduceOfInt, Int8.toInt32_ofNat, Int16.toInt32_ofNat, Int.reduceNeg, Int32.ofInt_neg, Int8.ofInt_neg, Int16.ofInt_neg, Int32.toInt64_ofNat, Int32.reduceToNatClampNeg, Fin.isValue, Fin.val_one, Fin.val_zero, Fin.val_two, Int64.reduceOfNat, Int32.reduceOfNat, hdl, cutc, Nat.reduceEqDiff, reduceIte, FV, tyC, tyX0, tyX1, tyX2, tyX3, tyX4, tyX5, tyX6, tyX7, tyX8, tyX9, tyX10, Nat.reduceMul, c_le, c_lt, c_eq, c_in, c_cl, c_add, c_rem, c_ofN, Int32.add_zero, Int32.zero_add, c_lt0, c_ge0, c_le0, c_gt0, c_e0, c_m1, c_m1', false_implies, true_implies, implies_true, not_false_eq_true, not_true_eq_false, Nat.not_lt_zero, up_s, up_1, up_m, ff9_longestBetween, bb9_longestBetween_0, bb9_longestBetween_8, bb9_longestBetween_27, bb9_longestBetween_31, bb9_longestBetween_46, cl_1, ca_1, b1, b2, b3, b4]
      refine ⟨fun h => absurd h (by omega), fun _ => ?_⟩
      have hbb := bord_bit p wd i (by omega)
      have hI : ∀ r a, r ≤ i + 1 → r ≤ a → a ≤ i + 1 → max a (mxL (rl p n (i + 1) (p.testBit i) r)) = mxL (runs wd p) → G Γ m9_longestBetween Q (fun _ _ => False) 8 [some (.long (lN (bord p wd))), none, some (.int (nI wd)), some (.int (nI a)), some (.int (nI r)), some (.int (nI (i + 1)))] [] none w 0 0 := by
        intro r a h1 h2 h3 h4
        refine ih (i + 1) r a (by omega) h1 h2 h3 ?_
        rw [decide_eq_true (Nat.succ_pos i), Bool.true_and, Nat.add_sub_cancel]
        exact h4
      simp only [rl] at hs
      have hmx : ∀ a r, a < 2147483648 → r < 2147483648 → (if nI a < nI r then nI r else nI a) = nI (max a r) := by
        intro a r ha hr
        by_cases c : a < r
        · rw [if_pos ((c_lt ha hr).symm ▸ c), Nat.max_eq_right (by omega)]
        · rw [if_neg (fun q => c ((c_lt ha hr) ▸ q)), Nat.max_eq_left (by omega)]
      refine sp9_blackAt (bord p wd) i (by omega) (by omega) (fun hv => ?_) (fun hv => ?_)
      · rw [hv] at hbb
        have hne : ¬p.testBit i = (decide (0 < i) && p.testBit (i - 1)) := by
          intro h; rw [← h] at hbb; simp at hbb
        rw [if_neg hne] at hs
        have hnb : (!(decide (0 < i) && p.testBit (i - 1))) = p.testBit i := by
          revert hne; cases p.testBit i <;> cases (decide (0 < i) && p.testBit (i - 1)) <;> simp
        rw [hnb] at hs
        simp only [mxL] at hs
        have hm := rl_mx p n (i + 1) (p.testBit i) 1
        unfold holdL
        simp only [List.getElem?_cons_zero, List.getElem?_cons_succ, fv4, Nat.reduceAdd, Nat.reduceSub, wp, pst, stp, LG, lput, ls_tl, two, bc, EL, pad, popN, csum, Option.toList, List.cons_append, List.nil_append, List.set_cons_zero, List.set_cons_succ, List.length_cons, List.length_nil, true_and, and_true, Nat.reduceLT, Nat.reduceLeDiff, Nat.zero_le, Nat.le_refl, RI_i, RI_z0, RI_z1, Int32.reduceOfInt, Int8.reduceOfInt, Int16.reduceOfInt, Int64.reduceOfInt, Int8.toInt32_ofNat, Int16.toInt32_ofNat, Int.reduceNeg, Int32.ofInt_neg, Int8.ofInt_neg, Int16.ofInt_neg, Int32.toInt64_ofNat, Int32.reduceToNatClampNeg, Fin.isValue, Fin.val_one, Fin.val_zero, Fin.val_two, Int64.reduceOfNat, Int32.reduceOfNat, hdl, cutc, Nat.reduceEqDiff, reduceIte, FV, tyC, tyX0, tyX1, tyX2, tyX3, tyX4, tyX5, tyX6, tyX7, tyX8, tyX9, tyX10, Nat.reduceMul, c_le, c_lt, c_eq, c_in, c_cl, c_add, c_rem, c_ofN, Int32.add_zero, Int32.zero_add, c_lt0, c_ge0, c_le0, c_gt0, c_e0, c_m1, c_m1', false_implies, true_implies, implies_true, not_false_eq_true, not_true_eq_false, Nat.not_lt_zero, up_s, up_1, up_m, ff9_longestBetween, bb9_longestBetween_0, bb9_longestBetween_8, bb9_longestBetween_27, bb9_longestBetween_31, bb9_longestBetween_46, cl_1, ca_1, n10, b1, b2, b3, b4]
        have e : (if a < 1 then (1 : Int32) else nI a) = nI (max a 1) := by
          by_cases c : a < 1
          · rw [if_pos c, Nat.max_eq_right (by omega)]; rfl
          · rw [if_neg c, Nat.max_eq_left (by omega)]
        rw [e]
        exact hI 1 (max a 1) (by omega) (by omega) (by omega) (by omega)
      · rw [hv] at hbb
        have he : p.testBit i = (decide (0 < i) && p.testBit (i - 1)) := by
          revert hbb; cases p.testBit i <;> cases (decide (0 < i) && p.testBit (i - 1)) <;> simp
        rw [if_pos he, ← he] at hs
        have hm := rl_mx p n (i + 1) (p.testBit i) (r + 1)
        have b5 : r + 1 < 2147483648 := by omega
        unfold holdL
        simp only [List.getElem?_cons_zero, List.getElem?_cons_succ, fv4, Nat.reduceAdd, Nat.reduceSub, wp, pst, stp, LG, lput, ls_tl, two, bc, EL, pad, popN, csum, Option.toList, List.cons_append, List.nil_append, List.set_cons_zero, List.set_cons_succ, List.length_cons, List.length_nil, true_and, and_true, Nat.reduceLT, Nat.reduceLeDiff, Nat.zero_le, Nat.le_refl, RI_i, RI_z0, RI_z1, Int32.reduceOfInt, Int8.reduceOfInt, Int16.reduceOfInt, Int64.reduceOfInt, Int8.toInt32_ofNat, Int16.toInt32_ofNat, Int.reduceNeg, Int32.ofInt_neg, Int8.ofInt_neg, Int16.ofInt_neg, Int32.toInt64_ofNat, Int32.reduceToNatClampNeg, Fin.isValue, Fin.val_one, Fin.val_zero, Fin.val_two, Int64.reduceOfNat, Int32.reduceOfNat, hdl, cutc, Nat.reduceEqDiff, reduceIte, FV, tyC, tyX0, tyX1, tyX2, tyX3, tyX4, tyX5, tyX6, tyX7, tyX8, tyX9, tyX10, Nat.reduceMul, c_le, c_lt, c_eq, c_in, c_cl, c_add, c_rem, c_ofN, Int32.add_zero, Int32.zero_add, c_lt0, c_ge0, c_le0, c_gt0, c_e0, c_m1, c_m1', false_implies, true_implies, implies_true, not_false_eq_true, not_true_eq_false, Nat.not_lt_zero, up_s, up_1, up_m, ff9_longestBetween, bb9_longestBetween_0, bb9_longestBetween_8, bb9_longestBetween_27, bb9_longestBetween_31, bb9_longestBetween_46, cl_1, ca_1, b1, b2, b3, b4]
        rw [hmx a (r + 1) b3 b5]
        exact hI (r + 1) (max a (r + 1)) (by omega) (by omega) (by omega) (by omega)
  refine entry Γ m9_longestBetween rfl _ (Nat.le_of_ble_eq_true rfl) _ _ _ ?_
  refine wp_ok kd9_longestBetween 400 0 bb9_longestBetween_0 _ _ _ _ _ _ oo9_longestBetween_0 ?_
  simp only [List.getElem?_cons_zero, List.getElem?_cons_succ, fv4, Nat.reduceAdd, Nat.reduceSub, wp, pst, stp, LG, lput, ls_tl, two, bc, EL, pad, popN, csum, Option.toList, List.cons_append, List.nil_append, List.set_cons_zero, List.set_cons_succ, List.length_cons, List.length_nil, true_and, and_true, Nat.reduceLT, Nat.reduceLeDiff, Nat.zero_le, Nat.le_refl, RI_i, RI_z0, RI_z1, Int32.reduceOfInt, Int8.reduceOfInt, Int16.reduceOfInt, Int64.reduceOfInt, Int8.toInt32_ofNat, Int16.toInt32_ofNat, Int.reduceNeg, Int32.ofInt_neg, Int8.ofInt_neg, Int16.ofInt_neg, Int32.toInt64_ofNat, Int32.reduceToNatClampNeg, Fin.isValue, Fin.val_one, Fin.val_zero, Fin.val_two, Int64.reduceOfNat, Int32.reduceOfNat, hdl, cutc, Nat.reduceEqDiff, reduceIte, FV, tyC, tyX0, tyX1, tyX2, tyX3, tyX4, tyX5, tyX6, tyX7, tyX8, tyX9, tyX10, Nat.reduceMul, c_le, c_lt, c_eq, c_in, c_cl, c_add, c_rem, c_ofN, Int32.add_zero, Int32.zero_add, c_lt0, c_ge0, c_le0, c_gt0, c_e0, c_m1, c_m1', false_implies, true_implies, implies_true, not_false_eq_true, not_true_eq_false, Nat.not_lt_zero, up_s, up_1, up_m, ff9_longestBetween, bb9_longestBetween_0, bb9_longestBetween_8, bb9_longestBetween_27, bb9_longestBetween_31, bb9_longestBetween_46, cl_1, ca_1]
  exact key wd 0 0 0 rfl (by decide) (by decide) (by decide) (Nat.zero_max _)
end LOOKS

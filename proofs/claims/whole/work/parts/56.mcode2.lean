/-! THE MODEL'S CODES, more -/
theorem take_get {α : Type} {l : List α} {k : Nat} {x : α} {t : List α} (h : l.drop k = x :: t) : l[k]? = some x ∧ l.drop (k + 1) = t := by
  have h1 : (l.drop k)[0]? = some x := by rw [h]; rfl
  rw [List.getElem?_drop, Nat.add_zero] at h1
  refine ⟨h1, ?_⟩
  rw [← List.drop_drop, h]
  rfl
section MC
variable {Γ : Amb} {w : PW} {Q : Option Value → Option Nat → PW → Prop} {m : Nat} {th sm hs ln at_ iw rm rn cm su pl wy px : Int32} {fs fa ft fn fx fr fu fc : Nat → Int32}
theorem sp10_writesRuns {C : List Nat} (hC : IA fc C) (wd p : Nat) (h0 : fs 0 = nI wd) (h1w : 1 ≤ wd) (hw : wd ≤ 32) (s0 : Nat) (hl : C.length ≤ 8) (hQ : ∀ rn' fu' fc', IA fc' (C ++ ((runs wd p).flatMap enc).flatMap esc) → Q none none (mw w m th sm hs ln at_ iw rm (rn') (nI (C ++ ((runs wd p).flatMap enc).flatMap esc).length) (nI (s0 + ((runs wd p).flatMap enc).sum)) pl wy px fs fa ft fn fx fr (fu') (fc'))) : Sp Γ m10_writesRuns [.ref m, .int (nI p)] none (mw w m th sm hs ln at_ iw rm rn (nI C.length) (nI s0) pl wy px fs fa ft fn fx fr fu fc) Q := by
  have hlen : (C ++ ((runs wd p).flatMap enc).flatMap esc).length ≤ 60 := by
    have := rl_nums p wd 0 false 0 (by omega)
    rw [List.length_append]
    unfold nums at this
    unfold runs
    simp only [if_true] at this
    omega
  have hrl : (runs wd p).length ≤ 33 := by
    rw [runs_cnt wd p hw]
    have := fb_ct_le (bord p wd).testBit 32
    omega
  have hre := runs_le wd p h1w
  refine entry Γ m10_writesRuns rfl _ (Nat.le_of_ble_eq_true rfl) _ _ _ ?_
  refine wp_ok kd10_writesRuns 400 0 bb10_writesRuns_0 _ _ _ _ _ _ oo10_writesRuns_0 ?_
  simp only [List.getElem?_cons_zero, List.getElem?_cons_succ, fv4, Nat.reduceAdd, Nat.reduceSub, wp, pst, stp, LG, lput, ls_tl, two, bc, EL, pad, popN, csum, Option.toList, List.cons_append, List.nil_append, List.set_cons_zero, List.set_cons_succ, List.length_cons, List.length_nil, true_and, and_true, Nat.reduceLT, Nat.reduceLeDiff, Nat.zero_le, Nat.le_refl, RI_i, RI_z0, RI_z1, Int32.reduceOfInt, Int8.reduceOfInt, Int16.reduceOfInt, Int64.reduceOfInt, Int8.toInt32_ofNat, Int16.toInt32_ofNat, Int.reduceNeg, Int32.ofInt_neg, Int8.ofInt_neg, Int16.ofInt_neg, Int32.toInt64_ofNat, Int32.reduceToNatClampNeg, Fin.isValue, Fin.val_one, Fin.val_zero, Fin.val_two, Int64.reduceOfNat, Int32.reduceOfNat, hdl, cutc, Nat.reduceEqDiff, reduceIte, FV, tyC, tyX0, tyX1, tyX2, tyX3, tyX4, tyX5, tyX6, tyX7, tyX8, tyX9, tyX10, Nat.reduceMul, c_le, c_lt, c_eq, c_in, c_cl, c_add, c_rem, c_ofN, Int32.add_zero, Int32.zero_add, c_lt0, c_ge0, c_le0, c_gt0, c_e0, c_m1, c_m1', false_implies, true_implies, implies_true, not_false_eq_true, not_true_eq_false, Nat.not_lt_zero, up_s, up_1, up_m, ff10_writesRuns, bb10_writesRuns_0, bb10_writesRuns_7, bb10_writesRuns_61, bb10_writesRuns_71, bb10_writesRuns_77, cl_1, ca_1, cl_13, ca_13, cl_14, ca_14, cl_16, ca_16, mw_0, mw_1, mw_2, mw_3, mw_4, mw_5, mw_6, mw_7, mw_8, mu_0, mu_1, mu_2, mu_3, mu_4, mu_5, mu_6, mu_7, mu_8, vi_0, vi_1, vi_2, vi_3, vi_4, vi_5, vi_6]
  refine sp10_findsRuns wd p h0 hw (fun fu' hU => ?_)
  unfold holdL
  simp only [List.getElem?_cons_zero, List.getElem?_cons_succ, fv4, Nat.reduceAdd, Nat.reduceSub, wp, pst, stp, LG, lput, ls_tl, two, bc, EL, pad, popN, csum, Option.toList, List.cons_append, List.nil_append, List.set_cons_zero, List.set_cons_succ, List.length_cons, List.length_nil, true_and, and_true, Nat.reduceLT, Nat.reduceLeDiff, Nat.zero_le, Nat.le_refl, RI_i, RI_z0, RI_z1, Int32.reduceOfInt, Int8.reduceOfInt, Int16.reduceOfInt, Int64.reduceOfInt, Int8.toInt32_ofNat, Int16.toInt32_ofNat, Int.reduceNeg, Int32.ofInt_neg, Int8.ofInt_neg, Int16.ofInt_neg, Int32.toInt64_ofNat, Int32.reduceToNatClampNeg, Fin.isValue, Fin.val_one, Fin.val_zero, Fin.val_two, Int64.reduceOfNat, Int32.reduceOfNat, hdl, cutc, Nat.reduceEqDiff, reduceIte, FV, tyC, tyX0, tyX1, tyX2, tyX3, tyX4, tyX5, tyX6, tyX7, tyX8, tyX9, tyX10, Nat.reduceMul, c_le, c_lt, c_eq, c_in, c_cl, c_add, c_rem, c_ofN, Int32.add_zero, Int32.zero_add, c_lt0, c_ge0, c_le0, c_gt0, c_e0, c_m1, c_m1', false_implies, true_implies, implies_true, not_false_eq_true, not_true_eq_false, Nat.not_lt_zero, up_s, up_1, up_m, ff10_writesRuns, bb10_writesRuns_0, bb10_writesRuns_7, bb10_writesRuns_61, bb10_writesRuns_71, bb10_writesRuns_77, cl_1, ca_1, cl_13, ca_13, cl_14, ca_14, cl_16, ca_16, mw_0, mw_1, mw_2, mw_3, mw_4, mw_5, mw_6, mw_7, mw_8, mu_0, mu_1, mu_2, mu_3, mu_4, mu_5, mu_6, mu_7, mu_8, vi_0, vi_1, vi_2, vi_3, vi_4, vi_5, vi_6]
  have bn : (runs wd p).length < 2147483648 := by omega
  have key : ∀ (suf : List Nat) (k : Nat) (C' : List Nat) (s' : Nat) (f : Nat → Int32), (runs wd p).drop k = suf → k + suf.length = (runs wd p).length → C' ++ (suf.flatMap enc).flatMap esc = C ++ ((runs wd p).flatMap enc).flatMap esc → s' + (suf.flatMap enc).sum = s0 + ((runs wd p).flatMap enc).sum → IA f C' → G Γ m10_writesRuns Q (fun _ _ => False) 7 [some (.ref m), some (.int (nI p)), some (.int (nI k))] [] none (mw w m th sm hs ln at_ iw rm (nI (runs wd p).length) (nI C'.length) (nI s') pl wy px fs fa ft fn fx fr (fu') f) 0 0 := by
    intro suf
    induction suf with
    | nil =>
      intro k C' s' f hd hk hc hsu hI
      have b1 : k < 2147483648 := by simp only [List.length_nil] at hk; omega
      simp only [List.flatMap_nil, List.append_nil, List.sum_nil, Nat.add_zero] at hc hsu
      rw [← hc, ← hsu] at hQ
      have hq := hQ (nI (runs wd p).length) fu' f hI
      refine wp_ok kd10_writesRuns 400 7 bb10_writesRuns_7 _ _ _ _ _ _ oo10_writesRuns_7 ?_
      simp only [List.getElem?_cons_zero, List.getElem?_cons_succ, fv4, Nat.reduceAdd, Nat.reduceSub, wp, pst, stp, LG, lput, ls_tl, two, bc, EL, pad, popN, csum, Option.toList, List.cons_append, List.nil_append, List.set_cons_zero, List.set_cons_succ, List.length_cons, List.length_nil, true_and, and_true, Nat.reduceLT, Nat.reduceLeDiff, Nat.zero_le, Nat.le_refl, RI_i, RI_z0, RI_z1, Int32.reduceOfInt, Int8.reduceOfInt, Int16.reduceOfInt, Int64.reduceOfInt, Int8.toInt32_ofNat, Int16.toInt32_ofNat, Int.reduceNeg, Int32.ofInt_neg, Int8.ofInt_neg, Int16.ofInt_neg, Int32.toInt64_ofNat, Int32.reduceToNatClampNeg, Fin.isValue, Fin.val_one, Fin.val_zero, Fin.val_two, Int64.reduceOfNat, Int32.reduceOfNat, hdl, cutc, Nat.reduceEqDiff, reduceIte, FV, tyC, tyX0, tyX1, tyX2, tyX3, tyX4, tyX5, tyX6, tyX7, tyX8, tyX9, tyX10, Nat.reduceMul, c_le, c_lt, c_eq, c_in, c_cl, c_add, c_rem, c_ofN, Int32.add_zero, Int32.zero_add, c_lt0, c_ge0, c_le0, c_gt0, c_e0, c_m1, c_m1', false_implies, true_implies, implies_true, not_false_eq_true, not_true_eq_false, Nat.not_lt_zero, up_s, up_1, up_m, ff10_writesRuns, bb10_writesRuns_0, bb10_writesRuns_7, bb10_writesRuns_61, bb10_writesRuns_71, bb10_writesRuns_77, cl_1, ca_1, cl_13, ca_13, cl_14, ca_14, cl_16, ca_16, mw_0, mw_1, mw_2, mw_3, mw_4, mw_5, mw_6, mw_7, mw_8, mu_0, mu_1, mu_2, mu_3, mu_4, mu_5, mu_6, mu_7, mu_8, vi_0, vi_1, vi_2, vi_3, vi_4, vi_5, vi_6, b1, bn]
      exact ⟨fun _ => hq, fun hh => absurd hh (by simp only [List.length_nil] at hk; omega)⟩
    | cons r t ih =>
      intro k C' s' f hd hk hc hsu hI
      obtain ⟨hg, hd2⟩ := take_get hd
      simp only [List.length_cons] at hk
      have b1 : k < 2147483648 := by omega
      have b2 : k < 34 := by omega
      have hrw : r ≤ wd := hre r (List.mem_of_getElem? hg)
      have br : r < 2147483648 := by omega
      have ev : fu' k = nI r := by
        rw [hU k (by omega), List.getD_eq_getElem?_getD, hg]; rfl
      have hCl : C'.length + ((enc r).flatMap esc).length ≤ 60 := by
        rw [← hc] at hlen
        simp only [List.flatMap_cons, List.flatMap_append, List.length_append] at hlen
        omega
      rw [List.flatMap_cons, List.flatMap_append] at hc
      rw [List.flatMap_cons, List.sum_append] at hsu
      by_cases h13 : 13 < r
      · have e1 : nI r / 16 = nI (r / 16) := c_div (b := 16) br (by decide) (by decide)
        have henc : enc r = [14, r / 16, r % 16] := by unfold enc; rw [if_neg (by omega)]
        rw [henc] at hc hsu hCl
        simp only [List.flatMap_cons, List.flatMap_nil, List.append_nil, List.length_append] at hc hCl
        simp only [List.sum_cons, List.sum_nil] at hsu
        refine wp_ok kd10_writesRuns 400 7 bb10_writesRuns_7 _ _ _ _ _ _ oo10_writesRuns_7 ?_
        simp only [List.getElem?_cons_zero, List.getElem?_cons_succ, fv4, Nat.reduceAdd, Nat.reduceSub, wp, pst, stp, LG, lput, ls_tl, two, bc, EL, pad, popN, csum, Option.toList, List.cons_append, List.nil_append, List.set_cons_zero, List.set_cons_succ, List.length_cons, List.length_nil, true_and, and_true, Nat.reduceLT, Nat.reduceLeDiff, Nat.zero_le, Nat.le_refl, RI_i, RI_z0, RI_z1, Int32.reduceOfInt, Int8.reduceOfInt, Int16.reduceOfInt, Int64.reduceOfInt, Int8.toInt32_ofNat, Int16.toInt32_ofNat, Int.reduceNeg, Int32.ofInt_neg, Int8.ofInt_neg, Int16.ofInt_neg, Int32.toInt64_ofNat, Int32.reduceToNatClampNeg, Fin.isValue, Fin.val_one, Fin.val_zero, Fin.val_two, Int64.reduceOfNat, Int32.reduceOfNat, hdl, cutc, Nat.reduceEqDiff, reduceIte, FV, tyC, tyX0, tyX1, tyX2, tyX3, tyX4, tyX5, tyX6, tyX7, tyX8, tyX9, tyX10, Nat.reduceMul, c_le, c_lt, c_eq, c_in, c_cl, c_add, c_rem, c_ofN, Int32.add_zero, Int32.zero_add, c_lt0, c_ge0, c_le0, c_gt0, c_e0, c_m1, c_m1', false_implies, true_implies, implies_true, not_false_eq_true, not_true_eq_false, Nat.not_lt_zero, up_s, up_1, up_m, ff10_writesRuns, bb10_writesRuns_0, bb10_writesRuns_7, bb10_writesRuns_61, bb10_writesRuns_71, bb10_writesRuns_77, cl_1, ca_1, cl_13, ca_13, cl_14, ca_14, cl_16, ca_16, mw_0, mw_1, mw_2, mw_3, mw_4, mw_5, mw_6, mw_7, mw_8, mu_0, mu_1, mu_2, mu_3, mu_4, mu_5, mu_6, mu_7, mu_8, vi_0, vi_1, vi_2, vi_3, vi_4, vi_5, vi_6, b1, b2, br, bn, ev]
        refine ⟨fun hh => absurd hh (by omega), fun _ => ⟨fun hh => absurd hh (by omega), fun _ => ?_⟩⟩
        refine sp10_writes hI (by omega) 14 (by decide) s' (fun f1 hI1 => ?_)
        unfold holdL
        simp only [List.getElem?_cons_zero, List.getElem?_cons_succ, fv4, Nat.reduceAdd, Nat.reduceSub, wp, pst, stp, LG, lput, ls_tl, two, bc, EL, pad, popN, csum, Option.toList, List.cons_append, List.nil_append, List.set_cons_zero, List.set_cons_succ, List.length_cons, List.length_nil, true_and, and_true, Nat.reduceLT, Nat.reduceLeDiff, Nat.zero_le, Nat.le_refl, RI_i, RI_z0, RI_z1, Int32.reduceOfInt, Int8.reduceOfInt, Int16.reduceOfInt, Int64.reduceOfInt, Int8.toInt32_ofNat, Int16.toInt32_ofNat, Int.reduceNeg, Int32.ofInt_neg, Int8.ofInt_neg, Int16.ofInt_neg, Int32.toInt64_ofNat, Int32.reduceToNatClampNeg, Fin.isValue, Fin.val_one, Fin.val_zero, Fin.val_two, Int64.reduceOfNat, Int32.reduceOfNat, hdl, cutc, Nat.reduceEqDiff, reduceIte, FV, tyC, tyX0, tyX1, tyX2, tyX3, tyX4, tyX5, tyX6, tyX7, tyX8, tyX9, tyX10, Nat.reduceMul, c_le, c_lt, c_eq, c_in, c_cl, c_add, c_rem, c_ofN, Int32.add_zero, Int32.zero_add, c_lt0, c_ge0, c_le0, c_gt0, c_e0, c_m1, c_m1', false_implies, true_implies, implies_true, not_false_eq_true, not_true_eq_false, Nat.not_lt_zero, up_s, up_1, up_m, ff10_writesRuns, bb10_writesRuns_0, bb10_writesRuns_7, bb10_writesRuns_61, bb10_writesRuns_71, bb10_writesRuns_77, cl_1, ca_1, cl_13, ca_13, cl_14, ca_14, cl_16, ca_16, mw_0, mw_1, mw_2, mw_3, mw_4, mw_5, mw_6, mw_7, mw_8, mu_0, mu_1, mu_2, mu_3, mu_4, mu_5, mu_6, mu_7, mu_8, vi_0, vi_1, vi_2, vi_3, vi_4, vi_5, vi_6, b1, b2, br, bn, ev, e1]
        refine ⟨by decide, ?_⟩
        refine sp10_writes hI1 (by rw [List.length_append]; omega) (r / 16) (by omega) _ (fun f2 hI2 => ?_)
        unfold holdL
        simp only [List.getElem?_cons_zero, List.getElem?_cons_succ, fv4, Nat.reduceAdd, Nat.reduceSub, wp, pst, stp, LG, lput, ls_tl, two, bc, EL, pad, popN, csum, Option.toList, List.cons_append, List.nil_append, List.set_cons_zero, List.set_cons_succ, List.length_cons, List.length_nil, true_and, and_true, Nat.reduceLT, Nat.reduceLeDiff, Nat.zero_le, Nat.le_refl, RI_i, RI_z0, RI_z1, Int32.reduceOfInt, Int8.reduceOfInt, Int16.reduceOfInt, Int64.reduceOfInt, Int8.toInt32_ofNat, Int16.toInt32_ofNat, Int.reduceNeg, Int32.ofInt_neg, Int8.ofInt_neg, Int16.ofInt_neg, Int32.toInt64_ofNat, Int32.reduceToNatClampNeg, Fin.isValue, Fin.val_one, Fin.val_zero, Fin.val_two, Int64.reduceOfNat, Int32.reduceOfNat, hdl, cutc, Nat.reduceEqDiff, reduceIte, FV, tyC, tyX0, tyX1, tyX2, tyX3, tyX4, tyX5, tyX6, tyX7, tyX8, tyX9, tyX10, Nat.reduceMul, c_le, c_lt, c_eq, c_in, c_cl, c_add, c_rem, c_ofN, Int32.add_zero, Int32.zero_add, c_lt0, c_ge0, c_le0, c_gt0, c_e0, c_m1, c_m1', false_implies, true_implies, implies_true, not_false_eq_true, not_true_eq_false, Nat.not_lt_zero, up_s, up_1, up_m, ff10_writesRuns, bb10_writesRuns_0, bb10_writesRuns_7, bb10_writesRuns_61, bb10_writesRuns_71, bb10_writesRuns_77, cl_1, ca_1, cl_13, ca_13, cl_14, ca_14, cl_16, ca_16, mw_0, mw_1, mw_2, mw_3, mw_4, mw_5, mw_6, mw_7, mw_8, mu_0, mu_1, mu_2, mu_3, mu_4, mu_5, mu_6, mu_7, mu_8, vi_0, vi_1, vi_2, vi_3, vi_4, vi_5, vi_6, b1, b2, br, bn, ev, e1]
        refine ⟨by decide, ?_⟩
        refine sp10_writes hI2 (by rw [List.length_append, List.length_append]; omega) (r % 16) (by omega) _ (fun f3 hI3 => ?_)
        unfold holdL
        simp only [List.getElem?_cons_zero, List.getElem?_cons_succ, fv4, Nat.reduceAdd, Nat.reduceSub, wp, pst, stp, LG, lput, ls_tl, two, bc, EL, pad, popN, csum, Option.toList, List.cons_append, List.nil_append, List.set_cons_zero, List.set_cons_succ, List.length_cons, List.length_nil, true_and, and_true, Nat.reduceLT, Nat.reduceLeDiff, Nat.zero_le, Nat.le_refl, RI_i, RI_z0, RI_z1, Int32.reduceOfInt, Int8.reduceOfInt, Int16.reduceOfInt, Int64.reduceOfInt, Int8.toInt32_ofNat, Int16.toInt32_ofNat, Int.reduceNeg, Int32.ofInt_neg, Int8.ofInt_neg, Int16.ofInt_neg, Int32.toInt64_ofNat, Int32.reduceToNatClampNeg, Fin.isValue, Fin.val_one, Fin.val_zero, Fin.val_two, Int64.reduceOfNat, Int32.reduceOfNat, hdl, cutc, Nat.reduceEqDiff, reduceIte, FV, tyC, tyX0, tyX1, tyX2, tyX3, tyX4, tyX5, tyX6, tyX7, tyX8, tyX9, tyX10, Nat.reduceMul, c_le, c_lt, c_eq, c_in, c_cl, c_add, c_rem, c_ofN, Int32.add_zero, Int32.zero_add, c_lt0, c_ge0, c_le0, c_gt0, c_e0, c_m1, c_m1', false_implies, true_implies, implies_true, not_false_eq_true, not_true_eq_false, Nat.not_lt_zero, up_s, up_1, up_m, ff10_writesRuns, bb10_writesRuns_0, bb10_writesRuns_7, bb10_writesRuns_61, bb10_writesRuns_71, bb10_writesRuns_77, cl_1, ca_1, cl_13, ca_13, cl_14, ca_14, cl_16, ca_16, mw_0, mw_1, mw_2, mw_3, mw_4, mw_5, mw_6, mw_7, mw_8, mu_0, mu_1, mu_2, mu_3, mu_4, mu_5, mu_6, mu_7, mu_8, vi_0, vi_1, vi_2, vi_3, vi_4, vi_5, vi_6, b1]
        exact ih (k + 1) _ _ f3 hd2 (by omega) (by simp only [List.append_assoc] at hc ⊢; exact hc) (by omega) hI3
      · have henc : enc r = [r] := by unfold enc; rw [if_pos (by omega)]
        rw [henc] at hc hsu hCl
        simp only [List.flatMap_cons, List.flatMap_nil, List.append_nil] at hc hCl
        simp only [List.sum_cons, List.sum_nil] at hsu
        refine wp_ok kd10_writesRuns 400 7 bb10_writesRuns_7 _ _ _ _ _ _ oo10_writesRuns_7 ?_
        simp only [List.getElem?_cons_zero, List.getElem?_cons_succ, fv4, Nat.reduceAdd, Nat.reduceSub, wp, pst, stp, LG, lput, ls_tl, two, bc, EL, pad, popN, csum, Option.toList, List.cons_append, List.nil_append, List.set_cons_zero, List.set_cons_succ, List.length_cons, List.length_nil, true_and, and_true, Nat.reduceLT, Nat.reduceLeDiff, Nat.zero_le, Nat.le_refl, RI_i, RI_z0, RI_z1, Int32.reduceOfInt, Int8.reduceOfInt, Int16.reduceOfInt, Int64.reduceOfInt, Int8.toInt32_ofNat, Int16.toInt32_ofNat, Int.reduceNeg, Int32.ofInt_neg, Int8.ofInt_neg, Int16.ofInt_neg, Int32.toInt64_ofNat, Int32.reduceToNatClampNeg, Fin.isValue, Fin.val_one, Fin.val_zero, Fin.val_two, Int64.reduceOfNat, Int32.reduceOfNat, hdl, cutc, Nat.reduceEqDiff, reduceIte, FV, tyC, tyX0, tyX1, tyX2, tyX3, tyX4, tyX5, tyX6, tyX7, tyX8, tyX9, tyX10, Nat.reduceMul, c_le, c_lt, c_eq, c_in, c_cl, c_add, c_rem, c_ofN, Int32.add_zero, Int32.zero_add, c_lt0, c_ge0, c_le0, c_gt0, c_e0, c_m1, c_m1', false_implies, true_implies, implies_true, not_false_eq_true, not_true_eq_false, Nat.not_lt_zero, up_s, up_1, up_m, ff10_writesRuns, bb10_writesRuns_0, bb10_writesRuns_7, bb10_writesRuns_61, bb10_writesRuns_71, bb10_writesRuns_77, cl_1, ca_1, cl_13, ca_13, cl_14, ca_14, cl_16, ca_16, mw_0, mw_1, mw_2, mw_3, mw_4, mw_5, mw_6, mw_7, mw_8, mu_0, mu_1, mu_2, mu_3, mu_4, mu_5, mu_6, mu_7, mu_8, vi_0, vi_1, vi_2, vi_3, vi_4, vi_5, vi_6, b1, b2, br, bn, ev]
        refine ⟨fun hh => absurd hh (by omega), fun _ => ⟨fun _ => ?_, fun hh => absurd hh (by omega)⟩⟩
        refine sp10_writes hI (by omega) r (by omega) s' (fun f1 hI1 => ?_)
        unfold holdL
        simp only [List.getElem?_cons_zero, List.getElem?_cons_succ, fv4, Nat.reduceAdd, Nat.reduceSub, wp, pst, stp, LG, lput, ls_tl, two, bc, EL, pad, popN, csum, Option.toList, List.cons_append, List.nil_append, List.set_cons_zero, List.set_cons_succ, List.length_cons, List.length_nil, true_and, and_true, Nat.reduceLT, Nat.reduceLeDiff, Nat.zero_le, Nat.le_refl, RI_i, RI_z0, RI_z1, Int32.reduceOfInt, Int8.reduceOfInt, Int16.reduceOfInt, Int64.reduceOfInt, Int8.toInt32_ofNat, Int16.toInt32_ofNat, Int.reduceNeg, Int32.ofInt_neg, Int8.ofInt_neg, Int16.ofInt_neg, Int32.toInt64_ofNat, Int32.reduceToNatClampNeg, Fin.isValue, Fin.val_one, Fin.val_zero, Fin.val_two, Int64.reduceOfNat, Int32.reduceOfNat, hdl, cutc, Nat.reduceEqDiff, reduceIte, FV, tyC, tyX0, tyX1, tyX2, tyX3, tyX4, tyX5, tyX6, tyX7, tyX8, tyX9, tyX10, Nat.reduceMul, c_le, c_lt, c_eq, c_in, c_cl, c_add, c_rem, c_ofN, Int32.add_zero, Int32.zero_add, c_lt0, c_ge0, c_le0, c_gt0, c_e0, c_m1, c_m1', false_implies, true_implies, implies_true, not_false_eq_true, not_true_eq_false, Nat.not_lt_zero, up_s, up_1, up_m, ff10_writesRuns, bb10_writesRuns_0, bb10_writesRuns_7, bb10_writesRuns_61, bb10_writesRuns_71, bb10_writesRuns_77, cl_1, ca_1, cl_13, ca_13, cl_14, ca_14, cl_16, ca_16, mw_0, mw_1, mw_2, mw_3, mw_4, mw_5, mw_6, mw_7, mw_8, mu_0, mu_1, mu_2, mu_3, mu_4, mu_5, mu_6, mu_7, mu_8, vi_0, vi_1, vi_2, vi_3, vi_4, vi_5, vi_6, b1]
        exact ih (k + 1) _ _ f1 hd2 (by omega) (by rw [List.append_assoc]; exact hc) (by omega) hI1
  exact key _ 0 C s0 fc rfl (Nat.zero_add _) rfl rfl hC
theorem sp10_codes {L : List Nat} (wd n md : Nat) (h0 : fs 0 = nI wd) (h1w : 1 ≤ wd) (hw : wd ≤ 32) (hL : LinF fs 0 L) (hl : L.length ≤ 10) (oL : LOK L) (hn : n < L.length) (hm : md < 3) (hQ : ∀ rn' fu' fc', IA fc' (code1 wd L n md) → Q (some (.int (nI (clen wd L n md)))) none (mw w m th sm hs ln at_ iw rm (rn') (nI (clen wd L n md)) (nI (n + md + (ker wd (kpx L n md) md).sum)) pl wy px fs fa ft fn fx fr (fu') (fc'))) : Sp Γ m10_codes [.ref m, .int (nI n), .int (nI md)] none (mw w m th sm hs ln at_ iw rm rn cm su pl wy px fs fa ft fn fx fr fu fc) Q := by
  have b1 : n < 2147483648 := by omega
  have b2 : md < 2147483648 := by omega
  have b3 : 8 + n < 2147483648 := by omega
  have b4 : 8 + n < 568 := by omega
  have e := hL.2 n hn
  rw [Nat.zero_add] at e
  have hcl := clen_le wd L n md hw
  have hI0 : IA (upd (upd (upd (upd fc 0 15) 1 0) 2 (nI n)) 3 (nI md)) [15, 0, n, md] := by
    intro j hj
    simp only [List.length_cons, List.length_nil] at hj
    rcases (show j = 0 ∨ j = 1 ∨ j = 2 ∨ j = 3 by omega) with rfl | rfl | rfl | rfl <;> rfl
  have hend : ∀ (K : List Nat) (rn' : Int32) (fu' f : Nat → Int32) (j3 : Option Value), K = ker wd (kpx L n md) md → IA f ([15, 0, n, md] ++ K.flatMap esc) → G Γ m10_codes Q (fun _ _ => False) 93 [some (.ref m), some (.int (nI n)), some (.int (nI md)), j3] [] none (mw w m th sm hs ln at_ iw rm (rn') (nI ([15, 0, n, md] ++ K.flatMap esc).length) (nI (n + md + K.sum)) pl wy px fs fa ft fn fx fr (fu') f) 0 0 := by
    intro K rn' fu' f j3 hK hI
    have hcode : code1 wd L n md = ([15, 0, n, md] ++ K.flatMap esc) ++ [(n + md + K.sum) % 15] := by rw [hK]; rfl
    have hlen : clen wd L n md = ([15, 0, n, md] ++ K.flatMap esc).length + 1 := by unfold clen; rw [hcode, List.length_append]; rfl
    have hI2 := IA_more (v := (n + md + K.sum) % 15) hI
    rw [← hcode] at hI2
    have hq := hQ rn' fu' _ hI2
    rw [hlen, ← hK] at hq
    generalize hZ : [15, 0, n, md] ++ K.flatMap esc = Z at *
    have c1 : Z.length < 2147483648 := by omega
    have c2 : Z.length < 128 := by omega
    have hks : K.sum ≤ 1000 := by
      rw [hK]
      have hk := ker_len wd (kpx L n md) md hw
      have hlt := ker_lt wd (kpx L n md) md h1w hw
      revert hk hlt
      generalize ker wd (kpx L n md) md = K2
      intro hk hlt
      have : ∀ l : List Nat, (∀ k ∈ l, k < 16) → l.sum ≤ 15 * l.length := by
        intro l
        induction l with
        | nil => intro _; simp
        | cons a t ih =>
          intro h
          have h1 := h a List.mem_cons_self
          have h2 := ih (fun k hk => h k (List.mem_cons_of_mem _ hk))
          simp only [List.sum_cons, List.length_cons]
          omega
      have := this K2 hlt
      omega
    have c3 : n + md + K.sum < 2147483648 := by omega
    have e15 : nI (n + md + K.sum) / 15 = nI ((n + md + K.sum) / 15) := c_div (b := 15) c3 (by decide) (by decide)
    refine wp_ok kd10_codes 400 93 bb10_codes_93 _ _ _ _ _ _ oo10_codes_93 ?_
    simp only [List.getElem?_cons_zero, List.getElem?_cons_succ, fv4, Nat.reduceAdd, Nat.reduceSub, wp, pst, stp, LG, lput, ls_tl, two, bc, EL, pad, popN, csum, Option.toList, List.cons_append, List.nil_append, List.set_cons_zero, List.set_cons_succ, List.length_cons, List.length_nil, true_and, and_true, Nat.reduceLT, Nat.reduceLeDiff, Nat.zero_le, Nat.le_refl, RI_i, RI_z0, RI_z1, Int32.reduceOfInt, Int8.reduceOfInt, Int16.reduceOfInt, Int64.reduceOfInt, Int8.toInt32_ofNat, Int16.toInt32_ofNat, Int.reduceNeg, Int32.ofInt_neg, Int8.ofInt_neg, Int16.ofInt_neg, Int32.toInt64_ofNat, Int32.reduceToNatClampNeg, Fin.isValue, Fin.val_one, Fin.val_zero, Fin.val_two, Int64.reduceOfNat, Int32.reduceOfNat, hdl, cutc, Nat.reduceEqDiff, reduceIte, FV, tyC, tyX0, tyX1, tyX2, tyX3, tyX4, tyX5, tyX6, tyX7, tyX8, tyX9, tyX10, Nat.reduceMul, c_le, c_lt, c_eq, c_in, c_cl, c_add, c_rem, c_ofN, Int32.add_zero, Int32.zero_add, c_lt0, c_ge0, c_le0, c_gt0, c_e0, c_m1, c_m1', false_implies, true_implies, implies_true, not_false_eq_true, not_true_eq_false, Nat.not_lt_zero, up_s, up_1, up_m, ff10_codes, bb10_codes_0, bb10_codes_64, bb10_codes_73, bb10_codes_77, bb10_codes_90, bb10_codes_93, cl_1, ca_1, cl_2, ca_2, cl_3, ca_3, cl_4, ca_4, cl_8, ca_8, cl_15, ca_15, mw_0, mw_1, mw_2, mw_3, mw_4, mw_5, mw_6, mw_7, mw_8, mu_0, mu_1, mu_2, mu_3, mu_4, mu_5, mu_6, mu_7, mu_8, vi_0, vi_1, vi_2, vi_3, vi_4, vi_5, vi_6, c1, c2, e15]
    exact ⟨by decide, hq⟩
  have hR : ∀ (z : Nat) (j3 : Option Value), z = kpx L n md → md ≠ 1 → G Γ m10_codes Q (fun _ _ => False) 90 [some (.ref m), some (.int (nI n)), some (.int (nI md)), j3] [.int (nI z), .ref m] none (mw w m th sm hs ln at_ iw rm rn (nI 4) (nI (n + md)) pl wy px fs fa ft fn fx fr fu (upd (upd (upd (upd fc 0 15) 1 0) 2 (nI n)) 3 (nI md))) 0 0 := by
    intro z j3 hz hm1
    refine wp_ok (kd_cut 93 kd10_codes) 400 90 bb10_codes_90 _ _ _ _ _ _ oo10_codes_90 ?_
    simp only [List.getElem?_cons_zero, List.getElem?_cons_succ, fv4, Nat.reduceAdd, Nat.reduceSub, wp, pst, stp, LG, lput, ls_tl, two, bc, EL, pad, popN, csum, Option.toList, List.cons_append, List.nil_append, List.set_cons_zero, List.set_cons_succ, List.length_cons, List.length_nil, true_and, and_true, Nat.reduceLT, Nat.reduceLeDiff, Nat.zero_le, Nat.le_refl, RI_i, RI_z0, RI_z1, Int32.reduceOfInt, Int8.reduceOfInt, Int16.reduceOfInt, Int64.reduceOfInt, Int8.toInt32_ofNat, Int16.toInt32_ofNat, Int.reduceNeg, Int32.ofInt_neg, Int8.ofInt_neg, Int16.ofInt_neg, Int32.toInt64_ofNat, Int32.reduceToNatClampNeg, Fin.isValue, Fin.val_one, Fin.val_zero, Fin.val_two, Int64.reduceOfNat, Int32.reduceOfNat, hdl, cutc, Nat.reduceEqDiff, reduceIte, FV, tyC, tyX0, tyX1, tyX2, tyX3, tyX4, tyX5, tyX6, tyX7, tyX8, tyX9, tyX10, Nat.reduceMul, c_le, c_lt, c_eq, c_in, c_cl, c_add, c_rem, c_ofN, Int32.add_zero, Int32.zero_add, c_lt0, c_ge0, c_le0, c_gt0, c_e0, c_m1, c_m1', false_implies, true_implies, implies_true, not_false_eq_true, not_true_eq_false, Nat.not_lt_zero, up_s, up_1, up_m, ff10_codes, bb10_codes_0, bb10_codes_64, bb10_codes_73, bb10_codes_77, bb10_codes_90, bb10_codes_93, cl_1, ca_1, cl_2, ca_2, cl_3, ca_3, cl_4, ca_4, cl_8, ca_8, cl_15, ca_15, mw_0, mw_1, mw_2, mw_3, mw_4, mw_5, mw_6, mw_7, mw_8, mu_0, mu_1, mu_2, mu_3, mu_4, mu_5, mu_6, mu_7, mu_8, vi_0, vi_1, vi_2, vi_3, vi_4, vi_5, vi_6]
    refine sp10_writesRuns hI0 wd z h0 h1w hw (n + md) (Nat.le_of_ble_eq_true rfl) (fun rn' fu' fc' hI => ?_)
    unfold holdL
    simp only [List.getElem?_cons_zero, List.getElem?_cons_succ, fv4, Nat.reduceAdd, Nat.reduceSub, wp, pst, stp, LG, lput, ls_tl, two, bc, EL, pad, popN, csum, Option.toList, List.cons_append, List.nil_append, List.set_cons_zero, List.set_cons_succ, List.length_cons, List.length_nil, true_and, and_true, Nat.reduceLT, Nat.reduceLeDiff, Nat.zero_le, Nat.le_refl, RI_i, RI_z0, RI_z1, Int32.reduceOfInt, Int8.reduceOfInt, Int16.reduceOfInt, Int64.reduceOfInt, Int8.toInt32_ofNat, Int16.toInt32_ofNat, Int.reduceNeg, Int32.ofInt_neg, Int8.ofInt_neg, Int16.ofInt_neg, Int32.toInt64_ofNat, Int32.reduceToNatClampNeg, Fin.isValue, Fin.val_one, Fin.val_zero, Fin.val_two, Int64.reduceOfNat, Int32.reduceOfNat, hdl, cutc, Nat.reduceEqDiff, reduceIte, FV, tyC, tyX0, tyX1, tyX2, tyX3, tyX4, tyX5, tyX6, tyX7, tyX8, tyX9, tyX10, Nat.reduceMul, c_le, c_lt, c_eq, c_in, c_cl, c_add, c_rem, c_ofN, Int32.add_zero, Int32.zero_add, c_lt0, c_ge0, c_le0, c_gt0, c_e0, c_m1, c_m1', false_implies, true_implies, implies_true, not_false_eq_true, not_true_eq_false, Nat.not_lt_zero, up_s, up_1, up_m, ff10_codes, bb10_codes_0, bb10_codes_64, bb10_codes_73, bb10_codes_77, bb10_codes_90, bb10_codes_93, cl_1, ca_1, cl_2, ca_2, cl_3, ca_3, cl_4, ca_4, cl_8, ca_8, cl_15, ca_15, mw_0, mw_1, mw_2, mw_3, mw_4, mw_5, mw_6, mw_7, mw_8, mu_0, mu_1, mu_2, mu_3, mu_4, mu_5, mu_6, mu_7, mu_8, vi_0, vi_1, vi_2, vi_3, vi_4, vi_5, vi_6]
    exact hend _ rn' fu' fc' j3 (by unfold ker; rw [if_neg hm1, hz]) hI
  by_cases hm1 : md = 1
  · subst hm1
    have hk : kpx L n 1 = L.getD n 0 := rfl
    refine entry Γ m10_codes rfl _ (Nat.le_of_ble_eq_true rfl) _ _ _ ?_
    refine wp_ok (kd_cut 93 kd10_codes) 400 0 bb10_codes_0 _ _ _ _ _ _ oo10_codes_0 ?_
    simp only [List.getElem?_cons_zero, List.getElem?_cons_succ, fv4, Nat.reduceAdd, Nat.reduceSub, wp, pst, stp, LG, lput, ls_tl, two, bc, EL, pad, popN, csum, Option.toList, List.cons_append, List.nil_append, List.set_cons_zero, List.set_cons_succ, List.length_cons, List.length_nil, true_and, and_true, Nat.reduceLT, Nat.reduceLeDiff, Nat.zero_le, Nat.le_refl, RI_i, RI_z0, RI_z1, Int32.reduceOfInt, Int8.reduceOfInt, Int16.reduceOfInt, Int64.reduceOfInt, Int8.toInt32_ofNat, Int16.toInt32_ofNat, Int.reduceNeg, Int32.ofInt_neg, Int8.ofInt_neg, Int16.ofInt_neg, Int32.toInt64_ofNat, Int32.reduceToNatClampNeg, Fin.isValue, Fin.val_one, Fin.val_zero, Fin.val_two, Int64.reduceOfNat, Int32.reduceOfNat, hdl, cutc, Nat.reduceEqDiff, reduceIte, FV, tyC, tyX0, tyX1, tyX2, tyX3, tyX4, tyX5, tyX6, tyX7, tyX8, tyX9, tyX10, Nat.reduceMul, c_le, c_lt, c_eq, c_in, c_cl, c_add, c_rem, c_ofN, Int32.add_zero, Int32.zero_add, c_lt0, c_ge0, c_le0, c_gt0, c_e0, c_m1, c_m1', false_implies, true_implies, implies_true, not_false_eq_true, not_true_eq_false, Nat.not_lt_zero, up_s, up_1, up_m, ff10_codes, bb10_codes_0, bb10_codes_64, bb10_codes_73, bb10_codes_77, bb10_codes_90, bb10_codes_93, cl_1, ca_1, cl_2, ca_2, cl_3, ca_3, cl_4, ca_4, cl_8, ca_8, cl_15, ca_15, mw_0, mw_1, mw_2, mw_3, mw_4, mw_5, mw_6, mw_7, mw_8, mu_0, mu_1, mu_2, mu_3, mu_4, mu_5, mu_6, mu_7, mu_8, vi_0, vi_1, vi_2, vi_3, vi_4, vi_5, vi_6, b1, b2, b3, b4, e, vj_0, vj_1, vj_2, vj_3]
    refine sp10_writesFours (C := [15, 0, n, 1]) hI0 wd (L.getD n 0) h0 hw (oL n) (n + 1) (Nat.le_of_ble_eq_true rfl) (fun fc' hI => ?_)
    unfold holdL
    simp only [List.getElem?_cons_zero, List.getElem?_cons_succ, fv4, Nat.reduceAdd, Nat.reduceSub, wp, pst, stp, LG, lput, ls_tl, two, bc, EL, pad, popN, csum, Option.toList, List.cons_append, List.nil_append, List.set_cons_zero, List.set_cons_succ, List.length_cons, List.length_nil, true_and, and_true, Nat.reduceLT, Nat.reduceLeDiff, Nat.zero_le, Nat.le_refl, RI_i, RI_z0, RI_z1, Int32.reduceOfInt, Int8.reduceOfInt, Int16.reduceOfInt, Int64.reduceOfInt, Int8.toInt32_ofNat, Int16.toInt32_ofNat, Int.reduceNeg, Int32.ofInt_neg, Int8.ofInt_neg, Int16.ofInt_neg, Int32.toInt64_ofNat, Int32.reduceToNatClampNeg, Fin.isValue, Fin.val_one, Fin.val_zero, Fin.val_two, Int64.reduceOfNat, Int32.reduceOfNat, hdl, cutc, Nat.reduceEqDiff, reduceIte, FV, tyC, tyX0, tyX1, tyX2, tyX3, tyX4, tyX5, tyX6, tyX7, tyX8, tyX9, tyX10, Nat.reduceMul, c_le, c_lt, c_eq, c_in, c_cl, c_add, c_rem, c_ofN, Int32.add_zero, Int32.zero_add, c_lt0, c_ge0, c_le0, c_gt0, c_e0, c_m1, c_m1', false_implies, true_implies, implies_true, not_false_eq_true, not_true_eq_false, Nat.not_lt_zero, up_s, up_1, up_m, ff10_codes, bb10_codes_0, bb10_codes_64, bb10_codes_73, bb10_codes_77, bb10_codes_90, bb10_codes_93, cl_1, ca_1, cl_2, ca_2, cl_3, ca_3, cl_4, ca_4, cl_8, ca_8, cl_15, ca_15, mw_0, mw_1, mw_2, mw_3, mw_4, mw_5, mw_6, mw_7, mw_8, mu_0, mu_1, mu_2, mu_3, mu_4, mu_5, mu_6, mu_7, mu_8, vi_0, vi_1, vi_2, vi_3, vi_4, vi_5, vi_6]
    exact hend _ rn fu fc' _ (by unfold ker; rw [if_pos rfl, hk]) hI
  · by_cases hm0 : md = 0 ∨ n = 0
    · have hk : L.getD n 0 = kpx L n md := by
        unfold kpx
        rcases hm0 with h | h
        · rw [if_neg (by omega)]
        · rw [if_pos h, Nat.xor_zero, ite_self]
      have hr := fun j3 => hR _ j3 hk hm1
      refine entry Γ m10_codes rfl _ (Nat.le_of_ble_eq_true rfl) _ _ _ ?_
      refine wp_ok (kd_cut 90 kd10_codes) 400 0 bb10_codes_0 _ _ _ _ _ _ oo10_codes_0 ?_
      simp only [List.getElem?_cons_zero, List.getElem?_cons_succ, fv4, Nat.reduceAdd, Nat.reduceSub, wp, pst, stp, LG, lput, ls_tl, two, bc, EL, pad, popN, csum, Option.toList, List.cons_append, List.nil_append, List.set_cons_zero, List.set_cons_succ, List.length_cons, List.length_nil, true_and, and_true, Nat.reduceLT, Nat.reduceLeDiff, Nat.zero_le, Nat.le_refl, RI_i, RI_z0, RI_z1, Int32.reduceOfInt, Int8.reduceOfInt, Int16.reduceOfInt, Int64.reduceOfInt, Int8.toInt32_ofNat, Int16.toInt32_ofNat, Int.reduceNeg, Int32.ofInt_neg, Int8.ofInt_neg, Int16.ofInt_neg, Int32.toInt64_ofNat, Int32.reduceToNatClampNeg, Fin.isValue, Fin.val_one, Fin.val_zero, Fin.val_two, Int64.reduceOfNat, Int32.reduceOfNat, hdl, cutc, Nat.reduceEqDiff, reduceIte, FV, tyC, tyX0, tyX1, tyX2, tyX3, tyX4, tyX5, tyX6, tyX7, tyX8, tyX9, tyX10, Nat.reduceMul, c_le, c_lt, c_eq, c_in, c_cl, c_add, c_rem, c_ofN, Int32.add_zero, Int32.zero_add, c_lt0, c_ge0, c_le0, c_gt0, c_e0, c_m1, c_m1', false_implies, true_implies, implies_true, not_false_eq_true, not_true_eq_false, Nat.not_lt_zero, up_s, up_1, up_m, ff10_codes, bb10_codes_0, bb10_codes_64, bb10_codes_73, bb10_codes_77, bb10_codes_90, bb10_codes_93, cl_1, ca_1, cl_2, ca_2, cl_3, ca_3, cl_4, ca_4, cl_8, ca_8, cl_15, ca_15, mw_0, mw_1, mw_2, mw_3, mw_4, mw_5, mw_6, mw_7, mw_8, mu_0, mu_1, mu_2, mu_3, mu_4, mu_5, mu_6, mu_7, mu_8, vi_0, vi_1, vi_2, vi_3, vi_4, vi_5, vi_6, b1, b2, b3, b4, e, vj_0, vj_1, vj_2, vj_3]
      exact ⟨fun _ => ⟨fun _ => hr _, fun q1 => ⟨fun q2 => absurd hm0 (by omega), fun _ => hr _⟩⟩, fun hh => absurd (Classical.not_not.mp hh) hm1⟩
    · have hk : L.getD n 0 ^^^ L.getD (n - 1) 0 = kpx L n md := by
        unfold kpx
        rw [if_pos (by omega), if_neg (by omega)]
      have hr := fun j3 => hR _ j3 hk hm1
      have e' := hL.2 (n - 1) (by omega)
      rw [Nat.zero_add] at e'
      have en : nI (8 + n) - 1 = nI (8 + (n - 1)) := by rw [show 8 + (n - 1) = 8 + n - 1 by omega]; exact c_subr (a := 8 + n) (b := 1) (by omega)
      have b5 : 8 + (n - 1) < 2147483648 := by omega
      have b6 : 8 + (n - 1) < 568 := by omega
      refine entry Γ m10_codes rfl _ (Nat.le_of_ble_eq_true rfl) _ _ _ ?_
      refine wp_ok (kd_cut 90 kd10_codes) 400 0 bb10_codes_0 _ _ _ _ _ _ oo10_codes_0 ?_
      simp only [List.getElem?_cons_zero, List.getElem?_cons_succ, fv4, Nat.reduceAdd, Nat.reduceSub, wp, pst, stp, LG, lput, ls_tl, two, bc, EL, pad, popN, csum, Option.toList, List.cons_append, List.nil_append, List.set_cons_zero, List.set_cons_succ, List.length_cons, List.length_nil, true_and, and_true, Nat.reduceLT, Nat.reduceLeDiff, Nat.zero_le, Nat.le_refl, RI_i, RI_z0, RI_z1, Int32.reduceOfInt, Int8.reduceOfInt, Int16.reduceOfInt, Int64.reduceOfInt, Int8.toInt32_ofNat, Int16.toInt32_ofNat, Int.reduceNeg, Int32.ofInt_neg, Int8.ofInt_neg, Int16.ofInt_neg, Int32.toInt64_ofNat, Int32.reduceToNatClampNeg, Fin.isValue, Fin.val_one, Fin.val_zero, Fin.val_two, Int64.reduceOfNat, Int32.reduceOfNat, hdl, cutc, Nat.reduceEqDiff, reduceIte, FV, tyC, tyX0, tyX1, tyX2, tyX3, tyX4, tyX5, tyX6, tyX7, tyX8, tyX9, tyX10, Nat.reduceMul, c_le, c_lt, c_eq, c_in, c_cl, c_add, c_rem, c_ofN, Int32.add_zero, Int32.zero_add, c_lt0, c_ge0, c_le0, c_gt0, c_e0, c_m1, c_m1', false_implies, true_implies, implies_true, not_false_eq_true, not_true_eq_false, Nat.not_lt_zero, up_s, up_1, up_m, ff10_codes, bb10_codes_0, bb10_codes_64, bb10_codes_73, bb10_codes_77, bb10_codes_90, bb10_codes_93, cl_1, ca_1, cl_2, ca_2, cl_3, ca_3, cl_4, ca_4, cl_8, ca_8, cl_15, ca_15, mw_0, mw_1, mw_2, mw_3, mw_4, mw_5, mw_6, mw_7, mw_8, mu_0, mu_1, mu_2, mu_3, mu_4, mu_5, mu_6, mu_7, mu_8, vi_0, vi_1, vi_2, vi_3, vi_4, vi_5, vi_6, b1, b2, b3, b4, b5, b6, e, e', en, vj_0, vj_1, vj_2, vj_3, fb_xorI]
      exact ⟨fun _ => ⟨fun q1 => absurd (Or.inl q1) hm0, fun q1 => ⟨fun q2 => hr _, fun q2 => absurd (Or.inr (Classical.not_not.mp q2)) hm0⟩⟩, fun hh => absurd (Classical.not_not.mp hh) hm1⟩
end MC

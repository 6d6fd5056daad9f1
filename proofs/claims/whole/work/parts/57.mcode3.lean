/-! THE MODEL'S CODES: the shortest, what is sent -/
theorem snoc_get {l : List Nat} {a j : Nat} (hj : j < l.length + 1) : (l ++ [a]).getD j 0 = if j = l.length then a else l.getD j 0 := by
  rw [List.getD_eq_getElem?_getD]
  split
  · rename_i h
    rw [h, List.getElem?_append_right (Nat.le_refl _), Nat.sub_self]; rfl
  · rw [List.getElem?_append_left (by omega), List.getD_eq_getElem?_getD]
section MC
variable {Γ : Amb} {w : PW} {Q : Option Value → Option Nat → PW → Prop} {m : Nat} {th sm hs ln at_ iw rm rn cm su pl wy px : Int32} {fs fa ft fn fx fr fu fc : Nat → Int32}
theorem ksum_le (wd n md : Nat) (L : List Nat) (h1w : 1 ≤ wd) (hw : wd ≤ 32) : (ker wd (kpx L n md) md).sum ≤ 1000 := by
  have hk := ker_len wd (kpx L n md) md hw
  have hlt := ker_lt wd (kpx L n md) md h1w hw
  revert hk hlt
  generalize ker wd (kpx L n md) md = K2
  intro hk hlt
  have : ∀ l : List Nat, (∀ k ∈ l, k < 16) → l.sum ≤ 15 * l.length := by
    intro l
    induction l with
    | nil => intro _; simp
    | cons a t ih =>
      intro h
      have h1 := h a List.mem_cons_self
      have h2 := ih (fun k hk => h k (List.mem_cons_of_mem _ hk))
      simp only [List.sum_cons, List.length_cons]
      omega
  have := this K2 hlt
  omega
theorem sp10_check {L : List Nat} (wd n md : Nat) (h0 : fs 0 = nI wd) (h1w : 1 ≤ wd) (hw : wd ≤ 32) (hL : LinF fs 0 L) (hl : L.length ≤ 10) (oL : LOK L) (hn : n < L.length) (hm : md < 3) (hQ : ∀ rn' cm' su' fu' fc', Q (some (.int (nI (chk wd L n md)))) none (mw w m th sm hs ln at_ iw rm (rn') (cm') (su') pl wy px fs fa ft fn fx fr (fu') (fc'))) : Sp Γ m10_check [.ref m, .int (nI n), .int (nI md)] none (mw w m th sm hs ln at_ iw rm rn cm su pl wy px fs fa ft fn fx fr fu fc) Q := by
  have hks := ksum_le wd n md L h1w hw
  have c3 : n + md + (ker wd (kpx L n md) md).sum < 2147483648 := by omega
  have e15 : nI (n + md + (ker wd (kpx L n md) md).sum) / 15 = nI ((n + md + (ker wd (kpx L n md) md).sum) / 15) := c_div (b := 15) c3 (by decide) (by decide)
  refine entry Γ m10_check rfl _ (Nat.le_of_ble_eq_true rfl) _ _ _ ?_
  refine wp_ok kd10_check 400 0 bb10_check_0 _ _ _ _ _ _ oo10_check_0 ?_
  simp only [List.getElem?_cons_zero, List.getElem?_cons_succ, fv4, Nat.reduceAdd, Nat.reduceSub, wp, pst, stp, LG, lput, ls_tl, two, bc, EL, pad, popN, csum, Option.toList, List.cons_append, List.nil_append, List.set_cons_zero, List.set_cons_succ, List.length_cons, List.length_nil, true_and, and_true, Nat.reduceLT, Nat.reduceLeDiff, Nat.zero_le, Nat.le_refl, RI_i, RI_z0, RI_z1, Int32.reduceOfInt, Int8.reduceOfInt, Int16.reduceOfInt, Int64.reduceOfInt, Int8.toInt32_ofNat, Int16.toInt32_ofNat, Int.reduceNeg, Int32.ofInt_neg, Int8.ofInt_neg, Int16.ofInt_neg, Int32.toInt64_ofNat, Int32.reduceToNatClampNeg, Fin.isValue, Fin.val_one, Fin.val_zero, Fin.val_two, Int64.reduceOfNat, Int32.reduceOfNat, hdl, cutc, Nat.reduceEqDiff, reduceIte, FV, tyC, tyX0, tyX1, tyX2, tyX3, tyX4, tyX5, tyX6, tyX7, tyX8, tyX9, tyX10, Nat.reduceMul, c_le, c_lt, c_eq, c_in, c_cl, c_add, c_rem, c_ofN, Int32.add_zero, Int32.zero_add, c_lt0, c_ge0, c_le0, c_gt0, c_e0, c_m1, c_m1', false_implies, true_implies, implies_true, not_false_eq_true, not_true_eq_false, Nat.not_lt_zero, up_s, up_1, up_m, ff10_check, bb10_check_0, cl_15, ca_15, mw_0, mw_1, mw_2, mw_3, mw_4, mw_5, mw_6, mw_7, mw_8, mu_0, mu_1, mu_2, mu_3, mu_4, mu_5, mu_6, mu_7, mu_8, vi_0, vi_1, vi_2, vi_3, vi_4, vi_5, vi_6]
  refine sp10_codes wd n md h0 h1w hw hL hl oL hn hm (fun rn' fu' fc' _ => ?_)
  unfold holdL
  simp only [List.getElem?_cons_zero, List.getElem?_cons_succ, fv4, Nat.reduceAdd, Nat.reduceSub, wp, pst, stp, LG, lput, ls_tl, two, bc, EL, pad, popN, csum, Option.toList, List.cons_append, List.nil_append, List.set_cons_zero, List.set_cons_succ, List.length_cons, List.length_nil, true_and, and_true, Nat.reduceLT, Nat.reduceLeDiff, Nat.zero_le, Nat.le_refl, RI_i, RI_z0, RI_z1, Int32.reduceOfInt, Int8.reduceOfInt, Int16.reduceOfInt, Int64.reduceOfInt, Int8.toInt32_ofNat, Int16.toInt32_ofNat, Int.reduceNeg, Int32.ofInt_neg, Int8.ofInt_neg, Int16.ofInt_neg, Int32.toInt64_ofNat, Int32.reduceToNatClampNeg, Fin.isValue, Fin.val_one, Fin.val_zero, Fin.val_two, Int64.reduceOfNat, Int32.reduceOfNat, hdl, cutc, Nat.reduceEqDiff, reduceIte, FV, tyC, tyX0, tyX1, tyX2, tyX3, tyX4, tyX5, tyX6, tyX7, tyX8, tyX9, tyX10, Nat.reduceMul, c_le, c_lt, c_eq, c_in, c_cl, c_add, c_rem, c_ofN, Int32.add_zero, Int32.zero_add, c_lt0, c_ge0, c_le0, c_gt0, c_e0, c_m1, c_m1', false_implies, true_implies, implies_true, not_false_eq_true, not_true_eq_false, Nat.not_lt_zero, up_s, up_1, up_m, ff10_check, bb10_check_0, cl_15, ca_15, mw_0, mw_1, mw_2, mw_3, mw_4, mw_5, mw_6, mw_7, mw_8, mu_0, mu_1, mu_2, mu_3, mu_4, mu_5, mu_6, mu_7, mu_8, vi_0, vi_1, vi_2, vi_3, vi_4, vi_5, vi_6, e15]
  exact ⟨by decide, hQ _ _ _ _ _⟩
theorem sp10_bestMode {L : List Nat} (wd sy n : Nat) (h0 : fs 0 = nI wd) (h1 : fs 1 = nI sy) (hsy : sy ≤ 3) (h1w : 1 ≤ wd) (hw : wd ≤ 32) (hL : LinF fs 0 L) (hl : L.length ≤ 10) (oL : LOK L) (hn : n < L.length) (hQ : ∀ rn' cm' su' fu' fc', Q (some (.int (nI (if sy = 3 then bestM wd L n else sy)))) none (mw w m th sm hs ln at_ iw rm (rn') (cm') (su') pl wy px fs fa ft fn fx fr (fu') (fc'))) : Sp Γ m10_bestMode [.ref m, .int (nI n)] none (mw w m th sm hs ln at_ iw rm rn cm su pl wy px fs fa ft fn fx fr fu fc) Q := by
  have b1 : n < 2147483648 := by omega
  have bs : sy < 2147483648 := by omega
  have c0 := clen_le wd L n 0 hw
  have c1 := clen_le wd L n 1 hw
  have c2 := clen_le wd L n 2 hw
  have hend : ∀ (b : Nat) (rn cm su : Int32) (fu fc : Nat → Int32), b = bestM wd L n → G Γ m10_bestMode Q (fun _ _ => False) 4 [some (.ref m), some (.int (nI n)), some (.int (nI b)), some (.int (nI 3))] [] none (mw w m th sm hs ln at_ iw rm rn cm su pl wy px fs fa ft fn fx fr fu fc) 0 0 := by
    intro b rn cm su fu fc hb
    have hq := hQ rn cm su fu fc
    refine wp_ok kd10_bestMode 400 4 bb10_bestMode_4 _ _ _ _ _ _ oo10_bestMode_4 ?_
    simp only [List.getElem?_cons_zero, List.getElem?_cons_succ, fv4, Nat.reduceAdd, Nat.reduceSub, wp, pst, stp, LG, lput, ls_tl, two, bc, EL, pad, popN, csum, Option.toList, List.cons_append, List.nil_append, List.set_cons_zero, List.set_cons_succ, List.length_cons, List.length_nil, true_and, and_true, Nat.reduceLT, Nat.reduceLeDiff, Nat.zero_le, Nat.le_refl, RI_i, RI_z0, RI_z1, Int32.reduceOfInt, Int8.reduceOfInt, Int16.reduceOfInt, Int64.reduceOfInt, Int8.toInt32_ofNat, Int16.toInt32_ofNat, Int.reduceNeg, Int32.ofInt_neg, Int8.ofInt_neg, Int16.ofInt_neg, Int32.toInt64_ofNat, Int32.reduceToNatClampNeg, Fin.isValue, Fin.val_one, Fin.val_zero, Fin.val_two, Int64.reduceOfNat, Int32.reduceOfNat, hdl, cutc, Nat.reduceEqDiff, reduceIte, FV, tyC, tyX0, tyX1, tyX2, tyX3, tyX4, tyX5, tyX6, tyX7, tyX8, tyX9, tyX10, Nat.reduceMul, c_le, c_lt, c_eq, c_in, c_cl, c_add, c_rem, c_ofN, Int32.add_zero, Int32.zero_add, c_lt0, c_ge0, c_le0, c_gt0, c_e0, c_m1, c_m1', false_implies, true_implies, implies_true, not_false_eq_true, not_true_eq_false, Nat.not_lt_zero, up_s, up_1, up_m, ff10_bestMode, bb10_bestMode_0, bb10_bestMode_4, bb10_bestMode_28, bb10_bestMode_29, bb10_bestMode_36, bb10_bestMode_55, bb10_bestMode_56, cl_1, ca_1, cl_3, ca_3, mw_0, mw_1, mw_2, mw_3, mw_4, mw_5, mw_6, mw_7, mw_8, mu_0, mu_1, mu_2, mu_3, mu_4, mu_5, mu_6, mu_7, mu_8, vi_0, vi_1, vi_2, vi_3, vi_4, vi_5, vi_6, h1, bs]
    refine ⟨fun hh => ?_, fun hh => ?_⟩
    · rw [if_pos (by omega), ← hb] at hq; exact hq
    · rw [if_neg (by omega)] at hq; exact hq
  have step : ∀ (md b : Nat) (rn cm su : Int32) (fu fc : Nat → Int32), md < 3 → b < 3 → (clen wd L n md < clen wd L n b → ∀ rn cm su fu fc, G Γ m10_bestMode Q (fun _ _ => False) 4 [some (.ref m), some (.int (nI n)), some (.int (nI md)), some (.int (nI (md + 1)))] [] none (mw w m th sm hs ln at_ iw rm rn cm su pl wy px fs fa ft fn fx fr fu fc) 0 0) → (¬clen wd L n md < clen wd L n b → ∀ rn cm su fu fc, G Γ m10_bestMode Q (fun _ _ => False) 4 [some (.ref m), some (.int (nI n)), some (.int (nI b)), some (.int (nI (md + 1)))] [] none (mw w m th sm hs ln at_ iw rm rn cm su pl wy px fs fa ft fn fx fr fu fc) 0 0) → G Γ m10_bestMode Q (fun _ _ => False) 4 [some (.ref m), some (.int (nI n)), some (.int (nI b)), some (.int (nI md))] [] none (mw w m th sm hs ln at_ iw rm rn cm su pl wy px fs fa ft fn fx fr fu fc) 0 0 := by
    intro md b rn cm su fu fc hmd hb hy hno
    have d1 : md < 2147483648 := by omega
    have d2 := clen_le wd L n md hw
    have d3 := clen_le wd L n b hw
    have d4 : clen wd L n md < 2147483648 := by omega
    have d5 : clen wd L n b < 2147483648 := by omega
    refine wp_ok kd10_bestMode 400 4 bb10_bestMode_4 _ _ _ _ _ _ oo10_bestMode_4 ?_
    simp only [List.getElem?_cons_zero, List.getElem?_cons_succ, fv4, Nat.reduceAdd, Nat.reduceSub, wp, pst, stp, LG, lput, ls_tl, two, bc, EL, pad, popN, csum, Option.toList, List.cons_append, List.nil_append, List.set_cons_zero, List.set_cons_succ, List.length_cons, List.length_nil, true_and, and_true, Nat.reduceLT, Nat.reduceLeDiff, Nat.zero_le, Nat.le_refl, RI_i, RI_z0, RI_z1, Int32.reduceOfInt, Int8.reduceOfInt, Int16.reduceOfInt, Int64.reduceOfInt, Int8.toInt32_ofNat, Int16.toInt32_ofNat, Int.reduceNeg, Int32.ofInt_neg, Int8.ofInt_neg, Int16.ofInt_neg, Int32.toInt64_ofNat, Int32.reduceToNatClampNeg, Fin.isValue, Fin.val_one, Fin.val_zero, Fin.val_two, Int64.reduceOfNat, Int32.reduceOfNat, hdl, cutc, Nat.reduceEqDiff, reduceIte, FV, tyC, tyX0, tyX1, tyX2, tyX3, tyX4, tyX5, tyX6, tyX7, tyX8, tyX9, tyX10, Nat.reduceMul, c_le, c_lt, c_eq, c_in, c_cl, c_add, c_rem, c_ofN, Int32.add_zero, Int32.zero_add, c_lt0, c_ge0, c_le0, c_gt0, c_e0, c_m1, c_m1', false_implies, true_implies, implies_true, not_false_eq_true, not_true_eq_false, Nat.not_lt_zero, up_s, up_1, up_m, ff10_bestMode, bb10_bestMode_0, bb10_bestMode_4, bb10_bestMode_28, bb10_bestMode_29, bb10_bestMode_36, bb10_bestMode_55, bb10_bestMode_56, cl_1, ca_1, cl_3, ca_3, mw_0, mw_1, mw_2, mw_3, mw_4, mw_5, mw_6, mw_7, mw_8, mu_0, mu_1, mu_2, mu_3, mu_4, mu_5, mu_6, mu_7, mu_8, vi_0, vi_1, vi_2, vi_3, vi_4, vi_5, vi_6, d1]
    refine ⟨fun hh => absurd hh (by omega), fun _ => ?_⟩
    refine sp10_codes wd n md h0 h1w hw hL hl oL hn hmd (fun rn' fu' fc' _ => ?_)
    unfold holdL
    simp only [List.getElem?_cons_zero, List.getElem?_cons_succ, fv4, Nat.reduceAdd, Nat.reduceSub, wp, pst, stp, LG, lput, ls_tl, two, bc, EL, pad, popN, csum, Option.toList, List.cons_append, List.nil_append, List.set_cons_zero, List.set_cons_succ, List.length_cons, List.length_nil, true_and, and_true, Nat.reduceLT, Nat.reduceLeDiff, Nat.zero_le, Nat.le_refl, RI_i, RI_z0, RI_z1, Int32.reduceOfInt, Int8.reduceOfInt, Int16.reduceOfInt, Int64.reduceOfInt, Int8.toInt32_ofNat, Int16.toInt32_ofNat, Int.reduceNeg, Int32.ofInt_neg, Int8.ofInt_neg, Int16.ofInt_neg, Int32.toInt64_ofNat, Int32.reduceToNatClampNeg, Fin.isValue, Fin.val_one, Fin.val_zero, Fin.val_two, Int64.reduceOfNat, Int32.reduceOfNat, hdl, cutc, Nat.reduceEqDiff, reduceIte, FV, tyC, tyX0, tyX1, tyX2, tyX3, tyX4, tyX5, tyX6, tyX7, tyX8, tyX9, tyX10, Nat.reduceMul, c_le, c_lt, c_eq, c_in, c_cl, c_add, c_rem, c_ofN, Int32.add_zero, Int32.zero_add, c_lt0, c_ge0, c_le0, c_gt0, c_e0, c_m1, c_m1', false_implies, true_implies, implies_true, not_false_eq_true, not_true_eq_false, Nat.not_lt_zero, up_s, up_1, up_m, ff10_bestMode, bb10_bestMode_0, bb10_bestMode_4, bb10_bestMode_28, bb10_bestMode_29, bb10_bestMode_36, bb10_bestMode_55, bb10_bestMode_56, cl_1, ca_1, cl_3, ca_3, mw_0, mw_1, mw_2, mw_3, mw_4, mw_5, mw_6, mw_7, mw_8, mu_0, mu_1, mu_2, mu_3, mu_4, mu_5, mu_6, mu_7, mu_8, vi_0, vi_1, vi_2, vi_3, vi_4, vi_5, vi_6]
    refine sp10_codes wd n b h0 h1w hw hL hl oL hn hb (fun rn2 fu2 fc2 _ => ?_)
    unfold holdL
    simp only [List.getElem?_cons_zero, List.getElem?_cons_succ, fv4, Nat.reduceAdd, Nat.reduceSub, wp, pst, stp, LG, lput, ls_tl, two, bc, EL, pad, popN, csum, Option.toList, List.cons_append, List.nil_append, List.set_cons_zero, List.set_cons_succ, List.length_cons, List.length_nil, true_and, and_true, Nat.reduceLT, Nat.reduceLeDiff, Nat.zero_le, Nat.le_refl, RI_i, RI_z0, RI_z1, Int32.reduceOfInt, Int8.reduceOfInt, Int16.reduceOfInt, Int64.reduceOfInt, Int8.toInt32_ofNat, Int16.toInt32_ofNat, Int.reduceNeg, Int32.ofInt_neg, Int8.ofInt_neg, Int16.ofInt_neg, Int32.toInt64_ofNat, Int32.reduceToNatClampNeg, Fin.isValue, Fin.val_one, Fin.val_zero, Fin.val_two, Int64.reduceOfNat, Int32.reduceOfNat, hdl, cutc, Nat.reduceEqDiff, reduceIte, FV, tyC, tyX0, tyX1, tyX2, tyX3, tyX4, tyX5, tyX6, tyX7, tyX8, tyX9, tyX10, Nat.reduceMul, c_le, c_lt, c_eq, c_in, c_cl, c_add, c_rem, c_ofN, Int32.add_zero, Int32.zero_add, c_lt0, c_ge0, c_le0, c_gt0, c_e0, c_m1, c_m1', false_implies, true_implies, implies_true, not_false_eq_true, not_true_eq_false, Nat.not_lt_zero, up_s, up_1, up_m, ff10_bestMode, bb10_bestMode_0, bb10_bestMode_4, bb10_bestMode_28, bb10_bestMode_29, bb10_bestMode_36, bb10_bestMode_55, bb10_bestMode_56, cl_1, ca_1, cl_3, ca_3, mw_0, mw_1, mw_2, mw_3, mw_4, mw_5, mw_6, mw_7, mw_8, mu_0, mu_1, mu_2, mu_3, mu_4, mu_5, mu_6, mu_7, mu_8, vi_0, vi_1, vi_2, vi_3, vi_4, vi_5, vi_6, d1, d4, d5]
    exact ⟨fun hh => hno (by omega) _ _ _ _ _, fun hh => hy (by omega) _ _ _ _ _⟩
  have hr := step 1 0 rn cm su fu fc (by decide) (by decide)
    (fun k1 rn cm su fu fc => step 2 1 rn cm su fu fc (by decide) (by decide) (fun k2 rn cm su fu fc => hend 2 rn cm su fu fc (by rw [bestM, if_pos (by omega)])) (fun k2 rn cm su fu fc => hend 1 rn cm su fu fc (by rw [bestM, if_neg (by omega), if_pos k1])))
    (fun k1 rn cm su fu fc => step 2 0 rn cm su fu fc (by decide) (by decide) (fun k2 rn cm su fu fc => hend 2 rn cm su fu fc (by rw [bestM, if_pos (by omega)])) (fun k2 rn cm su fu fc => hend 0 rn cm su fu fc (by rw [bestM, if_neg (by omega), if_neg k1])))
  refine entry Γ m10_bestMode rfl _ (Nat.le_of_ble_eq_true rfl) _ _ _ ?_
  refine wp_ok kd10_bestMode 400 0 bb10_bestMode_0 _ _ _ _ _ _ oo10_bestMode_0 ?_
  simp only [List.getElem?_cons_zero, List.getElem?_cons_succ, fv4, Nat.reduceAdd, Nat.reduceSub, wp, pst, stp, LG, lput, ls_tl, two, bc, EL, pad, popN, csum, Option.toList, List.cons_append, List.nil_append, List.set_cons_zero, List.set_cons_succ, List.length_cons, List.length_nil, true_and, and_true, Nat.reduceLT, Nat.reduceLeDiff, Nat.zero_le, Nat.le_refl, RI_i, RI_z0, RI_z1, Int32.reduceOfInt, Int8.reduceOfInt, Int16.reduceOfInt, Int64.reduceOfInt, Int8.toInt32_ofNat, Int16.toInt32_ofNat, Int.reduceNeg, Int32.ofInt_neg, Int8.ofInt_neg, Int16.ofInt_neg, Int32.toInt64_ofNat, Int32.reduceToNatClampNeg, Fin.isValue, Fin.val_one, Fin.val_zero, Fin.val_two, Int64.reduceOfNat, Int32.reduceOfNat, hdl, cutc, Nat.reduceEqDiff, reduceIte, FV, tyC, tyX0, tyX1, tyX2, tyX3, tyX4, tyX5, tyX6, tyX7, tyX8, tyX9, tyX10, Nat.reduceMul, c_le, c_lt, c_eq, c_in, c_cl, c_add, c_rem, c_ofN, Int32.add_zero, Int32.zero_add, c_lt0, c_ge0, c_le0, c_gt0, c_e0, c_m1, c_m1', false_implies, true_implies, implies_true, not_false_eq_true, not_true_eq_false, Nat.not_lt_zero, up_s, up_1, up_m, ff10_bestMode, bb10_bestMode_0, bb10_bestMode_4, bb10_bestMode_28, bb10_bestMode_29, bb10_bestMode_36, bb10_bestMode_55, bb10_bestMode_56, cl_1, ca_1, cl_3, ca_3, mw_0, mw_1, mw_2, mw_3, mw_4, mw_5, mw_6, mw_7, mw_8, mu_0, mu_1, mu_2, mu_3, mu_4, mu_5, mu_6, mu_7, mu_8, vi_0, vi_1, vi_2, vi_3, vi_4, vi_5, vi_6]
  exact hr
theorem sp10_sendsMany {S : AS} (hS : StF fs 0 S) (oS : SOK S) (hQ : ∀ rn' cm' su' fu' fc', Q (some (.int (nI (wsend S (a_L S).length)))) none (mw w m th sm hs ln at_ iw rm (rn') (cm') (su') pl wy px fs fa ft fn fx fr (fu') (fc'))) : Sp Γ m10_sendsMany [.ref m] none (mw w m th sm hs ln at_ iw rm rn cm su pl wy px fs fa ft fn fx fr fu fc) Q := by
  obtain ⟨a, b, hL, -⟩ := hS
  obtain ⟨k1, k2, k3, k4, k5, -⟩ := id oS
  have e2 : fs 2 = nI (a_L S).length := hL.1
  have bl : (a_L S).length < 2147483648 := by omega
  have key : ∀ (n k : Nat) (rn cm su : Int32) (fu fc : Nat → Int32), n + k = (a_L S).length → G Γ m10_sendsMany Q (fun _ _ => False) 4 [some (.ref m), some (.int (nI (wsend S k))), some (.int (nI k))] [] none (mw w m th sm hs ln at_ iw rm rn cm su pl wy px fs fa ft fn fx fr fu fc) 0 0 := by
    intro n
    induction n with
    | zero =>
      intro k rn cm su fu fc hk
      have b1 : k < 2147483648 := by omega
      refine wp_ok kd10_sendsMany 400 4 bb10_sendsMany_4 _ _ _ _ _ _ oo10_sendsMany_4 ?_
      simp only [List.getElem?_cons_zero, List.getElem?_cons_succ, fv4, Nat.reduceAdd, Nat.reduceSub, wp, pst, stp, LG, lput, ls_tl, two, bc, EL, pad, popN, csum, Option.toList, List.cons_append, List.nil_append, List.set_cons_zero, List.set_cons_succ, List.length_cons, List.length_nil, true_and, and_true, Nat.reduceLT, Nat.reduceLeDiff, Nat.zero_le, Nat.le_refl, RI_i, RI_z0, RI_z1, Int32.reduceOfInt, Int8.reduceOfInt, Int16.reduceOfInt, Int64.reduceOfInt, Int8.toInt32_ofNat, Int16.toInt32_ofNat, Int.reduceNeg, Int32.ofInt_neg, Int8.ofInt_neg, Int16.ofInt_neg, Int32.toInt64_ofNat, Int32.reduceToNatClampNeg, Fin.isValue, Fin.val_one, Fin.val_zero, Fin.val_two, Int64.reduceOfNat, Int32.reduceOfNat, hdl, cutc, Nat.reduceEqDiff, reduceIte, FV, tyC, tyX0, tyX1, tyX2, tyX3, tyX4, tyX5, tyX6, tyX7, tyX8, tyX9, tyX10, Nat.reduceMul, c_le, c_lt, c_eq, c_in, c_cl, c_add, c_rem, c_ofN, Int32.add_zero, Int32.zero_add, c_lt0, c_ge0, c_le0, c_gt0, c_e0, c_m1, c_m1', false_implies, true_implies, implies_true, not_false_eq_true, not_true_eq_false, Nat.not_lt_zero, up_s, up_1, up_m, ff10_sendsMany, bb10_sendsMany_0, bb10_sendsMany_4, bb10_sendsMany_33, cl_1, ca_1, cl_2, ca_2, mw_0, mw_1, mw_2, mw_3, mw_4, mw_5, mw_6, mw_7, mw_8, mu_0, mu_1, mu_2, mu_3, mu_4, mu_5, mu_6, mu_7, mu_8, vi_0, vi_1, vi_2, vi_3, vi_4, vi_5, vi_6, e2, b1, bl]
      refine ⟨fun _ => ?_, fun hh => absurd hh (by omega)⟩
      rw [show k = (a_L S).length by omega]
      exact hQ _ _ _ _ _
    | succ n ih =>
      intro k rn cm su fu fc hk
      have b1 : k < 2147483648 := by omega
      have hb := wsend_le S k2 k
      have b3 : wsend S k < 2147483648 := by omega
      refine wp_ok kd10_sendsMany 400 4 bb10_sendsMany_4 _ _ _ _ _ _ oo10_sendsMany_4 ?_
      simp only [List.getElem?_cons_zero, List.getElem?_cons_succ, fv4, Nat.reduceAdd, Nat.reduceSub, wp, pst, stp, LG, lput, ls_tl, two, bc, EL, pad, popN, csum, Option.toList, List.cons_append, List.nil_append, List.set_cons_zero, List.set_cons_succ, List.length_cons, List.length_nil, true_and, and_true, Nat.reduceLT, Nat.reduceLeDiff, Nat.zero_le, Nat.le_refl, RI_i, RI_z0, RI_z1, Int32.reduceOfInt, Int8.reduceOfInt, Int16.reduceOfInt, Int64.reduceOfInt, Int8.toInt32_ofNat, Int16.toInt32_ofNat, Int.reduceNeg, Int32.ofInt_neg, Int8.ofInt_neg, Int16.ofInt_neg, Int32.toInt64_ofNat, Int32.reduceToNatClampNeg, Fin.isValue, Fin.val_one, Fin.val_zero, Fin.val_two, Int64.reduceOfNat, Int32.reduceOfNat, hdl, cutc, Nat.reduceEqDiff, reduceIte, FV, tyC, tyX0, tyX1, tyX2, tyX3, tyX4, tyX5, tyX6, tyX7, tyX8, tyX9, tyX10, Nat.reduceMul, c_le, c_lt, c_eq, c_in, c_cl, c_add, c_rem, c_ofN, Int32.add_zero, Int32.zero_add, c_lt0, c_ge0, c_le0, c_gt0, c_e0, c_m1, c_m1', false_implies, true_implies, implies_true, not_false_eq_true, not_true_eq_false, Nat.not_lt_zero, up_s, up_1, up_m, ff10_sendsMany, bb10_sendsMany_0, bb10_sendsMany_4, bb10_sendsMany_33, cl_1, ca_1, cl_2, ca_2, mw_0, mw_1, mw_2, mw_3, mw_4, mw_5, mw_6, mw_7, mw_8, mu_0, mu_1, mu_2, mu_3, mu_4, mu_5, mu_6, mu_7, mu_8, vi_0, vi_1, vi_2, vi_3, vi_4, vi_5, vi_6, e2, b1, bl]
      refine ⟨fun hh => absurd hh (by omega), fun _ => ?_⟩
      refine sp10_bestMode (a_wd S) (a_sy S) k a b k3 (by omega) k2 hL k5 oS.lok (by omega) (fun rn' cm' su' fu' fc' => ?_)
      unfold holdL
      simp only [List.getElem?_cons_zero, List.getElem?_cons_succ, fv4, Nat.reduceAdd, Nat.reduceSub, wp, pst, stp, LG, lput, ls_tl, two, bc, EL, pad, popN, csum, Option.toList, List.cons_append, List.nil_append, List.set_cons_zero, List.set_cons_succ, List.length_cons, List.length_nil, true_and, and_true, Nat.reduceLT, Nat.reduceLeDiff, Nat.zero_le, Nat.le_refl, RI_i, RI_z0, RI_z1, Int32.reduceOfInt, Int8.reduceOfInt, Int16.reduceOfInt, Int64.reduceOfInt, Int8.toInt32_ofNat, Int16.toInt32_ofNat, Int.reduceNeg, Int32.ofInt_neg, Int8.ofInt_neg, Int16.ofInt_neg, Int32.toInt64_ofNat, Int32.reduceToNatClampNeg, Fin.isValue, Fin.val_one, Fin.val_zero, Fin.val_two, Int64.reduceOfNat, Int32.reduceOfNat, hdl, cutc, Nat.reduceEqDiff, reduceIte, FV, tyC, tyX0, tyX1, tyX2, tyX3, tyX4, tyX5, tyX6, tyX7, tyX8, tyX9, tyX10, Nat.reduceMul, c_le, c_lt, c_eq, c_in, c_cl, c_add, c_rem, c_ofN, Int32.add_zero, Int32.zero_add, c_lt0, c_ge0, c_le0, c_gt0, c_e0, c_m1, c_m1', false_implies, true_implies, implies_true, not_false_eq_true, not_true_eq_false, Nat.not_lt_zero, up_s, up_1, up_m, ff10_sendsMany, bb10_sendsMany_0, bb10_sendsMany_4, bb10_sendsMany_33, cl_1, ca_1, cl_2, ca_2, mw_0, mw_1, mw_2, mw_3, mw_4, mw_5, mw_6, mw_7, mw_8, mu_0, mu_1, mu_2, mu_3, mu_4, mu_5, mu_6, mu_7, mu_8, vi_0, vi_1, vi_2, vi_3, vi_4, vi_5, vi_6]
      refine sp10_codes (a_wd S) k _ a (by omega) k2 hL k5 oS.lok (by omega) (modeS_lt k3 k) (fun rn' fu' fc' _ => ?_)
      unfold holdL
      simp only [List.getElem?_cons_zero, List.getElem?_cons_succ, fv4, Nat.reduceAdd, Nat.reduceSub, wp, pst, stp, LG, lput, ls_tl, two, bc, EL, pad, popN, csum, Option.toList, List.cons_append, List.nil_append, List.set_cons_zero, List.set_cons_succ, List.length_cons, List.length_nil, true_and, and_true, Nat.reduceLT, Nat.reduceLeDiff, Nat.zero_le, Nat.le_refl, RI_i, RI_z0, RI_z1, Int32.reduceOfInt, Int8.reduceOfInt, Int16.reduceOfInt, Int64.reduceOfInt, Int8.toInt32_ofNat, Int16.toInt32_ofNat, Int.reduceNeg, Int32.ofInt_neg, Int8.ofInt_neg, Int16.ofInt_neg, Int32.toInt64_ofNat, Int32.reduceToNatClampNeg, Fin.isValue, Fin.val_one, Fin.val_zero, Fin.val_two, Int64.reduceOfNat, Int32.reduceOfNat, hdl, cutc, Nat.reduceEqDiff, reduceIte, FV, tyC, tyX0, tyX1, tyX2, tyX3, tyX4, tyX5, tyX6, tyX7, tyX8, tyX9, tyX10, Nat.reduceMul, c_le, c_lt, c_eq, c_in, c_cl, c_add, c_rem, c_ofN, Int32.add_zero, Int32.zero_add, c_lt0, c_ge0, c_le0, c_gt0, c_e0, c_m1, c_m1', false_implies, true_implies, implies_true, not_false_eq_true, not_true_eq_false, Nat.not_lt_zero, up_s, up_1, up_m, ff10_sendsMany, bb10_sendsMany_0, bb10_sendsMany_4, bb10_sendsMany_33, cl_1, ca_1, cl_2, ca_2, mw_0, mw_1, mw_2, mw_3, mw_4, mw_5, mw_6, mw_7, mw_8, mu_0, mu_1, mu_2, mu_3, mu_4, mu_5, mu_6, mu_7, mu_8, vi_0, vi_1, vi_2, vi_3, vi_4, vi_5, vi_6, b1, b3]
      exact ih (k + 1) _ _ _ _ _ (by omega)
  have hr := key _ 0 rn cm su fu fc rfl
  refine entry Γ m10_sendsMany rfl _ (Nat.le_of_ble_eq_true rfl) _ _ _ ?_
  refine wp_ok kd10_sendsMany 400 0 bb10_sendsMany_0 _ _ _ _ _ _ oo10_sendsMany_0 ?_
  simp only [List.getElem?_cons_zero, List.getElem?_cons_succ, fv4, Nat.reduceAdd, Nat.reduceSub, wp, pst, stp, LG, lput, ls_tl, two, bc, EL, pad, popN, csum, Option.toList, List.cons_append, List.nil_append, List.set_cons_zero, List.set_cons_succ, List.length_cons, List.length_nil, true_and, and_true, Nat.reduceLT, Nat.reduceLeDiff, Nat.zero_le, Nat.le_refl, RI_i, RI_z0, RI_z1, Int32.reduceOfInt, Int8.reduceOfInt, Int16.reduceOfInt, Int64.reduceOfInt, Int8.toInt32_ofNat, Int16.toInt32_ofNat, Int.reduceNeg, Int32.ofInt_neg, Int8.ofInt_neg, Int16.ofInt_neg, Int32.toInt64_ofNat, Int32.reduceToNatClampNeg, Fin.isValue, Fin.val_one, Fin.val_zero, Fin.val_two, Int64.reduceOfNat, Int32.reduceOfNat, hdl, cutc, Nat.reduceEqDiff, reduceIte, FV, tyC, tyX0, tyX1, tyX2, tyX3, tyX4, tyX5, tyX6, tyX7, tyX8, tyX9, tyX10, Nat.reduceMul, c_le, c_lt, c_eq, c_in, c_cl, c_add, c_rem, c_ofN, Int32.add_zero, Int32.zero_add, c_lt0, c_ge0, c_le0, c_gt0, c_e0, c_m1, c_m1', false_implies, true_implies, implies_true, not_false_eq_true, not_true_eq_false, Nat.not_lt_zero, up_s, up_1, up_m, ff10_sendsMany, bb10_sendsMany_0, bb10_sendsMany_4, bb10_sendsMany_33, cl_1, ca_1, cl_2, ca_2, mw_0, mw_1, mw_2, mw_3, mw_4, mw_5, mw_6, mw_7, mw_8, mu_0, mu_1, mu_2, mu_3, mu_4, mu_5, mu_6, mu_7, mu_8, vi_0, vi_1, vi_2, vi_3, vi_4, vi_5, vi_6]
  exact hr
theorem sp10_sends {S : AS} (hS : StF fs 0 S) (oS : SOK S) (hQ : ∀ rn' cm' su' fu' fc' fs', (∀ j, j ≠ 3 → j < 68 → fs' j = fs j) → StrF fs' 0 (sentA S) → Q (some (.int (nI (sentA S).length))) none (mw w m th sm hs ln at_ iw rm (rn') (cm') (su') pl wy px (fs') fa ft fn fx fr (fu') (fc'))) : Sp Γ m10_sends [.ref m] none (mw w m th sm hs ln at_ iw rm rn cm su pl wy px fs fa ft fn fx fr fu fc) Q := by
  obtain ⟨a, b, hL, -⟩ := hS
  obtain ⟨k1, k2, k3, k4, k5, -⟩ := id oS
  have bl : (a_L S).length < 2147483648 := by omega
  have hsl := sent_len S k2
  have key : ∀ (n k : Nat) (rn cm su : Int32) (f fu fc : Nat → Int32) (j2 : Option Value), n + k = (a_L S).length → (∀ j, j ≠ 3 → j < 68 → f j = fs j) → StrF f 0 (sent S k) → G Γ m10_sends Q (fun _ _ => False) 9 [some (.ref m), some (.int (nI k)), j2] [] none (mw w m th sm hs ln at_ iw rm rn cm su pl wy px f fa ft fn fx fr fu fc) 0 0 := by
    intro n
    induction n with
    | zero =>
      intro k rn cm su f fu fc j2 hk hf hst
      have b1 : k < 2147483648 := by omega
      have e2 : f 2 = nI (a_L S).length := (hf 2 (by decide) (by decide)).trans hL.1
      have hk2 : k = (a_L S).length := by omega
      subst hk2
      have e3 : f 3 = nI (sentA S).length := hst.1
      refine wp_ok kd10_sends 400 9 bb10_sends_9 _ _ _ _ _ _ oo10_sends_9 ?_
      simp only [List.getElem?_cons_zero, List.getElem?_cons_succ, fv4, Nat.reduceAdd, Nat.reduceSub, wp, pst, stp, LG, lput, ls_tl, two, bc, EL, pad, popN, csum, Option.toList, List.cons_append, List.nil_append, List.set_cons_zero, List.set_cons_succ, List.length_cons, List.length_nil, true_and, and_true, Nat.reduceLT, Nat.reduceLeDiff, Nat.zero_le, Nat.le_refl, RI_i, RI_z0, RI_z1, Int32.reduceOfInt, Int8.reduceOfInt, Int16.reduceOfInt, Int64.reduceOfInt, Int8.toInt32_ofNat, Int16.toInt32_ofNat, Int.reduceNeg, Int32.ofInt_neg, Int8.ofInt_neg, Int16.ofInt_neg, Int32.toInt64_ofNat, Int32.reduceToNatClampNeg, Fin.isValue, Fin.val_one, Fin.val_zero, Fin.val_two, Int64.reduceOfNat, Int32.reduceOfNat, hdl, cutc, Nat.reduceEqDiff, reduceIte, FV, tyC, tyX0, tyX1, tyX2, tyX3, tyX4, tyX5, tyX6, tyX7, tyX8, tyX9, tyX10, Nat.reduceMul, c_le, c_lt, c_eq, c_in, c_cl, c_add, c_rem, c_ofN, Int32.add_zero, Int32.zero_add, c_lt0, c_ge0, c_le0, c_gt0, c_e0, c_m1, c_m1', false_implies, true_implies, implies_true, not_false_eq_true, not_true_eq_false, Nat.not_lt_zero, up_s, up_1, up_m, ff10_sends, bb10_sends_0, bb10_sends_9, bb10_sends_32, bb10_sends_76, bb10_sends_82, cl_1, ca_1, cl_2, ca_2, cl_3, ca_3, cl_68, ca_68, mw_0, mw_1, mw_2, mw_3, mw_4, mw_5, mw_6, mw_7, mw_8, mu_0, mu_1, mu_2, mu_3, mu_4, mu_5, mu_6, mu_7, mu_8, vi_0, vi_1, vi_2, vi_3, vi_4, vi_5, vi_6, e2, b1, bl, e3]
      exact hQ _ _ _ _ _ f hf hst
    | succ n ih =>
      intro k rn cm su f fu fc j2 hk hf hst
      have b1 : k < 2147483648 := by omega
      have e2 : f 2 = nI (a_L S).length := (hf 2 (by decide) (by decide)).trans hL.1
      have e0 : f 0 = nI (a_wd S) := (hf 0 (by decide) (by decide)).trans a
      have e1 : f 1 = nI (a_sy S) := (hf 1 (by decide) (by decide)).trans b
      have hL' : LinF f 0 (a_L S) := ⟨e2, fun j hj => (hf _ (by omega) (by omega)).trans (hL.2 j hj)⟩
      have hs1 := hsl k
      have hs2 := hsl (k + 1)
      have hsu := sent_succ S k
      have hcl : (code1 (a_wd S) (a_L S) k (modeS S k)).length ≤ 38 := clen_le _ _ _ _ k2
      refine wp_ok kd10_sends 400 9 bb10_sends_9 _ _ _ _ _ _ oo10_sends_9 ?_
      simp only [List.getElem?_cons_zero, List.getElem?_cons_succ, fv4, Nat.reduceAdd, Nat.reduceSub, wp, pst, stp, LG, lput, ls_tl, two, bc, EL, pad, popN, csum, Option.toList, List.cons_append, List.nil_append, List.set_cons_zero, List.set_cons_succ, List.length_cons, List.length_nil, true_and, and_true, Nat.reduceLT, Nat.reduceLeDiff, Nat.zero_le, Nat.le_refl, RI_i, RI_z0, RI_z1, Int32.reduceOfInt, Int8.reduceOfInt, Int16.reduceOfInt, Int64.reduceOfInt, Int8.toInt32_ofNat, Int16.toInt32_ofNat, Int.reduceNeg, Int32.ofInt_neg, Int8.ofInt_neg, Int16.ofInt_neg, Int32.toInt64_ofNat, Int32.reduceToNatClampNeg, Fin.isValue, Fin.val_one, Fin.val_zero, Fin.val_two, Int64.reduceOfNat, Int32.reduceOfNat, hdl, cutc, Nat.reduceEqDiff, reduceIte, FV, tyC, tyX0, tyX1, tyX2, tyX3, tyX4, tyX5, tyX6, tyX7, tyX8, tyX9, tyX10, Nat.reduceMul, c_le, c_lt, c_eq, c_in, c_cl, c_add, c_rem, c_ofN, Int32.add_zero, Int32.zero_add, c_lt0, c_ge0, c_le0, c_gt0, c_e0, c_m1, c_m1', false_implies, true_implies, implies_true, not_false_eq_true, not_true_eq_false, Nat.not_lt_zero, up_s, up_1, up_m, ff10_sends, bb10_sends_0, bb10_sends_9, bb10_sends_32, bb10_sends_76, bb10_sends_82, cl_1, ca_1, cl_2, ca_2, cl_3, ca_3, cl_68, ca_68, mw_0, mw_1, mw_2, mw_3, mw_4, mw_5, mw_6, mw_7, mw_8, mu_0, mu_1, mu_2, mu_3, mu_4, mu_5, mu_6, mu_7, mu_8, vi_0, vi_1, vi_2, vi_3, vi_4, vi_5, vi_6, e2, b1, bl]
      refine ⟨fun hh => absurd hh (by omega), fun _ => ?_⟩
      refine sp10_bestMode (a_wd S) (a_sy S) k e0 e1 k3 (by omega) k2 hL' k5 oS.lok (by omega) (fun rn' cm' su' fu' fc' => ?_)
      unfold holdL
      simp only [List.getElem?_cons_zero, List.getElem?_cons_succ, fv4, Nat.reduceAdd, Nat.reduceSub, wp, pst, stp, LG, lput, ls_tl, two, bc, EL, pad, popN, csum, Option.toList, List.cons_append, List.nil_append, List.set_cons_zero, List.set_cons_succ, List.length_cons, List.length_nil, true_and, and_true, Nat.reduceLT, Nat.reduceLeDiff, Nat.zero_le, Nat.le_refl, RI_i, RI_z0, RI_z1, Int32.reduceOfInt, Int8.reduceOfInt, Int16.reduceOfInt, Int64.reduceOfInt, Int8.toInt32_ofNat, Int16.toInt32_ofNat, Int.reduceNeg, Int32.ofInt_neg, Int8.ofInt_neg, Int16.ofInt_neg, Int32.toInt64_ofNat, Int32.reduceToNatClampNeg, Fin.isValue, Fin.val_one, Fin.val_zero, Fin.val_two, Int64.reduceOfNat, Int32.reduceOfNat, hdl, cutc, Nat.reduceEqDiff, reduceIte, FV, tyC, tyX0, tyX1, tyX2, tyX3, tyX4, tyX5, tyX6, tyX7, tyX8, tyX9, tyX10, Nat.reduceMul, c_le, c_lt, c_eq, c_in, c_cl, c_add, c_rem, c_ofN, Int32.add_zero, Int32.zero_add, c_lt0, c_ge0, c_le0, c_gt0, c_e0, c_m1, c_m1', false_implies, true_implies, implies_true, not_false_eq_true, not_true_eq_false, Nat.not_lt_zero, up_s, up_1, up_m, ff10_sends, bb10_sends_0, bb10_sends_9, bb10_sends_32, bb10_sends_76, bb10_sends_82, cl_1, ca_1, cl_2, ca_2, cl_3, ca_3, cl_68, ca_68, mw_0, mw_1, mw_2, mw_3, mw_4, mw_5, mw_6, mw_7, mw_8, mu_0, mu_1, mu_2, mu_3, mu_4, mu_5, mu_6, mu_7, mu_8, vi_0, vi_1, vi_2, vi_3, vi_4, vi_5, vi_6]
      refine sp10_codes (a_wd S) k (modeS S k) e0 (by omega) k2 hL' k5 oS.lok (by omega) (modeS_lt k3 k) (fun rn' fu' fc' hI => ?_)
      unfold holdL
      simp only [List.getElem?_cons_zero, List.getElem?_cons_succ, fv4, Nat.reduceAdd, Nat.reduceSub, wp, pst, stp, LG, lput, ls_tl, two, bc, EL, pad, popN, csum, Option.toList, List.cons_append, List.nil_append, List.set_cons_zero, List.set_cons_succ, List.length_cons, List.length_nil, true_and, and_true, Nat.reduceLT, Nat.reduceLeDiff, Nat.zero_le, Nat.le_refl, RI_i, RI_z0, RI_z1, Int32.reduceOfInt, Int8.reduceOfInt, Int16.reduceOfInt, Int64.reduceOfInt, Int8.toInt32_ofNat, Int16.toInt32_ofNat, Int.reduceNeg, Int32.ofInt_neg, Int8.ofInt_neg, Int16.ofInt_neg, Int32.toInt64_ofNat, Int32.reduceToNatClampNeg, Fin.isValue, Fin.val_one, Fin.val_zero, Fin.val_two, Int64.reduceOfNat, Int32.reduceOfNat, hdl, cutc, Nat.reduceEqDiff, reduceIte, FV, tyC, tyX0, tyX1, tyX2, tyX3, tyX4, tyX5, tyX6, tyX7, tyX8, tyX9, tyX10, Nat.reduceMul, c_le, c_lt, c_eq, c_in, c_cl, c_add, c_rem, c_ofN, Int32.add_zero, Int32.zero_add, c_lt0, c_ge0, c_le0, c_gt0, c_e0, c_m1, c_m1', false_implies, true_implies, implies_true, not_false_eq_true, not_true_eq_false, Nat.not_lt_zero, up_s, up_1, up_m, ff10_sends, bb10_sends_0, bb10_sends_9, bb10_sends_32, bb10_sends_76, bb10_sends_82, cl_1, ca_1, cl_2, ca_2, cl_3, ca_3, cl_68, ca_68, mw_0, mw_1, mw_2, mw_3, mw_4, mw_5, mw_6, mw_7, mw_8, mu_0, mu_1, mu_2, mu_3, mu_4, mu_5, mu_6, mu_7, mu_8, vi_0, vi_1, vi_2, vi_3, vi_4, vi_5, vi_6]
      generalize hC : code1 (a_wd S) (a_L S) k (modeS S k) = C at *
      have hcC : clen (a_wd S) (a_L S) k (modeS S k) = C.length := by unfold clen; rw [hC]
      rw [hcC]
      generalize nI (k + modeS S k + (ker (a_wd S) (kpx (a_L S) k (modeS S k)) (modeS S k)).sum) = su2
      have cb : C.length < 2147483648 := by omega
      have inner : ∀ (u i : Nat) (g : Nat → Int32), u + i = C.length → (∀ j, j ≠ 3 → j < 68 → g j = fs j) → StrF g 0 (sent S k ++ C.take i) → G Γ m10_sends Q (fun _ _ => False) 32 [some (.ref m), some (.int (nI k)), some (.int (nI i))] [] none (mw w m th sm hs ln at_ iw rm (rn') (nI C.length) su2 pl wy px g fa ft fn fx fr (fu') (fc')) 0 0 := by
        intro u
        induction u with
        | zero =>
          intro i g hi hg hgs
          have c1 : i < 2147483648 := by omega
          rw [show i = C.length by omega, List.take_length, ← hsu] at hgs
          have hr := ih (k + 1) rn' (nI C.length) su2 g fu' fc' (some (.int (nI i))) (by omega) hg hgs
          refine wp_ok (kd_cut 9 kd10_sends) 400 32 bb10_sends_32 _ _ _ _ _ _ oo10_sends_32 ?_
          simp only [List.getElem?_cons_zero, List.getElem?_cons_succ, fv4, Nat.reduceAdd, Nat.reduceSub, wp, pst, stp, LG, lput, ls_tl, two, bc, EL, pad, popN, csum, Option.toList, List.cons_append, List.nil_append, List.set_cons_zero, List.set_cons_succ, List.length_cons, List.length_nil, true_and, and_true, Nat.reduceLT, Nat.reduceLeDiff, Nat.zero_le, Nat.le_refl, RI_i, RI_z0, RI_z1, Int32.reduceOfInt, Int8.reduceOfInt, Int16.reduceOfInt, Int64.reduceOfInt, Int8.toInt32_ofNat, Int16.toInt32_ofNat, Int.reduceNeg, Int32.ofInt_neg, Int8.ofInt_neg, Int16.ofInt_neg, Int32.toInt64_ofNat, Int32.reduceToNatClampNeg, Fin.isValue, Fin.val_one, Fin.val_zero, Fin.val_two, Int64.reduceOfNat, Int32.reduceOfNat, hdl, cutc, Nat.reduceEqDiff, reduceIte, FV, tyC, tyX0, tyX1, tyX2, tyX3, tyX4, tyX5, tyX6, tyX7, tyX8, tyX9, tyX10, Nat.reduceMul, c_le, c_lt, c_eq, c_in, c_cl, c_add, c_rem, c_ofN, Int32.add_zero, Int32.zero_add, c_lt0, c_ge0, c_le0, c_gt0, c_e0, c_m1, c_m1', false_implies, true_implies, implies_true, not_false_eq_true, not_true_eq_false, Nat.not_lt_zero, up_s, up_1, up_m, ff10_sends, bb10_sends_0, bb10_sends_9, bb10_sends_32, bb10_sends_76, bb10_sends_82, cl_1, ca_1, cl_2, ca_2, cl_3, ca_3, cl_68, ca_68, mw_0, mw_1, mw_2, mw_3, mw_4, mw_5, mw_6, mw_7, mw_8, mu_0, mu_1, mu_2, mu_3, mu_4, mu_5, mu_6, mu_7, mu_8, vi_0, vi_1, vi_2, vi_3, vi_4, vi_5, vi_6, b1, c1, cb]
          exact ⟨fun _ => hr, fun hh => absurd hh (by omega)⟩
        | succ u ihu =>
          intro i g hi hg hgs
          have c1 : i < 2147483648 := by omega
          have c0 : i < 128 := by omega
          have tl : (sent S k ++ C.take i).length = (sent S k).length + i := by rw [List.length_append, List.length_take]; omega
          have e3 : g 3 = nI ((sent S k).length + i) := by rw [← tl]; exact hgs.1
          have c2 : 68 + ((sent S k).length + i) < 2147483648 := by omega
          have c3 : 68 + ((sent S k).length + i) < 568 := by omega
          have ev := hI i (by omega)
          have htk : sent S k ++ C.take (i + 1) = (sent S k ++ C.take i) ++ [C.getD i 0] := by
            rw [List.append_assoc, List.take_succ, getD_some (show i < C.length by omega)]; rfl
          have hgs' : StrF (upd (upd g (68 + ((sent S k).length + i)) (nI (C.getD i 0))) 3 (nI ((sent S k).length + i + 1))) 0 (sent S k ++ C.take (i + 1)) := by
            rw [htk]
            refine ⟨?_, fun j hj => ?_⟩
            · show upd _ 3 _ 3 = _
              rw [upd_eq, List.length_append, tl]; rfl
            · rw [List.length_append, tl] at hj
              simp only [List.length_cons, List.length_nil] at hj
              rw [upd_ne _ _ (by omega), snoc_get (by rw [tl]; omega), tl]
              by_cases hj2 : j = (sent S k).length + i
              · rw [if_pos hj2, hj2, show 0 + 68 + ((sent S k).length + i) = 68 + ((sent S k).length + i) by omega, upd_eq]
              · rw [if_neg hj2, upd_ne _ _ (by omega)]
                exact hgs.2 j (by omega)
          have hr := ihu (i + 1) _ (by omega) (fun j x y => by rw [upd_ne _ _ x, upd_ne _ _ (by omega)]; exact hg j x y) hgs'
          refine wp_ok (kd_cut 9 kd10_sends) 400 32 bb10_sends_32 _ _ _ _ _ _ oo10_sends_32 ?_
          simp only [List.getElem?_cons_zero, List.getElem?_cons_succ, fv4, Nat.reduceAdd, Nat.reduceSub, wp, pst, stp, LG, lput, ls_tl, two, bc, EL, pad, popN, csum, Option.toList, List.cons_append, List.nil_append, List.set_cons_zero, List.set_cons_succ, List.length_cons, List.length_nil, true_and, and_true, Nat.reduceLT, Nat.reduceLeDiff, Nat.zero_le, Nat.le_refl, RI_i, RI_z0, RI_z1, Int32.reduceOfInt, Int8.reduceOfInt, Int16.reduceOfInt, Int64.reduceOfInt, Int8.toInt32_ofNat, Int16.toInt32_ofNat, Int.reduceNeg, Int32.ofInt_neg, Int8.ofInt_neg, Int16.ofInt_neg, Int32.toInt64_ofNat, Int32.reduceToNatClampNeg, Fin.isValue, Fin.val_one, Fin.val_zero, Fin.val_two, Int64.reduceOfNat, Int32.reduceOfNat, hdl, cutc, Nat.reduceEqDiff, reduceIte, FV, tyC, tyX0, tyX1, tyX2, tyX3, tyX4, tyX5, tyX6, tyX7, tyX8, tyX9, tyX10, Nat.reduceMul, c_le, c_lt, c_eq, c_in, c_cl, c_add, c_rem, c_ofN, Int32.add_zero, Int32.zero_add, c_lt0, c_ge0, c_le0, c_gt0, c_e0, c_m1, c_m1', false_implies, true_implies, implies_true, not_false_eq_true, not_true_eq_false, Nat.not_lt_zero, up_s, up_1, up_m, ff10_sends, bb10_sends_0, bb10_sends_9, bb10_sends_32, bb10_sends_76, bb10_sends_82, cl_1, ca_1, cl_2, ca_2, cl_3, ca_3, cl_68, ca_68, mw_0, mw_1, mw_2, mw_3, mw_4, mw_5, mw_6, mw_7, mw_8, mu_0, mu_1, mu_2, mu_3, mu_4, mu_5, mu_6, mu_7, mu_8, vi_0, vi_1, vi_2, vi_3, vi_4, vi_5, vi_6, b1, c0, c1, c2, c3, cb, e3, ev, upd_ne _ _ (show (3 : Nat) ≠ 68 + ((sent S k).length + i) by omega)]
          exact ⟨fun hh => absurd hh (by omega), fun _ => hr⟩
      exact inner _ 0 f rfl hf (by rw [List.take_zero, List.append_nil]; exact hst)
  have hr := key _ 0 rn cm su (upd fs 3 0) fu fc none rfl (fun j x y => upd_ne _ _ x) ⟨upd_eq _ _ _, fun j hj => absurd hj (by simp [sent])⟩
  refine entry Γ m10_sends rfl _ (Nat.le_of_ble_eq_true rfl) _ _ _ ?_
  refine wp_ok kd10_sends 400 0 bb10_sends_0 _ _ _ _ _ _ oo10_sends_0 ?_
  simp only [List.getElem?_cons_zero, List.getElem?_cons_succ, fv4, Nat.reduceAdd, Nat.reduceSub, wp, pst, stp, LG, lput, ls_tl, two, bc, EL, pad, popN, csum, Option.toList, List.cons_append, List.nil_append, List.set_cons_zero, List.set_cons_succ, List.length_cons, List.length_nil, true_and, and_true, Nat.reduceLT, Nat.reduceLeDiff, Nat.zero_le, Nat.le_refl, RI_i, RI_z0, RI_z1, Int32.reduceOfInt, Int8.reduceOfInt, Int16.reduceOfInt, Int64.reduceOfInt, Int8.toInt32_ofNat, Int16.toInt32_ofNat, Int.reduceNeg, Int32.ofInt_neg, Int8.ofInt_neg, Int16.ofInt_neg, Int32.toInt64_ofNat, Int32.reduceToNatClampNeg, Fin.isValue, Fin.val_one, Fin.val_zero, Fin.val_two, Int64.reduceOfNat, Int32.reduceOfNat, hdl, cutc, Nat.reduceEqDiff, reduceIte, FV, tyC, tyX0, tyX1, tyX2, tyX3, tyX4, tyX5, tyX6, tyX7, tyX8, tyX9, tyX10, Nat.reduceMul, c_le, c_lt, c_eq, c_in, c_cl, c_add, c_rem, c_ofN, Int32.add_zero, Int32.zero_add, c_lt0, c_ge0, c_le0, c_gt0, c_e0, c_m1, c_m1', false_implies, true_implies, implies_true, not_false_eq_true, not_true_eq_false, Nat.not_lt_zero, up_s, up_1, up_m, ff10_sends, bb10_sends_0, bb10_sends_9, bb10_sends_32, bb10_sends_76, bb10_sends_82, cl_1, ca_1, cl_2, ca_2, cl_3, ca_3, cl_68, ca_68, mw_0, mw_1, mw_2, mw_3, mw_4, mw_5, mw_6, mw_7, mw_8, mu_0, mu_1, mu_2, mu_3, mu_4, mu_5, mu_6, mu_7, mu_8, vi_0, vi_1, vi_2, vi_3, vi_4, vi_5, vi_6]
  exact hr
theorem sp10_black {L : List Nat} (hL : LinF fs 0 L) (hl : L.length ≤ 10) (hQ : Q (some (.int (nI (blk L L.length)))) none (mw w m th sm hs ln at_ iw rm rn cm su pl wy px fs fa ft fn fx fr fu fc)) : Sp Γ m10_black [.ref m] none (mw w m th sm hs ln at_ iw rm rn cm su pl wy px fs fa ft fn fx fr fu fc) Q := by
  have e2 : fs 2 = nI L.length := hL.1
  have bl : L.length < 2147483648 := by omega
  have key : ∀ (n k : Nat), n + k = L.length → G Γ m10_black Q (fun _ _ => False) 4 [some (.ref m), some (.int (nI (blk L k))), some (.int (nI k))] [] none (mw w m th sm hs ln at_ iw rm rn cm su pl wy px fs fa ft fn fx fr fu fc) 0 0 := by
    intro n
    induction n with
    | zero =>
      intro k hk
      have b1 : k < 2147483648 := by omega
      refine wp_ok kd10_black 400 4 bb10_black_4 _ _ _ _ _ _ oo10_black_4 ?_
      simp only [List.getElem?_cons_zero, List.getElem?_cons_succ, fv4, Nat.reduceAdd, Nat.reduceSub, wp, pst, stp, LG, lput, ls_tl, two, bc, EL, pad, popN, csum, Option.toList, List.cons_append, List.nil_append, List.set_cons_zero, List.set_cons_succ, List.length_cons, List.length_nil, true_and, and_true, Nat.reduceLT, Nat.reduceLeDiff, Nat.zero_le, Nat.le_refl, RI_i, RI_z0, RI_z1, Int32.reduceOfInt, Int8.reduceOfInt, Int16.reduceOfInt, Int64.reduceOfInt, Int8.toInt32_ofNat, Int16.toInt32_ofNat, Int.reduceNeg, Int32.ofInt_neg, Int8.ofInt_neg, Int16.ofInt_neg, Int32.toInt64_ofNat, Int32.reduceToNatClampNeg, Fin.isValue, Fin.val_one, Fin.val_zero, Fin.val_two, Int64.reduceOfNat, Int32.reduceOfNat, hdl, cutc, Nat.reduceEqDiff, reduceIte, FV, tyC, tyX0, tyX1, tyX2, tyX3, tyX4, tyX5, tyX6, tyX7, tyX8, tyX9, tyX10, Nat.reduceMul, c_le, c_lt, c_eq, c_in, c_cl, c_add, c_rem, c_ofN, Int32.add_zero, Int32.zero_add, c_lt0, c_ge0, c_le0, c_gt0, c_e0, c_m1, c_m1', false_implies, true_implies, implies_true, not_false_eq_true, not_true_eq_false, Nat.not_lt_zero, up_s, up_1, up_m, ff10_black, bb10_black_0, bb10_black_4, bb10_black_35, cl_1, ca_1, cl_2, ca_2, cl_8, ca_8, mw_0, mw_1, mw_2, mw_3, mw_4, mw_5, mw_6, mw_7, mw_8, mu_0, mu_1, mu_2, mu_3, mu_4, mu_5, mu_6, mu_7, mu_8, vi_0, vi_1, vi_2, vi_3, vi_4, vi_5, vi_6, e2, b1, bl]
      refine ⟨fun _ => ?_, fun hh => absurd hh (by omega)⟩
      rw [show k = L.length by omega]
      exact hQ
    | succ n ih =>
      intro k hk
      have b1 : k < 2147483648 := by omega
      have b2 : 8 + k < 2147483648 := by omega
      have b3 : 8 + k < 568 := by omega
      have e := hL.2 k (by omega)
      rw [Nat.zero_add] at e
      refine wp_ok kd10_black 400 4 bb10_black_4 _ _ _ _ _ _ oo10_black_4 ?_
      simp only [List.getElem?_cons_zero, List.getElem?_cons_succ, fv4, Nat.reduceAdd, Nat.reduceSub, wp, pst, stp, LG, lput, ls_tl, two, bc, EL, pad, popN, csum, Option.toList, List.cons_append, List.nil_append, List.set_cons_zero, List.set_cons_succ, List.length_cons, List.length_nil, true_and, and_true, Nat.reduceLT, Nat.reduceLeDiff, Nat.zero_le, Nat.le_refl, RI_i, RI_z0, RI_z1, Int32.reduceOfInt, Int8.reduceOfInt, Int16.reduceOfInt, Int64.reduceOfInt, Int8.toInt32_ofNat, Int16.toInt32_ofNat, Int.reduceNeg, Int32.ofInt_neg, Int8.ofInt_neg, Int16.ofInt_neg, Int32.toInt64_ofNat, Int32.reduceToNatClampNeg, Fin.isValue, Fin.val_one, Fin.val_zero, Fin.val_two, Int64.reduceOfNat, Int32.reduceOfNat, hdl, cutc, Nat.reduceEqDiff, reduceIte, FV, tyC, tyX0, tyX1, tyX2, tyX3, tyX4, tyX5, tyX6, tyX7, tyX8, tyX9, tyX10, Nat.reduceMul, c_le, c_lt, c_eq, c_in, c_cl, c_add, c_rem, c_ofN, Int32.add_zero, Int32.zero_add, c_lt0, c_ge0, c_le0, c_gt0, c_e0, c_m1, c_m1', false_implies, true_implies, implies_true, not_false_eq_true, not_true_eq_false, Nat.not_lt_zero, up_s, up_1, up_m, ff10_black, bb10_black_0, bb10_black_4, bb10_black_35, cl_1, ca_1, cl_2, ca_2, cl_8, ca_8, mw_0, mw_1, mw_2, mw_3, mw_4, mw_5, mw_6, mw_7, mw_8, mu_0, mu_1, mu_2, mu_3, mu_4, mu_5, mu_6, mu_7, mu_8, vi_0, vi_1, vi_2, vi_3, vi_4, vi_5, vi_6, e2, b1, b2, b3, bl, e]
      refine ⟨fun hh => absurd hh (by omega), fun _ => ?_⟩
      refine sp10_bits _ ?_
      unfold holdL
      simp only [List.getElem?_cons_zero, List.getElem?_cons_succ, fv4, Nat.reduceAdd, Nat.reduceSub, wp, pst, stp, LG, lput, ls_tl, two, bc, EL, pad, popN, csum, Option.toList, List.cons_append, List.nil_append, List.set_cons_zero, List.set_cons_succ, List.length_cons, List.length_nil, true_and, and_true, Nat.reduceLT, Nat.reduceLeDiff, Nat.zero_le, Nat.le_refl, RI_i, RI_z0, RI_z1, Int32.reduceOfInt, Int8.reduceOfInt, Int16.reduceOfInt, Int64.reduceOfInt, Int8.toInt32_ofNat, Int16.toInt32_ofNat, Int.reduceNeg, Int32.ofInt_neg, Int8.ofInt_neg, Int16.ofInt_neg, Int32.toInt64_ofNat, Int32.reduceToNatClampNeg, Fin.isValue, Fin.val_one, Fin.val_zero, Fin.val_two, Int64.reduceOfNat, Int32.reduceOfNat, hdl, cutc, Nat.reduceEqDiff, reduceIte, FV, tyC, tyX0, tyX1, tyX2, tyX3, tyX4, tyX5, tyX6, tyX7, tyX8, tyX9, tyX10, Nat.reduceMul, c_le, c_lt, c_eq, c_in, c_cl, c_add, c_rem, c_ofN, Int32.add_zero, Int32.zero_add, c_lt0, c_ge0, c_le0, c_gt0, c_e0, c_m1, c_m1', false_implies, true_implies, implies_true, not_false_eq_true, not_true_eq_false, Nat.not_lt_zero, up_s, up_1, up_m, ff10_black, bb10_black_0, bb10_black_4, bb10_black_35, cl_1, ca_1, cl_2, ca_2, cl_8, ca_8, mw_0, mw_1, mw_2, mw_3, mw_4, mw_5, mw_6, mw_7, mw_8, mu_0, mu_1, mu_2, mu_3, mu_4, mu_5, mu_6, mu_7, mu_8, vi_0, vi_1, vi_2, vi_3, vi_4, vi_5, vi_6, b1]
      exact ih (k + 1) (by omega)
  refine entry Γ m10_black rfl _ (Nat.le_of_ble_eq_true rfl) _ _ _ ?_
  refine wp_ok kd10_black 400 0 bb10_black_0 _ _ _ _ _ _ oo10_black_0 ?_
  simp only [List.getElem?_cons_zero, List.getElem?_cons_succ, fv4, Nat.reduceAdd, Nat.reduceSub, wp, pst, stp, LG, lput, ls_tl, two, bc, EL, pad, popN, csum, Option.toList, List.cons_append, List.nil_append, List.set_cons_zero, List.set_cons_succ, List.length_cons, List.length_nil, true_and, and_true, Nat.reduceLT, Nat.reduceLeDiff, Nat.zero_le, Nat.le_refl, RI_i, RI_z0, RI_z1, Int32.reduceOfInt, Int8.reduceOfInt, Int16.reduceOfInt, Int64.reduceOfInt, Int8.toInt32_ofNat, Int16.toInt32_ofNat, Int.reduceNeg, Int32.ofInt_neg, Int8.ofInt_neg, Int16.ofInt_neg, Int32.toInt64_ofNat, Int32.reduceToNatClampNeg, Fin.isValue, Fin.val_one, Fin.val_zero, Fin.val_two, Int64.reduceOfNat, Int32.reduceOfNat, hdl, cutc, Nat.reduceEqDiff, reduceIte, FV, tyC, tyX0, tyX1, tyX2, tyX3, tyX4, tyX5, tyX6, tyX7, tyX8, tyX9, tyX10, Nat.reduceMul, c_le, c_lt, c_eq, c_in, c_cl, c_add, c_rem, c_ofN, Int32.add_zero, Int32.zero_add, c_lt0, c_ge0, c_le0, c_gt0, c_e0, c_m1, c_m1', false_implies, true_implies, implies_true, not_false_eq_true, not_true_eq_false, Nat.not_lt_zero, up_s, up_1, up_m, ff10_black, bb10_black_0, bb10_black_4, bb10_black_35, cl_1, ca_1, cl_2, ca_2, cl_8, ca_8, mw_0, mw_1, mw_2, mw_3, mw_4, mw_5, mw_6, mw_7, mw_8, mu_0, mu_1, mu_2, mu_3, mu_4, mu_5, mu_6, mu_7, mu_8, vi_0, vi_1, vi_2, vi_3, vi_4, vi_5, vi_6]
  exact key _ 0 rfl
theorem sp10_manyRuns {L : List Nat} (wd n : Nat) (h0 : fs 0 = nI wd) (hw : wd ≤ 32) (hL : LinF fs 0 L) (hl : L.length ≤ 10) (hn : n < L.length) (hQ : ∀ rn' fu', Q (some (.int (nI (runs wd (L.getD n 0)).length))) none (mw w m th sm hs ln at_ iw rm (rn') cm su pl wy px fs fa ft fn fx fr (fu') fc)) : Sp Γ m10_manyRuns [.ref m, .int (nI n)] none (mw w m th sm hs ln at_ iw rm rn cm su pl wy px fs fa ft fn fx fr fu fc) Q := by
  have b2 : 8 + n < 2147483648 := by omega
  have b3 : 8 + n < 568 := by omega
  have e := hL.2 n hn
  rw [Nat.zero_add] at e
  refine entry Γ m10_manyRuns rfl _ (Nat.le_of_ble_eq_true rfl) _ _ _ ?_
  refine wp_ok kd10_manyRuns 400 0 bb10_manyRuns_0 _ _ _ _ _ _ oo10_manyRuns_0 ?_
  simp only [List.getElem?_cons_zero, List.getElem?_cons_succ, fv4, Nat.reduceAdd, Nat.reduceSub, wp, pst, stp, LG, lput, ls_tl, two, bc, EL, pad, popN, csum, Option.toList, List.cons_append, List.nil_append, List.set_cons_zero, List.set_cons_succ, List.length_cons, List.length_nil, true_and, and_true, Nat.reduceLT, Nat.reduceLeDiff, Nat.zero_le, Nat.le_refl, RI_i, RI_z0, RI_z1, Int32.reduceOfInt, Int8.reduceOfInt, Int16.reduceOfInt, Int64.reduceOfInt, Int8.toInt32_ofNat, Int16.toInt32_ofNat, Int.reduceNeg, Int32.ofInt_neg, Int8.ofInt_neg, Int16.ofInt_neg, Int32.toInt64_ofNat, Int32.reduceToNatClampNeg, Fin.isValue, Fin.val_one, Fin.val_zero, Fin.val_two, Int64.reduceOfNat, Int32.reduceOfNat, hdl, cutc, Nat.reduceEqDiff, reduceIte, FV, tyC, tyX0, tyX1, tyX2, tyX3, tyX4, tyX5, tyX6, tyX7, tyX8, tyX9, tyX10, Nat.reduceMul, c_le, c_lt, c_eq, c_in, c_cl, c_add, c_rem, c_ofN, Int32.add_zero, Int32.zero_add, c_lt0, c_ge0, c_le0, c_gt0, c_e0, c_m1, c_m1', false_implies, true_implies, implies_true, not_false_eq_true, not_true_eq_false, Nat.not_lt_zero, up_s, up_1, up_m, ff10_manyRuns, bb10_manyRuns_0, cl_8, ca_8, mw_0, mw_1, mw_2, mw_3, mw_4, mw_5, mw_6, mw_7, mw_8, mu_0, mu_1, mu_2, mu_3, mu_4, mu_5, mu_6, mu_7, mu_8, vi_0, vi_1, vi_2, vi_3, vi_4, vi_5, vi_6, b2, b3, e]
  refine sp10_findsRuns wd _ h0 hw (fun fu' hU => ?_)
  unfold holdL
  simp only [List.getElem?_cons_zero, List.getElem?_cons_succ, fv4, Nat.reduceAdd, Nat.reduceSub, wp, pst, stp, LG, lput, ls_tl, two, bc, EL, pad, popN, csum, Option.toList, List.cons_append, List.nil_append, List.set_cons_zero, List.set_cons_succ, List.length_cons, List.length_nil, true_and, and_true, Nat.reduceLT, Nat.reduceLeDiff, Nat.zero_le, Nat.le_refl, RI_i, RI_z0, RI_z1, Int32.reduceOfInt, Int8.reduceOfInt, Int16.reduceOfInt, Int64.reduceOfInt, Int8.toInt32_ofNat, Int16.toInt32_ofNat, Int.reduceNeg, Int32.ofInt_neg, Int8.ofInt_neg, Int16.ofInt_neg, Int32.toInt64_ofNat, Int32.reduceToNatClampNeg, Fin.isValue, Fin.val_one, Fin.val_zero, Fin.val_two, Int64.reduceOfNat, Int32.reduceOfNat, hdl, cutc, Nat.reduceEqDiff, reduceIte, FV, tyC, tyX0, tyX1, tyX2, tyX3, tyX4, tyX5, tyX6, tyX7, tyX8, tyX9, tyX10, Nat.reduceMul, c_le, c_lt, c_eq, c_in, c_cl, c_add, c_rem, c_ofN, Int32.add_zero, Int32.zero_add, c_lt0, c_ge0, c_le0, c_gt0, c_e0, c_m1, c_m1', false_implies, true_implies, implies_true, not_false_eq_true, not_true_eq_false, Nat.not_lt_zero, up_s, up_1, up_m, ff10_manyRuns, bb10_manyRuns_0, cl_8, ca_8, mw_0, mw_1, mw_2, mw_3, mw_4, mw_5, mw_6, mw_7, mw_8, mu_0, mu_1, mu_2, mu_3, mu_4, mu_5, mu_6, mu_7, mu_8, vi_0, vi_1, vi_2, vi_3, vi_4, vi_5, vi_6]
  exact hQ _ _
theorem sp10_longest {L : List Nat} (wd n : Nat) (h0 : fs 0 = nI wd) (h1w : 1 ≤ wd) (hw : wd ≤ 32) (hL : LinF fs 0 L) (hl : L.length ≤ 10) (hn : n < L.length) (hQ : ∀ rn' fu', Q (some (.int (nI (mxL (runs wd (L.getD n 0)))))) none (mw w m th sm hs ln at_ iw rm (rn') cm su pl wy px fs fa ft fn fx fr (fu') fc)) : Sp Γ m10_longest [.ref m, .int (nI n)] none (mw w m th sm hs ln at_ iw rm rn cm su pl wy px fs fa ft fn fx fr fu fc) Q := by
  have b2 : 8 + n < 2147483648 := by omega
  have b3 : 8 + n < 568 := by omega
  have e := hL.2 n hn
  rw [Nat.zero_add] at e
  refine entry Γ m10_longest rfl _ (Nat.le_of_ble_eq_true rfl) _ _ _ ?_
  refine wp_ok kd10_longest 400 0 bb10_longest_0 _ _ _ _ _ _ oo10_longest_0 ?_
  simp only [List.getElem?_cons_zero, List.getElem?_cons_succ, fv4, Nat.reduceAdd, Nat.reduceSub, wp, pst, stp, LG, lput, ls_tl, two, bc, EL, pad, popN, csum, Option.toList, List.cons_append, List.nil_append, List.set_cons_zero, List.set_cons_succ, List.length_cons, List.length_nil, true_and, and_true, Nat.reduceLT, Nat.reduceLeDiff, Nat.zero_le, Nat.le_refl, RI_i, RI_z0, RI_z1, Int32.reduceOfInt, Int8.reduceOfInt, Int16.reduceOfInt, Int64.reduceOfInt, Int8.toInt32_ofNat, Int16.toInt32_ofNat, Int.reduceNeg, Int32.ofInt_neg, Int8.ofInt_neg, Int16.ofInt_neg, Int32.toInt64_ofNat, Int32.reduceToNatClampNeg, Fin.isValue, Fin.val_one, Fin.val_zero, Fin.val_two, Int64.reduceOfNat, Int32.reduceOfNat, hdl, cutc, Nat.reduceEqDiff, reduceIte, FV, tyC, tyX0, tyX1, tyX2, tyX3, tyX4, tyX5, tyX6, tyX7, tyX8, tyX9, tyX10, Nat.reduceMul, c_le, c_lt, c_eq, c_in, c_cl, c_add, c_rem, c_ofN, Int32.add_zero, Int32.zero_add, c_lt0, c_ge0, c_le0, c_gt0, c_e0, c_m1, c_m1', false_implies, true_implies, implies_true, not_false_eq_true, not_true_eq_false, Nat.not_lt_zero, up_s, up_1, up_m, ff10_longest, bb10_longest_0, bb10_longest_17, bb10_longest_44, bb10_longest_45, bb10_longest_52, cl_1, ca_1, cl_8, ca_8, mw_0, mw_1, mw_2, mw_3, mw_4, mw_5, mw_6, mw_7, mw_8, mu_0, mu_1, mu_2, mu_3, mu_4, mu_5, mu_6, mu_7, mu_8, vi_0, vi_1, vi_2, vi_3, vi_4, vi_5, vi_6, b2, b3, e]
  refine sp10_findsRuns wd _ h0 hw (fun fu' hU => ?_)
  unfold holdL
  simp only [List.getElem?_cons_zero, List.getElem?_cons_succ, fv4, Nat.reduceAdd, Nat.reduceSub, wp, pst, stp, LG, lput, ls_tl, two, bc, EL, pad, popN, csum, Option.toList, List.cons_append, List.nil_append, List.set_cons_zero, List.set_cons_succ, List.length_cons, List.length_nil, true_and, and_true, Nat.reduceLT, Nat.reduceLeDiff, Nat.zero_le, Nat.le_refl, RI_i, RI_z0, RI_z1, Int32.reduceOfInt, Int8.reduceOfInt, Int16.reduceOfInt, Int64.reduceOfInt, Int8.toInt32_ofNat, Int16.toInt32_ofNat, Int.reduceNeg, Int32.ofInt_neg, Int8.ofInt_neg, Int16.ofInt_neg, Int32.toInt64_ofNat, Int32.reduceToNatClampNeg, Fin.isValue, Fin.val_one, Fin.val_zero, Fin.val_two, Int64.reduceOfNat, Int32.reduceOfNat, hdl, cutc, Nat.reduceEqDiff, reduceIte, FV, tyC, tyX0, tyX1, tyX2, tyX3, tyX4, tyX5, tyX6, tyX7, tyX8, tyX9, tyX10, Nat.reduceMul, c_le, c_lt, c_eq, c_in, c_cl, c_add, c_rem, c_ofN, Int32.add_zero, Int32.zero_add, c_lt0, c_ge0, c_le0, c_gt0, c_e0, c_m1, c_m1', false_implies, true_implies, implies_true, not_false_eq_true, not_true_eq_false, Nat.not_lt_zero, up_s, up_1, up_m, ff10_longest, bb10_longest_0, bb10_longest_17, bb10_longest_44, bb10_longest_45, bb10_longest_52, cl_1, ca_1, cl_8, ca_8, mw_0, mw_1, mw_2, mw_3, mw_4, mw_5, mw_6, mw_7, mw_8, mu_0, mu_1, mu_2, mu_3, mu_4, mu_5, mu_6, mu_7, mu_8, vi_0, vi_1, vi_2, vi_3, vi_4, vi_5, vi_6]
  have hrl : (runs wd (L.getD n 0)).length ≤ 33 := by
    rw [runs_cnt wd _ hw]
    have := fb_ct_le (bord (L.getD n 0) wd).testBit 32
    omega
  have hre := runs_le wd (L.getD n 0) h1w
  generalize runs wd (L.getD n 0) = R at *
  have bR : R.length < 2147483648 := by omega
  have key : ∀ (suf : List Nat) (k a : Nat), R.drop k = suf → k + suf.length = R.length → a ≤ wd → max a (mxL suf) = mxL R → G Γ m10_longest Q (fun _ _ => False) 17 [some (.ref m), some (.int (nI n)), some (.int (nI a)), some (.int (nI k))] [] none (mw w m th sm hs ln at_ iw rm (nI R.length) cm su pl wy px fs fa ft fn fx fr (fu') fc) 0 0 := by
    intro suf
    induction suf with
    | nil =>
      intro k a hd hk ha hm
      simp only [List.length_nil] at hk
      have b1 : k < 2147483648 := by omega
      simp only [mxL, Nat.max_zero] at hm
      rw [← hm] at hQ
      have hq := hQ (nI R.length) fu'
      refine wp_ok kd10_longest 400 17 bb10_longest_17 _ _ _ _ _ _ oo10_longest_17 ?_
      simp only [List.getElem?_cons_zero, List.getElem?_cons_succ, fv4, Nat.reduceAdd, Nat.reduceSub, wp, pst, stp, LG, lput, ls_tl, two, bc, EL, pad, popN, csum, Option.toList, List.cons_append, List.nil_append, List.set_cons_zero, List.set_cons_succ, List.length_cons, List.length_nil, true_and, and_true, Nat.reduceLT, Nat.reduceLeDiff, Nat.zero_le, Nat.le_refl, RI_i, RI_z0, RI_z1, Int32.reduceOfInt, Int8.reduceOfInt, Int16.reduceOfInt, Int64.reduceOfInt, Int8.toInt32_ofNat, Int16.toInt32_ofNat, Int.reduceNeg, Int32.ofInt_neg, Int8.ofInt_neg, Int16.ofInt_neg, Int32.toInt64_ofNat, Int32.reduceToNatClampNeg, Fin.isValue, Fin.val_one, Fin.val_zero, Fin.val_two, Int64.reduceOfNat, Int32.reduceOfNat, hdl, cutc, Nat.reduceEqDiff, reduceIte, FV, tyC, tyX0, tyX1, tyX2, tyX3, tyX4, tyX5, tyX6, tyX7, tyX8, tyX9, tyX10, Nat.reduceMul, c_le, c_lt, c_eq, c_in, c_cl, c_add, c_rem, c_ofN, Int32.add_zero, Int32.zero_add, c_lt0, c_ge0, c_le0, c_gt0, c_e0, c_m1, c_m1', false_implies, true_implies, implies_true, not_false_eq_true, not_true_eq_false, Nat.not_lt_zero, up_s, up_1, up_m, ff10_longest, bb10_longest_0, bb10_longest_17, bb10_longest_44, bb10_longest_45, bb10_longest_52, cl_1, ca_1, cl_8, ca_8, mw_0, mw_1, mw_2, mw_3, mw_4, mw_5, mw_6, mw_7, mw_8, mu_0, mu_1, mu_2, mu_3, mu_4, mu_5, mu_6, mu_7, mu_8, vi_0, vi_1, vi_2, vi_3, vi_4, vi_5, vi_6, b1, bR]
      exact ⟨fun _ => hq, fun hh => absurd hh (by omega)⟩
    | cons r t ih =>
      intro k a hd hk ha hm
      obtain ⟨hg, hd2⟩ := take_get hd
      simp only [List.length_cons] at hk
      have b1 : k < 2147483648 := by omega
      have b4 : k < 34 := by omega
      have hrw : r ≤ wd := hre r (List.mem_of_getElem? hg)
      have br : r < 2147483648 := by omega
      have ba : a < 2147483648 := by omega
      have ev : fu' k = nI r := by
        rw [hU k (by omega), List.getD_eq_getElem?_getD, hg]; rfl
      simp only [mxL] at hm
      refine wp_ok kd10_longest 400 17 bb10_longest_17 _ _ _ _ _ _ oo10_longest_17 ?_
      simp only [List.getElem?_cons_zero, List.getElem?_cons_succ, fv4, Nat.reduceAdd, Nat.reduceSub, wp, pst, stp, LG, lput, ls_tl, two, bc, EL, pad, popN, csum, Option.toList, List.cons_append, List.nil_append, List.set_cons_zero, List.set_cons_succ, List.length_cons, List.length_nil, true_and, and_true, Nat.reduceLT, Nat.reduceLeDiff, Nat.zero_le, Nat.le_refl, RI_i, RI_z0, RI_z1, Int32.reduceOfInt, Int8.reduceOfInt, Int16.reduceOfInt, Int64.reduceOfInt, Int8.toInt32_ofNat, Int16.toInt32_ofNat, Int.reduceNeg, Int32.ofInt_neg, Int8.ofInt_neg, Int16.ofInt_neg, Int32.toInt64_ofNat, Int32.reduceToNatClampNeg, Fin.isValue, Fin.val_one, Fin.val_zero, Fin.val_two, Int64.reduceOfNat, Int32.reduceOfNat, hdl, cutc, Nat.reduceEqDiff, reduceIte, FV, tyC, tyX0, tyX1, tyX2, tyX3, tyX4, tyX5, tyX6, tyX7, tyX8, tyX9, tyX10, Nat.reduceMul, c_le, c_lt, c_eq, c_in, c_cl, c_add, c_rem, c_ofN, Int32.add_zero, Int32.zero_add, c_lt0, c_ge0, c_le0, c_gt0, c_e0, c_m1, c_m1', false_implies, true_implies, implies_true, not_false_eq_true, not_true_eq_false, Nat.not_lt_zero, up_s, up_1, up_m, ff10_longest, bb10_longest_0, bb10_longest_17, bb10_longest_44, bb10_longest_45, bb10_longest_52, cl_1, ca_1, cl_8, ca_8, mw_0, mw_1, mw_2, mw_3, mw_4, mw_5, mw_6, mw_7, mw_8, mu_0, mu_1, mu_2, mu_3, mu_4, mu_5, mu_6, mu_7, mu_8, vi_0, vi_1, vi_2, vi_3, vi_4, vi_5, vi_6, b1, b4, br, ba, bR, ev]
      refine ⟨fun hh => absurd hh (by omega), fun _ => ⟨fun hh => ?_, fun hh => ?_⟩⟩
      · exact ih (k + 1) a hd2 (by omega) ha (by omega)
      · exact ih (k + 1) r hd2 (by omega) hrw (by omega)
  exact key R 0 0 rfl (Nat.zero_add _) (Nat.zero_le _) (Nat.zero_max _)
end MC

/-! THE MODEL'S CODES -/
theorem vj_0 : vp_in 0 128 = True := eq_true (by unfold vp_in; decide)
theorem vj_1 : vp_in 1 128 = True := eq_true (by unfold vp_in; decide)
theorem vj_2 : vp_in 2 128 = True := eq_true (by unfold vp_in; decide)
theorem vj_3 : vp_in 3 128 = True := eq_true (by unfold vp_in; decide)
theorem vk_0 : vp_in 0 34 = True := eq_true (by unfold vp_in; decide)
theorem IA_last {f : Nat → Int32} {F : List Nat} {a b : Nat} (h : IA f (F ++ [a])) : IA (upd f F.length (nI b)) (F ++ [b]) := by
  intro j hj
  rw [List.length_append] at hj
  simp only [List.length_cons, List.length_nil] at hj
  by_cases q : j = F.length
  · subst q
    rw [upd_eq, List.getD_eq_getElem?_getD, List.getElem?_append_right (Nat.le_refl _), Nat.sub_self]; rfl
  · have := h j (by rw [List.length_append]; simp only [List.length_cons, List.length_nil]; omega)
    rw [upd_ne _ _ q, this, List.getD_eq_getElem?_getD, List.getD_eq_getElem?_getD, List.getElem?_append_left (by omega), List.getElem?_append_left (by omega)]
theorem IA_lastv {f : Nat → Int32} {F : List Nat} {a : Nat} (h : IA f (F ++ [a])) : f F.length = nI a := by
  rw [h F.length (by rw [List.length_append]; simp only [List.length_cons, List.length_nil]; omega), List.getD_eq_getElem?_getD, List.getElem?_append_right (Nat.le_refl _), Nat.sub_self]; rfl
theorem IA_more {f : Nat → Int32} {F : List Nat} {v : Nat} (h : IA f F) : IA (upd f F.length (nI v)) (F ++ [v]) := by
  intro j hj
  rw [List.length_append] at hj
  simp only [List.length_cons, List.length_nil] at hj
  by_cases q : j = F.length
  · subst q
    rw [upd_eq, List.getD_eq_getElem?_getD, List.getElem?_append_right (Nat.le_refl _), Nat.sub_self]; rfl
  · rw [upd_ne _ _ q, h j (by omega), List.getD_eq_getElem?_getD, List.getD_eq_getElem?_getD, List.getElem?_append_left (by omega)]
section MC
variable {Γ : Amb} {w : PW} {Q : Option Value → Option Nat → PW → Prop} {m : Nat} {th sm hs ln at_ iw rm rn cm su pl wy px : Int32} {fs fa ft fn fx fr fu fc : Nat → Int32}
theorem sp10_findsRuns (wd p : Nat) (h0 : fs 0 = nI wd) (hw : wd ≤ 32) (hQ : ∀ fu', IA fu' (runs wd p) → Q none none (mw w m th sm hs ln at_ iw rm (nI (runs wd p).length) cm su pl wy px fs fa ft fn fx fr (fu') fc)) : Sp Γ m10_findsRuns [.ref m, .int (nI p)] none (mw w m th sm hs ln at_ iw rm rn cm su pl wy px fs fa ft fn fx fr fu fc) Q := by
  have b2 : wd < 2147483648 := by omega
  have key : ∀ (n i r : Nat) (b : Bool) (F : List Nat) (f : Nat → Int32), n + i = wd → r ≤ i → F.length ≤ i → F ++ rl p n i b r = runs wd p → IA f (F ++ [r]) → G Γ m10_findsRuns Q (fun _ _ => False) 16 [some (.ref m), some (.int (nI p)), some (.int (nI b.toNat)), some (.int (nI i))] [] none (mw w m th sm hs ln at_ iw rm (nI (F.length + 1)) cm su pl wy px fs fa ft fn fx fr f fc) 0 0 := by
    intro n
    induction n with
    | zero =>
      intro i r b F f hi hr hF hs hI
      have b1 : i < 2147483648 := by omega
      simp only [rl] at hs
      rw [hs] at hI
      have hq := hQ f hI
      rw [← hs, List.length_append] at hq
      refine wp_ok kd10_findsRuns 400 16 bb10_findsRuns_16 _ _ _ _ _ _ oo10_findsRuns_16 ?_
      simp only [List.getElem?_cons_zero, List.getElem?_cons_succ, fv4, Nat.reduceAdd, Nat.reduceSub, wp, pst, stp, LG, lput, ls_tl, two, bc, EL, pad, popN, csum, Option.toList, List.cons_append, List.nil_append, List.set_cons_zero, List.set_cons_succ, List.length_cons, List.length_nil, true_and, and_true, Nat.reduceLT, Nat.reduceLeDiff, Nat.zero_le, Nat.le_refl, RI_i, RI_z0, RI_z1, Int32.reduceOfInt, Int8.reduceOfInt, Int16.reduceOfInt, Int64.reduceOfInt, Int8.toInt32_ofNat, Int16.toInt32_ofNat, Int.reduceNeg, Int32.ofInt_neg, Int8.ofInt_neg, Int16.ofInt_neg, Int32.toInt64_ofNat, Int32.reduceToNatClampNeg, Fin.isValue, Fin.val_one, Fin.val_zero, Fin.val_two, Int64.reduceOfNat, Int32.reduceOfNat, hdl, cutc, Nat.reduceEqDiff, reduceIte, FV, tyC, tyX0, tyX1, tyX2, tyX3, tyX4, tyX5, tyX6, tyX7, tyX8, tyX9, tyX10, Nat.reduceMul, c_le, c_lt, c_eq, c_in, c_cl, c_add, c_rem, c_ofN, Int32.add_zero, Int32.zero_add, c_lt0, c_ge0, c_le0, c_gt0, c_e0, c_m1, c_m1', false_implies, true_implies, implies_true, not_false_eq_true, not_true_eq_false, Nat.not_lt_zero, up_s, up_1, up_m, ff10_findsRuns, bb10_findsRuns_0, bb10_findsRuns_16, bb10_findsRuns_59, bb10_findsRuns_80, cl_1, ca_1, mw_0, mw_1, mw_2, mw_3, mw_4, mw_5, mw_6, mw_7, mw_8, mu_0, mu_1, mu_2, mu_3, mu_4, mu_5, mu_6, mu_7, mu_8, vi_0, vi_1, vi_2, vi_3, vi_4, vi_5, vi_6, h0, b1, b2]
      exact ⟨fun _ => hq, fun hh => absurd hh (by omega)⟩
    | succ n ih =>
      intro i r b F f hi hr hF hs hI
      have b1 : i < 2147483648 := by omega
      have b3 : (p.testBit i).toNat < 2147483648 := by have := tN_le (p.testBit i); omega
      have b4 : b.toNat < 2147483648 := by have := tN_le b; omega
      have b5 : F.length < 2147483648 := by omega
      have b6 : F.length + 1 < 2147483648 := by omega
      have b7 : F.length < 34 := by omega
      have b8 : F.length + 1 < 34 := by omega
      have e1 : nI (F.length + 1) - 1 = nI F.length := c_subr (a := F.length + 1) (b := 1) (by omega)
      have e2 : nI (F.length + 1 + 1) - 1 = nI (F.length + 1) := c_subr (a := F.length + 1 + 1) (b := 1) (by omega)
      have ev := IA_lastv hI
      simp only [rl] at hs
      by_cases hc : p.testBit i = b
      · rw [if_pos hc] at hs
        have hr := ih (i + 1) (r + 1) b F (upd f F.length (nI (r + 1))) (by omega) (by omega) (by omega) hs (IA_last hI)
        have hcN : (p.testBit i).toNat = b.toNat := by rw [hc]
        refine wp_ok kd10_findsRuns 400 16 bb10_findsRuns_16 _ _ _ _ _ _ oo10_findsRuns_16 ?_
        simp only [List.getElem?_cons_zero, List.getElem?_cons_succ, fv4, Nat.reduceAdd, Nat.reduceSub, wp, pst, stp, LG, lput, ls_tl, two, bc, EL, pad, popN, csum, Option.toList, List.cons_append, List.nil_append, List.set_cons_zero, List.set_cons_succ, List.length_cons, List.length_nil, true_and, and_true, Nat.reduceLT, Nat.reduceLeDiff, Nat.zero_le, Nat.le_refl, RI_i, RI_z0, RI_z1, Int32.reduceOfInt, Int8.reduceOfInt, Int16.reduceOfInt, Int64.reduceOfInt, Int8.toInt32_ofNat, Int16.toInt32_ofNat, Int.reduceNeg, Int32.ofInt_neg, Int8.ofInt_neg, Int16.ofInt_neg, Int32.toInt64_ofNat, Int32.reduceToNatClampNeg, Fin.isValue, Fin.val_one, Fin.val_zero, Fin.val_two, Int64.reduceOfNat, Int32.reduceOfNat, hdl, cutc, Nat.reduceEqDiff, reduceIte, FV, tyC, tyX0, tyX1, tyX2, tyX3, tyX4, tyX5, tyX6, tyX7, tyX8, tyX9, tyX10, Nat.reduceMul, c_le, c_lt, c_eq, c_in, c_cl, c_add, c_rem, c_ofN, Int32.add_zero, Int32.zero_add, c_lt0, c_ge0, c_le0, c_gt0, c_e0, c_m1, c_m1', false_implies, true_implies, implies_true, not_false_eq_true, not_true_eq_false, Nat.not_lt_zero, up_s, up_1, up_m, ff10_findsRuns, bb10_findsRuns_0, bb10_findsRuns_16, bb10_findsRuns_59, bb10_findsRuns_80, cl_1, ca_1, mw_0, mw_1, mw_2, mw_3, mw_4, mw_5, mw_6, mw_7, mw_8, mu_0, mu_1, mu_2, mu_3, mu_4, mu_5, mu_6, mu_7, mu_8, vi_0, vi_1, vi_2, vi_3, vi_4, vi_5, vi_6, h0, b1, b2, b3, b4, b5, b6, b7, b8, ibit (p := p) (show i < 32 by omega), e1, ev]
        exact ⟨fun hh => absurd hh (by omega), fun _ => ⟨fun _ => hr, fun hh => absurd hcN hh⟩⟩
      · rw [if_neg hc] at hs
        have hr := ih (i + 1) 1 (!b) (F ++ [r]) (upd (upd f (F.length + 1) 0) (F.length + 1) 1) (by omega) (by omega) (by rw [List.length_append]; simp only [List.length_cons, List.length_nil]; omega) (by rw [List.append_assoc]; exact hs) (by
          have h1 := IA_more (v := 0) hI
          have h2 := IA_last (b := 1) h1
          rw [List.length_append] at h2
          exact h2)
        rw [List.length_append] at hr
        have hcN : ¬(p.testBit i).toNat = b.toNat := by
          revert hc; cases p.testBit i <;> cases b <;> decide
        have eb : 1 - nI b.toNat = nI (!b).toNat := by cases b <;> decide
        refine wp_ok kd10_findsRuns 400 16 bb10_findsRuns_16 _ _ _ _ _ _ oo10_findsRuns_16 ?_
        simp only [List.getElem?_cons_zero, List.getElem?_cons_succ, fv4, Nat.reduceAdd, Nat.reduceSub, wp, pst, stp, LG, lput, ls_tl, two, bc, EL, pad, popN, csum, Option.toList, List.cons_append, List.nil_append, List.set_cons_zero, List.set_cons_succ, List.length_cons, List.length_nil, true_and, and_true, Nat.reduceLT, Nat.reduceLeDiff, Nat.zero_le, Nat.le_refl, RI_i, RI_z0, RI_z1, Int32.reduceOfInt, Int8.reduceOfInt, Int16.reduceOfInt, Int64.reduceOfInt, Int8.toInt32_ofNat, Int16.toInt32_ofNat, Int.reduceNeg, Int32.ofInt_neg, Int8.ofInt_neg, Int16.ofInt_neg, Int32.toInt64_ofNat, Int32.reduceToNatClampNeg, Fin.isValue, Fin.val_one, Fin.val_zero, Fin.val_two, Int64.reduceOfNat, Int32.reduceOfNat, hdl, cutc, Nat.reduceEqDiff, reduceIte, FV, tyC, tyX0, tyX1, tyX2, tyX3, tyX4, tyX5, tyX6, tyX7, tyX8, tyX9, tyX10, Nat.reduceMul, c_le, c_lt, c_eq, c_in, c_cl, c_add, c_rem, c_ofN, Int32.add_zero, Int32.zero_add, c_lt0, c_ge0, c_le0, c_gt0, c_e0, c_m1, c_m1', false_implies, true_implies, implies_true, not_false_eq_true, not_true_eq_false, Nat.not_lt_zero, up_s, up_1, up_m, ff10_findsRuns, bb10_findsRuns_0, bb10_findsRuns_16, bb10_findsRuns_59, bb10_findsRuns_80, cl_1, ca_1, mw_0, mw_1, mw_2, mw_3, mw_4, mw_5, mw_6, mw_7, mw_8, mu_0, mu_1, mu_2, mu_3, mu_4, mu_5, mu_6, mu_7, mu_8, vi_0, vi_1, vi_2, vi_3, vi_4, vi_5, vi_6, h0, b1, b2, b3, b4, b5, b6, b7, b8, ibit (p := p) (show i < 32 by omega), e2, eb, upd_eq]
        exact ⟨fun hh => absurd hh (by omega), fun _ => ⟨fun hh => absurd hh hcN, fun _ => hr⟩⟩
  have hr := key wd 0 0 false [] (upd fu 0 0) rfl (Nat.le_refl 0) (Nat.le_refl 0) rfl (fun j hj => by
    have : j = 0 := by simp only [List.nil_append, List.length_cons, List.length_nil] at hj; omega
    subst this
    rfl)
  refine entry Γ m10_findsRuns rfl _ (Nat.le_of_ble_eq_true rfl) _ _ _ ?_
  refine wp_ok kd10_findsRuns 400 0 bb10_findsRuns_0 _ _ _ _ _ _ oo10_findsRuns_0 ?_
  simp only [List.getElem?_cons_zero, List.getElem?_cons_succ, fv4, Nat.reduceAdd, Nat.reduceSub, wp, pst, stp, LG, lput, ls_tl, two, bc, EL, pad, popN, csum, Option.toList, List.cons_append, List.nil_append, List.set_cons_zero, List.set_cons_succ, List.length_cons, List.length_nil, true_and, and_true, Nat.reduceLT, Nat.reduceLeDiff, Nat.zero_le, Nat.le_refl, RI_i, RI_z0, RI_z1, Int32.reduceOfInt, Int8.reduceOfInt, Int16.reduceOfInt, Int64.reduceOfInt, Int8.toInt32_ofNat, Int16.toInt32_ofNat, Int.reduceNeg, Int32.ofInt_neg, Int8.ofInt_neg, Int16.ofInt_neg, Int32.toInt64_ofNat, Int32.reduceToNatClampNeg, Fin.isValue, Fin.val_one, Fin.val_zero, Fin.val_two, Int64.reduceOfNat, Int32.reduceOfNat, hdl, cutc, Nat.reduceEqDiff, reduceIte, FV, tyC, tyX0, tyX1, tyX2, tyX3, tyX4, tyX5, tyX6, tyX7, tyX8, tyX9, tyX10, Nat.reduceMul, c_le, c_lt, c_eq, c_in, c_cl, c_add, c_rem, c_ofN, Int32.add_zero, Int32.zero_add, c_lt0, c_ge0, c_le0, c_gt0, c_e0, c_m1, c_m1', false_implies, true_implies, implies_true, not_false_eq_true, not_true_eq_false, Nat.not_lt_zero, up_s, up_1, up_m, ff10_findsRuns, bb10_findsRuns_0, bb10_findsRuns_16, bb10_findsRuns_59, bb10_findsRuns_80, cl_1, ca_1, mw_0, mw_1, mw_2, mw_3, mw_4, mw_5, mw_6, mw_7, mw_8, mu_0, mu_1, mu_2, mu_3, mu_4, mu_5, mu_6, mu_7, mu_8, vi_0, vi_1, vi_2, vi_3, vi_4, vi_5, vi_6, vk_0]
  exact hr
theorem sp10_writes {C : List Nat} (hC : IA fc C) (hl : C.length < 126) (n : Nat) (hn : n < 16) (s0 : Nat) (hQ : ∀ fc', IA fc' (C ++ esc n) → Q none none (mw w m th sm hs ln at_ iw rm rn (nI (C ++ esc n).length) (nI (s0 + n)) pl wy px fs fa ft fn fx fr fu (fc'))) : Sp Γ m10_writes [.ref m, .int (nI n)] none (mw w m th sm hs ln at_ iw rm rn (nI C.length) (nI s0) pl wy px fs fa ft fn fx fr fu fc) Q := by
  have b1 : C.length < 2147483648 := by omega
  have b2 : n < 2147483648 := by omega
  have b3 : C.length < 128 := by omega
  have b4 : C.length + 1 < 128 := by omega
  have b5 : C.length + 1 < 2147483648 := by omega
  unfold esc at hQ
  refine entry Γ m10_writes rfl _ (Nat.le_of_ble_eq_true rfl) _ _ _ ?_
  refine wp_ok kd10_writes 400 0 bb10_writes_0 _ _ _ _ _ _ oo10_writes_0 ?_
  simp only [List.getElem?_cons_zero, List.getElem?_cons_succ, fv4, Nat.reduceAdd, Nat.reduceSub, wp, pst, stp, LG, lput, ls_tl, two, bc, EL, pad, popN, csum, Option.toList, List.cons_append, List.nil_append, List.set_cons_zero, List.set_cons_succ, List.length_cons, List.length_nil, true_and, and_true, Nat.reduceLT, Nat.reduceLeDiff, Nat.zero_le, Nat.le_refl, RI_i, RI_z0, RI_z1, Int32.reduceOfInt, Int8.reduceOfInt, Int16.reduceOfInt, Int64.reduceOfInt, Int8.toInt32_ofNat, Int16.toInt32_ofNat, Int.reduceNeg, Int32.ofInt_neg, Int8.ofInt_neg, Int16.ofInt_neg, Int32.toInt64_ofNat, Int32.reduceToNatClampNeg, Fin.isValue, Fin.val_one, Fin.val_zero, Fin.val_two, Int64.reduceOfNat, Int32.reduceOfNat, hdl, cutc, Nat.reduceEqDiff, reduceIte, FV, tyC, tyX0, tyX1, tyX2, tyX3, tyX4, tyX5, tyX6, tyX7, tyX8, tyX9, tyX10, Nat.reduceMul, c_le, c_lt, c_eq, c_in, c_cl, c_add, c_rem, c_ofN, Int32.add_zero, Int32.zero_add, c_lt0, c_ge0, c_le0, c_gt0, c_e0, c_m1, c_m1', false_implies, true_implies, implies_true, not_false_eq_true, not_true_eq_false, Nat.not_lt_zero, up_s, up_1, up_m, ff10_writes, bb10_writes_0, bb10_writes_56, cl_1, ca_1, cl_15, ca_15, mw_0, mw_1, mw_2, mw_3, mw_4, mw_5, mw_6, mw_7, mw_8, mu_0, mu_1, mu_2, mu_3, mu_4, mu_5, mu_6, mu_7, mu_8, vi_0, vi_1, vi_2, vi_3, vi_4, vi_5, vi_6, b1, b2, b3, b4, b5]
  refine ⟨fun h => ?_, fun h => ?_⟩
  · rw [if_neg h] at hQ
    have := hQ _ (IA_more hC)
    rw [List.length_append] at this
    exact this
  · have h := Classical.not_not.mp h
    rw [if_pos h] at hQ
    have h2 := IA_more (v := 1) (IA_more (v := n) hC)
    rw [List.length_append, List.append_assoc] at h2
    subst h
    have := hQ _ h2
    rw [List.length_append] at this
    exact this
theorem sh8 : ∀ k, k < 4 → (8 : Int32) >>> (nI k &&& 31) = nI (2 ^ (3 - k)) := by decide
theorem sp10_writesFours {C : List Nat} (hC : IA fc C) (wd p : Nat) (h0 : fs 0 = nI wd) (hw : wd ≤ 32) (hp : p < 4294967296) (s0 : Nat) (hl : C.length ≤ 8) (hQ : ∀ fc', IA fc' (C ++ (fours p ((wd + 3) / 4) 0).flatMap esc) → Q none none (mw w m th sm hs ln at_ iw rm rn (nI (C ++ (fours p ((wd + 3) / 4) 0).flatMap esc).length) (nI (s0 + (fours p ((wd + 3) / 4) 0).sum)) pl wy px fs fa ft fn fx fr fu (fc'))) : Sp Γ m10_writesFours [.ref m, .int (nI p)] none (mw w m th sm hs ln at_ iw rm rn (nI C.length) (nI s0) pl wy px fs fa ft fn fx fr fu fc) Q := by
  have b2 : wd < 2147483648 := by omega
  have key : ∀ (n k : Nat) (C' : List Nat) (s' : Nat) (f : Nat → Int32) (j3 j4 : Option Value), n + k = (wd + 3) / 4 → C'.length ≤ 8 + 2 * k → C' ++ (fours p n (4 * k)).flatMap esc = C ++ (fours p ((wd + 3) / 4) 0).flatMap esc → s' + (fours p n (4 * k)).sum = s0 + (fours p ((wd + 3) / 4) 0).sum → IA f C' → G Γ m10_writesFours Q (fun _ _ => False) 2 [some (.ref m), some (.int (nI p)), some (.int (nI (4 * k))), j3, j4] [] none (mw w m th sm hs ln at_ iw rm rn (nI C'.length) (nI s') pl wy px fs fa ft fn fx fr fu f) 0 0 := by
    intro n
    induction n with
    | zero =>
      intro k C' s' f j3 j4 hk hcl hc hsu hI
      have b1 : 4 * k < 2147483648 := by omega
      simp only [fours, List.flatMap_nil, List.append_nil, List.sum_nil, Nat.add_zero] at hc hsu
      rw [← hc, ← hsu] at hQ
      have hq := hQ f hI
      refine wp_ok kd10_writesFours 400 2 bb10_writesFours_2 _ _ _ _ _ _ oo10_writesFours_2 ?_
      simp only [List.getElem?_cons_zero, List.getElem?_cons_succ, fv4, Nat.reduceAdd, Nat.reduceSub, wp, pst, stp, LG, lput, ls_tl, two, bc, EL, pad, popN, csum, Option.toList, List.cons_append, List.nil_append, List.set_cons_zero, List.set_cons_succ, List.length_cons, List.length_nil, true_and, and_true, Nat.reduceLT, Nat.reduceLeDiff, Nat.zero_le, Nat.le_refl, RI_i, RI_z0, RI_z1, Int32.reduceOfInt, Int8.reduceOfInt, Int16.reduceOfInt, Int64.reduceOfInt, Int8.toInt32_ofNat, Int16.toInt32_ofNat, Int.reduceNeg, Int32.ofInt_neg, Int8.ofInt_neg, Int16.ofInt_neg, Int32.toInt64_ofNat, Int32.reduceToNatClampNeg, Fin.isValue, Fin.val_one, Fin.val_zero, Fin.val_two, Int64.reduceOfNat, Int32.reduceOfNat, hdl, cutc, Nat.reduceEqDiff, reduceIte, FV, tyC, tyX0, tyX1, tyX2, tyX3, tyX4, tyX5, tyX6, tyX7, tyX8, tyX9, tyX10, Nat.reduceMul, c_le, c_lt, c_eq, c_in, c_cl, c_add, c_rem, c_ofN, Int32.add_zero, Int32.zero_add, c_lt0, c_ge0, c_le0, c_gt0, c_e0, c_m1, c_m1', false_implies, true_implies, implies_true, not_false_eq_true, not_true_eq_false, Nat.not_lt_zero, up_s, up_1, up_m, ff10_writesFours, bb10_writesFours_0, bb10_writesFours_2, bb10_writesFours_17, bb10_writesFours_53, bb10_writesFours_54, bb10_writesFours_62, bb10_writesFours_73, cl_1, ca_1, cl_4, ca_4, cl_8, ca_8, cl_32, ca_32, mw_0, mw_1, mw_2, mw_3, mw_4, mw_5, mw_6, mw_7, mw_8, mu_0, mu_1, mu_2, mu_3, mu_4, mu_5, mu_6, mu_7, mu_8, vi_0, vi_1, vi_2, vi_3, vi_4, vi_5, vi_6, h0, b1, b2]
      exact ⟨fun _ => hq, fun hh => absurd hh (by omega)⟩
    | succ n ih =>
      intro k C' s' f j3 j4 hk hcl hc hsu hI
      have b1 : 4 * k < 2147483648 := by omega
      simp only [fours, List.flatMap_cons, List.sum_cons] at hc hsu
      have hfl := four_lt p (4 * k)
      have hel := esc_len (four p (4 * k))
      have b3 : 4 * k + 4 < 2147483648 := by omega
      have hW : G Γ m10_writesFours Q (fun _ _ => False) 62 [some (.ref m), some (.int (nI p)), some (.int (nI (4 * k))), some (.int (nI (four p (4 * k)))), some (.int (nI 4))] [] none (mw w m th sm hs ln at_ iw rm rn (nI C'.length) (nI s') pl wy px fs fa ft fn fx fr fu f) 0 0 := by
        refine wp_ok kd10_writesFours 400 62 bb10_writesFours_62 _ _ _ _ _ _ oo10_writesFours_62 ?_
        simp only [List.getElem?_cons_zero, List.getElem?_cons_succ, fv4, Nat.reduceAdd, Nat.reduceSub, wp, pst, stp, LG, lput, ls_tl, two, bc, EL, pad, popN, csum, Option.toList, List.cons_append, List.nil_append, List.set_cons_zero, List.set_cons_succ, List.length_cons, List.length_nil, true_and, and_true, Nat.reduceLT, Nat.reduceLeDiff, Nat.zero_le, Nat.le_refl, RI_i, RI_z0, RI_z1, Int32.reduceOfInt, Int8.reduceOfInt, Int16.reduceOfInt, Int64.reduceOfInt, Int8.toInt32_ofNat, Int16.toInt32_ofNat, Int.reduceNeg, Int32.ofInt_neg, Int8.ofInt_neg, Int16.ofInt_neg, Int32.toInt64_ofNat, Int32.reduceToNatClampNeg, Fin.isValue, Fin.val_one, Fin.val_zero, Fin.val_two, Int64.reduceOfNat, Int32.reduceOfNat, hdl, cutc, Nat.reduceEqDiff, reduceIte, FV, tyC, tyX0, tyX1, tyX2, tyX3, tyX4, tyX5, tyX6, tyX7, tyX8, tyX9, tyX10, Nat.reduceMul, c_le, c_lt, c_eq, c_in, c_cl, c_add, c_rem, c_ofN, Int32.add_zero, Int32.zero_add, c_lt0, c_ge0, c_le0, c_gt0, c_e0, c_m1, c_m1', false_implies, true_implies, implies_true, not_false_eq_true, not_true_eq_false, Nat.not_lt_zero, up_s, up_1, up_m, ff10_writesFours, bb10_writesFours_0, bb10_writesFours_2, bb10_writesFours_17, bb10_writesFours_53, bb10_writesFours_54, bb10_writesFours_62, bb10_writesFours_73, cl_1, ca_1, cl_4, ca_4, cl_8, ca_8, cl_32, ca_32, mw_0, mw_1, mw_2, mw_3, mw_4, mw_5, mw_6, mw_7, mw_8, mu_0, mu_1, mu_2, mu_3, mu_4, mu_5, mu_6, mu_7, mu_8, vi_0, vi_1, vi_2, vi_3, vi_4, vi_5, vi_6]
        refine sp10_writes hI (by omega) _ hfl _ (fun f' hI' => ?_)
        unfold holdL
        simp only [List.getElem?_cons_zero, List.getElem?_cons_succ, fv4, Nat.reduceAdd, Nat.reduceSub, wp, pst, stp, LG, lput, ls_tl, two, bc, EL, pad, popN, csum, Option.toList, List.cons_append, List.nil_append, List.set_cons_zero, List.set_cons_succ, List.length_cons, List.length_nil, true_and, and_true, Nat.reduceLT, Nat.reduceLeDiff, Nat.zero_le, Nat.le_refl, RI_i, RI_z0, RI_z1, Int32.reduceOfInt, Int8.reduceOfInt, Int16.reduceOfInt, Int64.reduceOfInt, Int8.toInt32_ofNat, Int16.toInt32_ofNat, Int.reduceNeg, Int32.ofInt_neg, Int8.ofInt_neg, Int16.ofInt_neg, Int32.toInt64_ofNat, Int32.reduceToNatClampNeg, Fin.isValue, Fin.val_one, Fin.val_zero, Fin.val_two, Int64.reduceOfNat, Int32.reduceOfNat, hdl, cutc, Nat.reduceEqDiff, reduceIte, FV, tyC, tyX0, tyX1, tyX2, tyX3, tyX4, tyX5, tyX6, tyX7, tyX8, tyX9, tyX10, Nat.reduceMul, c_le, c_lt, c_eq, c_in, c_cl, c_add, c_rem, c_ofN, Int32.add_zero, Int32.zero_add, c_lt0, c_ge0, c_le0, c_gt0, c_e0, c_m1, c_m1', false_implies, true_implies, implies_true, not_false_eq_true, not_true_eq_false, Nat.not_lt_zero, up_s, up_1, up_m, ff10_writesFours, bb10_writesFours_0, bb10_writesFours_2, bb10_writesFours_17, bb10_writesFours_53, bb10_writesFours_54, bb10_writesFours_62, bb10_writesFours_73, cl_1, ca_1, cl_4, ca_4, cl_8, ca_8, cl_32, ca_32, mw_0, mw_1, mw_2, mw_3, mw_4, mw_5, mw_6, mw_7, mw_8, mu_0, mu_1, mu_2, mu_3, mu_4, mu_5, mu_6, mu_7, mu_8, vi_0, vi_1, vi_2, vi_3, vi_4, vi_5, vi_6, b1]
        have hr := ih (k + 1) (C' ++ esc (four p (4 * k))) (s' + four p (4 * k)) f' (some (.int (nI (four p (4 * k))))) (some (.int (nI 4))) (by omega) (by rw [List.length_append]; omega) (by rw [List.append_assoc]; exact hc) (by rw [Nat.add_assoc]; exact hsu) hI'
        exact hr
      have inner : ∀ (u i a : Nat), u + i = 4 → a + (if i = 0 then four p (4 * k) else if i = 1 then four p (4 * k) - 8 * bN p (4 * k) else if i = 2 then 2 * bN p (4 * k + 2) + bN p (4 * k + 3) else if i = 3 then bN p (4 * k + 3) else 0) = four p (4 * k) → G Γ m10_writesFours Q (fun _ _ => False) 17 [some (.ref m), some (.int (nI p)), some (.int (nI (4 * k))), some (.int (nI a)), some (.int (nI i))] [] none (mw w m th sm hs ln at_ iw rm rn (nI C'.length) (nI s') pl wy px fs fa ft fn fx fr fu f) 0 0 := by
        intro u
        induction u with
        | zero =>
          intro i a hi ha
          have hi4 : i = 4 := by omega
          subst hi4
          simp only [Nat.reduceEqDiff, if_false, Nat.add_zero] at ha
          subst ha
          refine wp_ok (kd_cut 62 kd10_writesFours) 400 17 bb10_writesFours_17 _ _ _ _ _ _ oo10_writesFours_17 ?_
          simp only [List.getElem?_cons_zero, List.getElem?_cons_succ, fv4, Nat.reduceAdd, Nat.reduceSub, wp, pst, stp, LG, lput, ls_tl, two, bc, EL, pad, popN, csum, Option.toList, List.cons_append, List.nil_append, List.set_cons_zero, List.set_cons_succ, List.length_cons, List.length_nil, true_and, and_true, Nat.reduceLT, Nat.reduceLeDiff, Nat.zero_le, Nat.le_refl, RI_i, RI_z0, RI_z1, Int32.reduceOfInt, Int8.reduceOfInt, Int16.reduceOfInt, Int64.reduceOfInt, Int8.toInt32_ofNat, Int16.toInt32_ofNat, Int.reduceNeg, Int32.ofInt_neg, Int8.ofInt_neg, Int16.ofInt_neg, Int32.toInt64_ofNat, Int32.reduceToNatClampNeg, Fin.isValue, Fin.val_one, Fin.val_zero, Fin.val_two, Int64.reduceOfNat, Int32.reduceOfNat, hdl, cutc, Nat.reduceEqDiff, reduceIte, FV, tyC, tyX0, tyX1, tyX2, tyX3, tyX4, tyX5, tyX6, tyX7, tyX8, tyX9, tyX10, Nat.reduceMul, c_le, c_lt, c_eq, c_in, c_cl, c_add, c_rem, c_ofN, Int32.add_zero, Int32.zero_add, c_lt0, c_ge0, c_le0, c_gt0, c_e0, c_m1, c_m1', false_implies, true_implies, implies_true, not_false_eq_true, not_true_eq_false, Nat.not_lt_zero, up_s, up_1, up_m, ff10_writesFours, bb10_writesFours_0, bb10_writesFours_2, bb10_writesFours_17, bb10_writesFours_53, bb10_writesFours_54, bb10_writesFours_62, bb10_writesFours_73, cl_1, ca_1, cl_4, ca_4, cl_8, ca_8, cl_32, ca_32, mw_0, mw_1, mw_2, mw_3, mw_4, mw_5, mw_6, mw_7, mw_8, mu_0, mu_1, mu_2, mu_3, mu_4, mu_5, mu_6, mu_7, mu_8, vi_0, vi_1, vi_2, vi_3, vi_4, vi_5, vi_6]
          exact hW
        | succ u ihu =>
          intro i a hi ha
          have c1 : i < 2147483648 := by omega
          have c2 : 4 * k + i < 2147483648 := by omega
          have c3 : (p.testBit (4 * k + i)).toNat < 2147483648 := by have := tN_le (p.testBit (4 * k + i)); omega
          have hadd : a + bN p (4 * k + i) * 2 ^ (3 - i) + (if i + 1 = 0 then four p (4 * k) else if i + 1 = 1 then four p (4 * k) - 8 * bN p (4 * k) else if i + 1 = 2 then 2 * bN p (4 * k + 2) + bN p (4 * k + 3) else if i + 1 = 3 then bN p (4 * k + 3) else 0) = four p (4 * k) := by
            have g0 : four p (4 * k) = 8 * bN p (4 * k) + 4 * bN p (4 * k + 1) + 2 * bN p (4 * k + 2) + bN p (4 * k + 3) := by unfold four; omega
            rcases (show i = 0 ∨ i = 1 ∨ i = 2 ∨ i = 3 by omega) with rfl | rfl | rfl | rfl
            all_goals simp at ha ⊢
            all_goals omega
          have hr := ihu (i + 1) (a + bN p (4 * k + i) * 2 ^ (3 - i)) (by omega) hadd
          by_cases h32 : 4 * k + i < 32
          · refine wp_ok (kd_cut 62 kd10_writesFours) 400 17 bb10_writesFours_17 _ _ _ _ _ _ oo10_writesFours_17 ?_
            simp only [List.getElem?_cons_zero, List.getElem?_cons_succ, fv4, Nat.reduceAdd, Nat.reduceSub, wp, pst, stp, LG, lput, ls_tl, two, bc, EL, pad, popN, csum, Option.toList, List.cons_append, List.nil_append, List.set_cons_zero, List.set_cons_succ, List.length_cons, List.length_nil, true_and, and_true, Nat.reduceLT, Nat.reduceLeDiff, Nat.zero_le, Nat.le_refl, RI_i, RI_z0, RI_z1, Int32.reduceOfInt, Int8.reduceOfInt, Int16.reduceOfInt, Int64.reduceOfInt, Int8.toInt32_ofNat, Int16.toInt32_ofNat, Int.reduceNeg, Int32.ofInt_neg, Int8.ofInt_neg, Int16.ofInt_neg, Int32.toInt64_ofNat, Int32.reduceToNatClampNeg, Fin.isValue, Fin.val_one, Fin.val_zero, Fin.val_two, Int64.reduceOfNat, Int32.reduceOfNat, hdl, cutc, Nat.reduceEqDiff, reduceIte, FV, tyC, tyX0, tyX1, tyX2, tyX3, tyX4, tyX5, tyX6, tyX7, tyX8, tyX9, tyX10, Nat.reduceMul, c_le, c_lt, c_eq, c_in, c_cl, c_add, c_rem, c_ofN, Int32.add_zero, Int32.zero_add, c_lt0, c_ge0, c_le0, c_gt0, c_e0, c_m1, c_m1', false_implies, true_implies, implies_true, not_false_eq_true, not_true_eq_false, Nat.not_lt_zero, up_s, up_1, up_m, ff10_writesFours, bb10_writesFours_0, bb10_writesFours_2, bb10_writesFours_17, bb10_writesFours_53, bb10_writesFours_54, bb10_writesFours_62, bb10_writesFours_73, cl_1, ca_1, cl_4, ca_4, cl_8, ca_8, cl_32, ca_32, mw_0, mw_1, mw_2, mw_3, mw_4, mw_5, mw_6, mw_7, mw_8, mu_0, mu_1, mu_2, mu_3, mu_4, mu_5, mu_6, mu_7, mu_8, vi_0, vi_1, vi_2, vi_3, vi_4, vi_5, vi_6, c1, c2, c3, ibit (p := p) h32, sh8 i (by omega)]
            refine ⟨fun hh => absurd hh (by omega), fun _ => ⟨fun hh => absurd hh (by omega), fun _ => ?_⟩⟩
            unfold bN at hr
            cases hb : p.testBit (4 * k + i) with
            | true =>
              rw [hb] at hr
              rw [show Bool.toNat true * 2 ^ (3 - i) = 2 ^ (3 - i) from Nat.one_mul _] at hr
              exact ⟨fun hh => absurd rfl hh, fun _ => hr⟩
            | false =>
              rw [hb] at hr
              rw [show Bool.toNat false * 2 ^ (3 - i) = 0 from Nat.zero_mul _, Nat.add_zero] at hr
              exact ⟨fun _ => hr, fun hh => absurd (by decide) hh⟩
          · have hpw : (2 : Nat) ^ 32 ≤ 2 ^ (4 * k + i) := Nat.pow_le_pow_right (by decide) (by omega)
            have hb : p.testBit (4 * k + i) = false := Nat.testBit_lt_two_pow (by omega)
            unfold bN at hr
            rw [hb, show Bool.toNat false * 2 ^ (3 - i) = 0 from Nat.zero_mul _, Nat.add_zero] at hr
            refine wp_ok (kd_cut 62 kd10_writesFours) 400 17 bb10_writesFours_17 _ _ _ _ _ _ oo10_writesFours_17 ?_
            simp only [List.getElem?_cons_zero, List.getElem?_cons_succ, fv4, Nat.reduceAdd, Nat.reduceSub, wp, pst, stp, LG, lput, ls_tl, two, bc, EL, pad, popN, csum, Option.toList, List.cons_append, List.nil_append, List.set_cons_zero, List.set_cons_succ, List.length_cons, List.length_nil, true_and, and_true, Nat.reduceLT, Nat.reduceLeDiff, Nat.zero_le, Nat.le_refl, RI_i, RI_z0, RI_z1, Int32.reduceOfInt, Int8.reduceOfInt, Int16.reduceOfInt, Int64.reduceOfInt, Int8.toInt32_ofNat, Int16.toInt32_ofNat, Int.reduceNeg, Int32.ofInt_neg, Int8.ofInt_neg, Int16.ofInt_neg, Int32.toInt64_ofNat, Int32.reduceToNatClampNeg, Fin.isValue, Fin.val_one, Fin.val_zero, Fin.val_two, Int64.reduceOfNat, Int32.reduceOfNat, hdl, cutc, Nat.reduceEqDiff, reduceIte, FV, tyC, tyX0, tyX1, tyX2, tyX3, tyX4, tyX5, tyX6, tyX7, tyX8, tyX9, tyX10, Nat.reduceMul, c_le, c_lt, c_eq, c_in, c_cl, c_add, c_rem, c_ofN, Int32.add_zero, Int32.zero_add, c_lt0, c_ge0, c_le0, c_gt0, c_e0, c_m1, c_m1', false_implies, true_implies, implies_true, not_false_eq_true, not_true_eq_false, Nat.not_lt_zero, up_s, up_1, up_m, ff10_writesFours, bb10_writesFours_0, bb10_writesFours_2, bb10_writesFours_17, bb10_writesFours_53, bb10_writesFours_54, bb10_writesFours_62, bb10_writesFours_73, cl_1, ca_1, cl_4, ca_4, cl_8, ca_8, cl_32, ca_32, mw_0, mw_1, mw_2, mw_3, mw_4, mw_5, mw_6, mw_7, mw_8, mu_0, mu_1, mu_2, mu_3, mu_4, mu_5, mu_6, mu_7, mu_8, vi_0, vi_1, vi_2, vi_3, vi_4, vi_5, vi_6, c1, c2, c3, ibit (p := p) (show (0 : Nat) < 32 by decide)]
            exact ⟨fun hh => absurd hh (by omega), fun _ => ⟨fun _ => hr, fun hh => absurd h32 (by omega)⟩⟩
      have hin := inner 4 0 0 rfl (Nat.zero_add _)
      refine wp_ok kd10_writesFours 400 2 bb10_writesFours_2 _ _ _ _ _ _ oo10_writesFours_2 ?_
      simp only [List.getElem?_cons_zero, List.getElem?_cons_succ, fv4, Nat.reduceAdd, Nat.reduceSub, wp, pst, stp, LG, lput, ls_tl, two, bc, EL, pad, popN, csum, Option.toList, List.cons_append, List.nil_append, List.set_cons_zero, List.set_cons_succ, List.length_cons, List.length_nil, true_and, and_true, Nat.reduceLT, Nat.reduceLeDiff, Nat.zero_le, Nat.le_refl, RI_i, RI_z0, RI_z1, Int32.reduceOfInt, Int8.reduceOfInt, Int16.reduceOfInt, Int64.reduceOfInt, Int8.toInt32_ofNat, Int16.toInt32_ofNat, Int.reduceNeg, Int32.ofInt_neg, Int8.ofInt_neg, Int16.ofInt_neg, Int32.toInt64_ofNat, Int32.reduceToNatClampNeg, Fin.isValue, Fin.val_one, Fin.val_zero, Fin.val_two, Int64.reduceOfNat, Int32.reduceOfNat, hdl, cutc, Nat.reduceEqDiff, reduceIte, FV, tyC, tyX0, tyX1, tyX2, tyX3, tyX4, tyX5, tyX6, tyX7, tyX8, tyX9, tyX10, Nat.reduceMul, c_le, c_lt, c_eq, c_in, c_cl, c_add, c_rem, c_ofN, Int32.add_zero, Int32.zero_add, c_lt0, c_ge0, c_le0, c_gt0, c_e0, c_m1, c_m1', false_implies, true_implies, implies_true, not_false_eq_true, not_true_eq_false, Nat.not_lt_zero, up_s, up_1, up_m, ff10_writesFours, bb10_writesFours_0, bb10_writesFours_2, bb10_writesFours_17, bb10_writesFours_53, bb10_writesFours_54, bb10_writesFours_62, bb10_writesFours_73, cl_1, ca_1, cl_4, ca_4, cl_8, ca_8, cl_32, ca_32, mw_0, mw_1, mw_2, mw_3, mw_4, mw_5, mw_6, mw_7, mw_8, mu_0, mu_1, mu_2, mu_3, mu_4, mu_5, mu_6, mu_7, mu_8, vi_0, vi_1, vi_2, vi_3, vi_4, vi_5, vi_6, h0, b1, b2]
      exact ⟨fun hh => absurd hh (by omega), fun _ => hin⟩
  have hr := key ((wd + 3) / 4) 0 C s0 fc none none rfl (by omega) rfl rfl hC
  refine entry Γ m10_writesFours rfl _ (Nat.le_of_ble_eq_true rfl) _ _ _ ?_
  refine wp_ok kd10_writesFours 400 0 bb10_writesFours_0 _ _ _ _ _ _ oo10_writesFours_0 ?_
  simp only [List.getElem?_cons_zero, List.getElem?_cons_succ, fv4, Nat.reduceAdd, Nat.reduceSub, wp, pst, stp, LG, lput, ls_tl, two, bc, EL, pad, popN, csum, Option.toList, List.cons_append, List.nil_append, List.set_cons_zero, List.set_cons_succ, List.length_cons, List.length_nil, true_and, and_true, Nat.reduceLT, Nat.reduceLeDiff, Nat.zero_le, Nat.le_refl, RI_i, RI_z0, RI_z1, Int32.reduceOfInt, Int8.reduceOfInt, Int16.reduceOfInt, Int64.reduceOfInt, Int8.toInt32_ofNat, Int16.toInt32_ofNat, Int.reduceNeg, Int32.ofInt_neg, Int8.ofInt_neg, Int16.ofInt_neg, Int32.toInt64_ofNat, Int32.reduceToNatClampNeg, Fin.isValue, Fin.val_one, Fin.val_zero, Fin.val_two, Int64.reduceOfNat, Int32.reduceOfNat, hdl, cutc, Nat.reduceEqDiff, reduceIte, FV, tyC, tyX0, tyX1, tyX2, tyX3, tyX4, tyX5, tyX6, tyX7, tyX8, tyX9, tyX10, Nat.reduceMul, c_le, c_lt, c_eq, c_in, c_cl, c_add, c_rem, c_ofN, Int32.add_zero, Int32.zero_add, c_lt0, c_ge0, c_le0, c_gt0, c_e0, c_m1, c_m1', false_implies, true_implies, implies_true, not_false_eq_true, not_true_eq_false, Nat.not_lt_zero, up_s, up_1, up_m, ff10_writesFours, bb10_writesFours_0, bb10_writesFours_2, bb10_writesFours_17, bb10_writesFours_53, bb10_writesFours_54, bb10_writesFours_62, bb10_writesFours_73, cl_1, ca_1, cl_4, ca_4, cl_8, ca_8, cl_32, ca_32, mw_0, mw_1, mw_2, mw_3, mw_4, mw_5, mw_6, mw_7, mw_8, mu_0, mu_1, mu_2, mu_3, mu_4, mu_5, mu_6, mu_7, mu_8, vi_0, vi_1, vi_2, vi_3, vi_4, vi_5, vi_6]
  exact hr
end MC

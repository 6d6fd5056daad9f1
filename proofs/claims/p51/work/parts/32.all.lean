/-! READING A STREAM -/
/-- the first marker from p on -/
def mfr (s : List Nat) : Nat → Nat → Option Nat
  | 0, _ => none
  | n + 1, p => if s[p]? = some 15 ∧ s[p + 1]? = some 0 then some p else mfr s n (p + 1)
theorem mfr_some (s : List Nat) : ∀ n i p, i ≤ p → p < i + n → mkr s p → (∀ q, i ≤ q → q < p → ¬ mkr s q) → mfr s n i = some p := by
  intro n
  induction n with
  | zero => intro i p h1 h2; omega
  | succ n ih =>
    intro i p h1 h2 h3 h4
    simp only [mfr]
    by_cases h : i = p
    · subst h; exact if_pos h3
    · have h5 : ¬(s[i]? = some 15 ∧ s[i + 1]? = some 0) := h4 i (Nat.le_refl _) (by omega)
      rw [if_neg h5]
      exact ih (i + 1) p (by omega) (by omega) h3 (fun q a b => h4 q (by omega) b)
theorem mfr_none (s : List Nat) : ∀ n i, (∀ q, i ≤ q → ¬ mkr s q) → mfr s n i = none := by
  intro n
  induction n with
  | zero => intro i _; rfl
  | succ n ih =>
    intro i h
    have h5 : ¬(s[i]? = some 15 ∧ s[i + 1]? = some 0) := h i (Nat.le_refl _)
    simp only [mfr]
    rw [if_neg h5]
    exact ih (i + 1) (fun q a => h q (by omega))
/-- what a reading brings -/
def rdg (s : List Nat) (wd : Nat) : Nat → Nat → List (Option Nat) → List (Nat × Nat) → List (Option Nat) × List (Nat × Nat)
  | 0, _, R, E => (R, E)
  | n + 1, p, R, E =>
    match mfr s s.length p with
    | none => (R, E)
    | some k =>
      match rcd s wd R (k + 2) with
      | .inl e => rdg s wd n (k + 2) R (noteE E k e)
      | .inr (l, x, q) => rdg s wd n q (R.set l (some x)) E
section ALL
variable {Γ : Amb} {w : PW} {Q : Option Value → Option Nat → PW → Prop} {a r c : Nat} {s : List Nat}
theorem sp5_readAll {R1 : List (Option Nat)} {E1 : List (Nat × Nat)} {p0 s0 e0 : Int32} (hS : SmR w a s) (hR : RcR w c R1 E1) (hv : ∀ v ∈ s, v < 16) (wd : Nat) (h1w : 1 ≤ wd) (hw : wd ≤ 32) (hr : w r = some (rdc p0 s0 e0)) (hd : r < a ∨ a + 2 ≤ r) (hd2 : r < c ∨ c + 4 ≤ r) (hd3 : a + 2 ≤ c ∨ c + 4 ≤ a) (hQ : ∀ w' p' s' e', RcR w' c (rdg s wd 500 0 R0 []).1 (rdg s wd 500 0 R0 []).2 → w' r = some (rdc p' s' e') → Fr2 w w' r 1 c 4 → Q none none w') : Sp Γ m5_readAll [.ref r, .ref a, .int (nI wd), .ref c] none w Q := by
  have b2 : wd < 2147483648 := by omega
  obtain ⟨sf, s1, s2, s3, s4⟩ := id hS
  obtain ⟨_, _, _, _, q0, -⟩ := id hR
  generalize hRES : rdg s wd 500 0 R0 [] = RES at hQ
  have f0 : ∀ (w : PW) e, Fr w (up w r e) r 1 := fun w e => Fr.wr (by omega) (by omega)
  have key : ∀ (n j p : Nat) (w1 : PW) (sm re : Int32) (R : List (Option Nat)) (E : List (Nat × Nat)) (j5 : Option Value), n + j = 500 → p ≤ s.length → rdg s wd n p R E = RES → RcR w1 c R E → w1 r = some (rdc (nI p) sm re) → Fr2 w w1 r 1 c 4 → G Γ m5_readAll Q (fun _ _ => False) 12 [some (.ref r), some (.ref a), some (.int (nI wd)), some (.ref c), some (.int (nI j)), j5] [] none w1 0 0 := by
    intro n
    induction n with
    | zero =>
      intro j p w1 sm re R E j5 hj hp hg hR1 hr1 hF
      have hj5 : j = 500 := by omega
      subst hj5
      simp only [rdg] at hg
      rw [← hg] at hQ
      have hr1' := hr1
      unfold rdc at hr1'
      refine wp_ok kd5_readAll 400 12 bb5_readAll_12 _ _ _ _ _ _ oo5_readAll_12 ?_
      simp only [List.getElem?_cons_zero, List.getElem?_cons_succ, fv4, Nat.reduceAdd, Nat.reduceSub, wp, pst, stp, LG, lput, ls_tl, two, bc, EL, pad, popN, csum, Option.toList, List.cons_append, List.nil_append, List.set_cons_zero, List.set_cons_succ, List.length_cons, List.length_nil, true_and, and_true, Nat.reduceLT, Nat.reduceLeDiff, Nat.zero_le, Nat.le_refl, RI_i, RI_z0, RI_z1, Int32.reduceOfInt, Int8.reduceOfInt, Int16.reduceOfInt, Int64.reduceOfInt, Int8.toInt32_ofNat, Int16.toInt32_ofNat, Int.reduceNeg, Int32.ofInt_neg, Int8.ofInt_neg, Int16.ofInt_neg, Int32.toInt64_ofNat, Int32.reduceToNatClampNeg, Fin.isValue, Fin.val_one, Fin.val_zero, Fin.val_two, Int64.reduceOfNat, Int32.reduceOfNat, hdl, cutc, Nat.reduceEqDiff, reduceIte, FV, tyC, tyX0, tyX1, tyX2, tyX3, tyX4, tyX5, tyX6, tyX7, tyX8, tyX9, tyX10, Nat.reduceMul, c_le, c_lt, c_eq, c_in, c_cl, c_add, c_rem, c_ofN, Int32.add_zero, Int32.zero_add, c_lt0, c_ge0, c_le0, c_gt0, c_e0, c_m1, c_m1', false_implies, true_implies, implies_true, not_false_eq_true, not_true_eq_false, Nat.not_lt_zero, up_s, up_1, up_m, ff5_readAll, bb5_readAll_0, bb5_readAll_12, bb5_readAll_37, bb5_readAll_82, bb5_readAll_88, cl_1, ca_1, cl_2, ca_2, cl_500, ca_500, hr1']
      exact hQ w1 _ _ _ hR1 hr1 hF
    | succ n ih =>
      intro j p w1 sm re R E j5 hj hp hg hR1 hr1 hF
      have b1 : j < 2147483648 := by omega
      have b3 : p < 2147483648 := by omega
      obtain ⟨v1, g1, g2⟩ := hF.split
      have hS1 : SmR w1 a s := (hS.fr g1 (by omega)).fr g2 (by omega)
      obtain ⟨_, y1, -⟩ := id hS1
      obtain ⟨_, _, _, _, q1, -⟩ := id hR1
      simp only [rdg] at hg
      have hr1' := hr1
      unfold rdc at hr1'
      refine wp_ok kd5_readAll 400 12 bb5_readAll_12 _ _ _ _ _ _ oo5_readAll_12 ?_
      simp only [List.getElem?_cons_zero, List.getElem?_cons_succ, fv4, Nat.reduceAdd, Nat.reduceSub, wp, pst, stp, LG, lput, ls_tl, two, bc, EL, pad, popN, csum, Option.toList, List.cons_append, List.nil_append, List.set_cons_zero, List.set_cons_succ, List.length_cons, List.length_nil, true_and, and_true, Nat.reduceLT, Nat.reduceLeDiff, Nat.zero_le, Nat.le_refl, RI_i, RI_z0, RI_z1, Int32.reduceOfInt, Int8.reduceOfInt, Int16.reduceOfInt, Int64.reduceOfInt, Int8.toInt32_ofNat, Int16.toInt32_ofNat, Int.reduceNeg, Int32.ofInt_neg, Int8.ofInt_neg, Int16.ofInt_neg, Int32.toInt64_ofNat, Int32.reduceToNatClampNeg, Fin.isValue, Fin.val_one, Fin.val_zero, Fin.val_two, Int64.reduceOfNat, Int32.reduceOfNat, hdl, cutc, Nat.reduceEqDiff, reduceIte, FV, tyC, tyX0, tyX1, tyX2, tyX3, tyX4, tyX5, tyX6, tyX7, tyX8, tyX9, tyX10, Nat.reduceMul, c_le, c_lt, c_eq, c_in, c_cl, c_add, c_rem, c_ofN, Int32.add_zero, Int32.zero_add, c_lt0, c_ge0, c_le0, c_gt0, c_e0, c_m1, c_m1', false_implies, true_implies, implies_true, not_false_eq_true, not_true_eq_false, Nat.not_lt_zero, up_s, up_1, up_m, ff5_readAll, bb5_readAll_0, bb5_readAll_12, bb5_readAll_37, bb5_readAll_82, bb5_readAll_88, cl_1, ca_1, cl_2, ca_2, cl_500, ca_500, hr1', b1, b3, y1]
      refine ⟨fun h => absurd h (by omega), fun _ => ?_⟩
      refine sp8_markerFrom hS1 hv p (by omega) (fun k k1 k2 k3 k4 => ?_) (fun hno => ?_)
      · rw [mfr_some s _ p k k1 (by omega) k3 k4] at hg
        dsimp only at hg
        have hk2 : k + 2 ≤ s.length := by
          have h5 := k3.2
          by_cases h6 : k + 1 < s.length
          · omega
          · rw [getD_none (by omega)] at h5; exact absurd h5 (by simp)
        have b4 : k < 2147483648 := by omega
        have hn1 : (nI k = -1) = False := eq_false (fun h => neg_ne (show (-1 : Int32) < 0 by decide) k b4 h.symm)
        unfold holdL
        simp only [List.getElem?_cons_zero, List.getElem?_cons_succ, fv4, Nat.reduceAdd, Nat.reduceSub, wp, pst, stp, LG, lput, ls_tl, two, bc, EL, pad, popN, csum, Option.toList, List.cons_append, List.nil_append, List.set_cons_zero, List.set_cons_succ, List.length_cons, List.length_nil, true_and, and_true, Nat.reduceLT, Nat.reduceLeDiff, Nat.zero_le, Nat.le_refl, RI_i, RI_z0, RI_z1, Int32.reduceOfInt, Int8.reduceOfInt, Int16.reduceOfInt, Int64.reduceOfInt, Int8.toInt32_ofNat, Int16.toInt32_ofNat, Int.reduceNeg, Int32.ofInt_neg, Int8.ofInt_neg, Int16.ofInt_neg, Int32.toInt64_ofNat, Int32.reduceToNatClampNeg, Fin.isValue, Fin.val_one, Fin.val_zero, Fin.val_two, Int64.reduceOfNat, Int32.reduceOfNat, hdl, cutc, Nat.reduceEqDiff, reduceIte, FV, tyC, tyX0, tyX1, tyX2, tyX3, tyX4, tyX5, tyX6, tyX7, tyX8, tyX9, tyX10, Nat.reduceMul, c_le, c_lt, c_eq, c_in, c_cl, c_add, c_rem, c_ofN, Int32.add_zero, Int32.zero_add, c_lt0, c_ge0, c_le0, c_gt0, c_e0, c_m1, c_m1', false_implies, true_implies, implies_true, not_false_eq_true, not_true_eq_false, Nat.not_lt_zero, up_s, up_1, up_m, ff5_readAll, bb5_readAll_0, bb5_readAll_12, bb5_readAll_37, bb5_readAll_82, bb5_readAll_88, cl_1, ca_1, cl_2, ca_2, cl_500, ca_500, hr1', b1, b3, b4, hn1, y1, q1]
        have F1 : ∀ e1 e2, Fr w1 (up (up w1 r e1) r e2) r 1 := fun e1 e2 => (f0 _ _).tr (f0 _ _)
        refine sp5_readCode (hS1.fr (F1 _ _) (by omega)) (hR1.fr (F1 _ _) (by omega)) hv wd (k + 2) sm h1w hw (up_s _ r (rdc (nI (k + 2)) sm 0)) hk2 hd hd2 hd3 (fun l x q hz hl hq hpq w2 sm' h2 r2 f2 => ?_) (fun e hz z1 z2 w2 p' s' r2 f2 => ?_)
        · rw [hz] at hg
          dsimp only at hg
          have r2' := r2
          unfold rdc at r2'
          unfold holdL
          simp only [List.getElem?_cons_zero, List.getElem?_cons_succ, fv4, Nat.reduceAdd, Nat.reduceSub, wp, pst, stp, LG, lput, ls_tl, two, bc, EL, pad, popN, csum, Option.toList, List.cons_append, List.nil_append, List.set_cons_zero, List.set_cons_succ, List.length_cons, List.length_nil, true_and, and_true, Nat.reduceLT, Nat.reduceLeDiff, Nat.zero_le, Nat.le_refl, RI_i, RI_z0, RI_z1, Int32.reduceOfInt, Int8.reduceOfInt, Int16.reduceOfInt, Int64.reduceOfInt, Int8.toInt32_ofNat, Int16.toInt32_ofNat, Int.reduceNeg, Int32.ofInt_neg, Int8.ofInt_neg, Int16.ofInt_neg, Int32.toInt64_ofNat, Int32.reduceToNatClampNeg, Fin.isValue, Fin.val_one, Fin.val_zero, Fin.val_two, Int64.reduceOfNat, Int32.reduceOfNat, hdl, cutc, Nat.reduceEqDiff, reduceIte, FV, tyC, tyX0, tyX1, tyX2, tyX3, tyX4, tyX5, tyX6, tyX7, tyX8, tyX9, tyX10, Nat.reduceMul, c_le, c_lt, c_eq, c_in, c_cl, c_add, c_rem, c_ofN, Int32.add_zero, Int32.zero_add, c_lt0, c_ge0, c_le0, c_gt0, c_e0, c_m1, c_m1', false_implies, true_implies, implies_true, not_false_eq_true, not_true_eq_false, Nat.not_lt_zero, up_s, up_1, up_m, ff5_readAll, bb5_readAll_0, bb5_readAll_12, bb5_readAll_37, bb5_readAll_82, bb5_readAll_88, cl_1, ca_1, cl_2, ca_2, cl_500, ca_500, r2', b1]
          exact ih (j + 1) q w2 sm' 0 _ _ _ (by omega) hq hg h2 r2 ((hF.tr (Fr2.of1 (F1 _ _))).tr f2)
        · rw [hz] at hg
          dsimp only at hg
          have b5 : e < 2147483648 := by omega
          have hne : ¬e = 0 := by omega
          have r2' := r2
          unfold rdc at r2'
          have F2 := (F1 (rdc (nI (k + 2)) sm re) (rdc (nI (k + 2)) sm 0)).tr f2
          have hR2 := hR1.fr F2 (by omega)
          obtain ⟨_, _, _, _, q2, -⟩ := id hR2
          unfold holdL
          simp only [List.getElem?_cons_zero, List.getElem?_cons_succ, fv4, Nat.reduceAdd, Nat.reduceSub, wp, pst, stp, LG, lput, ls_tl, two, bc, EL, pad, popN, csum, Option.toList, List.cons_append, List.nil_append, List.set_cons_zero, List.set_cons_succ, List.length_cons, List.length_nil, true_and, and_true, Nat.reduceLT, Nat.reduceLeDiff, Nat.zero_le, Nat.le_refl, RI_i, RI_z0, RI_z1, Int32.reduceOfInt, Int8.reduceOfInt, Int16.reduceOfInt, Int64.reduceOfInt, Int8.toInt32_ofNat, Int16.toInt32_ofNat, Int.reduceNeg, Int32.ofInt_neg, Int8.ofInt_neg, Int16.ofInt_neg, Int32.toInt64_ofNat, Int32.reduceToNatClampNeg, Fin.isValue, Fin.val_one, Fin.val_zero, Fin.val_two, Int64.reduceOfNat, Int32.reduceOfNat, hdl, cutc, Nat.reduceEqDiff, reduceIte, FV, tyC, tyX0, tyX1, tyX2, tyX3, tyX4, tyX5, tyX6, tyX7, tyX8, tyX9, tyX10, Nat.reduceMul, c_le, c_lt, c_eq, c_in, c_cl, c_add, c_rem, c_ofN, Int32.add_zero, Int32.zero_add, c_lt0, c_ge0, c_le0, c_gt0, c_e0, c_m1, c_m1', false_implies, true_implies, implies_true, not_false_eq_true, not_true_eq_false, Nat.not_lt_zero, up_s, up_1, up_m, ff5_readAll, bb5_readAll_0, bb5_readAll_12, bb5_readAll_37, bb5_readAll_82, bb5_readAll_88, cl_1, ca_1, cl_2, ca_2, cl_500, ca_500, r2', q2, b1, b4, b5, hne]
          refine sp6_note hR2 k e (fun w3 h3 f3 => ?_)
          have r3 := (f3.at (show r < c ∨ c + 4 ≤ r by omega)).trans r2'
          unfold holdL
          simp only [List.getElem?_cons_zero, List.getElem?_cons_succ, fv4, Nat.reduceAdd, Nat.reduceSub, wp, pst, stp, LG, lput, ls_tl, two, bc, EL, pad, popN, csum, Option.toList, List.cons_append, List.nil_append, List.set_cons_zero, List.set_cons_succ, List.length_cons, List.length_nil, true_and, and_true, Nat.reduceLT, Nat.reduceLeDiff, Nat.zero_le, Nat.le_refl, RI_i, RI_z0, RI_z1, Int32.reduceOfInt, Int8.reduceOfInt, Int16.reduceOfInt, Int64.reduceOfInt, Int8.toInt32_ofNat, Int16.toInt32_ofNat, Int.reduceNeg, Int32.ofInt_neg, Int8.ofInt_neg, Int16.ofInt_neg, Int32.toInt64_ofNat, Int32.reduceToNatClampNeg, Fin.isValue, Fin.val_one, Fin.val_zero, Fin.val_two, Int64.reduceOfNat, Int32.reduceOfNat, hdl, cutc, Nat.reduceEqDiff, reduceIte, FV, tyC, tyX0, tyX1, tyX2, tyX3, tyX4, tyX5, tyX6, tyX7, tyX8, tyX9, tyX10, Nat.reduceMul, c_le, c_lt, c_eq, c_in, c_cl, c_add, c_rem, c_ofN, Int32.add_zero, Int32.zero_add, c_lt0, c_ge0, c_le0, c_gt0, c_e0, c_m1, c_m1', false_implies, true_implies, implies_true, not_false_eq_true, not_true_eq_false, Nat.not_lt_zero, up_s, up_1, up_m, ff5_readAll, bb5_readAll_0, bb5_readAll_12, bb5_readAll_37, bb5_readAll_82, bb5_readAll_88, cl_1, ca_1, cl_2, ca_2, cl_500, ca_500, r3, b1, b4]
          exact ih (j + 1) (k + 2) _ s' (nI e) _ _ _ (by omega) hk2 hg (h3.fr (f0 _ _) (by omega)) (up_s _ _ _) (((hF.tr (Fr2.of1 F2)).tr (Fr2.of2 f3)).tr (Fr2.of1 (f0 _ _)))
      · rw [mfr_none s _ p hno] at hg
        dsimp only at hg
        rw [← hg] at hQ
        unfold holdL
        simp only [List.getElem?_cons_zero, List.getElem?_cons_succ, fv4, Nat.reduceAdd, Nat.reduceSub, wp, pst, stp, LG, lput, ls_tl, two, bc, EL, pad, popN, csum, Option.toList, List.cons_append, List.nil_append, List.set_cons_zero, List.set_cons_succ, List.length_cons, List.length_nil, true_and, and_true, Nat.reduceLT, Nat.reduceLeDiff, Nat.zero_le, Nat.le_refl, RI_i, RI_z0, RI_z1, Int32.reduceOfInt, Int8.reduceOfInt, Int16.reduceOfInt, Int64.reduceOfInt, Int8.toInt32_ofNat, Int16.toInt32_ofNat, Int.reduceNeg, Int32.ofInt_neg, Int8.ofInt_neg, Int16.ofInt_neg, Int32.toInt64_ofNat, Int32.reduceToNatClampNeg, Fin.isValue, Fin.val_one, Fin.val_zero, Fin.val_two, Int64.reduceOfNat, Int32.reduceOfNat, hdl, cutc, Nat.reduceEqDiff, reduceIte, FV, tyC, tyX0, tyX1, tyX2, tyX3, tyX4, tyX5, tyX6, tyX7, tyX8, tyX9, tyX10, Nat.reduceMul, c_le, c_lt, c_eq, c_in, c_cl, c_add, c_rem, c_ofN, Int32.add_zero, Int32.zero_add, c_lt0, c_ge0, c_le0, c_gt0, c_e0, c_m1, c_m1', false_implies, true_implies, implies_true, not_false_eq_true, not_true_eq_false, Nat.not_lt_zero, up_s, up_1, up_m, ff5_readAll, bb5_readAll_0, bb5_readAll_12, bb5_readAll_37, bb5_readAll_82, bb5_readAll_88, cl_1, ca_1, cl_2, ca_2, cl_500, ca_500, hr1', b1, b3]
        exact hQ w1 _ _ _ hR1 hr1 hF
  unfold rdc at hr
  refine entry Γ m5_readAll rfl _ (Nat.le_of_ble_eq_true rfl) _ _ _ ?_
  refine wp_ok kd5_readAll 400 0 bb5_readAll_0 _ _ _ _ _ _ oo5_readAll_0 ?_
  simp only [List.getElem?_cons_zero, List.getElem?_cons_succ, fv4, Nat.reduceAdd, Nat.reduceSub, wp, pst, stp, LG, lput, ls_tl, two, bc, EL, pad, popN, csum, Option.toList, List.cons_append, List.nil_append, List.set_cons_zero, List.set_cons_succ, List.length_cons, List.length_nil, true_and, and_true, Nat.reduceLT, Nat.reduceLeDiff, Nat.zero_le, Nat.le_refl, RI_i, RI_z0, RI_z1, Int32.reduceOfInt, Int8.reduceOfInt, Int16.reduceOfInt, Int64.reduceOfInt, Int8.toInt32_ofNat, Int16.toInt32_ofNat, Int.reduceNeg, Int32.ofInt_neg, Int8.ofInt_neg, Int16.ofInt_neg, Int32.toInt64_ofNat, Int32.reduceToNatClampNeg, Fin.isValue, Fin.val_one, Fin.val_zero, Fin.val_two, Int64.reduceOfNat, Int32.reduceOfNat, hdl, cutc, Nat.reduceEqDiff, reduceIte, FV, tyC, tyX0, tyX1, tyX2, tyX3, tyX4, tyX5, tyX6, tyX7, tyX8, tyX9, tyX10, Nat.reduceMul, c_le, c_lt, c_eq, c_in, c_cl, c_add, c_rem, c_ofN, Int32.add_zero, Int32.zero_add, c_lt0, c_ge0, c_le0, c_gt0, c_e0, c_m1, c_m1', false_implies, true_implies, implies_true, not_false_eq_true, not_true_eq_false, Nat.not_lt_zero, up_s, up_1, up_m, ff5_readAll, bb5_readAll_0, bb5_readAll_12, bb5_readAll_37, bb5_readAll_82, bb5_readAll_88, cl_1, ca_1, cl_2, ca_2, cl_500, ca_500, hr, q0]
  refine sp6_empty hR (fun w1 h1 f1 => ?_)
  have hr1 := (f1.at (show r < c ∨ c + 4 ≤ r by omega)).trans hr
  unfold holdL
  simp only [List.getElem?_cons_zero, List.getElem?_cons_succ, fv4, Nat.reduceAdd, Nat.reduceSub, wp, pst, stp, LG, lput, ls_tl, two, bc, EL, pad, popN, csum, Option.toList, List.cons_append, List.nil_append, List.set_cons_zero, List.set_cons_succ, List.length_cons, List.length_nil, true_and, and_true, Nat.reduceLT, Nat.reduceLeDiff, Nat.zero_le, Nat.le_refl, RI_i, RI_z0, RI_z1, Int32.reduceOfInt, Int8.reduceOfInt, Int16.reduceOfInt, Int64.reduceOfInt, Int8.toInt32_ofNat, Int16.toInt32_ofNat, Int.reduceNeg, Int32.ofInt_neg, Int8.ofInt_neg, Int16.ofInt_neg, Int32.toInt64_ofNat, Int32.reduceToNatClampNeg, Fin.isValue, Fin.val_one, Fin.val_zero, Fin.val_two, Int64.reduceOfNat, Int32.reduceOfNat, hdl, cutc, Nat.reduceEqDiff, reduceIte, FV, tyC, tyX0, tyX1, tyX2, tyX3, tyX4, tyX5, tyX6, tyX7, tyX8, tyX9, tyX10, Nat.reduceMul, c_le, c_lt, c_eq, c_in, c_cl, c_add, c_rem, c_ofN, Int32.add_zero, Int32.zero_add, c_lt0, c_ge0, c_le0, c_gt0, c_e0, c_m1, c_m1', false_implies, true_implies, implies_true, not_false_eq_true, not_true_eq_false, Nat.not_lt_zero, up_s, up_1, up_m, ff5_readAll, bb5_readAll_0, bb5_readAll_12, bb5_readAll_37, bb5_readAll_82, bb5_readAll_88, cl_1, ca_1, cl_2, ca_2, cl_500, ca_500, hr1]
  exact key 500 0 0 _ s0 e0 R0 [] none rfl (by omega) hRES (h1.fr (f0 _ _) (by omega)) (up_s _ _ _) ((Fr2.of2 f1).tr (Fr2.of1 (f0 _ _)))
end ALL

/-! CONSTRUCTORS, the larger ones -/
section INIT2
variable {Γ : Amb} {w : PW} {Q : Option Value → Option Nat → PW → Prop} {a : Nat}
theorem Fr.up {w w' : PW} {lo n b : Nat} {e : va_E} (h : Fr w w' lo n) (h1 : lo ≤ b) (h2 : b < lo + n) : Fr w (up w' b e) lo n := h.tr (Fr.wr h1 h2)
theorem sp7_init (h1 : w a = some (.inr (7, dfl 7))) (hQ : ∀ w', StR w' a S0 → Fr w w' a 9 → Q none (some (a + 9)) w') : Sp Γ m7_init [.ref a] (some (a + 1)) w Q := by
  rw [dfl_7] at h1
  refine entry Γ m7_init rfl _ (Nat.le_of_ble_eq_true rfl) _ _ _ ?_
  refine wp_ok kd7_init 400 0 bb7_init_0 _ _ _ _ _ _ oo7_init_0 ?_
  simp only [List.getElem?_cons_zero, List.getElem?_cons_succ, fv4, Nat.reduceAdd, Nat.reduceSub, wp, pst, stp, LG, lput, ls_tl, two, bc, EL, pad, popN, csum, Option.toList, List.cons_append, List.nil_append, List.set_cons_zero, List.set_cons_succ, List.length_cons, List.length_nil, true_and, and_true, Nat.reduceLT, Nat.reduceLeDiff, Nat.zero_le, Nat.le_refl, RI_i, RI_z0, RI_z1, Int32.reduceOfInt, Int8.reduceOfInt, Int16.reduceOfInt, Int64.reduceOfInt, Int8.toInt32_ofNat, Int16.toInt32_ofNat, Int.reduceNeg, Int32.ofInt_neg, Int8.ofInt_neg, Int16.ofInt_neg, Int32.toInt64_ofNat, Int32.reduceToNatClampNeg, Fin.isValue, Fin.val_one, Fin.val_zero, Fin.val_two, Int64.reduceOfNat, Int32.reduceOfNat, hdl, cutc, Nat.reduceEqDiff, reduceIte, FV, tyC, tyX0, tyX1, tyX2, tyX3, tyX4, tyX5, tyX6, tyX7, tyX8, tyX9, tyX10, Nat.reduceMul, c_le, c_lt, c_eq, c_in, c_cl, c_add, c_rem, c_ofN, Int32.add_zero, Int32.zero_add, c_lt0, c_ge0, c_le0, c_gt0, c_e0, c_m1, c_m1', false_implies, true_implies, implies_true, not_false_eq_true, not_true_eq_false, Nat.not_lt_zero, up_s, up_1, up_m, ff7_init, bb7_init_0, h1, up_u, dfl_2]
  refine sp2_init (a := a + 1) (by rw [up_s, dfl_2]) (fun w1 g1 f1 => ?_)
  have e1 : w1 a = some (.inr (7, [.null, .null, .null, .int 0, .int 0])) := (f1.at (by omega)).trans ((up_n _ _ _ _ (by omega)).trans h1)
  unfold holdL
  simp only [List.getElem?_cons_zero, List.getElem?_cons_succ, fv4, Nat.reduceAdd, Nat.reduceSub, wp, pst, stp, LG, lput, ls_tl, two, bc, EL, pad, popN, csum, Option.toList, List.cons_append, List.nil_append, List.set_cons_zero, List.set_cons_succ, List.length_cons, List.length_nil, true_and, and_true, Nat.reduceLT, Nat.reduceLeDiff, Nat.zero_le, Nat.le_refl, RI_i, RI_z0, RI_z1, Int32.reduceOfInt, Int8.reduceOfInt, Int16.reduceOfInt, Int64.reduceOfInt, Int8.toInt32_ofNat, Int16.toInt32_ofNat, Int.reduceNeg, Int32.ofInt_neg, Int8.ofInt_neg, Int16.ofInt_neg, Int32.toInt64_ofNat, Int32.reduceToNatClampNeg, Fin.isValue, Fin.val_one, Fin.val_zero, Fin.val_two, Int64.reduceOfNat, Int32.reduceOfNat, hdl, cutc, Nat.reduceEqDiff, reduceIte, FV, tyC, tyX0, tyX1, tyX2, tyX3, tyX4, tyX5, tyX6, tyX7, tyX8, tyX9, tyX10, Nat.reduceMul, c_le, c_lt, c_eq, c_in, c_cl, c_add, c_rem, c_ofN, Int32.add_zero, Int32.zero_add, c_lt0, c_ge0, c_le0, c_gt0, c_e0, c_m1, c_m1', false_implies, true_implies, implies_true, not_false_eq_true, not_true_eq_false, Nat.not_lt_zero, up_s, up_1, up_m, ff7_init, bb7_init_0, e1, up_u, dfl_8, Nat.add_assoc]
  refine sp8_init (a := a + 3) (by rw [up_s, dfl_8]) (fun w2 g2 f2 => ?_)
  have e2 : w2 a = some (.inr (7, [.ref (a + 1), .null, .null, .int 0, .int 0])) := (f2.at (by omega)).trans ((up_n _ _ _ _ (by omega)).trans (up_s _ _ _))
  unfold holdL
  simp only [List.getElem?_cons_zero, List.getElem?_cons_succ, fv4, Nat.reduceAdd, Nat.reduceSub, wp, pst, stp, LG, lput, ls_tl, two, bc, EL, pad, popN, csum, Option.toList, List.cons_append, List.nil_append, List.set_cons_zero, List.set_cons_succ, List.length_cons, List.length_nil, true_and, and_true, Nat.reduceLT, Nat.reduceLeDiff, Nat.zero_le, Nat.le_refl, RI_i, RI_z0, RI_z1, Int32.reduceOfInt, Int8.reduceOfInt, Int16.reduceOfInt, Int64.reduceOfInt, Int8.toInt32_ofNat, Int16.toInt32_ofNat, Int.reduceNeg, Int32.ofInt_neg, Int8.ofInt_neg, Int16.ofInt_neg, Int32.toInt64_ofNat, Int32.reduceToNatClampNeg, Fin.isValue, Fin.val_one, Fin.val_zero, Fin.val_two, Int64.reduceOfNat, Int32.reduceOfNat, hdl, cutc, Nat.reduceEqDiff, reduceIte, FV, tyC, tyX0, tyX1, tyX2, tyX3, tyX4, tyX5, tyX6, tyX7, tyX8, tyX9, tyX10, Nat.reduceMul, c_le, c_lt, c_eq, c_in, c_cl, c_add, c_rem, c_ofN, Int32.add_zero, Int32.zero_add, c_lt0, c_ge0, c_le0, c_gt0, c_e0, c_m1, c_m1', false_implies, true_implies, implies_true, not_false_eq_true, not_true_eq_false, Nat.not_lt_zero, up_s, up_1, up_m, ff7_init, bb7_init_0, e2, up_u, dfl_6, Nat.add_assoc]
  refine sp6_init (a := a + 5) (by rw [up_s, dfl_6]) (fun w3 g3 f3 => ?_)
  have e3 : w3 a = some (.inr (7, [.ref (a + 1), .ref (a + 3), .null, .int 0, .int 0])) := (f3.at (by omega)).trans ((up_n _ _ _ _ (by omega)).trans (up_s _ _ _))
  unfold holdL
  simp only [List.getElem?_cons_zero, List.getElem?_cons_succ, fv4, Nat.reduceAdd, Nat.reduceSub, wp, pst, stp, LG, lput, ls_tl, two, bc, EL, pad, popN, csum, Option.toList, List.cons_append, List.nil_append, List.set_cons_zero, List.set_cons_succ, List.length_cons, List.length_nil, true_and, and_true, Nat.reduceLT, Nat.reduceLeDiff, Nat.zero_le, Nat.le_refl, RI_i, RI_z0, RI_z1, Int32.reduceOfInt, Int8.reduceOfInt, Int16.reduceOfInt, Int64.reduceOfInt, Int8.toInt32_ofNat, Int16.toInt32_ofNat, Int.reduceNeg, Int32.ofInt_neg, Int8.ofInt_neg, Int16.ofInt_neg, Int32.toInt64_ofNat, Int32.reduceToNatClampNeg, Fin.isValue, Fin.val_one, Fin.val_zero, Fin.val_two, Int64.reduceOfNat, Int32.reduceOfNat, hdl, cutc, Nat.reduceEqDiff, reduceIte, FV, tyC, tyX0, tyX1, tyX2, tyX3, tyX4, tyX5, tyX6, tyX7, tyX8, tyX9, tyX10, Nat.reduceMul, c_le, c_lt, c_eq, c_in, c_cl, c_add, c_rem, c_ofN, Int32.add_zero, Int32.zero_add, c_lt0, c_ge0, c_le0, c_gt0, c_e0, c_m1, c_m1', false_implies, true_implies, implies_true, not_false_eq_true, not_true_eq_false, Nat.not_lt_zero, up_s, up_1, up_m, ff7_init, bb7_init_0, e3, up_u, Nat.add_assoc]
  have k1 : Fr w w1 a 9 := (Fr.wr (by omega) (by omega)).tr (f1.wid (by omega) (by omega))
  have j2 : Fr w1 w2 (a + 3) 2 ∨ True := Or.inr trivial
  have g12 : PgR w2 (a + 1) 24 3 [] := ((g1.fr (Fr.wr (lo := a) (n := 1) (by omega) (by omega)) (by omega)).fr (Fr.wr (lo := a + 3) (n := 1) (by omega) (by omega)) (by omega)).fr f2 (by omega)
  have g13 : PgR w3 (a + 1) 24 3 [] := ((g12.fr (Fr.wr (lo := a) (n := 1) (by omega) (by omega)) (by omega)).fr (Fr.wr (lo := a + 5) (n := 1) (by omega) (by omega)) (by omega)).fr f3 (by omega)
  have g23 : SmR w3 (a + 3) [] := ((g2.fr (Fr.wr (lo := a) (n := 1) (by omega) (by omega)) (by omega)).fr (Fr.wr (lo := a + 5) (n := 1) (by omega) (by omega)) (by omega)).fr f3 (by omega)
  have k2 : Fr w w2 a 9 := ((k1.up (by omega) (by omega)).up (by omega) (by omega)).tr (f2.wid (by omega) (by omega))
  have k3 : Fr w w3 a 9 := ((k2.up (by omega) (by omega)).up (by omega) (by omega)).tr (f3.wid (by omega) (by omega))
  refine ⟨Or.inl trivial, ?_⟩
  exact hQ _ ⟨g13.fr (Fr.wr (lo := a) (n := 1) (by omega) (by omega)) (by omega), g23.fr (Fr.wr (lo := a) (n := 1) (by omega) (by omega)) (by omega), g3.fr (Fr.wr (lo := a) (n := 1) (by omega) (by omega)) (by omega), 0, up_s _ _ _, fun k hk => nomatch hk⟩ (k3.up (by omega) (by omega))
/-- the ring of states, made one after another -/
def RgI (w : PW) (h i : Nat) : Prop := w h = some (.inr (1, [.int 0, .int 0, .ref (h + 1)])) ∧ ∃ rf : Nat → Option Nat, w (h + 1) = some (.inl (2, 5, .inr (.inr (.inr (.inr rf))))) ∧ ∀ k, k < i → rf k = some (h + 2 + 9 * k) ∧ StR w (h + 2 + 9 * k) S0
theorem i1_loop {w0 : PW} (hQ : ∀ w', RgI w' a 5 → Fr w0 w' a 47 → Q none (some (a + 47)) w') : ∀ (n i : Nat), n + i = 5 → ∀ (w : PW), RgI w a i → Fr w0 w a 47 → ∀ (c s z : Nat), c = 1 + 9 * i → s = 5 + 576 * i → z = a + 2 + 9 * i → G Γ m1_init Q (fun _ _ => False) 24 [some (.ref a), some (.int (nI i))] [] (some z) w c s := by
  intro n
  induction n with
  | zero =>
    intro i hi w hR hF c s z hc hs hz
    have bi : i < 2147483648 := by omega
    have h5 : (5 ≤ i) = True := eq_true (by omega)
    have c1 : c ≤ 46 := by omega
    have s1 : s ≤ 2885 := by omega
    have i5 : i = 5 := by omega
    obtain ⟨h1, rf, h2, h3⟩ := id hR
    refine wp_ok kd1_init 400 24 bb1_init_24 _ _ _ _ _ _ oo1_init_24 ?_
    simp only [List.getElem?_cons_zero, List.getElem?_cons_succ, fv4, Nat.reduceAdd, Nat.reduceSub, wp, pst, stp, LG, lput, ls_tl, two, bc, EL, pad, popN, csum, Option.toList, List.cons_append, List.nil_append, List.set_cons_zero, List.set_cons_succ, List.length_cons, List.length_nil, true_and, and_true, Nat.reduceLT, Nat.reduceLeDiff, Nat.zero_le, Nat.le_refl, RI_i, RI_z0, RI_z1, Int32.reduceOfInt, Int8.reduceOfInt, Int16.reduceOfInt, Int64.reduceOfInt, Int8.toInt32_ofNat, Int16.toInt32_ofNat, Int.reduceNeg, Int32.ofInt_neg, Int8.ofInt_neg, Int16.ofInt_neg, Int32.toInt64_ofNat, Int32.reduceToNatClampNeg, Fin.isValue, Fin.val_one, Fin.val_zero, Fin.val_two, Int64.reduceOfNat, Int32.reduceOfNat, hdl, cutc, Nat.reduceEqDiff, reduceIte, FV, tyC, tyX0, tyX1, tyX2, tyX3, tyX4, tyX5, tyX6, tyX7, tyX8, tyX9, tyX10, Nat.reduceMul, c_le, c_lt, c_eq, c_in, c_cl, c_add, c_rem, c_ofN, Int32.add_zero, Int32.zero_add, c_lt0, c_ge0, c_le0, c_gt0, c_e0, c_m1, c_m1', false_implies, true_implies, implies_true, not_false_eq_true, not_true_eq_false, Nat.not_lt_zero, up_s, up_1, up_m, ff1_init, bb1_init_0, bb1_init_24, bb1_init_52, cl_1, ca_1, cl_5, ca_5, h1, h2, bi, h5, c1, s1, va_rf]
    have := hQ w (i5 ▸ hR) hF
    rw [show z = a + 47 by omega]
    exact this
  | succ n ih =>
    intro i hi w hR hF c s z hc hs hz
    have bi : i < 2147483648 := by omega
    have i5 : i < 5 := by omega
    have h5 : (5 ≤ i) = False := eq_false (by omega)
    have c1 : c + 1 ≤ 46 := by omega
    have s1 : s + 5 ≤ 2885 := by omega
    have c2 : c + 1 + 8 ≤ 46 := by omega
    have s2 : s + 5 + 571 ≤ 2885 := by omega
    obtain ⟨h1, rf, h2, h3⟩ := hR
    have l7 : (dfl 7).length = 5 := rfl
    refine wp_ok kd1_init 400 24 bb1_init_24 _ _ _ _ _ _ oo1_init_24 ?_
    simp only [List.getElem?_cons_zero, List.getElem?_cons_succ, fv4, Nat.reduceAdd, Nat.reduceSub, wp, pst, stp, LG, lput, ls_tl, two, bc, EL, pad, popN, csum, Option.toList, List.cons_append, List.nil_append, List.set_cons_zero, List.set_cons_succ, List.length_cons, List.length_nil, true_and, and_true, Nat.reduceLT, Nat.reduceLeDiff, Nat.zero_le, Nat.le_refl, RI_i, RI_z0, RI_z1, Int32.reduceOfInt, Int8.reduceOfInt, Int16.reduceOfInt, Int64.reduceOfInt, Int8.toInt32_ofNat, Int16.toInt32_ofNat, Int.reduceNeg, Int32.ofInt_neg, Int8.ofInt_neg, Int16.ofInt_neg, Int32.toInt64_ofNat, Int32.reduceToNatClampNeg, Fin.isValue, Fin.val_one, Fin.val_zero, Fin.val_two, Int64.reduceOfNat, Int32.reduceOfNat, hdl, cutc, Nat.reduceEqDiff, reduceIte, FV, tyC, tyX0, tyX1, tyX2, tyX3, tyX4, tyX5, tyX6, tyX7, tyX8, tyX9, tyX10, Nat.reduceMul, c_le, c_lt, c_eq, c_in, c_cl, c_add, c_rem, c_ofN, Int32.add_zero, Int32.zero_add, c_lt0, c_ge0, c_le0, c_gt0, c_e0, c_m1, c_m1', false_implies, true_implies, implies_true, not_false_eq_true, not_true_eq_false, Nat.not_lt_zero, up_s, up_1, up_m, ff1_init, bb1_init_0, bb1_init_24, bb1_init_52, cl_1, ca_1, cl_5, ca_5, h1, h2, bi, h5, c1, s1, c2, s2, va_rf, l7]
    refine sp7_init (a := z) (by rw [up_s]) (fun w1 g1 f1 => ?_)
    obtain ⟨_, _, _, v, g4, -⟩ := id g1
    have fz : Fr w w1 z 9 := (Fr.wr (by omega) (by omega)).tr f1
    have e2 : w1 (a + 1) = some (.inl (2, 5, .inr (.inr (.inr (.inr rf))))) := (fz.at (by omega)).trans h2
    have e1 : w1 a = some (.inr (1, [.int 0, .int 0, .ref (a + 1)])) := (fz.at (by omega)).trans h1
    unfold holdL
    simp only [List.getElem?_cons_zero, List.getElem?_cons_succ, fv4, Nat.reduceAdd, Nat.reduceSub, wp, pst, stp, LG, lput, ls_tl, two, bc, EL, pad, popN, csum, Option.toList, List.cons_append, List.nil_append, List.set_cons_zero, List.set_cons_succ, List.length_cons, List.length_nil, true_and, and_true, Nat.reduceLT, Nat.reduceLeDiff, Nat.zero_le, Nat.le_refl, RI_i, RI_z0, RI_z1, Int32.reduceOfInt, Int8.reduceOfInt, Int16.reduceOfInt, Int64.reduceOfInt, Int8.toInt32_ofNat, Int16.toInt32_ofNat, Int.reduceNeg, Int32.ofInt_neg, Int8.ofInt_neg, Int16.ofInt_neg, Int32.toInt64_ofNat, Int32.reduceToNatClampNeg, Fin.isValue, Fin.val_one, Fin.val_zero, Fin.val_two, Int64.reduceOfNat, Int32.reduceOfNat, hdl, cutc, Nat.reduceEqDiff, reduceIte, FV, tyC, tyX0, tyX1, tyX2, tyX3, tyX4, tyX5, tyX6, tyX7, tyX8, tyX9, tyX10, Nat.reduceMul, c_le, c_lt, c_eq, c_in, c_cl, c_add, c_rem, c_ofN, Int32.add_zero, Int32.zero_add, c_lt0, c_ge0, c_le0, c_gt0, c_e0, c_m1, c_m1', false_implies, true_implies, implies_true, not_false_eq_true, not_true_eq_false, Nat.not_lt_zero, up_s, up_1, up_m, ff1_init, bb1_init_0, bb1_init_24, bb1_init_52, cl_1, ca_1, cl_5, ca_5, e1, e2, bi, i5]
    refine ⟨⟨_, g4⟩, ih (i + 1) (by omega) _ ⟨by rw [up_n _ _ _ _ (by omega)]; exact e1, va_up rf i (some z), up_s _ _ _, fun k hk => ?_⟩ ?_ _ _ _ (by omega) (by omega) (by omega)⟩
    · have fa : Fr w1 (up w1 (a + 1) (.inl (2, 5, .inr (.inr (.inr (.inr (va_up rf i (some z)))))))) (a + 1) 1 := Fr.wr (by omega) (by omega)
      rcases Nat.lt_or_ge k i with hk2 | hk2
      · refine ⟨?_, ((h3 k hk2).2.fr fz (by omega)).fr fa (by omega)⟩
        unfold va_up
        rw [if_neg (by omega)]
        exact (h3 k hk2).1
      · have : k = i := by omega
        subst this
        refine ⟨?_, ?_⟩
        · unfold va_up
          rw [if_pos rfl, hz]
        · rw [← hz]
          exact g1.fr fa (by omega)
    · exact (hF.tr (fz.wid (by omega) (by omega))).up (by omega) (by omega)
theorem sp1_init (h1 : w a = some (.inr (1, dfl 1))) (hQ : ∀ w', HsR w' a [] → Fr w w' a 47 → Q none (some (a + 47)) w') : Sp Γ m1_init [.ref a] (some (a + 1)) w Q := by
  rw [dfl_1] at h1
  refine entry Γ m1_init rfl _ (Nat.le_of_ble_eq_true rfl) _ _ _ ?_
  refine wp_ok kd1_init 400 0 bb1_init_0 _ _ _ _ _ _ oo1_init_0 ?_
  simp only [List.getElem?_cons_zero, List.getElem?_cons_succ, fv4, Nat.reduceAdd, Nat.reduceSub, wp, pst, stp, LG, lput, ls_tl, two, bc, EL, pad, popN, csum, Option.toList, List.cons_append, List.nil_append, List.set_cons_zero, List.set_cons_succ, List.length_cons, List.length_nil, true_and, and_true, Nat.reduceLT, Nat.reduceLeDiff, Nat.zero_le, Nat.le_refl, RI_i, RI_z0, RI_z1, Int32.reduceOfInt, Int8.reduceOfInt, Int16.reduceOfInt, Int64.reduceOfInt, Int8.toInt32_ofNat, Int16.toInt32_ofNat, Int.reduceNeg, Int32.ofInt_neg, Int8.ofInt_neg, Int16.ofInt_neg, Int32.toInt64_ofNat, Int32.reduceToNatClampNeg, Fin.isValue, Fin.val_one, Fin.val_zero, Fin.val_two, Int64.reduceOfNat, Int32.reduceOfNat, hdl, cutc, Nat.reduceEqDiff, reduceIte, FV, tyC, tyX0, tyX1, tyX2, tyX3, tyX4, tyX5, tyX6, tyX7, tyX8, tyX9, tyX10, Nat.reduceMul, c_le, c_lt, c_eq, c_in, c_cl, c_add, c_rem, c_ofN, Int32.add_zero, Int32.zero_add, c_lt0, c_ge0, c_le0, c_gt0, c_e0, c_m1, c_m1', false_implies, true_implies, implies_true, not_false_eq_true, not_true_eq_false, Nat.not_lt_zero, up_s, up_1, up_m, ff1_init, bb1_init_0, bb1_init_24, bb1_init_52, cl_1, ca_1, cl_5, ca_5, h1, up_u, Int32.reduceLT, nar_2]
  refine i1_loop (w0 := w) (fun w' hR hF => hQ w' ?_ hF) 5 0 rfl _ ⟨up_s _ _ _, fun _ => none, ?_, fun k hk => absurd hk (Nat.not_lt_zero k)⟩ (fun b hb => ?_) _ _ _ rfl rfl rfl
  · obtain ⟨e1, rf, e2, e3⟩ := hR
    exact ⟨0, rf, fun _ => S0, e1, e2, by decide, by decide, e3, fun j hj => absurd hj (Nat.not_lt_zero j)⟩
  · rw [up_1, up_s]
  · rw [up_n _ _ _ _ (by omega), up_n _ _ _ _ (by omega), up_n _ _ _ _ (by omega)]
/-- the object as it is made -/
abbrev U0 : US := (S0, none, [], [])
theorem sp9_init (h1 : w a = some (.inr (9, dfl 9))) (hQ : ∀ w', XU w' a U0 → Fr w w' a 77 → Q none (some (a + 77)) w') : Sp Γ m9_init [.ref a] (some (a + 1)) w Q := by
  rw [dfl_9] at h1
  have l7 : (dfl 7).length = 5 := rfl
  have l1 : (dfl 1).length = 3 := rfl
  have l3 : (dfl 3).length = 3 := rfl
  have l0 : (dfl 0).length = 5 := rfl
  have l5 : (dfl 5).length = 3 := rfl
  have l6 : (dfl 6).length = 5 := rfl
  refine entry Γ m9_init rfl _ (Nat.le_of_ble_eq_true rfl) _ _ _ ?_
  refine wp_ok kd9_init 400 0 bb9_init_0 _ _ _ _ _ _ oo9_init_0 ?_
  simp only [List.getElem?_cons_zero, List.getElem?_cons_succ, fv4, Nat.reduceAdd, Nat.reduceSub, wp, pst, stp, LG, lput, ls_tl, two, bc, EL, pad, popN, csum, Option.toList, List.cons_append, List.nil_append, List.set_cons_zero, List.set_cons_succ, List.length_cons, List.length_nil, true_and, and_true, Nat.reduceLT, Nat.reduceLeDiff, Nat.zero_le, Nat.le_refl, RI_i, RI_z0, RI_z1, Int32.reduceOfInt, Int8.reduceOfInt, Int16.reduceOfInt, Int64.reduceOfInt, Int8.toInt32_ofNat, Int16.toInt32_ofNat, Int.reduceNeg, Int32.ofInt_neg, Int8.ofInt_neg, Int16.ofInt_neg, Int32.toInt64_ofNat, Int32.reduceToNatClampNeg, Fin.isValue, Fin.val_one, Fin.val_zero, Fin.val_two, Int64.reduceOfNat, Int32.reduceOfNat, hdl, cutc, Nat.reduceEqDiff, reduceIte, FV, tyC, tyX0, tyX1, tyX2, tyX3, tyX4, tyX5, tyX6, tyX7, tyX8, tyX9, tyX10, Nat.reduceMul, c_le, c_lt, c_eq, c_in, c_cl, c_add, c_rem, c_ofN, Int32.add_zero, Int32.zero_add, c_lt0, c_ge0, c_le0, c_gt0, c_e0, c_m1, c_m1', false_implies, true_implies, implies_true, not_false_eq_true, not_true_eq_false, Nat.not_lt_zero, up_s, up_1, up_m, ff9_init, bb9_init_0, h1, up_u, l7]
  refine sp7_init (a := a + 1) (by rw [up_s]) (fun w1 g1 f1 => ?_)
  have e1 : w1 a = some (.inr (9, [.null, .null, .int 0, .null, .null, .null, .null, .null])) := (f1.at (by omega)).trans ((up_n _ _ _ _ (by omega)).trans h1)
  unfold holdL
  simp only [List.getElem?_cons_zero, List.getElem?_cons_succ, fv4, Nat.reduceAdd, Nat.reduceSub, wp, pst, stp, LG, lput, ls_tl, two, bc, EL, pad, popN, csum, Option.toList, List.cons_append, List.nil_append, List.set_cons_zero, List.set_cons_succ, List.length_cons, List.length_nil, true_and, and_true, Nat.reduceLT, Nat.reduceLeDiff, Nat.zero_le, Nat.le_refl, RI_i, RI_z0, RI_z1, Int32.reduceOfInt, Int8.reduceOfInt, Int16.reduceOfInt, Int64.reduceOfInt, Int8.toInt32_ofNat, Int16.toInt32_ofNat, Int.reduceNeg, Int32.ofInt_neg, Int8.ofInt_neg, Int16.ofInt_neg, Int32.toInt64_ofNat, Int32.reduceToNatClampNeg, Fin.isValue, Fin.val_one, Fin.val_zero, Fin.val_two, Int64.reduceOfNat, Int32.reduceOfNat, hdl, cutc, Nat.reduceEqDiff, reduceIte, FV, tyC, tyX0, tyX1, tyX2, tyX3, tyX4, tyX5, tyX6, tyX7, tyX8, tyX9, tyX10, Nat.reduceMul, c_le, c_lt, c_eq, c_in, c_cl, c_add, c_rem, c_ofN, Int32.add_zero, Int32.zero_add, c_lt0, c_ge0, c_le0, c_gt0, c_e0, c_m1, c_m1', false_implies, true_implies, implies_true, not_false_eq_true, not_true_eq_false, Nat.not_lt_zero, up_s, up_1, up_m, ff9_init, bb9_init_0, e1, up_u, l7, Nat.add_assoc]
  refine sp7_init (a := a + 10) (by rw [up_s]) (fun w2 g2 f2 => ?_)
  have e2 : w2 a = some (.inr (9, [.ref (a + 1), .null, .int 0, .null, .null, .null, .null, .null])) := (f2.at (by omega)).trans ((up_n _ _ _ _ (by omega)).trans (up_s _ _ _))
  unfold holdL
  simp only [List.getElem?_cons_zero, List.getElem?_cons_succ, fv4, Nat.reduceAdd, Nat.reduceSub, wp, pst, stp, LG, lput, ls_tl, two, bc, EL, pad, popN, csum, Option.toList, List.cons_append, List.nil_append, List.set_cons_zero, List.set_cons_succ, List.length_cons, List.length_nil, true_and, and_true, Nat.reduceLT, Nat.reduceLeDiff, Nat.zero_le, Nat.le_refl, RI_i, RI_z0, RI_z1, Int32.reduceOfInt, Int8.reduceOfInt, Int16.reduceOfInt, Int64.reduceOfInt, Int8.toInt32_ofNat, Int16.toInt32_ofNat, Int.reduceNeg, Int32.ofInt_neg, Int8.ofInt_neg, Int16.ofInt_neg, Int32.toInt64_ofNat, Int32.reduceToNatClampNeg, Fin.isValue, Fin.val_one, Fin.val_zero, Fin.val_two, Int64.reduceOfNat, Int32.reduceOfNat, hdl, cutc, Nat.reduceEqDiff, reduceIte, FV, tyC, tyX0, tyX1, tyX2, tyX3, tyX4, tyX5, tyX6, tyX7, tyX8, tyX9, tyX10, Nat.reduceMul, c_le, c_lt, c_eq, c_in, c_cl, c_add, c_rem, c_ofN, Int32.add_zero, Int32.zero_add, c_lt0, c_ge0, c_le0, c_gt0, c_e0, c_m1, c_m1', false_implies, true_implies, implies_true, not_false_eq_true, not_true_eq_false, Nat.not_lt_zero, up_s, up_1, up_m, ff9_init, bb9_init_0, e2, up_u, l1, Nat.add_assoc]
  refine ⟨Or.inl trivial, ?_⟩
  refine sp1_init (a := a + 19) (by rw [up_s]) (fun w3 g3 f3 => ?_)
  have e3 : w3 a = some (.inr (9, [.ref (a + 1), .ref (a + 10), .int 0, .null, .null, .null, .null, .null])) := (f3.at (by omega)).trans ((up_n _ _ _ _ (by omega)).trans (up_s _ _ _))
  unfold holdL
  simp only [List.getElem?_cons_zero, List.getElem?_cons_succ, fv4, Nat.reduceAdd, Nat.reduceSub, wp, pst, stp, LG, lput, ls_tl, two, bc, EL, pad, popN, csum, Option.toList, List.cons_append, List.nil_append, List.set_cons_zero, List.set_cons_succ, List.length_cons, List.length_nil, true_and, and_true, Nat.reduceLT, Nat.reduceLeDiff, Nat.zero_le, Nat.le_refl, RI_i, RI_z0, RI_z1, Int32.reduceOfInt, Int8.reduceOfInt, Int16.reduceOfInt, Int64.reduceOfInt, Int8.toInt32_ofNat, Int16.toInt32_ofNat, Int.reduceNeg, Int32.ofInt_neg, Int8.ofInt_neg, Int16.ofInt_neg, Int32.toInt64_ofNat, Int32.reduceToNatClampNeg, Fin.isValue, Fin.val_one, Fin.val_zero, Fin.val_two, Int64.reduceOfNat, Int32.reduceOfNat, hdl, cutc, Nat.reduceEqDiff, reduceIte, FV, tyC, tyX0, tyX1, tyX2, tyX3, tyX4, tyX5, tyX6, tyX7, tyX8, tyX9, tyX10, Nat.reduceMul, c_le, c_lt, c_eq, c_in, c_cl, c_add, c_rem, c_ofN, Int32.add_zero, Int32.zero_add, c_lt0, c_ge0, c_le0, c_gt0, c_e0, c_m1, c_m1', false_implies, true_implies, implies_true, not_false_eq_true, not_true_eq_false, Nat.not_lt_zero, up_s, up_1, up_m, ff9_init, bb9_init_0, e3, up_u, l3, Nat.add_assoc]
  refine sp3_init (a := a + 66) (by rw [up_s]) (fun w4 g4 g4' f4 => ?_)
  have e4 : w4 a = some (.inr (9, [.ref (a + 1), .ref (a + 10), .int 0, .ref (a + 19), .null, .null, .null, .null])) := (f4.at (by omega)).trans ((up_n _ _ _ _ (by omega)).trans (up_s _ _ _))
  unfold holdL
  simp only [List.getElem?_cons_zero, List.getElem?_cons_succ, fv4, Nat.reduceAdd, Nat.reduceSub, wp, pst, stp, LG, lput, ls_tl, two, bc, EL, pad, popN, csum, Option.toList, List.cons_append, List.nil_append, List.set_cons_zero, List.set_cons_succ, List.length_cons, List.length_nil, true_and, and_true, Nat.reduceLT, Nat.reduceLeDiff, Nat.zero_le, Nat.le_refl, RI_i, RI_z0, RI_z1, Int32.reduceOfInt, Int8.reduceOfInt, Int16.reduceOfInt, Int64.reduceOfInt, Int8.toInt32_ofNat, Int16.toInt32_ofNat, Int.reduceNeg, Int32.ofInt_neg, Int8.ofInt_neg, Int16.ofInt_neg, Int32.toInt64_ofNat, Int32.reduceToNatClampNeg, Fin.isValue, Fin.val_one, Fin.val_zero, Fin.val_two, Int64.reduceOfNat, Int32.reduceOfNat, hdl, cutc, Nat.reduceEqDiff, reduceIte, FV, tyC, tyX0, tyX1, tyX2, tyX3, tyX4, tyX5, tyX6, tyX7, tyX8, tyX9, tyX10, Nat.reduceMul, c_le, c_lt, c_eq, c_in, c_cl, c_add, c_rem, c_ofN, Int32.add_zero, Int32.zero_add, c_lt0, c_ge0, c_le0, c_gt0, c_e0, c_m1, c_m1', false_implies, true_implies, implies_true, not_false_eq_true, not_true_eq_false, Nat.not_lt_zero, up_s, up_1, up_m, ff9_init, bb9_init_0, e4, up_u, l0, Nat.add_assoc]
  refine sp0_init (a := a + 69) (by rw [up_s]) (fun w5 g5 f5 => ?_)
  have e5 : w5 a = some (.inr (9, [.ref (a + 1), .ref (a + 10), .int 0, .ref (a + 19), .ref (a + 66), .null, .null, .null])) := (f5.at (by omega)).trans ((up_n _ _ _ _ (by omega)).trans (up_s _ _ _))
  unfold holdL
  simp only [List.getElem?_cons_zero, List.getElem?_cons_succ, fv4, Nat.reduceAdd, Nat.reduceSub, wp, pst, stp, LG, lput, ls_tl, two, bc, EL, pad, popN, csum, Option.toList, List.cons_append, List.nil_append, List.set_cons_zero, List.set_cons_succ, List.length_cons, List.length_nil, true_and, and_true, Nat.reduceLT, Nat.reduceLeDiff, Nat.zero_le, Nat.le_refl, RI_i, RI_z0, RI_z1, Int32.reduceOfInt, Int8.reduceOfInt, Int16.reduceOfInt, Int64.reduceOfInt, Int8.toInt32_ofNat, Int16.toInt32_ofNat, Int.reduceNeg, Int32.ofInt_neg, Int8.ofInt_neg, Int16.ofInt_neg, Int32.toInt64_ofNat, Int32.reduceToNatClampNeg, Fin.isValue, Fin.val_one, Fin.val_zero, Fin.val_two, Int64.reduceOfNat, Int32.reduceOfNat, hdl, cutc, Nat.reduceEqDiff, reduceIte, FV, tyC, tyX0, tyX1, tyX2, tyX3, tyX4, tyX5, tyX6, tyX7, tyX8, tyX9, tyX10, Nat.reduceMul, c_le, c_lt, c_eq, c_in, c_cl, c_add, c_rem, c_ofN, Int32.add_zero, Int32.zero_add, c_lt0, c_ge0, c_le0, c_gt0, c_e0, c_m1, c_m1', false_implies, true_implies, implies_true, not_false_eq_true, not_true_eq_false, Nat.not_lt_zero, up_s, up_1, up_m, ff9_init, bb9_init_0, e5, up_u, l5, Nat.add_assoc]
  refine sp5_init (a := a + 72) (by rw [up_s]) (fun w6 g6 f6 => ?_)
  have e6 : w6 a = some (.inr (9, [.ref (a + 1), .ref (a + 10), .int 0, .ref (a + 19), .ref (a + 66), .ref (a + 69), .null, .null])) := (f6.at (by omega)).trans ((up_n _ _ _ _ (by omega)).trans (up_s _ _ _))
  unfold holdL
  simp only [List.getElem?_cons_zero, List.getElem?_cons_succ, fv4, Nat.reduceAdd, Nat.reduceSub, wp, pst, stp, LG, lput, ls_tl, two, bc, EL, pad, popN, csum, Option.toList, List.cons_append, List.nil_append, List.set_cons_zero, List.set_cons_succ, List.length_cons, List.length_nil, true_and, and_true, Nat.reduceLT, Nat.reduceLeDiff, Nat.zero_le, Nat.le_refl, RI_i, RI_z0, RI_z1, Int32.reduceOfInt, Int8.reduceOfInt, Int16.reduceOfInt, Int64.reduceOfInt, Int8.toInt32_ofNat, Int16.toInt32_ofNat, Int.reduceNeg, Int32.ofInt_neg, Int8.ofInt_neg, Int16.ofInt_neg, Int32.toInt64_ofNat, Int32.reduceToNatClampNeg, Fin.isValue, Fin.val_one, Fin.val_zero, Fin.val_two, Int64.reduceOfNat, Int32.reduceOfNat, hdl, cutc, Nat.reduceEqDiff, reduceIte, FV, tyC, tyX0, tyX1, tyX2, tyX3, tyX4, tyX5, tyX6, tyX7, tyX8, tyX9, tyX10, Nat.reduceMul, c_le, c_lt, c_eq, c_in, c_cl, c_add, c_rem, c_ofN, Int32.add_zero, Int32.zero_add, c_lt0, c_ge0, c_le0, c_gt0, c_e0, c_m1, c_m1', false_implies, true_implies, implies_true, not_false_eq_true, not_true_eq_false, Nat.not_lt_zero, up_s, up_1, up_m, ff9_init, bb9_init_0, e6, up_u, l6, Nat.add_assoc]
  refine sp6_init (a := a + 73) (by rw [up_s]) (fun w7 g7 f7 => ?_)
  have e7 : w7 a = some (.inr (9, [.ref (a + 1), .ref (a + 10), .int 0, .ref (a + 19), .ref (a + 66), .ref (a + 69), .ref (a + 72), .null])) := (f7.at (by omega)).trans ((up_n _ _ _ _ (by omega)).trans (up_s _ _ _))
  unfold holdL
  simp only [List.getElem?_cons_zero, List.getElem?_cons_succ, fv4, Nat.reduceAdd, Nat.reduceSub, wp, pst, stp, LG, lput, ls_tl, two, bc, EL, pad, popN, csum, Option.toList, List.cons_append, List.nil_append, List.set_cons_zero, List.set_cons_succ, List.length_cons, List.length_nil, true_and, and_true, Nat.reduceLT, Nat.reduceLeDiff, Nat.zero_le, Nat.le_refl, RI_i, RI_z0, RI_z1, Int32.reduceOfInt, Int8.reduceOfInt, Int16.reduceOfInt, Int64.reduceOfInt, Int8.toInt32_ofNat, Int16.toInt32_ofNat, Int.reduceNeg, Int32.ofInt_neg, Int8.ofInt_neg, Int16.ofInt_neg, Int32.toInt64_ofNat, Int32.reduceToNatClampNeg, Fin.isValue, Fin.val_one, Fin.val_zero, Fin.val_two, Int64.reduceOfNat, Int32.reduceOfNat, hdl, cutc, Nat.reduceEqDiff, reduceIte, FV, tyC, tyX0, tyX1, tyX2, tyX3, tyX4, tyX5, tyX6, tyX7, tyX8, tyX9, tyX10, Nat.reduceMul, c_le, c_lt, c_eq, c_in, c_cl, c_add, c_rem, c_ofN, Int32.add_zero, Int32.zero_add, c_lt0, c_ge0, c_le0, c_gt0, c_e0, c_m1, c_m1', false_implies, true_implies, implies_true, not_false_eq_true, not_true_eq_false, Nat.not_lt_zero, up_s, up_1, up_m, ff9_init, bb9_init_0, e7, up_u, Nat.add_assoc]
  have ua : ∀ (w : PW) (e : va_E), Fr w (up w a e) a 1 := fun w e => Fr.wr (by omega) (by omega)
  have ub : ∀ (k : Nat) (w : PW) (e : va_E), Fr w (up w (a + k) e) (a + k) 1 := fun k w e => Fr.wr (by omega) (by omega)
  have t1 := ((g1.fr (ua _ _) (by omega)).fr (ub 10 _ _) (by omega)).fr f2 (by omega)
  have t1 := ((t1.fr (ua _ _) (by omega)).fr (ub 19 _ _) (by omega)).fr f3 (by omega)
  have t1 := ((t1.fr (ua _ _) (by omega)).fr (ub 66 _ _) (by omega)).fr f4 (by omega)
  have t1 := ((t1.fr (ua _ _) (by omega)).fr (ub 69 _ _) (by omega)).fr f5 (by omega)
  have t1 := ((t1.fr (ua _ _) (by omega)).fr (ub 72 _ _) (by omega)).fr f6 (by omega)
  have t1 := ((t1.fr (ua _ _) (by omega)).fr (ub 73 _ _) (by omega)).fr f7 (by omega)
  have t2 := ((g2.fr (ua _ _) (by omega)).fr (ub 19 _ _) (by omega)).fr f3 (by omega)
  have t2 := ((t2.fr (ua _ _) (by omega)).fr (ub 66 _ _) (by omega)).fr f4 (by omega)
  have t2 := ((t2.fr (ua _ _) (by omega)).fr (ub 69 _ _) (by omega)).fr f5 (by omega)
  have t2 := ((t2.fr (ua _ _) (by omega)).fr (ub 72 _ _) (by omega)).fr f6 (by omega)
  have t2 := ((t2.fr (ua _ _) (by omega)).fr (ub 73 _ _) (by omega)).fr f7 (by omega)
  have t3 := ((g3.fr (ua _ _) (by omega)).fr (ub 66 _ _) (by omega)).fr f4 (by omega)
  have t3 := ((t3.fr (ua _ _) (by omega)).fr (ub 69 _ _) (by omega)).fr f5 (by omega)
  have t3 := ((t3.fr (ua _ _) (by omega)).fr (ub 72 _ _) (by omega)).fr f6 (by omega)
  have t3 := ((t3.fr (ua _ _) (by omega)).fr (ub 73 _ _) (by omega)).fr f7 (by omega)
  have t4 := ((g4.fr (ua _ _) (by omega)).fr (ub 69 _ _) (by omega)).fr f5 (by omega)
  have t4 := ((t4.fr (ua _ _) (by omega)).fr (ub 72 _ _) (by omega)).fr f6 (by omega)
  have t4 := ((t4.fr (ua _ _) (by omega)).fr (ub 73 _ _) (by omega)).fr f7 (by omega)
  obtain ⟨p1, p2, p3, p4, p5, p6, p7, s4⟩ := g4'
  have s4 := (f5.at (by omega)).trans (((ub 69 _ _).at (by omega)).trans (((ua _ _).at (by omega)).trans s4))
  have s4 := (f6.at (by omega)).trans (((ub 72 _ _).at (by omega)).trans (((ua _ _).at (by omega)).trans s4))
  have s4 := (f7.at (by omega)).trans (((ub 73 _ _).at (by omega)).trans (((ua _ _).at (by omega)).trans s4))
  have t5 := ((g5.fr (ua _ _) (by omega)).fr (ub 72 _ _) (by omega)).fr f6 (by omega)
  have t5 := ((t5.fr (ua _ _) (by omega)).fr (ub 73 _ _) (by omega)).fr f7 (by omega)
  have t6 := (f7.at (by omega)).trans (((ub 73 _ _).at (by omega)).trans (((ua _ _).at (by omega)).trans g6))
  have k1 : Fr w w1 a 77 := (Fr.wr (by omega) (by omega)).tr (f1.wid (by omega) (by omega))
  have k2 : Fr w w2 a 77 := ((k1.up (by omega) (by omega)).up (by omega) (by omega)).tr (f2.wid (by omega) (by omega))
  have k3 : Fr w w3 a 77 := ((k2.up (by omega) (by omega)).up (by omega) (by omega)).tr (f3.wid (by omega) (by omega))
  have k4 : Fr w w4 a 77 := ((k3.up (by omega) (by omega)).up (by omega) (by omega)).tr (f4.wid (by omega) (by omega))
  have k5 : Fr w w5 a 77 := ((k4.up (by omega) (by omega)).up (by omega) (by omega)).tr (f5.wid (by omega) (by omega))
  have k6 : Fr w w6 a 77 := ((k5.up (by omega) (by omega)).up (by omega) (by omega)).tr (f6.wid (by omega) (by omega))
  have k7 : Fr w w7 a 77 := ((k6.up (by omega) (by omega)).up (by omega) (by omega)).tr (f7.wid (by omega) (by omega))
  refine hQ _ ⟨up_s _ _ _, t1.fr (ua _ _) (by omega), ⟨S0, t2.fr (ua _ _) (by omega), fun n hn => nomatch hn⟩, t3.fr (ua _ _) (by omega), t4.fr (ua _ _) (by omega), ⟨p1, p2, p3, p4, p5, p6, p7, ((ua _ _).at (by omega)).trans s4⟩, ⟨[], [], 0, t5.fr (ua _ _) (by omega)⟩, ⟨0, 0, 0, ((ua _ _).at (by omega)).trans t6⟩, R0, [], g7.fr (ua _ _) (by omega)⟩ (k7.up (by omega) (by omega))
theorem R0_rok : RcOK R0 := fun j p h => by
  rw [R0_get] at h
  exact absurd h (by simp)
theorem S0_ok : SOK S0 := ⟨by decide, by decide, by decide, fun p hp => absurd hp List.not_mem_nil, by decide, fun p hp => absurd hp List.not_mem_nil, by decide, rfl, R0_rok, by decide, fun p hp => absurd hp List.not_mem_nil, (fun k hk => nomatch hk)⟩
theorem U0_ok : UOK U0 := ⟨S0_ok, (fun n hn => nomatch hn), fun t ht => absurd ht List.not_mem_nil, by decide, fun t ht => absurd ht List.not_mem_nil, by decide⟩
end INIT2

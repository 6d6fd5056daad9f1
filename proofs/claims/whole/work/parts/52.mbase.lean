/-! THE MODEL'S STATE, as numbers in a row -/
theorem vi_0 : vp_in 0 568 = True := eq_true (by unfold vp_in; decide)
theorem vi_1 : vp_in 1 568 = True := eq_true (by unfold vp_in; decide)
theorem vi_2 : vp_in 2 568 = True := eq_true (by unfold vp_in; decide)
theorem vi_3 : vp_in 3 568 = True := eq_true (by unfold vp_in; decide)
theorem vi_4 : vp_in 4 568 = True := eq_true (by unfold vp_in; decide)
theorem vi_5 : vp_in 5 568 = True := eq_true (by unfold vp_in; decide)
theorem vi_6 : vp_in 6 568 = True := eq_true (by unfold vp_in; decide)
def stN (o : Option Nat) : Int32 := match o with
  | some k => nI k
  | none => -1
/-- what is received: bits, and pixels -/
def GotF (f : Nat → Int32) (o : Nat) (R : List (Option Nat)) : Prop := (∃ bits, f (o + 4) = nI bits ∧ bits < 1024 ∧ ∀ j, j < 10 → bits.testBit j = (R.getD j none).isSome) ∧ ∀ j p, j < 10 → R.getD j none = some p → f (o + 18 + j) = nI p
def ErrF (f : Nat → Int32) (o : Nat) (E : List (Nat × Nat)) : Prop := f (o + 5) = nI E.length ∧ ∀ k, k < E.length → f (o + 28 + 2 * k) = nI (E.getD k (0, 0)).1 ∧ f (o + 29 + 2 * k) = nI (E.getD k (0, 0)).2
def LinF (f : Nat → Int32) (o : Nat) (L : List Nat) : Prop := f (o + 2) = nI L.length ∧ ∀ j, j < L.length → f (o + 8 + j) = nI (L.getD j 0)
def StrF (f : Nat → Int32) (o : Nat) (s : List Nat) : Prop := f (o + 3) = nI s.length ∧ ∀ j, j < s.length → f (o + 68 + j) = nI (s.getD j 0)
/-- a state in the row f, from o on -/
def StF (f : Nat → Int32) (o : Nat) (S : AS) : Prop := f o = nI (a_wd S) ∧ f (o + 1) = nI (a_sy S) ∧ LinF f o (a_L S) ∧ StrF f o (a_s S) ∧ GotF f o (a_R S) ∧ ErrF f o (a_E S) ∧ f (o + 6) = stN (a_st S)
theorem StF.cp {f g : Nat → Int32} {o p : Nat} {S : AS} (h : StF f o S) (hS : SOK S) (he : ∀ k, k < 568 → g (p + k) = f (o + k)) : StF g p S := by
  obtain ⟨h1, h2, ⟨h3, h3'⟩, ⟨h4, h4'⟩, ⟨⟨b, h5, h5'⟩, h5''⟩, ⟨h6, h6'⟩, h7⟩ := h
  obtain ⟨k1, k2, k3, k4, k5, k6, k7, k8, k9, k10, k11, k12⟩ := hS
  refine ⟨(he 0 (by decide)).trans h1, (he 1 (by decide)).trans h2, ⟨(he 2 (by decide)).trans h3, fun j hj => ?_⟩, ⟨(he 3 (by decide)).trans h4, fun j hj => ?_⟩, ⟨⟨b, (he 4 (by decide)).trans h5, h5'⟩, fun j q hj hq => ?_⟩, ⟨(he 5 (by decide)).trans h6, fun k hk => ⟨?_, ?_⟩⟩, (he 6 (by decide)).trans h7⟩
  · rw [Nat.add_assoc, he _ (by omega), ← Nat.add_assoc]; exact h3' j hj
  · rw [Nat.add_assoc, he _ (by omega), ← Nat.add_assoc]; exact h4' j hj
  · rw [Nat.add_assoc, he _ (by omega), ← Nat.add_assoc]; exact h5'' j q hj hq
  · rw [Nat.add_assoc, he _ (by omega), ← Nat.add_assoc]; exact (h6' k hk).1
  · rw [Nat.add_assoc, he _ (by omega), ← Nat.add_assoc]; exact (h6' k hk).2
/-- the model at m: what was thrown, its state, its snapshot, the saved states, the buffer -/
def MU (w : PW) (m : Nat) (th : Int32) (U : US) : Prop := ∃ (at_ iw rm rn cm su pl wy px : Int32) (fs fa ft fn fx fr fu fc : Nat → Int32),
  w = mw w m th (nI (us_T U).length) (hsI (us_N U)) (nI (us_B U).length) at_ iw rm rn cm su pl wy px fs fa ft fn fx fr fu fc ∧ StF fs 0 (us_S U) ∧ (∀ k t, (us_T U)[k]? = some t → StF ft (568 * k) t) ∧ (∀ n, us_N U = some n → StF fn 0 n) ∧ IA fx (us_B U)
section MB
variable {Γ : Amb} {w : PW} {Q : Option Value → Option Nat → PW → Prop} {m : Nat} {th sm hs ln at_ iw rm rn cm su pl wy px : Int32} {fs fa ft fn fx fr fu fc : Nat → Int32}
theorem sp10_thrown (hQ : Q (some (.int th)) none (mw w m th sm hs ln at_ iw rm rn cm su pl wy px fs fa ft fn fx fr fu fc)) : Sp Γ m10_thrown [.ref m] none (mw w m th sm hs ln at_ iw rm rn cm su pl wy px fs fa ft fn fx fr fu fc) Q := by
  refine entry Γ m10_thrown rfl _ (Nat.le_of_ble_eq_true rfl) _ _ _ ?_
  refine wp_ok kd10_thrown 400 0 bb10_thrown_0 _ _ _ _ _ _ oo10_thrown_0 ?_
  simp only [List.getElem?_cons_zero, List.getElem?_cons_succ, fv4, Nat.reduceAdd, Nat.reduceSub, wp, pst, stp, LG, lput, ls_tl, two, bc, EL, pad, popN, csum, Option.toList, List.cons_append, List.nil_append, List.set_cons_zero, List.set_cons_succ, List.length_cons, List.length_nil, true_and, and_true, Nat.reduceLT, Nat.reduceLeDiff, Nat.zero_le, Nat.le_refl, RI_i, RI_z0, RI_z1, Int32.reduceOfInt, Int8.reduceOfInt, Int16.reduceOfInt, Int64.reduceOfInt, Int8.toInt32_ofNat, Int16.toInt32_ofNat, Int.reduceNeg, Int32.ofInt_neg, Int8.ofInt_neg, Int16.ofInt_neg, Int32.toInt64_ofNat, Int32.reduceToNatClampNeg, Fin.isValue, Fin.val_one, Fin.val_zero, Fin.val_two, Int64.reduceOfNat, Int32.reduceOfNat, hdl, cutc, Nat.reduceEqDiff, reduceIte, FV, tyC, tyX0, tyX1, tyX2, tyX3, tyX4, tyX5, tyX6, tyX7, tyX8, tyX9, tyX10, Nat.reduceMul, c_le, c_lt, c_eq, c_in, c_cl, c_add, c_rem, c_ofN, Int32.add_zero, Int32.zero_add, c_lt0, c_ge0, c_le0, c_gt0, c_e0, c_m1, c_m1', false_implies, true_implies, implies_true, not_false_eq_true, not_true_eq_false, Nat.not_lt_zero, up_s, up_1, up_m, ff10_thrown, bb10_thrown_0, mw_0, mw_1, mw_2, mw_3, mw_4, mw_5, mw_6, mw_7, mw_8, mu_0, mu_1, mu_2, mu_3, mu_4, mu_5, mu_6, mu_7, mu_8, vi_0, vi_1, vi_2, vi_3, vi_4, vi_5, vi_6]
  exact hQ
theorem sp10_fails (v : Int32) (hQ : Q (some (.int 0)) none (mw w m v sm hs ln at_ iw rm rn cm su pl wy px fs fa ft fn fx fr fu fc)) : Sp Γ m10_fails [.ref m, .int v] none (mw w m th sm hs ln at_ iw rm rn cm su pl wy px fs fa ft fn fx fr fu fc) Q := by
  refine entry Γ m10_fails rfl _ (Nat.le_of_ble_eq_true rfl) _ _ _ ?_
  refine wp_ok kd10_fails 400 0 bb10_fails_0 _ _ _ _ _ _ oo10_fails_0 ?_
  simp only [List.getElem?_cons_zero, List.getElem?_cons_succ, fv4, Nat.reduceAdd, Nat.reduceSub, wp, pst, stp, LG, lput, ls_tl, two, bc, EL, pad, popN, csum, Option.toList, List.cons_append, List.nil_append, List.set_cons_zero, List.set_cons_succ, List.length_cons, List.length_nil, true_and, and_true, Nat.reduceLT, Nat.reduceLeDiff, Nat.zero_le, Nat.le_refl, RI_i, RI_z0, RI_z1, Int32.reduceOfInt, Int8.reduceOfInt, Int16.reduceOfInt, Int64.reduceOfInt, Int8.toInt32_ofNat, Int16.toInt32_ofNat, Int.reduceNeg, Int32.ofInt_neg, Int8.ofInt_neg, Int16.ofInt_neg, Int32.toInt64_ofNat, Int32.reduceToNatClampNeg, Fin.isValue, Fin.val_one, Fin.val_zero, Fin.val_two, Int64.reduceOfNat, Int32.reduceOfNat, hdl, cutc, Nat.reduceEqDiff, reduceIte, FV, tyC, tyX0, tyX1, tyX2, tyX3, tyX4, tyX5, tyX6, tyX7, tyX8, tyX9, tyX10, Nat.reduceMul, c_le, c_lt, c_eq, c_in, c_cl, c_add, c_rem, c_ofN, Int32.add_zero, Int32.zero_add, c_lt0, c_ge0, c_le0, c_gt0, c_e0, c_m1, c_m1', false_implies, true_implies, implies_true, not_false_eq_true, not_true_eq_false, Nat.not_lt_zero, up_s, up_1, up_m, ff10_fails, bb10_fails_0, mw_0, mw_1, mw_2, mw_3, mw_4, mw_5, mw_6, mw_7, mw_8, mu_0, mu_1, mu_2, mu_3, mu_4, mu_5, mu_6, mu_7, mu_8, vi_0, vi_1, vi_2, vi_3, vi_4, vi_5, vi_6]
  exact hQ
theorem sp10_in (v a b : Int32) (h1 : a ≤ v → v ≤ b → Q (some (.int 1)) none w) (h0 : ¬(a ≤ v ∧ v ≤ b) → Q (some (.int 0)) none w) : Sp Γ m10_in [.int v, .int a, .int b] none w Q := by
  refine entry Γ m10_in rfl _ (Nat.le_of_ble_eq_true rfl) _ _ _ ?_
  refine wp_ok kd10_in 400 0 bb10_in_0 _ _ _ _ _ _ oo10_in_0 ?_
  simp only [List.getElem?_cons_zero, List.getElem?_cons_succ, fv4, Nat.reduceAdd, Nat.reduceSub, wp, pst, stp, LG, lput, ls_tl, two, bc, EL, pad, popN, csum, Option.toList, List.cons_append, List.nil_append, List.set_cons_zero, List.set_cons_succ, List.length_cons, List.length_nil, true_and, and_true, Nat.reduceLT, Nat.reduceLeDiff, Nat.zero_le, Nat.le_refl, RI_i, RI_z0, RI_z1, Int32.reduceOfInt, Int8.reduceOfInt, Int16.reduceOfInt, Int64.reduceOfInt, Int8.toInt32_ofNat, Int16.toInt32_ofNat, Int.reduceNeg, Int32.ofInt_neg, Int8.ofInt_neg, Int16.ofInt_neg, Int32.toInt64_ofNat, Int32.reduceToNatClampNeg, Fin.isValue, Fin.val_one, Fin.val_zero, Fin.val_two, Int64.reduceOfNat, Int32.reduceOfNat, hdl, cutc, Nat.reduceEqDiff, reduceIte, FV, tyC, tyX0, tyX1, tyX2, tyX3, tyX4, tyX5, tyX6, tyX7, tyX8, tyX9, tyX10, Nat.reduceMul, c_le, c_lt, c_eq, c_in, c_cl, c_add, c_rem, c_ofN, Int32.add_zero, Int32.zero_add, c_lt0, c_ge0, c_le0, c_gt0, c_e0, c_m1, c_m1', false_implies, true_implies, implies_true, not_false_eq_true, not_true_eq_false, Nat.not_lt_zero, up_s, up_1, up_m, ff10_in, bb10_in_0, bb10_in_14, bb10_in_15, cl_1, ca_1, mw_0, mw_1, mw_2, mw_3, mw_4, mw_5, mw_6, mw_7, mw_8, mu_0, mu_1, mu_2, mu_3, mu_4, mu_5, mu_6, mu_7, mu_8, vi_0, vi_1, vi_2, vi_3, vi_4, vi_5, vi_6]
  trace_state
  sorry
theorem sp10_writes (k n : Nat) (hk : k < 126) (hn : n < 16) (s0 : Nat) (hQ : ∀ fc', (∀ j, j < k → fc' j = fc j) → (∀ j, j < (esc n).length → fc' (k + j) = nI ((esc n).getD j 0)) → Q none none (mw w m th sm hs ln at_ iw rm rn (nI (k + (esc n).length)) (nI (s0 + n)) pl wy px fs fa ft fn fx fr fu (fc'))) : Sp Γ m10_writes [.ref m, .int (nI n)] none (mw w m th sm hs ln at_ iw rm rn (nI k) (nI s0) pl wy px fs fa ft fn fx fr fu fc) Q := by
  have b1 : k < 2147483648 := by omega
  have b2 : n < 2147483648 := by omega
  have b3 : k < 128 := by omega
  have b4 : k + 1 < 128 := by omega
  have b5 : k + 1 < 2147483648 := by omega
  refine entry Γ m10_writes rfl _ (Nat.le_of_ble_eq_true rfl) _ _ _ ?_
  refine wp_ok kd10_writes 400 0 bb10_writes_0 _ _ _ _ _ _ oo10_writes_0 ?_
  simp only [List.getElem?_cons_zero, List.getElem?_cons_succ, fv4, Nat.reduceAdd, Nat.reduceSub, wp, pst, stp, LG, lput, ls_tl, two, bc, EL, pad, popN, csum, Option.toList, List.cons_append, List.nil_append, List.set_cons_zero, List.set_cons_succ, List.length_cons, List.length_nil, true_and, and_true, Nat.reduceLT, Nat.reduceLeDiff, Nat.zero_le, Nat.le_refl, RI_i, RI_z0, RI_z1, Int32.reduceOfInt, Int8.reduceOfInt, Int16.reduceOfInt, Int64.reduceOfInt, Int8.toInt32_ofNat, Int16.toInt32_ofNat, Int.reduceNeg, Int32.ofInt_neg, Int8.ofInt_neg, Int16.ofInt_neg, Int32.toInt64_ofNat, Int32.reduceToNatClampNeg, Fin.isValue, Fin.val_one, Fin.val_zero, Fin.val_two, Int64.reduceOfNat, Int32.reduceOfNat, hdl, cutc, Nat.reduceEqDiff, reduceIte, FV, tyC, tyX0, tyX1, tyX2, tyX3, tyX4, tyX5, tyX6, tyX7, tyX8, tyX9, tyX10, Nat.reduceMul, c_le, c_lt, c_eq, c_in, c_cl, c_add, c_rem, c_ofN, Int32.add_zero, Int32.zero_add, c_lt0, c_ge0, c_le0, c_gt0, c_e0, c_m1, c_m1', false_implies, true_implies, implies_true, not_false_eq_true, not_true_eq_false, Nat.not_lt_zero, up_s, up_1, up_m, ff10_writes, bb10_writes_0, bb10_writes_56, cl_1, ca_1, cl_15, ca_15, mw_0, mw_1, mw_2, mw_3, mw_4, mw_5, mw_6, mw_7, mw_8, mu_0, mu_1, mu_2, mu_3, mu_4, mu_5, mu_6, mu_7, mu_8, vi_0, vi_1, vi_2, vi_3, vi_4, vi_5, vi_6, b1, b2, b3, b4, b5]
  trace_state
  sorry
end MB

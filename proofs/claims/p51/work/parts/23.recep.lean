/-! RECEPTION -/
theorem shl1 : ∀ j, j < 32 → (1 : Int32) <<< (nI j &&& 31) = nI (2 ^ j) := by decide
def us (x k : Int32) : Int32 := (x.toUInt32 >>> (k.toUInt32 &&& Int32.toUInt32 31)).toInt32
def bcI (x : Int32) : Int32 :=
  let a := x - (us x 1 &&& 1431655765)
  let b := (a &&& 858993459) + (us a 2 &&& 858993459)
  let c := (b + us b 4) &&& 252645135
  let d := c + us c 8
  let e := d + us d 16
  e &&& 63
theorem bcI_small : ∀ n, n < 1024 → bcI (nI n) = nI (fb_ct n.testBit 10) := by decide +kernel
/-- how many lines are received -/
def cntR (R : List (Option Nat)) : Nat := fb_ct (fun j => (R.getD j none).isSome) 10
/-- how many are right -/
def alike (R : List (Option Nat)) (L : List Nat) : Nat → Nat
  | 0 => 0
  | n + 1 => alike R L n + (if R.getD n none = some (L.getD n 0) then 1 else 0)
theorem alike_le (R : List (Option Nat)) (L : List Nat) : ∀ n, alike R L n ≤ n := by
  intro n
  induction n with
  | zero => exact Nat.le_refl 0
  | succ n ih => simp only [alike]; split <;> omega
def noteE (E : List (Nat × Nat)) (p r : Nat) : List (Nat × Nat) := if E.length < 20 then E ++ [(p, r)] else E
def RcOK (R : List (Option Nat)) : Prop := ∀ j p, R.getD j none = some p → p < 4294967296
theorem IA_snoc {f : Nat → Int32} {L : List Nat} {n v : Nat} (h : IA f L) (hn : n = L.length) : IA (upd f n (nI v)) (L ++ [v]) := by
  intro j hj
  rw [List.length_append] at hj
  simp only [List.length_cons, List.length_nil] at hj
  subst hn
  by_cases q : j = L.length
  · subst q; simp [upd, List.getD_eq_getElem?_getD]
  · have hj' : j < L.length := by omega
    simp only [upd, if_neg q]
    rw [h j hj']
    simp [List.getD_eq_getElem?_getD, List.getElem?_append_left hj']
/-- nothing received -/
def R0 : List (Option Nat) := List.replicate 10 none
theorem R0_get (j : Nat) : R0.getD j none = none := by
  unfold R0
  rw [List.getD_eq_getElem?_getD, List.getElem?_replicate]
  split <;> rfl
section RECEP
variable {Γ : Amb} {w : PW} {Q : Option Value → Option Nat → PW → Prop} {a : Nat} {R : List (Option Nat)} {E : List (Nat × Nat)}
theorem spJ6_bitCount (x : Int32) (hQ : Q (some (.int (bcI x))) none w) : Sp Γ mJ6_bitCount [.int x] none w Q := by
  refine entry Γ mJ6_bitCount rfl _ (Nat.le_of_ble_eq_true rfl) _ _ _ ?_
  refine wp_ok kdJ6_bitCount 400 0 bbJ6_bitCount_0 _ _ _ _ _ _ ooJ6_bitCount_0 ?_
  simp only [List.getElem?_cons_zero, List.getElem?_cons_succ, fv4, Nat.reduceAdd, Nat.reduceSub, wp, pst, stp, LG, lput, ls_tl, two, bc, EL, pad, popN, csum, Option.toList, List.cons_append, List.nil_append, List.set_cons_zero, List.set_cons_succ, List.length_cons, List.length_nil, true_and, and_true, Nat.reduceLT, Nat.reduceLeDiff, Nat.zero_le, Nat.le_refl, RI_i, RI_z0, RI_z1, Int32.reduceOfInt, Int8.reduceOfInt, Int16.reduceOfInt, Int64.reduceOfInt, Int8.toInt32_ofNat, Int16.toInt32_ofNat, Int.reduceNeg, Int32.ofInt_neg, Int8.ofInt_neg, Int16.ofInt_neg, Int32.toInt64_ofNat, Int32.reduceToNatClampNeg, Fin.isValue, Fin.val_one, Fin.val_zero, Fin.val_two, Int64.reduceOfNat, Int32.reduceOfNat, hdl, cutc, Nat.reduceEqDiff, reduceIte, FV, tyC, tyX0, tyX1, tyX2, tyX3, tyX4, tyX5, tyX6, tyX7, tyX8, tyX9, tyX10, Nat.reduceMul, c_le, c_lt, c_eq, c_in, c_cl, c_add, c_rem, c_ofN, Int32.add_zero, Int32.zero_add, c_lt0, c_ge0, c_le0, c_gt0, c_e0, c_m1, c_m1', false_implies, true_implies, implies_true, not_false_eq_true, not_true_eq_false, Nat.not_lt_zero, up_s, up_1, up_m, ffJ6_bitCount, bbJ6_bitCount_0, cl_1, ca_1, cl_2, ca_2, cl_4, ca_4, cl_8, ca_8, cl_16, ca_16, cl_63, ca_63]
  exact hQ
theorem sp6_empty (hP : RcR w a R E) (hQ : ∀ w', RcR w' a R0 [] → Fr w w' a 4 → Q none none w') : Sp Γ m6_empty [.ref a] none w Q := by
  obtain ⟨bits, f, g, k, e1, e2, e3, e4, e5⟩ := hP
  refine entry Γ m6_empty rfl _ (Nat.le_of_ble_eq_true rfl) _ _ _ ?_
  refine wp_ok kd6_empty 400 0 bb6_empty_0 _ _ _ _ _ _ oo6_empty_0 ?_
  simp only [List.getElem?_cons_zero, List.getElem?_cons_succ, fv4, Nat.reduceAdd, Nat.reduceSub, wp, pst, stp, LG, lput, ls_tl, two, bc, EL, pad, popN, csum, Option.toList, List.cons_append, List.nil_append, List.set_cons_zero, List.set_cons_succ, List.length_cons, List.length_nil, true_and, and_true, Nat.reduceLT, Nat.reduceLeDiff, Nat.zero_le, Nat.le_refl, RI_i, RI_z0, RI_z1, Int32.reduceOfInt, Int8.reduceOfInt, Int16.reduceOfInt, Int64.reduceOfInt, Int8.toInt32_ofNat, Int16.toInt32_ofNat, Int.reduceNeg, Int32.ofInt_neg, Int8.ofInt_neg, Int16.ofInt_neg, Int32.toInt64_ofNat, Int32.reduceToNatClampNeg, Fin.isValue, Fin.val_one, Fin.val_zero, Fin.val_two, Int64.reduceOfNat, Int32.reduceOfNat, hdl, cutc, Nat.reduceEqDiff, reduceIte, FV, tyC, tyX0, tyX1, tyX2, tyX3, tyX4, tyX5, tyX6, tyX7, tyX8, tyX9, tyX10, Nat.reduceMul, c_le, c_lt, c_eq, c_in, c_cl, c_add, c_rem, c_ofN, Int32.add_zero, Int32.zero_add, c_lt0, c_ge0, c_le0, c_gt0, c_e0, c_m1, c_m1', false_implies, true_implies, implies_true, not_false_eq_true, not_true_eq_false, Nat.not_lt_zero, up_s, up_1, up_m, ff6_empty, bb6_empty_0, e1, up_u]
  refine hQ _ ⟨0, f, g, k, up_s _ _ _, by rw [up_1]; exact e2, by rw [up_n _ _ _ _ (by omega)]; exact e3, by rw [up_n _ _ _ _ (by omega)]; exact e4, by decide, rfl, fun j hj => ?_, fun j p hj hp => ?_, fun j hj => absurd hj (by simp), fun j hj => absurd hj (by simp), by simp⟩ (Fr.wr (by omega) (by omega))
  · rw [R0_get]; simp
  · rw [R0_get] at hp; cases hp
theorem sp6_has (hP : RcR w a R E) (j : Nat) (hj : j < 10) (h1 : ∀ p, R.getD j none = some p → Q (some (.int 1)) none w) (h0 : R.getD j none = none → Q (some (.int 0)) none w) : Sp Γ m6_has [.ref a, .int (nI j)] none w Q := by
  obtain ⟨bits, f, g, k, e1, e2, e3, e4, e5, e6, e7, e8, e9⟩ := hP
  have b1 : j < 2147483648 := by omega
  refine entry Γ m6_has rfl _ (Nat.le_of_ble_eq_true rfl) _ _ _ ?_
  refine wp_ok kd6_has 400 0 bb6_has_0 _ _ _ _ _ _ oo6_has_0 ?_
  simp only [List.getElem?_cons_zero, List.getElem?_cons_succ, fv4, Nat.reduceAdd, Nat.reduceSub, wp, pst, stp, LG, lput, ls_tl, two, bc, EL, pad, popN, csum, Option.toList, List.cons_append, List.nil_append, List.set_cons_zero, List.set_cons_succ, List.length_cons, List.length_nil, true_and, and_true, Nat.reduceLT, Nat.reduceLeDiff, Nat.zero_le, Nat.le_refl, RI_i, RI_z0, RI_z1, Int32.reduceOfInt, Int8.reduceOfInt, Int16.reduceOfInt, Int64.reduceOfInt, Int8.toInt32_ofNat, Int16.toInt32_ofNat, Int.reduceNeg, Int32.ofInt_neg, Int8.ofInt_neg, Int16.ofInt_neg, Int32.toInt64_ofNat, Int32.reduceToNatClampNeg, Fin.isValue, Fin.val_one, Fin.val_zero, Fin.val_two, Int64.reduceOfNat, Int32.reduceOfNat, hdl, cutc, Nat.reduceEqDiff, reduceIte, FV, tyC, tyX0, tyX1, tyX2, tyX3, tyX4, tyX5, tyX6, tyX7, tyX8, tyX9, tyX10, Nat.reduceMul, c_le, c_lt, c_eq, c_in, c_cl, c_add, c_rem, c_ofN, Int32.add_zero, Int32.zero_add, c_lt0, c_ge0, c_le0, c_gt0, c_e0, c_m1, c_m1', false_implies, true_implies, implies_true, not_false_eq_true, not_true_eq_false, Nat.not_lt_zero, up_s, up_1, up_m, ff6_has, bb6_has_0, bb6_has_28, bb6_has_29, cl_1, ca_1, e1, e2, b1, hj, Nat.not_le.mpr hj, nx_bit (show bits < 65536 by omega) (show j < 16 by omega), e7 j hj]
  cases hr : R.getD j none with
  | none => simp; exact h0 hr
  | some p => simp; exact h1 p hr
theorem sp6_has_m1 (hP : RcR w a R E) (h0 : Q (some (.int 0)) none w) : Sp Γ m6_has [.ref a, .int (-1)] none w Q := by
  obtain ⟨bits, f, g, k, e1, e2, e3, e4, e5, e6, e7, e8, e9⟩ := hP
  refine entry Γ m6_has rfl _ (Nat.le_of_ble_eq_true rfl) _ _ _ ?_
  refine wp_ok kd6_has 400 0 bb6_has_0 _ _ _ _ _ _ oo6_has_0 ?_
  simp only [List.getElem?_cons_zero, List.getElem?_cons_succ, fv4, Nat.reduceAdd, Nat.reduceSub, wp, pst, stp, LG, lput, ls_tl, two, bc, EL, pad, popN, csum, Option.toList, List.cons_append, List.nil_append, List.set_cons_zero, List.set_cons_succ, List.length_cons, List.length_nil, true_and, and_true, Nat.reduceLT, Nat.reduceLeDiff, Nat.zero_le, Nat.le_refl, RI_i, RI_z0, RI_z1, Int32.reduceOfInt, Int8.reduceOfInt, Int16.reduceOfInt, Int64.reduceOfInt, Int8.toInt32_ofNat, Int16.toInt32_ofNat, Int.reduceNeg, Int32.ofInt_neg, Int8.ofInt_neg, Int16.ofInt_neg, Int32.toInt64_ofNat, Int32.reduceToNatClampNeg, Fin.isValue, Fin.val_one, Fin.val_zero, Fin.val_two, Int64.reduceOfNat, Int32.reduceOfNat, hdl, cutc, Nat.reduceEqDiff, reduceIte, FV, tyC, tyX0, tyX1, tyX2, tyX3, tyX4, tyX5, tyX6, tyX7, tyX8, tyX9, tyX10, Nat.reduceMul, c_le, c_lt, c_eq, c_in, c_cl, c_add, c_rem, c_ofN, Int32.add_zero, Int32.zero_add, c_lt0, c_ge0, c_le0, c_gt0, c_e0, c_m1, c_m1', false_implies, true_implies, implies_true, not_false_eq_true, not_true_eq_false, Nat.not_lt_zero, up_s, up_1, up_m, ff6_has, bb6_has_0, bb6_has_28, bb6_has_29, cl_1, ca_1, e1, e2]
  exact ⟨fun _ => h0, fun h => absurd (by decide) h⟩
theorem sp6_rowOf (hP : RcR w a R E) (j : Nat) (hj : j < 10) (h1 : ∀ p, R.getD j none = some p → Q (some (.long (lN p))) none w) (h0 : R.getD j none = none → Q (some (.long 0)) none w) : Sp Γ m6_rowOf [.ref a, .int (nI j)] none w Q := by
  obtain ⟨bits, f, g, k, e1, e2, e3, e4, e5, e6, e7, e8, e9⟩ := id hP
  have b1 : j < 2147483648 := by omega
  refine entry Γ m6_rowOf rfl _ (Nat.le_of_ble_eq_true rfl) _ _ _ ?_
  refine wp_ok kd6_rowOf 400 0 bb6_rowOf_0 _ _ _ _ _ _ oo6_rowOf_0 ?_
  simp only [List.getElem?_cons_zero, List.getElem?_cons_succ, fv4, Nat.reduceAdd, Nat.reduceSub, wp, pst, stp, LG, lput, ls_tl, two, bc, EL, pad, popN, csum, Option.toList, List.cons_append, List.nil_append, List.set_cons_zero, List.set_cons_succ, List.length_cons, List.length_nil, true_and, and_true, Nat.reduceLT, Nat.reduceLeDiff, Nat.zero_le, Nat.le_refl, RI_i, RI_z0, RI_z1, Int32.reduceOfInt, Int8.reduceOfInt, Int16.reduceOfInt, Int64.reduceOfInt, Int8.toInt32_ofNat, Int16.toInt32_ofNat, Int.reduceNeg, Int32.ofInt_neg, Int8.ofInt_neg, Int16.ofInt_neg, Int32.toInt64_ofNat, Int32.reduceToNatClampNeg, Fin.isValue, Fin.val_one, Fin.val_zero, Fin.val_two, Int64.reduceOfNat, Int32.reduceOfNat, hdl, cutc, Nat.reduceEqDiff, reduceIte, FV, tyC, tyX0, tyX1, tyX2, tyX3, tyX4, tyX5, tyX6, tyX7, tyX8, tyX9, tyX10, Nat.reduceMul, c_le, c_lt, c_eq, c_in, c_cl, c_add, c_rem, c_ofN, Int32.add_zero, Int32.zero_add, c_lt0, c_ge0, c_le0, c_gt0, c_e0, c_m1, c_m1', false_implies, true_implies, implies_true, not_false_eq_true, not_true_eq_false, Nat.not_lt_zero, up_s, up_1, up_m, ff6_rowOf, bb6_rowOf_0, bb6_rowOf_17, bb6_rowOf_18, e1]
  refine sp6_has hP j hj (fun p hp => ?_) (fun hp => ?_)
  · unfold holdL
    simp only [List.getElem?_cons_zero, List.getElem?_cons_succ, fv4, Nat.reduceAdd, Nat.reduceSub, wp, pst, stp, LG, lput, ls_tl, two, bc, EL, pad, popN, csum, Option.toList, List.cons_append, List.nil_append, List.set_cons_zero, List.set_cons_succ, List.length_cons, List.length_nil, true_and, and_true, Nat.reduceLT, Nat.reduceLeDiff, Nat.zero_le, Nat.le_refl, RI_i, RI_z0, RI_z1, Int32.reduceOfInt, Int8.reduceOfInt, Int16.reduceOfInt, Int64.reduceOfInt, Int8.toInt32_ofNat, Int16.toInt32_ofNat, Int.reduceNeg, Int32.ofInt_neg, Int8.ofInt_neg, Int16.ofInt_neg, Int32.toInt64_ofNat, Int32.reduceToNatClampNeg, Fin.isValue, Fin.val_one, Fin.val_zero, Fin.val_two, Int64.reduceOfNat, Int32.reduceOfNat, hdl, cutc, Nat.reduceEqDiff, reduceIte, FV, tyC, tyX0, tyX1, tyX2, tyX3, tyX4, tyX5, tyX6, tyX7, tyX8, tyX9, tyX10, Nat.reduceMul, c_le, c_lt, c_eq, c_in, c_cl, c_add, c_rem, c_ofN, Int32.add_zero, Int32.zero_add, c_lt0, c_ge0, c_le0, c_gt0, c_e0, c_m1, c_m1', false_implies, true_implies, implies_true, not_false_eq_true, not_true_eq_false, Nat.not_lt_zero, up_s, up_1, up_m, ff6_rowOf, bb6_rowOf_0, bb6_rowOf_17, bb6_rowOf_18, e1, e2, b1, hj]
    refine ⟨fun h => absurd h (by decide), fun _ => ?_⟩
    rw [e8 j p hj hp]
    exact h1 p hp
  · unfold holdL
    simp only [List.getElem?_cons_zero, List.getElem?_cons_succ, fv4, Nat.reduceAdd, Nat.reduceSub, wp, pst, stp, LG, lput, ls_tl, two, bc, EL, pad, popN, csum, Option.toList, List.cons_append, List.nil_append, List.set_cons_zero, List.set_cons_succ, List.length_cons, List.length_nil, true_and, and_true, Nat.reduceLT, Nat.reduceLeDiff, Nat.zero_le, Nat.le_refl, RI_i, RI_z0, RI_z1, Int32.reduceOfInt, Int8.reduceOfInt, Int16.reduceOfInt, Int64.reduceOfInt, Int8.toInt32_ofNat, Int16.toInt32_ofNat, Int.reduceNeg, Int32.ofInt_neg, Int8.ofInt_neg, Int16.ofInt_neg, Int32.toInt64_ofNat, Int32.reduceToNatClampNeg, Fin.isValue, Fin.val_one, Fin.val_zero, Fin.val_two, Int64.reduceOfNat, Int32.reduceOfNat, hdl, cutc, Nat.reduceEqDiff, reduceIte, FV, tyC, tyX0, tyX1, tyX2, tyX3, tyX4, tyX5, tyX6, tyX7, tyX8, tyX9, tyX10, Nat.reduceMul, c_le, c_lt, c_eq, c_in, c_cl, c_add, c_rem, c_ofN, Int32.add_zero, Int32.zero_add, c_lt0, c_ge0, c_le0, c_gt0, c_e0, c_m1, c_m1', false_implies, true_implies, implies_true, not_false_eq_true, not_true_eq_false, Nat.not_lt_zero, up_s, up_1, up_m, ff6_rowOf, bb6_rowOf_0, bb6_rowOf_17, bb6_rowOf_18, e1, e2, b1, hj]
    first | exact h0 hp | exact ⟨fun _ => h0 hp, fun h => absurd rfl h⟩
theorem sp6_rowOf_m1 (hP : RcR w a R E) (h0 : Q (some (.long 0)) none w) : Sp Γ m6_rowOf [.ref a, .int (-1)] none w Q := by
  obtain ⟨bits, f, g, k, e1, e2, e3, e4, e5, e6, e7, e8, e9⟩ := id hP
  refine entry Γ m6_rowOf rfl _ (Nat.le_of_ble_eq_true rfl) _ _ _ ?_
  refine wp_ok kd6_rowOf 400 0 bb6_rowOf_0 _ _ _ _ _ _ oo6_rowOf_0 ?_
  simp only [List.getElem?_cons_zero, List.getElem?_cons_succ, fv4, Nat.reduceAdd, Nat.reduceSub, wp, pst, stp, LG, lput, ls_tl, two, bc, EL, pad, popN, csum, Option.toList, List.cons_append, List.nil_append, List.set_cons_zero, List.set_cons_succ, List.length_cons, List.length_nil, true_and, and_true, Nat.reduceLT, Nat.reduceLeDiff, Nat.zero_le, Nat.le_refl, RI_i, RI_z0, RI_z1, Int32.reduceOfInt, Int8.reduceOfInt, Int16.reduceOfInt, Int64.reduceOfInt, Int8.toInt32_ofNat, Int16.toInt32_ofNat, Int.reduceNeg, Int32.ofInt_neg, Int8.ofInt_neg, Int16.ofInt_neg, Int32.toInt64_ofNat, Int32.reduceToNatClampNeg, Fin.isValue, Fin.val_one, Fin.val_zero, Fin.val_two, Int64.reduceOfNat, Int32.reduceOfNat, hdl, cutc, Nat.reduceEqDiff, reduceIte, FV, tyC, tyX0, tyX1, tyX2, tyX3, tyX4, tyX5, tyX6, tyX7, tyX8, tyX9, tyX10, Nat.reduceMul, c_le, c_lt, c_eq, c_in, c_cl, c_add, c_rem, c_ofN, Int32.add_zero, Int32.zero_add, c_lt0, c_ge0, c_le0, c_gt0, c_e0, c_m1, c_m1', false_implies, true_implies, implies_true, not_false_eq_true, not_true_eq_false, Nat.not_lt_zero, up_s, up_1, up_m, ff6_rowOf, bb6_rowOf_0, bb6_rowOf_17, bb6_rowOf_18, e1]
  refine sp6_has_m1 hP ?_
  unfold holdL
  simp only [List.getElem?_cons_zero, List.getElem?_cons_succ, fv4, Nat.reduceAdd, Nat.reduceSub, wp, pst, stp, LG, lput, ls_tl, two, bc, EL, pad, popN, csum, Option.toList, List.cons_append, List.nil_append, List.set_cons_zero, List.set_cons_succ, List.length_cons, List.length_nil, true_and, and_true, Nat.reduceLT, Nat.reduceLeDiff, Nat.zero_le, Nat.le_refl, RI_i, RI_z0, RI_z1, Int32.reduceOfInt, Int8.reduceOfInt, Int16.reduceOfInt, Int64.reduceOfInt, Int8.toInt32_ofNat, Int16.toInt32_ofNat, Int.reduceNeg, Int32.ofInt_neg, Int8.ofInt_neg, Int16.ofInt_neg, Int32.toInt64_ofNat, Int32.reduceToNatClampNeg, Fin.isValue, Fin.val_one, Fin.val_zero, Fin.val_two, Int64.reduceOfNat, Int32.reduceOfNat, hdl, cutc, Nat.reduceEqDiff, reduceIte, FV, tyC, tyX0, tyX1, tyX2, tyX3, tyX4, tyX5, tyX6, tyX7, tyX8, tyX9, tyX10, Nat.reduceMul, c_le, c_lt, c_eq, c_in, c_cl, c_add, c_rem, c_ofN, Int32.add_zero, Int32.zero_add, c_lt0, c_ge0, c_le0, c_gt0, c_e0, c_m1, c_m1', false_implies, true_implies, implies_true, not_false_eq_true, not_true_eq_false, Nat.not_lt_zero, up_s, up_1, up_m, ff6_rowOf, bb6_rowOf_0, bb6_rowOf_17, bb6_rowOf_18, e1, e2]
  first | exact h0 | exact ⟨fun _ => h0, fun h => absurd rfl h⟩
theorem sp6_take (hP : RcR w a R E) (j p : Nat) (hj : j < 10) (hQ : ∀ w', RcR w' a (R.set j (some p)) E → Fr w w' a 4 → Q none none w') : Sp Γ m6_take [.ref a, .int (nI j), .long (lN p)] none w Q := by
  obtain ⟨bits, f, g, k, e1, e2, e3, e4, e5, e6, e7, e8, e9⟩ := id hP
  have b1 : j < 2147483648 := by omega
  refine entry Γ m6_take rfl _ (Nat.le_of_ble_eq_true rfl) _ _ _ ?_
  refine wp_ok kd6_take 400 0 bb6_take_0 _ _ _ _ _ _ oo6_take_0 ?_
  simp only [List.getElem?_cons_zero, List.getElem?_cons_succ, fv4, Nat.reduceAdd, Nat.reduceSub, wp, pst, stp, LG, lput, ls_tl, two, bc, EL, pad, popN, csum, Option.toList, List.cons_append, List.nil_append, List.set_cons_zero, List.set_cons_succ, List.length_cons, List.length_nil, true_and, and_true, Nat.reduceLT, Nat.reduceLeDiff, Nat.zero_le, Nat.le_refl, RI_i, RI_z0, RI_z1, Int32.reduceOfInt, Int8.reduceOfInt, Int16.reduceOfInt, Int64.reduceOfInt, Int8.toInt32_ofNat, Int16.toInt32_ofNat, Int.reduceNeg, Int32.ofInt_neg, Int8.ofInt_neg, Int16.ofInt_neg, Int32.toInt64_ofNat, Int32.reduceToNatClampNeg, Fin.isValue, Fin.val_one, Fin.val_zero, Fin.val_two, Int64.reduceOfNat, Int32.reduceOfNat, hdl, cutc, Nat.reduceEqDiff, reduceIte, FV, tyC, tyX0, tyX1, tyX2, tyX3, tyX4, tyX5, tyX6, tyX7, tyX8, tyX9, tyX10, Nat.reduceMul, c_le, c_lt, c_eq, c_in, c_cl, c_add, c_rem, c_ofN, Int32.add_zero, Int32.zero_add, c_lt0, c_ge0, c_le0, c_gt0, c_e0, c_m1, c_m1', false_implies, true_implies, implies_true, not_false_eq_true, not_true_eq_false, Nat.not_lt_zero, up_s, up_1, up_m, ff6_take, bb6_take_0, bb6_take_32, cl_1, ca_1, e1, e2, b1, hj, Nat.not_le.mpr hj, shl1 j (by omega), fa_or]
  refine hQ _ ⟨bits ||| 2 ^ j, vp_updL f j (lN p), g, k, up_s _ _ _, by rw [up_1, up_s], by rw [up_n _ _ _ _ (by omega), up_n _ _ _ _ (by omega)]; exact e3, by rw [up_n _ _ _ _ (by omega), up_n _ _ _ _ (by omega)]; exact e4, ?_, by rw [List.length_set]; exact e6, fun i hi => ?_, fun i q hi hq => ?_, e9.1, e9.2⟩ ((Fr.wr (by omega) (by omega)).tr (Fr.wr (by omega) (by omega)))
  · exact Nat.or_lt_two_pow (n := 10) e5 (Nat.pow_lt_pow_right (by decide) hj)
  · rw [getD_set _ _ _ _ _ (by omega), fb_bit_set, e7 i hi]
    by_cases q : i = j <;> simp [q]
  · rw [getD_set _ _ _ _ _ (by omega)] at hq
    by_cases q2 : i = j
    · subst q2; simp at hq; subst hq; simp [vp_updL]
    · rw [if_neg q2] at hq
      simp only [vp_updL, if_neg q2]
      exact e8 i q hi hq
theorem sp6_count (hP : RcR w a R E) (hQ : Q (some (.int (nI (cntR R)))) none w) : Sp Γ m6_count [.ref a] none w Q := by
  obtain ⟨bits, f, g, k, e1, e2, e3, e4, e5, e6, e7, e8, e9⟩ := id hP
  refine entry Γ m6_count rfl _ (Nat.le_of_ble_eq_true rfl) _ _ _ ?_
  refine wp_ok kd6_count 400 0 bb6_count_0 _ _ _ _ _ _ oo6_count_0 ?_
  simp only [List.getElem?_cons_zero, List.getElem?_cons_succ, fv4, Nat.reduceAdd, Nat.reduceSub, wp, pst, stp, LG, lput, ls_tl, two, bc, EL, pad, popN, csum, Option.toList, List.cons_append, List.nil_append, List.set_cons_zero, List.set_cons_succ, List.length_cons, List.length_nil, true_and, and_true, Nat.reduceLT, Nat.reduceLeDiff, Nat.zero_le, Nat.le_refl, RI_i, RI_z0, RI_z1, Int32.reduceOfInt, Int8.reduceOfInt, Int16.reduceOfInt, Int64.reduceOfInt, Int8.toInt32_ofNat, Int16.toInt32_ofNat, Int.reduceNeg, Int32.ofInt_neg, Int8.ofInt_neg, Int16.ofInt_neg, Int32.toInt64_ofNat, Int32.reduceToNatClampNeg, Fin.isValue, Fin.val_one, Fin.val_zero, Fin.val_two, Int64.reduceOfNat, Int32.reduceOfNat, hdl, cutc, Nat.reduceEqDiff, reduceIte, FV, tyC, tyX0, tyX1, tyX2, tyX3, tyX4, tyX5, tyX6, tyX7, tyX8, tyX9, tyX10, Nat.reduceMul, c_le, c_lt, c_eq, c_in, c_cl, c_add, c_rem, c_ofN, Int32.add_zero, Int32.zero_add, c_lt0, c_ge0, c_le0, c_gt0, c_e0, c_m1, c_m1', false_implies, true_implies, implies_true, not_false_eq_true, not_true_eq_false, Nat.not_lt_zero, up_s, up_1, up_m, ff6_count, bb6_count_0, e1]
  refine spJ6_bitCount _ ?_
  unfold holdL
  simp only [List.getElem?_cons_zero, List.getElem?_cons_succ, fv4, Nat.reduceAdd, Nat.reduceSub, wp, pst, stp, LG, lput, ls_tl, two, bc, EL, pad, popN, csum, Option.toList, List.cons_append, List.nil_append, List.set_cons_zero, List.set_cons_succ, List.length_cons, List.length_nil, true_and, and_true, Nat.reduceLT, Nat.reduceLeDiff, Nat.zero_le, Nat.le_refl, RI_i, RI_z0, RI_z1, Int32.reduceOfInt, Int8.reduceOfInt, Int16.reduceOfInt, Int64.reduceOfInt, Int8.toInt32_ofNat, Int16.toInt32_ofNat, Int.reduceNeg, Int32.ofInt_neg, Int8.ofInt_neg, Int16.ofInt_neg, Int32.toInt64_ofNat, Int32.reduceToNatClampNeg, Fin.isValue, Fin.val_one, Fin.val_zero, Fin.val_two, Int64.reduceOfNat, Int32.reduceOfNat, hdl, cutc, Nat.reduceEqDiff, reduceIte, FV, tyC, tyX0, tyX1, tyX2, tyX3, tyX4, tyX5, tyX6, tyX7, tyX8, tyX9, tyX10, Nat.reduceMul, c_le, c_lt, c_eq, c_in, c_cl, c_add, c_rem, c_ofN, Int32.add_zero, Int32.zero_add, c_lt0, c_ge0, c_le0, c_gt0, c_e0, c_m1, c_m1', false_implies, true_implies, implies_true, not_false_eq_true, not_true_eq_false, Nat.not_lt_zero, up_s, up_1, up_m, ff6_count, bb6_count_0]
  rw [bcI_small bits e5, fb_ct_cong (q := fun j => (R.getD j none).isSome) e7]
  exact hQ
theorem sp6_note (hP : RcR w a R E) (p r : Nat) (hQ : ∀ w', RcR w' a R (noteE E p r) → Fr w w' a 4 → Q none none w') : Sp Γ m6_note [.ref a, .int (nI p), .int (nI r)] none w Q := by
  obtain ⟨bits, f, g, k, e1, e2, e3, e4, e5, e6, e7, e8, e9, e10, e11⟩ := id hP
  have b1 : E.length < 2147483648 := by omega
  refine entry Γ m6_note rfl _ (Nat.le_of_ble_eq_true rfl) _ _ _ ?_
  refine wp_ok kd6_note 400 0 bb6_note_0 _ _ _ _ _ _ oo6_note_0 ?_
  simp only [List.getElem?_cons_zero, List.getElem?_cons_succ, fv4, Nat.reduceAdd, Nat.reduceSub, wp, pst, stp, LG, lput, ls_tl, two, bc, EL, pad, popN, csum, Option.toList, List.cons_append, List.nil_append, List.set_cons_zero, List.set_cons_succ, List.length_cons, List.length_nil, true_and, and_true, Nat.reduceLT, Nat.reduceLeDiff, Nat.zero_le, Nat.le_refl, RI_i, RI_z0, RI_z1, Int32.reduceOfInt, Int8.reduceOfInt, Int16.reduceOfInt, Int64.reduceOfInt, Int8.toInt32_ofNat, Int16.toInt32_ofNat, Int.reduceNeg, Int32.ofInt_neg, Int8.ofInt_neg, Int16.ofInt_neg, Int32.toInt64_ofNat, Int32.reduceToNatClampNeg, Fin.isValue, Fin.val_one, Fin.val_zero, Fin.val_two, Int64.reduceOfNat, Int32.reduceOfNat, hdl, cutc, Nat.reduceEqDiff, reduceIte, FV, tyC, tyX0, tyX1, tyX2, tyX3, tyX4, tyX5, tyX6, tyX7, tyX8, tyX9, tyX10, Nat.reduceMul, c_le, c_lt, c_eq, c_in, c_cl, c_add, c_rem, c_ofN, Int32.add_zero, Int32.zero_add, c_lt0, c_ge0, c_le0, c_gt0, c_e0, c_m1, c_m1', false_implies, true_implies, implies_true, not_false_eq_true, not_true_eq_false, Nat.not_lt_zero, up_s, up_1, up_m, ff6_note, bb6_note_0, bb6_note_61, cl_1, ca_1, e1, e3, e4, b1, up_n w (a + 2) (a + 3) _ (by omega), up_n w (a + 2) a _ (by omega), up_n _ (a + 3) a _ (show a ≠ a + 3 by omega)]
  refine ⟨fun h => ?_, fun h => ⟨fun h' => absurd h' h, fun _ => ⟨by omega, by omega, ?_⟩⟩⟩
  · refine hQ w ?_ Fr.rf
    rw [noteE, if_neg (by omega)]
    exact hP
  · refine hQ _ ?_ (((Fr.wr (by omega) (by omega)).tr (Fr.wr (by omega) (by omega))).tr (Fr.wr (by omega) (by omega)))
    rw [noteE, if_pos (by omega)]
    refine ⟨bits, f, upd g E.length (nI p), upd k E.length (nI r), by rw [up_s, List.length_append]; rfl, ?_, ?_, ?_, e5, e6, e7, e8, ?_, ?_, by rw [List.length_append]; simp; omega⟩
    · rw [up_n _ _ _ _ (by omega), up_n _ _ _ _ (by omega), up_n _ _ _ _ (by omega)]; exact e2
    · rw [up_n _ _ _ _ (by omega), up_n _ _ _ _ (by omega), up_s]
    · rw [up_n _ _ _ _ (by omega), up_s]
    · rw [List.map_append]; exact IA_snoc e9 (by simp)
    · rw [List.map_append]; exact IA_snoc e10 (by simp)
theorem sp6_hasError (hP : RcR w a R E) (x : Int32) (h1 : ∀ j, j < E.length → x = nI j → Q (some (.int 1)) none w) (h0 : (∀ j, j < E.length → x ≠ nI j) → Q (some (.int 0)) none w) : Sp Γ m6_hasError [.ref a, .int x] none w Q := by
  obtain ⟨bits, f, g, k, e1, e2, e3, e4, e5, e6, e7, e8, e9, e10, e11⟩ := id hP
  have b2 : E.length < 2147483648 := by omega
  refine entry Γ m6_hasError rfl _ (Nat.le_of_ble_eq_true rfl) _ _ _ ?_
  refine wp_ok kd6_hasError 400 0 bb6_hasError_0 _ _ _ _ _ _ oo6_hasError_0 ?_
  rcases i_cases x with hx | ⟨j, hj, rfl⟩
  · simp only [List.getElem?_cons_zero, List.getElem?_cons_succ, fv4, Nat.reduceAdd, Nat.reduceSub, wp, pst, stp, LG, lput, ls_tl, two, bc, EL, pad, popN, csum, Option.toList, List.cons_append, List.nil_append, List.set_cons_zero, List.set_cons_succ, List.length_cons, List.length_nil, true_and, and_true, Nat.reduceLT, Nat.reduceLeDiff, Nat.zero_le, Nat.le_refl, RI_i, RI_z0, RI_z1, Int32.reduceOfInt, Int8.reduceOfInt, Int16.reduceOfInt, Int64.reduceOfInt, Int8.toInt32_ofNat, Int16.toInt32_ofNat, Int.reduceNeg, Int32.ofInt_neg, Int8.ofInt_neg, Int16.ofInt_neg, Int32.toInt64_ofNat, Int32.reduceToNatClampNeg, Fin.isValue, Fin.val_one, Fin.val_zero, Fin.val_two, Int64.reduceOfNat, Int32.reduceOfNat, hdl, cutc, Nat.reduceEqDiff, reduceIte, FV, tyC, tyX0, tyX1, tyX2, tyX3, tyX4, tyX5, tyX6, tyX7, tyX8, tyX9, tyX10, Nat.reduceMul, c_le, c_lt, c_eq, c_in, c_cl, c_add, c_rem, c_ofN, Int32.add_zero, Int32.zero_add, c_lt0, c_ge0, c_le0, c_gt0, c_e0, c_m1, c_m1', false_implies, true_implies, implies_true, not_false_eq_true, not_true_eq_false, Nat.not_lt_zero, up_s, up_1, up_m, ff6_hasError, bb6_hasError_0, bb6_hasError_16, bb6_hasError_17, cl_1, ca_1, e1, hx]
    exact h0 (fun j hj => neg_ne hx j (by omega))
  · simp only [List.getElem?_cons_zero, List.getElem?_cons_succ, fv4, Nat.reduceAdd, Nat.reduceSub, wp, pst, stp, LG, lput, ls_tl, two, bc, EL, pad, popN, csum, Option.toList, List.cons_append, List.nil_append, List.set_cons_zero, List.set_cons_succ, List.length_cons, List.length_nil, true_and, and_true, Nat.reduceLT, Nat.reduceLeDiff, Nat.zero_le, Nat.le_refl, RI_i, RI_z0, RI_z1, Int32.reduceOfInt, Int8.reduceOfInt, Int16.reduceOfInt, Int64.reduceOfInt, Int8.toInt32_ofNat, Int16.toInt32_ofNat, Int.reduceNeg, Int32.ofInt_neg, Int8.ofInt_neg, Int16.ofInt_neg, Int32.toInt64_ofNat, Int32.reduceToNatClampNeg, Fin.isValue, Fin.val_one, Fin.val_zero, Fin.val_two, Int64.reduceOfNat, Int32.reduceOfNat, hdl, cutc, Nat.reduceEqDiff, reduceIte, FV, tyC, tyX0, tyX1, tyX2, tyX3, tyX4, tyX5, tyX6, tyX7, tyX8, tyX9, tyX10, Nat.reduceMul, c_le, c_lt, c_eq, c_in, c_cl, c_add, c_rem, c_ofN, Int32.add_zero, Int32.zero_add, c_lt0, c_ge0, c_le0, c_gt0, c_e0, c_m1, c_m1', false_implies, true_implies, implies_true, not_false_eq_true, not_true_eq_false, Nat.not_lt_zero, up_s, up_1, up_m, ff6_hasError, bb6_hasError_0, bb6_hasError_16, bb6_hasError_17, cl_1, ca_1, e1, hj, b2]
    refine ⟨fun h => h0 (fun i hi q => ?_), fun h => h1 j (by omega) rfl⟩
    rw [c_eq hj (by omega)] at q
    omega
theorem sp6_placeOf (hP : RcR w a R E) (j : Nat) (hj : j < E.length) (hQ : Q (some (.int (nI (E.getD j (0, 0)).1))) none w) : Sp Γ m6_placeOf [.ref a, .int (nI j)] none w Q := by
  obtain ⟨bits, f, g, k, e1, e2, e3, e4, e5, e6, e7, e8, e9, e10, e11⟩ := id hP
  have b1 : j < 2147483648 := by omega
  have b2 : j < 20 := by omega
  refine entry Γ m6_placeOf rfl _ (Nat.le_of_ble_eq_true rfl) _ _ _ ?_
  refine wp_ok kd6_placeOf 400 0 bb6_placeOf_0 _ _ _ _ _ _ oo6_placeOf_0 ?_
  simp only [List.getElem?_cons_zero, List.getElem?_cons_succ, fv4, Nat.reduceAdd, Nat.reduceSub, wp, pst, stp, LG, lput, ls_tl, two, bc, EL, pad, popN, csum, Option.toList, List.cons_append, List.nil_append, List.set_cons_zero, List.set_cons_succ, List.length_cons, List.length_nil, true_and, and_true, Nat.reduceLT, Nat.reduceLeDiff, Nat.zero_le, Nat.le_refl, RI_i, RI_z0, RI_z1, Int32.reduceOfInt, Int8.reduceOfInt, Int16.reduceOfInt, Int64.reduceOfInt, Int8.toInt32_ofNat, Int16.toInt32_ofNat, Int.reduceNeg, Int32.ofInt_neg, Int8.ofInt_neg, Int16.ofInt_neg, Int32.toInt64_ofNat, Int32.reduceToNatClampNeg, Fin.isValue, Fin.val_one, Fin.val_zero, Fin.val_two, Int64.reduceOfNat, Int32.reduceOfNat, hdl, cutc, Nat.reduceEqDiff, reduceIte, FV, tyC, tyX0, tyX1, tyX2, tyX3, tyX4, tyX5, tyX6, tyX7, tyX8, tyX9, tyX10, Nat.reduceMul, c_le, c_lt, c_eq, c_in, c_cl, c_add, c_rem, c_ofN, Int32.add_zero, Int32.zero_add, c_lt0, c_ge0, c_le0, c_gt0, c_e0, c_m1, c_m1', false_implies, true_implies, implies_true, not_false_eq_true, not_true_eq_false, Nat.not_lt_zero, up_s, up_1, up_m, ff6_placeOf, bb6_placeOf_0, bb6_placeOf_26, bb6_placeOf_27, cl_1, ca_1, e1]
  refine sp6_hasError hP _ (fun i hi hx => ?_) (fun h => absurd rfl (h j hj))
  unfold holdL
  simp only [List.getElem?_cons_zero, List.getElem?_cons_succ, fv4, Nat.reduceAdd, Nat.reduceSub, wp, pst, stp, LG, lput, ls_tl, two, bc, EL, pad, popN, csum, Option.toList, List.cons_append, List.nil_append, List.set_cons_zero, List.set_cons_succ, List.length_cons, List.length_nil, true_and, and_true, Nat.reduceLT, Nat.reduceLeDiff, Nat.zero_le, Nat.le_refl, RI_i, RI_z0, RI_z1, Int32.reduceOfInt, Int8.reduceOfInt, Int16.reduceOfInt, Int64.reduceOfInt, Int8.toInt32_ofNat, Int16.toInt32_ofNat, Int.reduceNeg, Int32.ofInt_neg, Int8.ofInt_neg, Int16.ofInt_neg, Int32.toInt64_ofNat, Int32.reduceToNatClampNeg, Fin.isValue, Fin.val_one, Fin.val_zero, Fin.val_two, Int64.reduceOfNat, Int32.reduceOfNat, hdl, cutc, Nat.reduceEqDiff, reduceIte, FV, tyC, tyX0, tyX1, tyX2, tyX3, tyX4, tyX5, tyX6, tyX7, tyX8, tyX9, tyX10, Nat.reduceMul, c_le, c_lt, c_eq, c_in, c_cl, c_add, c_rem, c_ofN, Int32.add_zero, Int32.zero_add, c_lt0, c_ge0, c_le0, c_gt0, c_e0, c_m1, c_m1', false_implies, true_implies, implies_true, not_false_eq_true, not_true_eq_false, Nat.not_lt_zero, up_s, up_1, up_m, ff6_placeOf, bb6_placeOf_0, bb6_placeOf_26, bb6_placeOf_27, cl_1, ca_1, e1, e3, b1, b2, Nat.not_le.mpr b2]
  have h9 := e9 j (by simpa using hj)
  rw [h9, List.getD_eq_getElem?_getD, List.getElem?_map, List.getElem?_eq_getElem hj]
  rw [List.getD_eq_getElem?_getD, List.getElem?_eq_getElem hj] at hQ
  first | exact hQ | exact ⟨fun h => absurd h (by decide), fun _ => hQ⟩
theorem sp6_reasonOf (hP : RcR w a R E) (j : Nat) (hj : j < E.length) (hQ : Q (some (.int (nI (E.getD j (0, 0)).2))) none w) : Sp Γ m6_reasonOf [.ref a, .int (nI j)] none w Q := by
  obtain ⟨bits, f, g, k, e1, e2, e3, e4, e5, e6, e7, e8, e9, e10, e11⟩ := id hP
  have b1 : j < 2147483648 := by omega
  have b2 : j < 20 := by omega
  refine entry Γ m6_reasonOf rfl _ (Nat.le_of_ble_eq_true rfl) _ _ _ ?_
  refine wp_ok kd6_reasonOf 400 0 bb6_reasonOf_0 _ _ _ _ _ _ oo6_reasonOf_0 ?_
  simp only [List.getElem?_cons_zero, List.getElem?_cons_succ, fv4, Nat.reduceAdd, Nat.reduceSub, wp, pst, stp, LG, lput, ls_tl, two, bc, EL, pad, popN, csum, Option.toList, List.cons_append, List.nil_append, List.set_cons_zero, List.set_cons_succ, List.length_cons, List.length_nil, true_and, and_true, Nat.reduceLT, Nat.reduceLeDiff, Nat.zero_le, Nat.le_refl, RI_i, RI_z0, RI_z1, Int32.reduceOfInt, Int8.reduceOfInt, Int16.reduceOfInt, Int64.reduceOfInt, Int8.toInt32_ofNat, Int16.toInt32_ofNat, Int.reduceNeg, Int32.ofInt_neg, Int8.ofInt_neg, Int16.ofInt_neg, Int32.toInt64_ofNat, Int32.reduceToNatClampNeg, Fin.isValue, Fin.val_one, Fin.val_zero, Fin.val_two, Int64.reduceOfNat, Int32.reduceOfNat, hdl, cutc, Nat.reduceEqDiff, reduceIte, FV, tyC, tyX0, tyX1, tyX2, tyX3, tyX4, tyX5, tyX6, tyX7, tyX8, tyX9, tyX10, Nat.reduceMul, c_le, c_lt, c_eq, c_in, c_cl, c_add, c_rem, c_ofN, Int32.add_zero, Int32.zero_add, c_lt0, c_ge0, c_le0, c_gt0, c_e0, c_m1, c_m1', false_implies, true_implies, implies_true, not_false_eq_true, not_true_eq_false, Nat.not_lt_zero, up_s, up_1, up_m, ff6_reasonOf, bb6_reasonOf_0, bb6_reasonOf_26, bb6_reasonOf_27, cl_1, ca_1, e1]
  refine sp6_hasError hP _ (fun i hi hx => ?_) (fun h => absurd rfl (h j hj))
  unfold holdL
  simp only [List.getElem?_cons_zero, List.getElem?_cons_succ, fv4, Nat.reduceAdd, Nat.reduceSub, wp, pst, stp, LG, lput, ls_tl, two, bc, EL, pad, popN, csum, Option.toList, List.cons_append, List.nil_append, List.set_cons_zero, List.set_cons_succ, List.length_cons, List.length_nil, true_and, and_true, Nat.reduceLT, Nat.reduceLeDiff, Nat.zero_le, Nat.le_refl, RI_i, RI_z0, RI_z1, Int32.reduceOfInt, Int8.reduceOfInt, Int16.reduceOfInt, Int64.reduceOfInt, Int8.toInt32_ofNat, Int16.toInt32_ofNat, Int.reduceNeg, Int32.ofInt_neg, Int8.ofInt_neg, Int16.ofInt_neg, Int32.toInt64_ofNat, Int32.reduceToNatClampNeg, Fin.isValue, Fin.val_one, Fin.val_zero, Fin.val_two, Int64.reduceOfNat, Int32.reduceOfNat, hdl, cutc, Nat.reduceEqDiff, reduceIte, FV, tyC, tyX0, tyX1, tyX2, tyX3, tyX4, tyX5, tyX6, tyX7, tyX8, tyX9, tyX10, Nat.reduceMul, c_le, c_lt, c_eq, c_in, c_cl, c_add, c_rem, c_ofN, Int32.add_zero, Int32.zero_add, c_lt0, c_ge0, c_le0, c_gt0, c_e0, c_m1, c_m1', false_implies, true_implies, implies_true, not_false_eq_true, not_true_eq_false, Nat.not_lt_zero, up_s, up_1, up_m, ff6_reasonOf, bb6_reasonOf_0, bb6_reasonOf_26, bb6_reasonOf_27, cl_1, ca_1, e1, e4, b1, b2, Nat.not_le.mpr b2]
  have h9 := e10 j (by simpa using hj)
  rw [h9, List.getD_eq_getElem?_getD, List.getElem?_map, List.getElem?_eq_getElem hj]
  rw [List.getD_eq_getElem?_getD, List.getElem?_eq_getElem hj] at hQ
  first | exact hQ | exact ⟨fun h => absurd h (by decide), fun _ => hQ⟩
theorem sp6_countAlike {pa wd sy : Nat} {L : List Nat} (hP : RcR w a R E) (hG : PgR w pa wd sy L) (hR : RcOK R) (hL : ∀ j, j < L.length → L.getD j 0 < 4294967296) (hQ : Q (some (.int (nI (alike R L L.length)))) none w) : Sp Γ m6_countAlike [.ref a, .ref pa] none w Q := by
  obtain ⟨f, g1, g2, g3, g4⟩ := id hG
  have b2 : L.length < 2147483648 := by omega
  refine entry Γ m6_countAlike rfl _ (Nat.le_of_ble_eq_true rfl) _ _ _ ?_
  refine wp_ok kd6_countAlike 400 0 bb6_countAlike_0 _ _ _ _ _ _ oo6_countAlike_0 ?_
  simp only [List.getElem?_cons_zero, List.getElem?_cons_succ, fv4, Nat.reduceAdd, Nat.reduceSub, wp, pst, stp, LG, lput, ls_tl, two, bc, EL, pad, popN, csum, Option.toList, List.cons_append, List.nil_append, List.set_cons_zero, List.set_cons_succ, List.length_cons, List.length_nil, true_and, and_true, Nat.reduceLT, Nat.reduceLeDiff, Nat.zero_le, Nat.le_refl, RI_i, RI_z0, RI_z1, Int32.reduceOfInt, Int8.reduceOfInt, Int16.reduceOfInt, Int64.reduceOfInt, Int8.toInt32_ofNat, Int16.toInt32_ofNat, Int.reduceNeg, Int32.ofInt_neg, Int8.ofInt_neg, Int16.ofInt_neg, Int32.toInt64_ofNat, Int32.reduceToNatClampNeg, Fin.isValue, Fin.val_one, Fin.val_zero, Fin.val_two, Int64.reduceOfNat, Int32.reduceOfNat, hdl, cutc, Nat.reduceEqDiff, reduceIte, FV, tyC, tyX0, tyX1, tyX2, tyX3, tyX4, tyX5, tyX6, tyX7, tyX8, tyX9, tyX10, Nat.reduceMul, c_le, c_lt, c_eq, c_in, c_cl, c_add, c_rem, c_ofN, Int32.add_zero, Int32.zero_add, c_lt0, c_ge0, c_le0, c_gt0, c_e0, c_m1, c_m1', false_implies, true_implies, implies_true, not_false_eq_true, not_true_eq_false, Nat.not_lt_zero, up_s, up_1, up_m, ff6_countAlike, bb6_countAlike_0, bb6_countAlike_4, bb6_countAlike_39, bb6_countAlike_40, bb6_countAlike_48, cl_1, ca_1, g1]
  have key : ∀ (n i : Nat), n = L.length - i → i ≤ L.length → G Γ m6_countAlike Q (fun _ _ => False) 4 [some (.ref a), some (.ref pa), some (.int (nI (alike R L i))), some (.int (nI i))] [] none w 0 0 := by
    intro n
    induction n with
    | zero =>
      intro i hi hi2
      have b1 : i < 2147483648 := by omega
      have : i = L.length := by omega
      subst this
      refine wp_ok kd6_countAlike 400 4 bb6_countAlike_4 _ _ _ _ _ _ oo6_countAlike_4 ?_
      simp only [List.getElem?_cons_zero, List.getElem?_cons_succ, fv4, Nat.reduceAdd, Nat.reduceSub, wp, pst, stp, LG, lput, ls_tl, two, bc, EL, pad, popN, csum, Option.toList, List.cons_append, List.nil_append, List.set_cons_zero, List.set_cons_succ, List.length_cons, List.length_nil, true_and, and_true, Nat.reduceLT, Nat.reduceLeDiff, Nat.zero_le, Nat.le_refl, RI_i, RI_z0, RI_z1, Int32.reduceOfInt, Int8.reduceOfInt, Int16.reduceOfInt, Int64.reduceOfInt, Int8.toInt32_ofNat, Int16.toInt32_ofNat, Int.reduceNeg, Int32.ofInt_neg, Int8.ofInt_neg, Int16.ofInt_neg, Int32.toInt64_ofNat, Int32.reduceToNatClampNeg, Fin.isValue, Fin.val_one, Fin.val_zero, Fin.val_two, Int64.reduceOfNat, Int32.reduceOfNat, hdl, cutc, Nat.reduceEqDiff, reduceIte, FV, tyC, tyX0, tyX1, tyX2, tyX3, tyX4, tyX5, tyX6, tyX7, tyX8, tyX9, tyX10, Nat.reduceMul, c_le, c_lt, c_eq, c_in, c_cl, c_add, c_rem, c_ofN, Int32.add_zero, Int32.zero_add, c_lt0, c_ge0, c_le0, c_gt0, c_e0, c_m1, c_m1', false_implies, true_implies, implies_true, not_false_eq_true, not_true_eq_false, Nat.not_lt_zero, up_s, up_1, up_m, ff6_countAlike, bb6_countAlike_0, bb6_countAlike_4, bb6_countAlike_39, bb6_countAlike_40, bb6_countAlike_48, cl_1, ca_1, g1, b1]
      first | exact hQ | exact ⟨fun _ => hQ, fun h => absurd (Nat.le_refl _) h⟩
    | succ n ih =>
      intro i hi hi2
      have b1 : i < 2147483648 := by omega
      have hlt : i < 10 := by omega
      have hn := ih (i + 1) (by omega) (by omega)
      simp only [alike] at hn
      obtain ⟨_, _, _, _, r1, -⟩ := id hP
      refine wp_ok kd6_countAlike 400 4 bb6_countAlike_4 _ _ _ _ _ _ oo6_countAlike_4 ?_
      simp only [List.getElem?_cons_zero, List.getElem?_cons_succ, fv4, Nat.reduceAdd, Nat.reduceSub, wp, pst, stp, LG, lput, ls_tl, two, bc, EL, pad, popN, csum, Option.toList, List.cons_append, List.nil_append, List.set_cons_zero, List.set_cons_succ, List.length_cons, List.length_nil, true_and, and_true, Nat.reduceLT, Nat.reduceLeDiff, Nat.zero_le, Nat.le_refl, RI_i, RI_z0, RI_z1, Int32.reduceOfInt, Int8.reduceOfInt, Int16.reduceOfInt, Int64.reduceOfInt, Int8.toInt32_ofNat, Int16.toInt32_ofNat, Int.reduceNeg, Int32.ofInt_neg, Int8.ofInt_neg, Int16.ofInt_neg, Int32.toInt64_ofNat, Int32.reduceToNatClampNeg, Fin.isValue, Fin.val_one, Fin.val_zero, Fin.val_two, Int64.reduceOfNat, Int32.reduceOfNat, hdl, cutc, Nat.reduceEqDiff, reduceIte, FV, tyC, tyX0, tyX1, tyX2, tyX3, tyX4, tyX5, tyX6, tyX7, tyX8, tyX9, tyX10, Nat.reduceMul, c_le, c_lt, c_eq, c_in, c_cl, c_add, c_rem, c_ofN, Int32.add_zero, Int32.zero_add, c_lt0, c_ge0, c_le0, c_gt0, c_e0, c_m1, c_m1', false_implies, true_implies, implies_true, not_false_eq_true, not_true_eq_false, Nat.not_lt_zero, up_s, up_1, up_m, ff6_countAlike, bb6_countAlike_0, bb6_countAlike_4, bb6_countAlike_39, bb6_countAlike_40, bb6_countAlike_48, cl_1, ca_1, g1, b1, b2, r1]
      refine ⟨fun h => absurd h (by omega), fun _ => ?_⟩
      refine sp6_has hP i hlt (fun p hp => ?_) (fun hp => ?_)
      · unfold holdL
        simp only [List.getElem?_cons_zero, List.getElem?_cons_succ, fv4, Nat.reduceAdd, Nat.reduceSub, wp, pst, stp, LG, lput, ls_tl, two, bc, EL, pad, popN, csum, Option.toList, List.cons_append, List.nil_append, List.set_cons_zero, List.set_cons_succ, List.length_cons, List.length_nil, true_and, and_true, Nat.reduceLT, Nat.reduceLeDiff, Nat.zero_le, Nat.le_refl, RI_i, RI_z0, RI_z1, Int32.reduceOfInt, Int8.reduceOfInt, Int16.reduceOfInt, Int64.reduceOfInt, Int8.toInt32_ofNat, Int16.toInt32_ofNat, Int.reduceNeg, Int32.ofInt_neg, Int8.ofInt_neg, Int16.ofInt_neg, Int32.toInt64_ofNat, Int32.reduceToNatClampNeg, Fin.isValue, Fin.val_one, Fin.val_zero, Fin.val_two, Int64.reduceOfNat, Int32.reduceOfNat, hdl, cutc, Nat.reduceEqDiff, reduceIte, FV, tyC, tyX0, tyX1, tyX2, tyX3, tyX4, tyX5, tyX6, tyX7, tyX8, tyX9, tyX10, Nat.reduceMul, c_le, c_lt, c_eq, c_in, c_cl, c_add, c_rem, c_ofN, Int32.add_zero, Int32.zero_add, c_lt0, c_ge0, c_le0, c_gt0, c_e0, c_m1, c_m1', false_implies, true_implies, implies_true, not_false_eq_true, not_true_eq_false, Nat.not_lt_zero, up_s, up_1, up_m, ff6_countAlike, bb6_countAlike_0, bb6_countAlike_4, bb6_countAlike_39, bb6_countAlike_40, bb6_countAlike_48, cl_1, ca_1, g1, b1, b2, r1]
        first | refine ⟨fun h => absurd h (by decide), fun _ => ?_⟩ | skip
        refine sp6_rowOf hP i hlt (fun p' hp' => ?_) (fun h => absurd (hp.symm.trans h) (by simp))
        have hpp : p' = p := Option.some.inj (hp'.symm.trans hp)
        subst hpp
        unfold holdL
        simp only [List.getElem?_cons_zero, List.getElem?_cons_succ, fv4, Nat.reduceAdd, Nat.reduceSub, wp, pst, stp, LG, lput, ls_tl, two, bc, EL, pad, popN, csum, Option.toList, List.cons_append, List.nil_append, List.set_cons_zero, List.set_cons_succ, List.length_cons, List.length_nil, true_and, and_true, Nat.reduceLT, Nat.reduceLeDiff, Nat.zero_le, Nat.le_refl, RI_i, RI_z0, RI_z1, Int32.reduceOfInt, Int8.reduceOfInt, Int16.reduceOfInt, Int64.reduceOfInt, Int8.toInt32_ofNat, Int16.toInt32_ofNat, Int.reduceNeg, Int32.ofInt_neg, Int8.ofInt_neg, Int16.ofInt_neg, Int32.toInt64_ofNat, Int32.reduceToNatClampNeg, Fin.isValue, Fin.val_one, Fin.val_zero, Fin.val_two, Int64.reduceOfNat, Int32.reduceOfNat, hdl, cutc, Nat.reduceEqDiff, reduceIte, FV, tyC, tyX0, tyX1, tyX2, tyX3, tyX4, tyX5, tyX6, tyX7, tyX8, tyX9, tyX10, Nat.reduceMul, c_le, c_lt, c_eq, c_in, c_cl, c_add, c_rem, c_ofN, Int32.add_zero, Int32.zero_add, c_lt0, c_ge0, c_le0, c_gt0, c_e0, c_m1, c_m1', false_implies, true_implies, implies_true, not_false_eq_true, not_true_eq_false, Nat.not_lt_zero, up_s, up_1, up_m, ff6_countAlike, bb6_countAlike_0, bb6_countAlike_4, bb6_countAlike_39, bb6_countAlike_40, bb6_countAlike_48, cl_1, ca_1, g1, b1, b2]
        refine sp2_rowOf hG i (by omega) ?_
        have c1 : p' < 2 ^ 64 := by have := hR i p' hp; omega
        have c2 : L.getD i 0 < 2 ^ 64 := by have := hL i (by omega); omega
        unfold holdL
        simp only [List.getElem?_cons_zero, List.getElem?_cons_succ, fv4, Nat.reduceAdd, Nat.reduceSub, wp, pst, stp, LG, lput, ls_tl, two, bc, EL, pad, popN, csum, Option.toList, List.cons_append, List.nil_append, List.set_cons_zero, List.set_cons_succ, List.length_cons, List.length_nil, true_and, and_true, Nat.reduceLT, Nat.reduceLeDiff, Nat.zero_le, Nat.le_refl, RI_i, RI_z0, RI_z1, Int32.reduceOfInt, Int8.reduceOfInt, Int16.reduceOfInt, Int64.reduceOfInt, Int8.toInt32_ofNat, Int16.toInt32_ofNat, Int.reduceNeg, Int32.ofInt_neg, Int8.ofInt_neg, Int16.ofInt_neg, Int32.toInt64_ofNat, Int32.reduceToNatClampNeg, Fin.isValue, Fin.val_one, Fin.val_zero, Fin.val_two, Int64.reduceOfNat, Int32.reduceOfNat, hdl, cutc, Nat.reduceEqDiff, reduceIte, FV, tyC, tyX0, tyX1, tyX2, tyX3, tyX4, tyX5, tyX6, tyX7, tyX8, tyX9, tyX10, Nat.reduceMul, c_le, c_lt, c_eq, c_in, c_cl, c_add, c_rem, c_ofN, Int32.add_zero, Int32.zero_add, c_lt0, c_ge0, c_le0, c_gt0, c_e0, c_m1, c_m1', false_implies, true_implies, implies_true, not_false_eq_true, not_true_eq_false, Nat.not_lt_zero, up_s, up_1, up_m, ff6_countAlike, bb6_countAlike_0, bb6_countAlike_4, bb6_countAlike_39, bb6_countAlike_40, bb6_countAlike_48, cl_1, ca_1, g1, b1, b2, cmp0, lN_eq' c1 c2]
        rw [hp] at hn
        by_cases q : p' = L.getD i 0
        · rw [if_pos (by rw [q])] at hn
          exact ⟨fun h => absurd q h, fun _ => hn⟩
        · rw [if_neg (by simpa using q)] at hn
          exact ⟨fun _ => hn, fun h => absurd q h⟩
      · unfold holdL
        simp only [List.getElem?_cons_zero, List.getElem?_cons_succ, fv4, Nat.reduceAdd, Nat.reduceSub, wp, pst, stp, LG, lput, ls_tl, two, bc, EL, pad, popN, csum, Option.toList, List.cons_append, List.nil_append, List.set_cons_zero, List.set_cons_succ, List.length_cons, List.length_nil, true_and, and_true, Nat.reduceLT, Nat.reduceLeDiff, Nat.zero_le, Nat.le_refl, RI_i, RI_z0, RI_z1, Int32.reduceOfInt, Int8.reduceOfInt, Int16.reduceOfInt, Int64.reduceOfInt, Int8.toInt32_ofNat, Int16.toInt32_ofNat, Int.reduceNeg, Int32.ofInt_neg, Int8.ofInt_neg, Int16.ofInt_neg, Int32.toInt64_ofNat, Int32.reduceToNatClampNeg, Fin.isValue, Fin.val_one, Fin.val_zero, Fin.val_two, Int64.reduceOfNat, Int32.reduceOfNat, hdl, cutc, Nat.reduceEqDiff, reduceIte, FV, tyC, tyX0, tyX1, tyX2, tyX3, tyX4, tyX5, tyX6, tyX7, tyX8, tyX9, tyX10, Nat.reduceMul, c_le, c_lt, c_eq, c_in, c_cl, c_add, c_rem, c_ofN, Int32.add_zero, Int32.zero_add, c_lt0, c_ge0, c_le0, c_gt0, c_e0, c_m1, c_m1', false_implies, true_implies, implies_true, not_false_eq_true, not_true_eq_false, Nat.not_lt_zero, up_s, up_1, up_m, ff6_countAlike, bb6_countAlike_0, bb6_countAlike_4, bb6_countAlike_39, bb6_countAlike_40, bb6_countAlike_48, cl_1, ca_1, g1, b1, b2]
        rw [hp, if_neg (by simp)] at hn
        exact hn
  exact key _ 0 rfl (Nat.zero_le _)
end RECEP

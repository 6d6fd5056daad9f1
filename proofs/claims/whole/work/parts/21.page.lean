/-! PAGE AND STREAM, the small methods -/
section PAGE
variable {Γ : Amb} {w : PW} {Q : Option Value → Option Nat → PW → Prop} {a wd sy : Nat} {L : List Nat}
theorem sp2_rowOf (hP : PgR w a wd sy L) (j : Nat) (hj : j < L.length) (hQ : Q (some (.long (lN (L.getD j 0)))) none w) : Sp Γ m2_rowOf [.ref a, .int (nI j)] none w Q := by
  obtain ⟨f, h1, h2, h3, h4⟩ := hP
  refine entry Γ m2_rowOf rfl _ (Nat.le_of_ble_eq_true rfl) _ _ _ ?_
  refine wp_ok kd2_rowOf 400 0 bb2_rowOf_0 _ _ _ _ _ _ oo2_rowOf_0 ?_
  simp only [List.getElem?_cons_zero, List.getElem?_cons_succ, fv4, Nat.reduceAdd, Nat.reduceSub, wp, pst, stp, LG, lput, ls_tl, two, bc, EL, pad, popN, csum, Option.toList, List.cons_append, List.nil_append, List.set_cons_zero, List.set_cons_succ, List.length_cons, List.length_nil, true_and, and_true, Nat.reduceLT, Nat.reduceLeDiff, Nat.zero_le, Nat.le_refl, RI_i, RI_z0, RI_z1, Int32.reduceOfInt, Int8.reduceOfInt, Int16.reduceOfInt, Int64.reduceOfInt, Int8.toInt32_ofNat, Int16.toInt32_ofNat, Int.reduceNeg, Int32.ofInt_neg, Int8.ofInt_neg, Int16.ofInt_neg, Int32.toInt64_ofNat, Int32.reduceToNatClampNeg, Fin.isValue, Fin.val_one, Fin.val_zero, Fin.val_two, Int64.reduceOfNat, Int32.reduceOfNat, hdl, FV, tyC, tyX0, tyX1, tyX2, tyX3, tyX4, tyX5, tyX6, tyX7, tyX8, tyX9, tyX10, Nat.reduceMul, ff2_rowOf, bb2_rowOf_0, bb2_rowOf_30, bb2_rowOf_31, h1, h2]
  trace_state
  sorry
end PAGE

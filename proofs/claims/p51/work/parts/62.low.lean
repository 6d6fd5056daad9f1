/-! SMALL HELPERS -/
theorem g_ldcs {Γ : Amb} {K : MI} {Q : Option Value → Option Nat → PW → Prop} {QX : String → PW → Prop} {pc idx : Nat} {ls : LSL} {st : List Value} {z : Option Nat} {w : PW} {cs ss : Nat} {v : Int32} (hl : Jvm.Cond.constant (mi_y K).cls idx v ∈ WS) (hdg : decode (mi_c K) pc = .ok (.ldc idx, 2)) (kk : G Γ K Q QX (pc + 2) ls (.int v :: st) z w cs ss) : G Γ K Q QX pc ls st z w cs ss := by
  intro p e s m args below meth c FP C H locs A hA hW hS
  obtain ⟨hx, hb, hml, hown, hin, hlk, htab, hts, -⟩ := id C
  exact lv_ldc hx hb hown (hts _ hl) hdg (kk p e s m args below meth c FP C H locs A hA hW hS)
theorem g_pop2L {Γ : Amb} {K : MI} {Q : Option Value → Option Nat → PW → Prop} {QX : String → PW → Prop} {pc : Nat} {ls : LSL} {st : List Value} {z : Option Nat} {w : PW} {cs ss : Nat} {v : Int64} (hdg : decode (mi_c K) pc = .ok (.pop2, 1)) (kk : G Γ K Q QX (pc + 1) ls st z w cs ss) : G Γ K Q QX pc ls (.long v :: st) z w cs ss := by
  intro p e s m args below meth c FP C H locs A hA hW hS
  obtain ⟨hx, hb, -⟩ := id C
  exact lv_pop2_2 hx hb hdg rfl (kk p e s m args below meth c FP C H locs A hA hW hS)
theorem ws_ldc7 : Jvm.Cond.constant "RunFaxesLaw" 7 2147483647 ∈ WS := wt_3 118 (by decide +kernel) rfl
theorem bits32 (v : Int32) : v = nI v.toBitVec.toNat := Int32.toBitVec_inj.mp (by show _ = BitVec.ofNat 32 _; simp)
theorem and_low (v : Int32) (k : Nat) : v &&& nI (2 ^ k - 1) = nI (v.toBitVec.toNat % 2 ^ k) := by
  have e := fa_mask v.toBitVec.toNat k
  rw [← bits32 v] at e
  exact e
theorem and_31 (v : Int32) : v &&& 2147483647 = nI (v.toBitVec.toNat % 2147483648) := and_low v 31
theorem and_15 (v : Int32) : v &&& 15 = nI (v.toBitVec.toNat % 16) := and_low v 4
theorem and_3 (v : Int32) : v &&& 3 = nI (v.toBitVec.toNat % 4) := and_low v 2
def lowN (v : Int32) (n : Nat) : Nat := v.toBitVec.toNat % 2147483648 % n
theorem lowN_lt (v : Int32) {n : Nat} (h : 0 < n) : lowN v n < n := Nat.mod_lt _ h
theorem spL_low {Γ : Amb} {w : PW} {Q : Option Value → Option Nat → PW → Prop} (v : Int32) (n : Nat) (h0 : 0 < n) (hn : n < 2147483648) (hQ : Q (some (.int (nI (lowN v n)))) none w) : Sp Γ mL_low [.int v, .int (nI n)] none w Q := by
  have ha : v.toBitVec.toNat % 2147483648 < 2147483648 := Nat.mod_lt _ (by decide)
  unfold lowN at hQ
  refine entry Γ mL_low rfl _ (Nat.le_of_ble_eq_true rfl) _ _ _ ?_
  refine wp_ok kdL_low 400 0 bbL_low_0 _ _ _ _ _ _ ooL_low_0 ?_
  simp only [List.getElem?_cons_zero, List.getElem?_cons_succ, fv4, Nat.reduceAdd, Nat.reduceSub, wp, pst, stp, LG, lput, ls_tl, two, bc, EL, pad, popN, csum, Option.toList, List.cons_append, List.nil_append, List.set_cons_zero, List.set_cons_succ, List.length_cons, List.length_nil, true_and, and_true, Nat.reduceLT, Nat.reduceLeDiff, Nat.zero_le, Nat.le_refl, RI_i, RI_z0, RI_z1, Int32.reduceOfInt, Int8.reduceOfInt, Int16.reduceOfInt, Int64.reduceOfInt, Int8.toInt32_ofNat, Int16.toInt32_ofNat, Int.reduceNeg, Int32.ofInt_neg, Int8.ofInt_neg, Int16.ofInt_neg, Int32.toInt64_ofNat, Int32.reduceToNatClampNeg, Fin.isValue, Fin.val_one, Fin.val_zero, Fin.val_two, Int64.reduceOfNat, Int32.reduceOfNat, hdl, cutc, Nat.reduceEqDiff, reduceIte, FV, tyC, tyX0, tyX1, tyX2, tyX3, tyX4, tyX5, tyX6, tyX7, tyX8, tyX9, tyX10, Nat.reduceMul, c_le, c_lt, c_eq, c_in, c_cl, c_add, c_rem, c_ofN, Int32.add_zero, Int32.zero_add, c_lt0, c_ge0, c_le0, c_gt0, c_e0, c_m1, c_m1', false_implies, true_implies, implies_true, not_false_eq_true, not_true_eq_false, Nat.not_lt_zero, up_s, up_1, up_m, ffL_low, bbL_low_0, bbL_low_3]
  refine g_ldcs ws_ldc7 (by decide +kernel) ?_
  have e := and_31 v
  generalize v.toBitVec.toNat % 2147483648 = a at ha hQ e
  refine wp_ok kdL_low 400 3 bbL_low_3 _ _ _ _ _ _ ooL_low_3 ?_
  simp only [List.getElem?_cons_zero, List.getElem?_cons_succ, fv4, Nat.reduceAdd, Nat.reduceSub, wp, pst, stp, LG, lput, ls_tl, two, bc, EL, pad, popN, csum, Option.toList, List.cons_append, List.nil_append, List.set_cons_zero, List.set_cons_succ, List.length_cons, List.length_nil, true_and, and_true, Nat.reduceLT, Nat.reduceLeDiff, Nat.zero_le, Nat.le_refl, RI_i, RI_z0, RI_z1, Int32.reduceOfInt, Int8.reduceOfInt, Int16.reduceOfInt, Int64.reduceOfInt, Int8.toInt32_ofNat, Int16.toInt32_ofNat, Int.reduceNeg, Int32.ofInt_neg, Int8.ofInt_neg, Int16.ofInt_neg, Int32.toInt64_ofNat, Int32.reduceToNatClampNeg, Fin.isValue, Fin.val_one, Fin.val_zero, Fin.val_two, Int64.reduceOfNat, Int32.reduceOfNat, hdl, cutc, Nat.reduceEqDiff, reduceIte, FV, tyC, tyX0, tyX1, tyX2, tyX3, tyX4, tyX5, tyX6, tyX7, tyX8, tyX9, tyX10, Nat.reduceMul, c_le, c_lt, c_eq, c_in, c_cl, c_add, c_rem, c_ofN, Int32.add_zero, Int32.zero_add, c_lt0, c_ge0, c_le0, c_gt0, c_e0, c_m1, c_m1', false_implies, true_implies, implies_true, not_false_eq_true, not_true_eq_false, Nat.not_lt_zero, up_s, up_1, up_m, ffL_low, bbL_low_0, bbL_low_3, e, pk_div ha h0 hn, c_mul, hn]
  exact ⟨by omega, hQ⟩

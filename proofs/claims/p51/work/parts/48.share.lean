/-! WHAT A READING WOULD BRING; the share -/
section PLAY
variable {Γ : Amb} {w : PW} {Q : Option Value → Option Nat → PW → Prop} {QX : String → PW → Prop} {x : Nat} {U : US}
theorem sp9_wouldBeRight (h : XU w x U) (hU : UOK U) (h1 : ∀ w', XU w' x U → Fr w w' x 77 → Q (some (.int (nI (wright (us_S U))))) none w') : Sp Γ m9_wouldBeRight [.ref x] none w Q := by
  unfold XU at h
  obtain ⟨k1, k2, k3, -, -, k4, k5, -⟩ := hU.1
  have hlok := hU.1.lok
  have hrd := readA_ok (a_s (us_S U)) (a_wd (us_S U)) k2 k5
  obtain ⟨e0, ⟨v', e1, -⟩, e2, e3, bt, e4⟩ := h.cells
  obtain ⟨-, -, -, -, ⟨p, s, e, r1⟩, ⟨b, el, q1⟩, -⟩ := h.more
  obtain ⟨R, E, hR⟩ := h.2.2.2.2.2.2.2.2
  refine entry Γ m9_wouldBeRight rfl _ (Nat.le_of_ble_eq_true rfl) _ _ _ ?_
  refine wp_ok kd9_wouldBeRight 400 0 bb9_wouldBeRight_0 _ _ _ _ _ _ oo9_wouldBeRight_0 ?_
  simp only [List.getElem?_cons_zero, List.getElem?_cons_succ, fv4, Nat.reduceAdd, Nat.reduceSub, wp, pst, stp, LG, lput, ls_tl, two, bc, EL, pad, popN, csum, Option.toList, List.cons_append, List.nil_append, List.set_cons_zero, List.set_cons_succ, List.length_cons, List.length_nil, true_and, and_true, Nat.reduceLT, Nat.reduceLeDiff, Nat.zero_le, Nat.le_refl, RI_i, RI_z0, RI_z1, Int32.reduceOfInt, Int8.reduceOfInt, Int16.reduceOfInt, Int64.reduceOfInt, Int8.toInt32_ofNat, Int16.toInt32_ofNat, Int.reduceNeg, Int32.ofInt_neg, Int8.ofInt_neg, Int16.ofInt_neg, Int32.toInt64_ofNat, Int32.reduceToNatClampNeg, Fin.isValue, Fin.val_one, Fin.val_zero, Fin.val_two, Int64.reduceOfNat, Int32.reduceOfNat, hdl, cutc, Nat.reduceEqDiff, reduceIte, FV, tyC, tyX0, tyX1, tyX2, tyX3, tyX4, tyX5, tyX6, tyX7, tyX8, tyX9, tyX10, Nat.reduceMul, c_le, c_lt, c_eq, c_in, c_cl, c_add, c_rem, c_ofN, Int32.add_zero, Int32.zero_add, c_lt0, c_ge0, c_le0, c_gt0, c_e0, c_m1, c_m1', false_implies, true_implies, implies_true, not_false_eq_true, not_true_eq_false, Nat.not_lt_zero, up_s, up_1, up_m, ff9_wouldBeRight, bb9_wouldBeRight_0, e0, e1, e2, e3, r1, q1]
  refine sp5_readAll h.2.1.2.1 hR k4 _ (by omega) k2 r1 (by omega) (by omega) (by omega) (fun w2 p' s' e' g2 g3 f2 => ?_)
  have X2 := h.try g2 g3 f2
  obtain ⟨e0, ⟨v', e1, -⟩, e2, -⟩ := X2.cells
  obtain ⟨-, -, -, -, -, ⟨b, el, q1⟩, -⟩ := X2.more
  unfold holdL
  simp only [List.getElem?_cons_zero, List.getElem?_cons_succ, fv4, Nat.reduceAdd, Nat.reduceSub, wp, pst, stp, LG, lput, ls_tl, two, bc, EL, pad, popN, csum, Option.toList, List.cons_append, List.nil_append, List.set_cons_zero, List.set_cons_succ, List.length_cons, List.length_nil, true_and, and_true, Nat.reduceLT, Nat.reduceLeDiff, Nat.zero_le, Nat.le_refl, RI_i, RI_z0, RI_z1, Int32.reduceOfInt, Int8.reduceOfInt, Int16.reduceOfInt, Int64.reduceOfInt, Int8.toInt32_ofNat, Int16.toInt32_ofNat, Int.reduceNeg, Int32.ofInt_neg, Int8.ofInt_neg, Int16.ofInt_neg, Int32.toInt64_ofNat, Int32.reduceToNatClampNeg, Fin.isValue, Fin.val_one, Fin.val_zero, Fin.val_two, Int64.reduceOfNat, Int32.reduceOfNat, hdl, cutc, Nat.reduceEqDiff, reduceIte, FV, tyC, tyX0, tyX1, tyX2, tyX3, tyX4, tyX5, tyX6, tyX7, tyX8, tyX9, tyX10, Nat.reduceMul, c_le, c_lt, c_eq, c_in, c_cl, c_add, c_rem, c_ofN, Int32.add_zero, Int32.zero_add, c_lt0, c_ge0, c_le0, c_gt0, c_e0, c_m1, c_m1', false_implies, true_implies, implies_true, not_false_eq_true, not_true_eq_false, Nat.not_lt_zero, up_s, up_1, up_m, ff9_wouldBeRight, bb9_wouldBeRight_0, e0, e1, e2, q1]
  refine sp6_countAlike g2 X2.2.1.1 hrd.1 (fun j _ => hlok j) ?_
  unfold holdL
  simp only [List.getElem?_cons_zero, List.getElem?_cons_succ, fv4, Nat.reduceAdd, Nat.reduceSub, wp, pst, stp, LG, lput, ls_tl, two, bc, EL, pad, popN, csum, Option.toList, List.cons_append, List.nil_append, List.set_cons_zero, List.set_cons_succ, List.length_cons, List.length_nil, true_and, and_true, Nat.reduceLT, Nat.reduceLeDiff, Nat.zero_le, Nat.le_refl, RI_i, RI_z0, RI_z1, Int32.reduceOfInt, Int8.reduceOfInt, Int16.reduceOfInt, Int64.reduceOfInt, Int8.toInt32_ofNat, Int16.toInt32_ofNat, Int.reduceNeg, Int32.ofInt_neg, Int8.ofInt_neg, Int16.ofInt_neg, Int32.toInt64_ofNat, Int32.reduceToNatClampNeg, Fin.isValue, Fin.val_one, Fin.val_zero, Fin.val_two, Int64.reduceOfNat, Int32.reduceOfNat, hdl, cutc, Nat.reduceEqDiff, reduceIte, FV, tyC, tyX0, tyX1, tyX2, tyX3, tyX4, tyX5, tyX6, tyX7, tyX8, tyX9, tyX10, Nat.reduceMul, c_le, c_lt, c_eq, c_in, c_cl, c_add, c_rem, c_ofN, Int32.add_zero, Int32.zero_add, c_lt0, c_ge0, c_le0, c_gt0, c_e0, c_m1, c_m1', false_implies, true_implies, implies_true, not_false_eq_true, not_true_eq_false, Nat.not_lt_zero, up_s, up_1, up_m, ff9_wouldBeRight, bb9_wouldBeRight_0]
  exact h1 w2 X2 (f2.one (by omega) (by omega) (by omega) (by omega))
end PLAY
def hx (h : Int64) (v : Nat) : Int64 := 31 * h + lN v
def hl (h : Int64) (l : List Nat) : Int64 := l.foldl hx h
theorem hl_app (h : Int64) (a b : List Nat) : hl h (a ++ b) = hl (hl h a) b := List.foldl_append
theorem hl_nil (h : Int64) : hl h [] = h := rfl
theorem hl_cons (h : Int64) (a : Nat) (l : List Nat) : hl h (a :: l) = hl (hx h a) l := rfl
def pre (f : Nat → List Nat) : Nat → List Nat
  | 0 => []
  | n + 1 => pre f n ++ f n
def shr (S : AS) : UInt64 := if (a_L S).length = 0 then FP.dconst0 else FP.ddiv (FP.i2d (nI (4 * wsend S (a_L S).length))) (FP.i2d (nI (a_wd S * (a_L S).length)))
theorem i2l_n {v : Nat} (h : v < 2147483648) : (nI v).toInt64 = lN v := by
  apply Int64.toInt_inj.mp
  rw [Int32.toInt_toInt64, show (nI v).toInt = (v : Int) from Int32.toInt_ofNat_of_lt h]
  exact (lg_ofNat_toInt (by omega)).symm
theorem wsend_ge (S : AS) : ∀ n, 5 * n ≤ wsend S n := by
  intro n
  induction n with
  | zero => simp [wsend]
  | succ n ih =>
    have : 5 ≤ clen (a_wd S) (a_L S) n (modeS S n) := by rw [clen_ker]; omega
    simp only [wsend]; omega
theorem shr_ok {S : AS} (h : SOK S) (h0 : 0 < (a_L S).length) : ∃ E T, shr S = dbl E T ∧ 900 ≤ E ∧ E ≤ 1200 ∧ T < 4503599627370496 := by
  obtain ⟨h1, h2, h3, h4, h5, -⟩ := h
  have w1 := wsend_ge S (a_L S).length
  have w2 := wsend_le S h2 (a_L S).length
  have hp1 : 8 * 1 ≤ a_wd S * (a_L S).length := Nat.mul_le_mul h1 h0
  have hp2 : a_wd S * (a_L S).length ≤ 32 * 10 := Nat.mul_le_mul h2 h5
  unfold shr
  rw [if_neg (by omega)]
  obtain ⟨a1, a2⟩ := i2d_ok (a := 4 * wsend S (a_L S).length) (by omega) (by omega)
  obtain ⟨b1, b2⟩ := i2d_ok (a := a_wd S * (a_L S).length) (by omega) (by omega)
  obtain ⟨l1, l2, l3⟩ := nj_ok (T := 4 * wsend S (a_L S).length) (by omega) (by omega)
  obtain ⟨m1, m2, m3⟩ := nj_ok (T := a_wd S * (a_L S).length) (by omega) (by omega)
  rw [a1, b1]
  have hj : ∀ a, nj a ≤ 52 := fun a => Nat.sub_le _ _
  have hj1 := hj (4 * wsend S (a_L S).length)
  have hj2 := hj (a_wd S * (a_L S).length)
  exact ddiv_ok (by omega) (by omega) (by omega) (by omega) (by omega) (by omega)
section DIG
variable {Γ : Amb} {w : PW} {Q : Option Value → Option Nat → PW → Prop} {QX : String → PW → Prop} {x : Nat} {U : US}
theorem sp9_codedShare (h : XU w x U) (hU : UOK U) (hQ : Q (some (.double (shr (us_S U)))) none w) : Sp Γ m9_codedShare [.ref x] none w Q := by
  have h' := h
  unfold XU at h
  obtain ⟨k1, k2, k3, k4, k5, -⟩ := hU.1
  obtain ⟨e0, ⟨v', e1, -⟩, e2, e3, e4⟩ := h.cells
  have hp2 : a_wd (us_S U) * (a_L (us_S U)).length ≤ 32 * 10 := Nat.mul_le_mul k2 k5
  have b1 : a_wd (us_S U) * (a_L (us_S U)).length < 2147483648 := by omega
  refine entry Γ m9_codedShare rfl _ (Nat.le_of_ble_eq_true rfl) _ _ _ ?_
  refine wp_ok kd9_codedShare 400 0 bb9_codedShare_0 _ _ _ _ _ _ oo9_codedShare_0 ?_
  simp only [List.getElem?_cons_zero, List.getElem?_cons_succ, fv4, Nat.reduceAdd, Nat.reduceSub, wp, pst, stp, LG, lput, ls_tl, two, bc, EL, pad, popN, csum, Option.toList, List.cons_append, List.nil_append, List.set_cons_zero, List.set_cons_succ, List.length_cons, List.length_nil, true_and, and_true, Nat.reduceLT, Nat.reduceLeDiff, Nat.zero_le, Nat.le_refl, RI_i, RI_z0, RI_z1, Int32.reduceOfInt, Int8.reduceOfInt, Int16.reduceOfInt, Int64.reduceOfInt, Int8.toInt32_ofNat, Int16.toInt32_ofNat, Int.reduceNeg, Int32.ofInt_neg, Int8.ofInt_neg, Int16.ofInt_neg, Int32.toInt64_ofNat, Int32.reduceToNatClampNeg, Fin.isValue, Fin.val_one, Fin.val_zero, Fin.val_two, Int64.reduceOfNat, Int32.reduceOfNat, hdl, cutc, Nat.reduceEqDiff, reduceIte, FV, tyC, tyX0, tyX1, tyX2, tyX3, tyX4, tyX5, tyX6, tyX7, tyX8, tyX9, tyX10, Nat.reduceMul, c_le, c_lt, c_eq, c_in, c_cl, c_add, c_rem, c_ofN, Int32.add_zero, Int32.zero_add, c_lt0, c_ge0, c_le0, c_gt0, c_e0, c_m1, c_m1', false_implies, true_implies, implies_true, not_false_eq_true, not_true_eq_false, Nat.not_lt_zero, up_s, up_1, up_m, ff9_codedShare, bb9_codedShare_0, bb9_codedShare_28, cl_4, ca_4, e0, e1, e2, c_mul, b1]
  refine ⟨fun hp => ?_, fun hp => ?_⟩
  · have hl : 0 < (a_L (us_S U)).length := Nat.pos_of_ne_zero (fun q => by rw [q] at hp; omega)
    refine sp9_wouldSend h' hU ?_
    obtain ⟨E, T, hs, s1, s2, s3⟩ := shr_ok hU.1 hl
    have hn := dbl_n64 (E := E) (T := T) (by omega) s3
    rw [← hs] at hn
    unfold shr at hn hQ
    rw [if_neg (by omega)] at hn hQ
    unfold holdL
    simp only [List.getElem?_cons_zero, List.getElem?_cons_succ, fv4, Nat.reduceAdd, Nat.reduceSub, wp, pst, stp, LG, lput, ls_tl, two, bc, EL, pad, popN, csum, Option.toList, List.cons_append, List.nil_append, List.set_cons_zero, List.set_cons_succ, List.length_cons, List.length_nil, true_and, and_true, Nat.reduceLT, Nat.reduceLeDiff, Nat.zero_le, Nat.le_refl, RI_i, RI_z0, RI_z1, Int32.reduceOfInt, Int8.reduceOfInt, Int16.reduceOfInt, Int64.reduceOfInt, Int8.toInt32_ofNat, Int16.toInt32_ofNat, Int.reduceNeg, Int32.ofInt_neg, Int8.ofInt_neg, Int16.ofInt_neg, Int32.toInt64_ofNat, Int32.reduceToNatClampNeg, Fin.isValue, Fin.val_one, Fin.val_zero, Fin.val_two, Int64.reduceOfNat, Int32.reduceOfNat, hdl, cutc, Nat.reduceEqDiff, reduceIte, FV, tyC, tyX0, tyX1, tyX2, tyX3, tyX4, tyX5, tyX6, tyX7, tyX8, tyX9, tyX10, Nat.reduceMul, c_le, c_lt, c_eq, c_in, c_cl, c_add, c_rem, c_ofN, Int32.add_zero, Int32.zero_add, c_lt0, c_ge0, c_le0, c_gt0, c_e0, c_m1, c_m1', false_implies, true_implies, implies_true, not_false_eq_true, not_true_eq_false, Nat.not_lt_zero, up_s, up_1, up_m, ff9_codedShare, bb9_codedShare_0, bb9_codedShare_28, cl_4, ca_4]
    exact ⟨hn, hQ⟩
  · have hl : (a_L (us_S U)).length = 0 := by
      rcases Nat.eq_zero_or_pos (a_L (us_S U)).length with q | q
      · exact q
      · have : 8 * 1 ≤ a_wd (us_S U) * (a_L (us_S U)).length := Nat.mul_le_mul k1 q
        omega
    unfold shr at hQ
    rw [if_pos hl] at hQ
    exact hQ
end DIG

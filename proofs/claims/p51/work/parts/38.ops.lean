/-! WHAT EACH CALL THAT CHANGES ANSWERS, AND BRINGS -/
/-- 0, or which throw; the answer; what is then -/
abbrev OC : Type := Nat × Nat × US
def oNo (k : Nat) (U : US) : OC := (k, 0, U)
/-- a change that is saved -/
def oDo (v : Nat) (S : AS) (U : US) : OC := (0, v, S, us_N U, pushT (us_T U) (us_S U), us_B U)
def o_setWidth (v : Int32) (U : US) : OC := match ix v 33 with
  | some p => if 8 ≤ p then oDo (a_wd (us_S U)) (p, a_sy (us_S U), [], [], R0, [], a_st (us_S U)) U else oNo 1 U
  | none => oNo 1 U
abbrev s_L (S : AS) (L : List Nat) : AS := (a_wd S, a_sy S, L, a_s S, a_R S, a_E S, a_st S)
abbrev s_s (S : AS) (s : List Nat) : AS := (a_wd S, a_sy S, a_L S, s, a_R S, a_E S, a_st S)
abbrev s_rd (S : AS) (z : List (Option Nat) × List (Nat × Nat)) : AS := (a_wd S, a_sy S, a_L S, a_s S, z.1, z.2, a_st S)
abbrev s_st (S : AS) (o : Option Nat) : AS := (a_wd S, a_sy S, a_L S, a_s S, a_R S, a_E S, o)
def o_addLine (v : Int64) (U : US) : OC := match px v (a_wd (us_S U)) with
  | some p => if (a_L (us_S U)).length = 10 then oNo 2 U else oDo (a_L (us_S U)).length (s_L (us_S U) (a_L (us_S U) ++ [p])) U
  | none => oNo 1 U
def o_setLine (l : Int32) (v : Int64) (U : US) : OC := match ix l (a_L (us_S U)).length with
  | some j => match px v (a_wd (us_S U)) with
    | some p => oDo ((a_L (us_S U)).getD j 0) (s_L (us_S U) ((a_L (us_S U)).set j p)) U
    | none => oNo 2 U
  | none => oNo 1 U
def o_dropLast (U : US) : OC := if (a_L (us_S U)).length = 0 then oNo 1 U else oDo ((a_L (us_S U)).length - 1) (s_L (us_S U) (a_L (us_S U)).dropLast) U
def o_setStyle (v : Int32) (U : US) : OC := match ix v 4 with
  | some y => oDo (a_sy (us_S U)) (a_wd (us_S U), y, a_L (us_S U), a_s (us_S U), a_R (us_S U), a_E (us_S U), a_st (us_S U)) U
  | none => oNo 1 U
/-- the whole page, sent -/
def sentA (S : AS) : List Nat := sent S (a_L S).length
def o_send (U : US) : OC := oDo (sentA (us_S U)).length (s_s (us_S U) (sentA (us_S U))) U
def o_replace (l v : Int32) (U : US) : OC := match ix l (a_s (us_S U)).length with
  | some j => match ix v 16 with
    | some n => oDo ((a_s (us_S U)).getD j 0) (s_s (us_S U) ((a_s (us_S U)).set j n)) U
    | none => oNo 2 U
  | none => oNo 1 U
def o_lose (l : Int32) (U : US) : OC := match ix l (a_s (us_S U)).length with
  | some j => oDo ((a_s (us_S U)).getD j 0) (s_s (us_S U) ((a_s (us_S U)).eraseIdx j)) U
  | none => oNo 1 U
def o_gain (l v : Int32) (U : US) : OC := match ix l ((a_s (us_S U)).length + 1) with
  | some j => match ix v 16 with
    | some n => if (a_s (us_S U)).length = 500 then oNo 3 U else oDo ((a_s (us_S U)).length + 1) (s_s (us_S U) ((a_s (us_S U)).insertIdx j n)) U
    | none => oNo 2 U
  | none => oNo 1 U
/-- what a reading of the stream brings -/
def readA (s : List Nat) (wd : Nat) : List (Option Nat) × List (Nat × Nat) := rdg s wd 500 0 R0 []
def o_receive (U : US) : OC := oDo (cntR (readA (a_s (us_S U)) (a_wd (us_S U))).1) (s_rd (us_S U) (readA (a_s (us_S U)) (a_wd (us_S U)))) U
def o_append (v : Int32) (U : US) : OC := match ix v 127 with
  | some c => if 33 ≤ c then (if (us_B U).length = 60 then oNo 2 U else (0, (us_B U).length + 1, us_S U, us_N U, us_T U, us_B U ++ [c])) else oNo 1 U
  | none => oNo 1 U
def o_clearBuffer (U : US) : OC := (0, (us_B U).length, us_S U, us_N U, us_T U, [])
def o_undo (U : US) : OC := if h : us_T U ≠ [] then (0, (us_T U).length - 1, (us_T U).getLast h, us_N U, (us_T U).dropLast, us_B U) else oNo 1 U
def o_keep (U : US) : OC := (0, (a_L (us_S U)).length, us_S U, some (us_S U), us_T U, us_B U)
def o_restore (U : US) : OC := match us_N U with
  | some n => oDo (a_L n).length n U
  | none => oNo 1 U
def XU (w : PW) (x : Nat) (U : US) : Prop := XO w x (us_S U) (us_N U) (us_T U) (us_B U)
/-- the exception of the k-th throw -/
def xc (l : List String) (k : Nat) : String := l.getD (k - 1) ""
theorem Fr.t4 {w w1 w2 : PW} {x lo n : Nat} (h : Fr w w1 x 77) (h2 : Fr w1 w2 lo n) (h3 : x ≤ lo) (h4 : lo + n ≤ x + 77) : Fr w w2 x 77 := h.tr (h2.wid h3 h4)
theorem oNo1 (k : Nat) (U : US) : (oNo k U).1 = k := rfl
theorem oNo2 (k : Nat) (U : US) : (oNo k U).2.1 = 0 := rfl
theorem oNo3 (k : Nat) (U : US) : (oNo k U).2.2 = U := rfl
section OPS
variable {Γ : Amb} {w : PW} {Q : Option Value → Option Nat → PW → Prop} {QX : String → PW → Prop} {x : Nat} {U : US}
theorem sp9_setWidth (h : XU w x U) (v : Int32) (h1 : (o_setWidth v U).1 = 0 → ∀ w', XU w' x (o_setWidth v U).2.2 → Fr w w' x 77 → Q (some (.int (nI (o_setWidth v U).2.1))) none w') (h0 : (o_setWidth v U).1 ≠ 0 → ∀ w', XU w' x U → Fr w w' x 77 → QX (xc [eIA] (o_setWidth v U).1) w') : SpX Γ m9_setWidth [.ref x, .int v] none w Q QX := by
  have h' := h
  unfold XU at h
  unfold o_setWidth at h1 h0
  have hN : (ix v 33 = none ∨ ∃ p, ix v 33 = some p ∧ ¬8 ≤ p) → QX eIA w := by
    rintro (e | ⟨p, e, hp⟩)
    · rw [e] at h0
      exact h0 (Nat.succ_ne_zero _) w h' Fr.rf
    · rw [e] at h0
      dsimp only at h0
      rw [if_neg hp] at h0
      exact h0 (Nat.succ_ne_zero _) w h' Fr.rf
  obtain ⟨e0, ⟨v', e1, -⟩, e2, e3, e4⟩ := h.cells
  obtain ⟨⟨o, t1⟩, -⟩ := h.more
  refine entryX Γ m9_setWidth rfl _ (Nat.le_of_ble_eq_true rfl) _ _ _ _ ?_
  refine wp_ok kd9_setWidth 400 0 bb9_setWidth_0 _ _ _ _ _ _ oo9_setWidth_0 ?_
  rcases ix_cases v 33 (by decide) with ⟨p, hp, rfl, e⟩ | ⟨hn, e⟩
  · have b1 : p < 2147483648 := by omega
    simp only [List.getElem?_cons_zero, List.getElem?_cons_succ, fv4, Nat.reduceAdd, Nat.reduceSub, wp, pst, stp, LG, lput, ls_tl, two, bc, EL, pad, popN, csum, Option.toList, List.cons_append, List.nil_append, List.set_cons_zero, List.set_cons_succ, List.length_cons, List.length_nil, true_and, and_true, Nat.reduceLT, Nat.reduceLeDiff, Nat.zero_le, Nat.le_refl, RI_i, RI_z0, RI_z1, Int32.reduceOfInt, Int8.reduceOfInt, Int16.reduceOfInt, Int64.reduceOfInt, Int8.toInt32_ofNat, Int16.toInt32_ofNat, Int.reduceNeg, Int32.ofInt_neg, Int8.ofInt_neg, Int16.ofInt_neg, Int32.toInt64_ofNat, Int32.reduceToNatClampNeg, Fin.isValue, Fin.val_one, Fin.val_zero, Fin.val_two, Int64.reduceOfNat, Int32.reduceOfNat, hdl, cutc, Nat.reduceEqDiff, reduceIte, FV, tyC, tyX0, tyX1, tyX2, tyX3, tyX4, tyX5, tyX6, tyX7, tyX8, tyX9, tyX10, Nat.reduceMul, c_le, c_lt, c_eq, c_in, c_cl, c_add, c_rem, c_ofN, Int32.add_zero, Int32.zero_add, c_lt0, c_ge0, c_le0, c_gt0, c_e0, c_m1, c_m1', false_implies, true_implies, implies_true, not_false_eq_true, not_true_eq_false, Nat.not_lt_zero, up_s, up_1, up_m, ff9_setWidth, bb9_setWidth_0, bb9_setWidth_12, bb9_setWidth_22, cl_8, ca_8, cl_32, ca_32, e0, e1, e2, e3, e4, b1, kX, t1]
    refine ⟨fun h8 => hN (Or.inr ⟨p, e, by omega⟩), fun h8 => ⟨fun _ => ?_, fun h => absurd h (by omega)⟩⟩
    rw [e] at h1
    dsimp only at h1
    rw [if_pos (by omega)] at h1
    refine sp1_push h.2.2.2.1 h.2.1 (by omega) (fun w1 g1 f1 => ?_)
    have X1 := h.hist g1 f1
    obtain ⟨e0, ⟨v', e1, -⟩, e2, e3, bt, e4⟩ := X1.cells
    unfold holdL
    simp only [List.getElem?_cons_zero, List.getElem?_cons_succ, fv4, Nat.reduceAdd, Nat.reduceSub, wp, pst, stp, LG, lput, ls_tl, two, bc, EL, pad, popN, csum, Option.toList, List.cons_append, List.nil_append, List.set_cons_zero, List.set_cons_succ, List.length_cons, List.length_nil, true_and, and_true, Nat.reduceLT, Nat.reduceLeDiff, Nat.zero_le, Nat.le_refl, RI_i, RI_z0, RI_z1, Int32.reduceOfInt, Int8.reduceOfInt, Int16.reduceOfInt, Int64.reduceOfInt, Int8.toInt32_ofNat, Int16.toInt32_ofNat, Int.reduceNeg, Int32.ofInt_neg, Int8.ofInt_neg, Int16.ofInt_neg, Int32.toInt64_ofNat, Int32.reduceToNatClampNeg, Fin.isValue, Fin.val_one, Fin.val_zero, Fin.val_two, Int64.reduceOfNat, Int32.reduceOfNat, hdl, cutc, Nat.reduceEqDiff, reduceIte, FV, tyC, tyX0, tyX1, tyX2, tyX3, tyX4, tyX5, tyX6, tyX7, tyX8, tyX9, tyX10, Nat.reduceMul, c_le, c_lt, c_eq, c_in, c_cl, c_add, c_rem, c_ofN, Int32.add_zero, Int32.zero_add, c_lt0, c_ge0, c_le0, c_gt0, c_e0, c_m1, c_m1', false_implies, true_implies, implies_true, not_false_eq_true, not_true_eq_false, Nat.not_lt_zero, up_s, up_1, up_m, ff9_setWidth, bb9_setWidth_0, bb9_setWidth_12, bb9_setWidth_22, cl_8, ca_8, cl_32, ca_32, e0, e1, e2, e3, e4]
    refine sp2_emptyWith X1.2.1.1 p (fun w2 g2 f2 => ?_)
    have X2 := X1.page g2 f2
    obtain ⟨e0, ⟨v', e1, -⟩, e2, e3, bt, e4⟩ := X2.cells
    unfold holdL
    simp only [List.getElem?_cons_zero, List.getElem?_cons_succ, fv4, Nat.reduceAdd, Nat.reduceSub, wp, pst, stp, LG, lput, ls_tl, two, bc, EL, pad, popN, csum, Option.toList, List.cons_append, List.nil_append, List.set_cons_zero, List.set_cons_succ, List.length_cons, List.length_nil, true_and, and_true, Nat.reduceLT, Nat.reduceLeDiff, Nat.zero_le, Nat.le_refl, RI_i, RI_z0, RI_z1, Int32.reduceOfInt, Int8.reduceOfInt, Int16.reduceOfInt, Int64.reduceOfInt, Int8.toInt32_ofNat, Int16.toInt32_ofNat, Int.reduceNeg, Int32.ofInt_neg, Int8.ofInt_neg, Int16.ofInt_neg, Int32.toInt64_ofNat, Int32.reduceToNatClampNeg, Fin.isValue, Fin.val_one, Fin.val_zero, Fin.val_two, Int64.reduceOfNat, Int32.reduceOfNat, hdl, cutc, Nat.reduceEqDiff, reduceIte, FV, tyC, tyX0, tyX1, tyX2, tyX3, tyX4, tyX5, tyX6, tyX7, tyX8, tyX9, tyX10, Nat.reduceMul, c_le, c_lt, c_eq, c_in, c_cl, c_add, c_rem, c_ofN, Int32.add_zero, Int32.zero_add, c_lt0, c_ge0, c_le0, c_gt0, c_e0, c_m1, c_m1', false_implies, true_implies, implies_true, not_false_eq_true, not_true_eq_false, Nat.not_lt_zero, up_s, up_1, up_m, ff9_setWidth, bb9_setWidth_0, bb9_setWidth_12, bb9_setWidth_22, cl_8, ca_8, cl_32, ca_32, e0, e1, e2, e3, e4]
    refine sp8_empty X2.2.1.2.1 (fun w3 g3 f3 => ?_)
    have X3 := X2.stream g3 f3
    obtain ⟨e0, ⟨v', e1, -⟩, e2, e3, bt, e4⟩ := X3.cells
    unfold holdL
    simp only [List.getElem?_cons_zero, List.getElem?_cons_succ, fv4, Nat.reduceAdd, Nat.reduceSub, wp, pst, stp, LG, lput, ls_tl, two, bc, EL, pad, popN, csum, Option.toList, List.cons_append, List.nil_append, List.set_cons_zero, List.set_cons_succ, List.length_cons, List.length_nil, true_and, and_true, Nat.reduceLT, Nat.reduceLeDiff, Nat.zero_le, Nat.le_refl, RI_i, RI_z0, RI_z1, Int32.reduceOfInt, Int8.reduceOfInt, Int16.reduceOfInt, Int64.reduceOfInt, Int8.toInt32_ofNat, Int16.toInt32_ofNat, Int.reduceNeg, Int32.ofInt_neg, Int8.ofInt_neg, Int16.ofInt_neg, Int32.toInt64_ofNat, Int32.reduceToNatClampNeg, Fin.isValue, Fin.val_one, Fin.val_zero, Fin.val_two, Int64.reduceOfNat, Int32.reduceOfNat, hdl, cutc, Nat.reduceEqDiff, reduceIte, FV, tyC, tyX0, tyX1, tyX2, tyX3, tyX4, tyX5, tyX6, tyX7, tyX8, tyX9, tyX10, Nat.reduceMul, c_le, c_lt, c_eq, c_in, c_cl, c_add, c_rem, c_ofN, Int32.add_zero, Int32.zero_add, c_lt0, c_ge0, c_le0, c_gt0, c_e0, c_m1, c_m1', false_implies, true_implies, implies_true, not_false_eq_true, not_true_eq_false, Nat.not_lt_zero, up_s, up_1, up_m, ff9_setWidth, bb9_setWidth_0, bb9_setWidth_12, bb9_setWidth_22, cl_8, ca_8, cl_32, ca_32, e0, e1, e2, e3, e4]
    refine sp6_empty X3.2.1.2.2.1 (fun w4 g4 f4 => ?_)
    have X4 := X3.recep g4 f4
    unfold holdL
    simp only [List.getElem?_cons_zero, List.getElem?_cons_succ, fv4, Nat.reduceAdd, Nat.reduceSub, wp, pst, stp, LG, lput, ls_tl, two, bc, EL, pad, popN, csum, Option.toList, List.cons_append, List.nil_append, List.set_cons_zero, List.set_cons_succ, List.length_cons, List.length_nil, true_and, and_true, Nat.reduceLT, Nat.reduceLeDiff, Nat.zero_le, Nat.le_refl, RI_i, RI_z0, RI_z1, Int32.reduceOfInt, Int8.reduceOfInt, Int16.reduceOfInt, Int64.reduceOfInt, Int8.toInt32_ofNat, Int16.toInt32_ofNat, Int.reduceNeg, Int32.ofInt_neg, Int8.ofInt_neg, Int16.ofInt_neg, Int32.toInt64_ofNat, Int32.reduceToNatClampNeg, Fin.isValue, Fin.val_one, Fin.val_zero, Fin.val_two, Int64.reduceOfNat, Int32.reduceOfNat, hdl, cutc, Nat.reduceEqDiff, reduceIte, FV, tyC, tyX0, tyX1, tyX2, tyX3, tyX4, tyX5, tyX6, tyX7, tyX8, tyX9, tyX10, Nat.reduceMul, c_le, c_lt, c_eq, c_in, c_cl, c_add, c_rem, c_ofN, Int32.add_zero, Int32.zero_add, c_lt0, c_ge0, c_le0, c_gt0, c_e0, c_m1, c_m1', false_implies, true_implies, implies_true, not_false_eq_true, not_true_eq_false, Nat.not_lt_zero, up_s, up_1, up_m, ff9_setWidth, bb9_setWidth_0, bb9_setWidth_12, bb9_setWidth_22, cl_8, ca_8, cl_32, ca_32]
    exact h1 rfl w4 X4 ((((f1.wid (by omega) (by omega)).t4 f2 (by omega) (by omega)).t4 f3 (by omega) (by omega)).t4 f4 (by omega) (by omega))
  · have hq := hN (Or.inl e)
    rcases i_cases v with hv | ⟨p, hp, rfl⟩
    · have h8 : v < 8 := by
        rcases i_cases v with _ | ⟨j, hj, rfl⟩
        · exact Int32.lt_trans hv (by decide)
        · exact absurd hv (nI_pos (n := j) hj)
      simp only [List.getElem?_cons_zero, List.getElem?_cons_succ, fv4, Nat.reduceAdd, Nat.reduceSub, wp, pst, stp, LG, lput, ls_tl, two, bc, EL, pad, popN, csum, Option.toList, List.cons_append, List.nil_append, List.set_cons_zero, List.set_cons_succ, List.length_cons, List.length_nil, true_and, and_true, Nat.reduceLT, Nat.reduceLeDiff, Nat.zero_le, Nat.le_refl, RI_i, RI_z0, RI_z1, Int32.reduceOfInt, Int8.reduceOfInt, Int16.reduceOfInt, Int64.reduceOfInt, Int8.toInt32_ofNat, Int16.toInt32_ofNat, Int.reduceNeg, Int32.ofInt_neg, Int8.ofInt_neg, Int16.ofInt_neg, Int32.toInt64_ofNat, Int32.reduceToNatClampNeg, Fin.isValue, Fin.val_one, Fin.val_zero, Fin.val_two, Int64.reduceOfNat, Int32.reduceOfNat, hdl, cutc, Nat.reduceEqDiff, reduceIte, FV, tyC, tyX0, tyX1, tyX2, tyX3, tyX4, tyX5, tyX6, tyX7, tyX8, tyX9, tyX10, Nat.reduceMul, c_le, c_lt, c_eq, c_in, c_cl, c_add, c_rem, c_ofN, Int32.add_zero, Int32.zero_add, c_lt0, c_ge0, c_le0, c_gt0, c_e0, c_m1, c_m1', false_implies, true_implies, implies_true, not_false_eq_true, not_true_eq_false, Nat.not_lt_zero, up_s, up_1, up_m, ff9_setWidth, bb9_setWidth_0, bb9_setWidth_12, bb9_setWidth_22, cl_8, ca_8, cl_32, ca_32, h8, kX]
      exact hq
    · simp only [List.getElem?_cons_zero, List.getElem?_cons_succ, fv4, Nat.reduceAdd, Nat.reduceSub, wp, pst, stp, LG, lput, ls_tl, two, bc, EL, pad, popN, csum, Option.toList, List.cons_append, List.nil_append, List.set_cons_zero, List.set_cons_succ, List.length_cons, List.length_nil, true_and, and_true, Nat.reduceLT, Nat.reduceLeDiff, Nat.zero_le, Nat.le_refl, RI_i, RI_z0, RI_z1, Int32.reduceOfInt, Int8.reduceOfInt, Int16.reduceOfInt, Int64.reduceOfInt, Int8.toInt32_ofNat, Int16.toInt32_ofNat, Int.reduceNeg, Int32.ofInt_neg, Int8.ofInt_neg, Int16.ofInt_neg, Int32.toInt64_ofNat, Int32.reduceToNatClampNeg, Fin.isValue, Fin.val_one, Fin.val_zero, Fin.val_two, Int64.reduceOfNat, Int32.reduceOfNat, hdl, cutc, Nat.reduceEqDiff, reduceIte, FV, tyC, tyX0, tyX1, tyX2, tyX3, tyX4, tyX5, tyX6, tyX7, tyX8, tyX9, tyX10, Nat.reduceMul, c_le, c_lt, c_eq, c_in, c_cl, c_add, c_rem, c_ofN, Int32.add_zero, Int32.zero_add, c_lt0, c_ge0, c_le0, c_gt0, c_e0, c_m1, c_m1', false_implies, true_implies, implies_true, not_false_eq_true, not_true_eq_false, Nat.not_lt_zero, up_s, up_1, up_m, ff9_setWidth, bb9_setWidth_0, bb9_setWidth_12, bb9_setWidth_22, cl_8, ca_8, cl_32, ca_32, hp, kX]
      exact ⟨fun _ => hq, fun h8 => ⟨fun h32 => absurd rfl (hn p (by omega)), fun _ => hq⟩⟩
end OPS

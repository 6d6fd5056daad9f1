/-! WHAT EACH CALL THAT CHANGES ANSWERS, the rest but play -/
theorem Fr.sym {w w' : PW} {lo n : Nat} (h : Fr w w' lo n) : Fr w' w lo n := fun b hb => (h b hb).symm
theorem TxR.le {w : PW} {b : Nat} {T : List Nat} (h : TxR w b T) : T.length ≤ 60 := by
  obtain ⟨f, -, -, -, h⟩ := h
  exact h
section XOG
variable {w w' : PW} {x : Nat} {S : AS} {N : Option AS} {T : List AS} {B : List Nat}
theorem XO.rd (h : XO w x S N T B) {p s e : Int32} (h' : w' (x + 72) = some (rdc p s e)) (hf : Fr w w' (x + 72) 1) : XO w' x S N T B := by
  obtain ⟨R, E, h9⟩ := h.2.2.2.2.2.2.2.2
  exact h.reader h' (h9.fr hf (by omega)) (hf.wid (by omega) (by omega))
theorem XO.trial (h : XO w x S N T B) {R : List (Option Nat)} {E : List (Nat × Nat)} (h' : RcR w' (x + 73) R E) (hf : Fr w w' (x + 73) 4) : XO w' x S N T B := by
  obtain ⟨p, s, e, h8⟩ := h.2.2.2.2.2.2.2.1
  exact h.reader ((hf.at (by omega)).trans h8) h' (hf.wid (by omega) (by omega))
theorem XO.sent (h : XO w x S N T B) {s : List Nat} {K C : List Nat} {ch : Int32} (h1 : StR w' (x + 1) (a_set S s)) (h2 : CoR w' (x + 69) K C ch) (hf : Fr2 w w' (x + 4) 2 (x + 69) 3) : XO w' x (a_set S s) N T B := by
  obtain ⟨w0, f1, f2⟩ := hf.split
  exact (h.state (w' := w0) (h1.fr f2.sym (by omega)) (f1.wid (by omega) (by omega))).coder h2 f2
theorem XO.read (h : XO w x S N T B) {R : List (Option Nat)} {E : List (Nat × Nat)} {p s e : Int32} (h1 : RcR w' (x + 1 + 5) R E) (h2 : w' (x + 72) = some (rdc p s e)) (hf : Fr2 w w' (x + 72) 1 (x + 1 + 5) 4) : XO w' x (s_rd S (R, E)) N T B := by
  obtain ⟨w0, f1, f2⟩ := hf.split
  exact (h.rd (w' := w0) ((f2.at (by omega)).symm.trans h2) f1).recep h1 f2
theorem XO.try (h : XO w x S N T B) {R : List (Option Nat)} {E : List (Nat × Nat)} {p s e : Int32} (h1 : RcR w' (x + 73) R E) (h2 : w' (x + 72) = some (rdc p s e)) (hf : Fr2 w w' (x + 72) 1 (x + 73) 4) : XO w' x S N T B := by
  obtain ⟨w0, f1, f2⟩ := hf.split
  exact (h.rd (w' := w0) ((f2.at (by omega)).symm.trans h2) f1).trial h1 f2
theorem Fr2.one {w w' : PW} {l n k m lo c : Nat} (h : Fr2 w w' l n k m) (h1 : lo ≤ l) (h2 : l + n ≤ lo + c) (h3 : lo ≤ k) (h4 : k + m ≤ lo + c) : Fr w w' lo c := fun b hb => h b (by omega) (by omega)
theorem XO.kept (h : XO w x S N T B) (h' : StR w' (x + 10) S) (hf : Fr w w' (x + 10) 9) : XO (up w' x (.inr (9, [.ref (x + 1), .ref (x + 10), .int 1, .ref (x + 19), .ref (x + 66), .ref (x + 69), .ref (x + 72), .ref (x + 73)]))) x S (some S) T B := by
  have f0 : ∀ e, Fr w' (up w' x e) x 1 := fun e => Fr.wr (by omega) (by omega)
  obtain ⟨h1, h2, -, h4, h5, ⟨_, _, _, _, _, _, _, h6⟩, ⟨K, C, ch, h7⟩, ⟨p, s, e, h8⟩, R, E, h9⟩ := h
  exact ⟨up_s _ _ _, (h2.fr hf (by omega)).fr (f0 _) (by omega), ⟨S, h'.fr (f0 _) (by omega), fun n hn => by cases hn; rfl⟩, (h4.fr hf (by omega)).fr (f0 _) (by omega), (h5.fr hf (by omega)).fr (f0 _) (by omega), ⟨_, _, _, _, _, _, _, ((f0 _).at (by omega)).trans ((hf.at (by omega)).trans h6)⟩, ⟨K, C, ch, (h7.fr hf (by omega)).fr (f0 _) (by omega)⟩, ⟨p, s, e, ((f0 _).at (by omega)).trans ((hf.at (by omega)).trans h8)⟩, R, E, (h9.fr hf (by omega)).fr (f0 _) (by omega)⟩
end XOG
section OPS
variable {Γ : Amb} {w : PW} {Q : Option Value → Option Nat → PW → Prop} {QX : String → PW → Prop} {x : Nat} {U : US}
theorem sp9_send (h : XU w x U) (hU : UOK U) (h1 : ∀ w', XU w' x (o_send U).2.2 → Fr w w' x 77 → Q (some (.int (nI (o_send U).2.1))) none w') : Sp Γ m9_send [.ref x] none w Q := by
  have h' := h
  unfold XU at h
  obtain ⟨k1, k2, k3, -⟩ := hU.1
  obtain ⟨e0, ⟨v', e1, -⟩, e2, e3, e4⟩ := h.cells
  obtain ⟨⟨o, t1⟩, -⟩ := h.more
  refine entry Γ m9_send rfl _ (Nat.le_of_ble_eq_true rfl) _ _ _ ?_
  refine wp_ok kd9_send 400 0 bb9_send_0 _ _ _ _ _ _ oo9_send_0 ?_
  simp only [List.getElem?_cons_zero, List.getElem?_cons_succ, fv4, Nat.reduceAdd, Nat.reduceSub, wp, pst, stp, LG, lput, ls_tl, two, bc, EL, pad, popN, csum, Option.toList, List.cons_append, List.nil_append, List.set_cons_zero, List.set_cons_succ, List.length_cons, List.length_nil, true_and, and_true, Nat.reduceLT, Nat.reduceLeDiff, Nat.zero_le, Nat.le_refl, RI_i, RI_z0, RI_z1, Int32.reduceOfInt, Int8.reduceOfInt, Int16.reduceOfInt, Int64.reduceOfInt, Int8.toInt32_ofNat, Int16.toInt32_ofNat, Int.reduceNeg, Int32.ofInt_neg, Int8.ofInt_neg, Int16.ofInt_neg, Int32.toInt64_ofNat, Int32.reduceToNatClampNeg, Fin.isValue, Fin.val_one, Fin.val_zero, Fin.val_two, Int64.reduceOfNat, Int32.reduceOfNat, hdl, cutc, Nat.reduceEqDiff, reduceIte, FV, tyC, tyX0, tyX1, tyX2, tyX3, tyX4, tyX5, tyX6, tyX7, tyX8, tyX9, tyX10, Nat.reduceMul, c_le, c_lt, c_eq, c_in, c_cl, c_add, c_rem, c_ofN, Int32.add_zero, Int32.zero_add, c_lt0, c_ge0, c_le0, c_gt0, c_e0, c_m1, c_m1', false_implies, true_implies, implies_true, not_false_eq_true, not_true_eq_false, Nat.not_lt_zero, up_s, up_1, up_m, ff9_send, bb9_send_0, e0, t1]
  refine sp1_push h.2.2.2.1 h.2.1 (by omega) (fun w1 g1 f1 => ?_)
  have X1 := h.hist g1 f1
  obtain ⟨e0, -⟩ := X1.cells
  obtain ⟨K, C, ch, hC⟩ := X1.2.2.2.2.2.2.1
  unfold holdL
  simp only [List.getElem?_cons_zero, List.getElem?_cons_succ, fv4, Nat.reduceAdd, Nat.reduceSub, wp, pst, stp, LG, lput, ls_tl, two, bc, EL, pad, popN, csum, Option.toList, List.cons_append, List.nil_append, List.set_cons_zero, List.set_cons_succ, List.length_cons, List.length_nil, true_and, and_true, Nat.reduceLT, Nat.reduceLeDiff, Nat.zero_le, Nat.le_refl, RI_i, RI_z0, RI_z1, Int32.reduceOfInt, Int8.reduceOfInt, Int16.reduceOfInt, Int64.reduceOfInt, Int8.toInt32_ofNat, Int16.toInt32_ofNat, Int.reduceNeg, Int32.ofInt_neg, Int8.ofInt_neg, Int16.ofInt_neg, Int32.toInt64_ofNat, Int32.reduceToNatClampNeg, Fin.isValue, Fin.val_one, Fin.val_zero, Fin.val_two, Int64.reduceOfNat, Int32.reduceOfNat, hdl, cutc, Nat.reduceEqDiff, reduceIte, FV, tyC, tyX0, tyX1, tyX2, tyX3, tyX4, tyX5, tyX6, tyX7, tyX8, tyX9, tyX10, Nat.reduceMul, c_le, c_lt, c_eq, c_in, c_cl, c_add, c_rem, c_ofN, Int32.add_zero, Int32.zero_add, c_lt0, c_ge0, c_le0, c_gt0, c_e0, c_m1, c_m1', false_implies, true_implies, implies_true, not_false_eq_true, not_true_eq_false, Nat.not_lt_zero, up_s, up_1, up_m, ff9_send, bb9_send_0, e0]
  refine sp9_sendPage X1.1 X1.2.1 hC hU.1.lok (by omega) k2 k3 (fun w2 K2 C2 c2 g2 g3 f2 => ?_)
  have X2 := X1.sent g2 g3 f2
  obtain ⟨e0, ⟨v', e1, -⟩, e2, e3, bt, e4⟩ := X2.cells
  unfold holdL
  simp only [List.getElem?_cons_zero, List.getElem?_cons_succ, fv4, Nat.reduceAdd, Nat.reduceSub, wp, pst, stp, LG, lput, ls_tl, two, bc, EL, pad, popN, csum, Option.toList, List.cons_append, List.nil_append, List.set_cons_zero, List.set_cons_succ, List.length_cons, List.length_nil, true_and, and_true, Nat.reduceLT, Nat.reduceLeDiff, Nat.zero_le, Nat.le_refl, RI_i, RI_z0, RI_z1, Int32.reduceOfInt, Int8.reduceOfInt, Int16.reduceOfInt, Int64.reduceOfInt, Int8.toInt32_ofNat, Int16.toInt32_ofNat, Int.reduceNeg, Int32.ofInt_neg, Int8.ofInt_neg, Int16.ofInt_neg, Int32.toInt64_ofNat, Int32.reduceToNatClampNeg, Fin.isValue, Fin.val_one, Fin.val_zero, Fin.val_two, Int64.reduceOfNat, Int32.reduceOfNat, hdl, cutc, Nat.reduceEqDiff, reduceIte, FV, tyC, tyX0, tyX1, tyX2, tyX3, tyX4, tyX5, tyX6, tyX7, tyX8, tyX9, tyX10, Nat.reduceMul, c_le, c_lt, c_eq, c_in, c_cl, c_add, c_rem, c_ofN, Int32.add_zero, Int32.zero_add, c_lt0, c_ge0, c_le0, c_gt0, c_e0, c_m1, c_m1', false_implies, true_implies, implies_true, not_false_eq_true, not_true_eq_false, Nat.not_lt_zero, up_s, up_1, up_m, ff9_send, bb9_send_0, e0, e1, e2, e3, e4]
  exact h1 w2 X2 ((f1.wid (by omega) (by omega)).tr (f2.one (by omega) (by omega) (by omega) (by omega)))
theorem sp9_receive (h : XU w x U) (hU : UOK U) (h1 : ∀ w', XU w' x (o_receive U).2.2 → Fr w w' x 77 → Q (some (.int (nI (o_receive U).2.1))) none w') : Sp Γ m9_receive [.ref x] none w Q := by
  have h' := h
  unfold XU at h
  obtain ⟨k1, k2, k3, -, -, k4, -⟩ := hU.1
  obtain ⟨e0, ⟨v', e1, -⟩, e2, e3, e4⟩ := h.cells
  obtain ⟨⟨o, t1⟩, -⟩ := h.more
  refine entry Γ m9_receive rfl _ (Nat.le_of_ble_eq_true rfl) _ _ _ ?_
  refine wp_ok kd9_receive 400 0 bb9_receive_0 _ _ _ _ _ _ oo9_receive_0 ?_
  simp only [List.getElem?_cons_zero, List.getElem?_cons_succ, fv4, Nat.reduceAdd, Nat.reduceSub, wp, pst, stp, LG, lput, ls_tl, two, bc, EL, pad, popN, csum, Option.toList, List.cons_append, List.nil_append, List.set_cons_zero, List.set_cons_succ, List.length_cons, List.length_nil, true_and, and_true, Nat.reduceLT, Nat.reduceLeDiff, Nat.zero_le, Nat.le_refl, RI_i, RI_z0, RI_z1, Int32.reduceOfInt, Int8.reduceOfInt, Int16.reduceOfInt, Int64.reduceOfInt, Int8.toInt32_ofNat, Int16.toInt32_ofNat, Int.reduceNeg, Int32.ofInt_neg, Int8.ofInt_neg, Int16.ofInt_neg, Int32.toInt64_ofNat, Int32.reduceToNatClampNeg, Fin.isValue, Fin.val_one, Fin.val_zero, Fin.val_two, Int64.reduceOfNat, Int32.reduceOfNat, hdl, cutc, Nat.reduceEqDiff, reduceIte, FV, tyC, tyX0, tyX1, tyX2, tyX3, tyX4, tyX5, tyX6, tyX7, tyX8, tyX9, tyX10, Nat.reduceMul, c_le, c_lt, c_eq, c_in, c_cl, c_add, c_rem, c_ofN, Int32.add_zero, Int32.zero_add, c_lt0, c_ge0, c_le0, c_gt0, c_e0, c_m1, c_m1', false_implies, true_implies, implies_true, not_false_eq_true, not_true_eq_false, Nat.not_lt_zero, up_s, up_1, up_m, ff9_receive, bb9_receive_0, e0, t1]
  refine sp1_push h.2.2.2.1 h.2.1 (by omega) (fun w1 g1 f1 => ?_)
  have X1 := h.hist g1 f1
  obtain ⟨e0, ⟨v', e1, -⟩, e2, e3, bt, e4⟩ := X1.cells
  obtain ⟨-, -, -, -, ⟨p, s, e, r1⟩, -⟩ := X1.more
  unfold holdL
  simp only [List.getElem?_cons_zero, List.getElem?_cons_succ, fv4, Nat.reduceAdd, Nat.reduceSub, wp, pst, stp, LG, lput, ls_tl, two, bc, EL, pad, popN, csum, Option.toList, List.cons_append, List.nil_append, List.set_cons_zero, List.set_cons_succ, List.length_cons, List.length_nil, true_and, and_true, Nat.reduceLT, Nat.reduceLeDiff, Nat.zero_le, Nat.le_refl, RI_i, RI_z0, RI_z1, Int32.reduceOfInt, Int8.reduceOfInt, Int16.reduceOfInt, Int64.reduceOfInt, Int8.toInt32_ofNat, Int16.toInt32_ofNat, Int.reduceNeg, Int32.ofInt_neg, Int8.ofInt_neg, Int16.ofInt_neg, Int32.toInt64_ofNat, Int32.reduceToNatClampNeg, Fin.isValue, Fin.val_one, Fin.val_zero, Fin.val_two, Int64.reduceOfNat, Int32.reduceOfNat, hdl, cutc, Nat.reduceEqDiff, reduceIte, FV, tyC, tyX0, tyX1, tyX2, tyX3, tyX4, tyX5, tyX6, tyX7, tyX8, tyX9, tyX10, Nat.reduceMul, c_le, c_lt, c_eq, c_in, c_cl, c_add, c_rem, c_ofN, Int32.add_zero, Int32.zero_add, c_lt0, c_ge0, c_le0, c_gt0, c_e0, c_m1, c_m1', false_implies, true_implies, implies_true, not_false_eq_true, not_true_eq_false, Nat.not_lt_zero, up_s, up_1, up_m, ff9_receive, bb9_receive_0, e0, e1, e2, e3, e4, r1]
  refine sp5_readAll X1.2.1.2.1 X1.2.1.2.2.1 k4 _ (by omega) k2 r1 (by omega) (by omega) (by omega) (fun w2 p' s' e' g2 g3 f2 => ?_)
  have X2 := X1.read g2 g3 f2
  obtain ⟨e0, ⟨v', e1, -⟩, e2, e3, bt, e4⟩ := X2.cells
  unfold holdL
  simp only [List.getElem?_cons_zero, List.getElem?_cons_succ, fv4, Nat.reduceAdd, Nat.reduceSub, wp, pst, stp, LG, lput, ls_tl, two, bc, EL, pad, popN, csum, Option.toList, List.cons_append, List.nil_append, List.set_cons_zero, List.set_cons_succ, List.length_cons, List.length_nil, true_and, and_true, Nat.reduceLT, Nat.reduceLeDiff, Nat.zero_le, Nat.le_refl, RI_i, RI_z0, RI_z1, Int32.reduceOfInt, Int8.reduceOfInt, Int16.reduceOfInt, Int64.reduceOfInt, Int8.toInt32_ofNat, Int16.toInt32_ofNat, Int.reduceNeg, Int32.ofInt_neg, Int8.ofInt_neg, Int16.ofInt_neg, Int32.toInt64_ofNat, Int32.reduceToNatClampNeg, Fin.isValue, Fin.val_one, Fin.val_zero, Fin.val_two, Int64.reduceOfNat, Int32.reduceOfNat, hdl, cutc, Nat.reduceEqDiff, reduceIte, FV, tyC, tyX0, tyX1, tyX2, tyX3, tyX4, tyX5, tyX6, tyX7, tyX8, tyX9, tyX10, Nat.reduceMul, c_le, c_lt, c_eq, c_in, c_cl, c_add, c_rem, c_ofN, Int32.add_zero, Int32.zero_add, c_lt0, c_ge0, c_le0, c_gt0, c_e0, c_m1, c_m1', false_implies, true_implies, implies_true, not_false_eq_true, not_true_eq_false, Nat.not_lt_zero, up_s, up_1, up_m, ff9_receive, bb9_receive_0, e0, e1, e2, e3, e4]
  refine sp6_count X2.2.1.2.2.1 ?_
  unfold holdL
  simp only [List.getElem?_cons_zero, List.getElem?_cons_succ, fv4, Nat.reduceAdd, Nat.reduceSub, wp, pst, stp, LG, lput, ls_tl, two, bc, EL, pad, popN, csum, Option.toList, List.cons_append, List.nil_append, List.set_cons_zero, List.set_cons_succ, List.length_cons, List.length_nil, true_and, and_true, Nat.reduceLT, Nat.reduceLeDiff, Nat.zero_le, Nat.le_refl, RI_i, RI_z0, RI_z1, Int32.reduceOfInt, Int8.reduceOfInt, Int16.reduceOfInt, Int64.reduceOfInt, Int8.toInt32_ofNat, Int16.toInt32_ofNat, Int.reduceNeg, Int32.ofInt_neg, Int8.ofInt_neg, Int16.ofInt_neg, Int32.toInt64_ofNat, Int32.reduceToNatClampNeg, Fin.isValue, Fin.val_one, Fin.val_zero, Fin.val_two, Int64.reduceOfNat, Int32.reduceOfNat, hdl, cutc, Nat.reduceEqDiff, reduceIte, FV, tyC, tyX0, tyX1, tyX2, tyX3, tyX4, tyX5, tyX6, tyX7, tyX8, tyX9, tyX10, Nat.reduceMul, c_le, c_lt, c_eq, c_in, c_cl, c_add, c_rem, c_ofN, Int32.add_zero, Int32.zero_add, c_lt0, c_ge0, c_le0, c_gt0, c_e0, c_m1, c_m1', false_implies, true_implies, implies_true, not_false_eq_true, not_true_eq_false, Nat.not_lt_zero, up_s, up_1, up_m, ff9_receive, bb9_receive_0]
  exact h1 w2 X2 ((f1.wid (by omega) (by omega)).tr (f2.one (by omega) (by omega) (by omega) (by omega)))
theorem UOK.txt {U : US} (h : UOK U) : ∀ v ∈ us_B U, v < 1000 := fun v hv => by
  have := h.2.2.2.2.1 v hv
  omega
theorem sp9_undo (h : XU w x U) (hU : UOK U) (h1 : (o_undo U).1 = 0 → ∀ w', XU w' x (o_undo U).2.2 → Fr w w' x 77 → Q (some (.int (nI (o_undo U).2.1))) none w') (h0 : (o_undo U).1 ≠ 0 → ∀ w', XU w' x U → Fr w w' x 77 → QX (xc [eIS] (o_undo U).1) w') : SpX Γ m9_undo [.ref x] none w Q QX := by
  have h' := h
  unfold XU at h
  unfold o_undo at h1 h0
  obtain ⟨e0, -⟩ := h.cells
  obtain ⟨⟨o, t1⟩, -⟩ := h.more
  have hT := hU.2.2.2.1
  have b1 : (us_T U).length < 2147483648 := by omega
  refine entryX Γ m9_undo rfl _ (Nat.le_of_ble_eq_true rfl) _ _ _ _ ?_
  refine wp_ok kd9_undo 400 0 bb9_undo_0 _ _ _ _ _ _ oo9_undo_0 ?_
  simp only [List.getElem?_cons_zero, List.getElem?_cons_succ, fv4, Nat.reduceAdd, Nat.reduceSub, wp, pst, stp, LG, lput, ls_tl, two, bc, EL, pad, popN, csum, Option.toList, List.cons_append, List.nil_append, List.set_cons_zero, List.set_cons_succ, List.length_cons, List.length_nil, true_and, and_true, Nat.reduceLT, Nat.reduceLeDiff, Nat.zero_le, Nat.le_refl, RI_i, RI_z0, RI_z1, Int32.reduceOfInt, Int8.reduceOfInt, Int16.reduceOfInt, Int64.reduceOfInt, Int8.toInt32_ofNat, Int16.toInt32_ofNat, Int.reduceNeg, Int32.ofInt_neg, Int8.ofInt_neg, Int16.ofInt_neg, Int32.toInt64_ofNat, Int32.reduceToNatClampNeg, Fin.isValue, Fin.val_one, Fin.val_zero, Fin.val_two, Int64.reduceOfNat, Int32.reduceOfNat, hdl, cutc, Nat.reduceEqDiff, reduceIte, FV, tyC, tyX0, tyX1, tyX2, tyX3, tyX4, tyX5, tyX6, tyX7, tyX8, tyX9, tyX10, Nat.reduceMul, c_le, c_lt, c_eq, c_in, c_cl, c_add, c_rem, c_ofN, Int32.add_zero, Int32.zero_add, c_lt0, c_ge0, c_le0, c_gt0, c_e0, c_m1, c_m1', false_implies, true_implies, implies_true, not_false_eq_true, not_true_eq_false, Nat.not_lt_zero, up_s, up_1, up_m, ff9_undo, bb9_undo_0, bb9_undo_20, e0, t1, b1, kX]
  refine ⟨fun hz => ?_, fun hz => ?_⟩
  · have hne : us_T U ≠ [] := fun q => hz (by rw [q]; rfl)
    rw [dif_pos hne] at h1
    refine sp1_popInto h.2.2.2.1 h.2.1 hne (by omega) (fun w1 g1 g2 f1 => ?_)
    have hF : Fr2 w w1 (x + 19) 1 (x + 1) 9 := f1
    obtain ⟨w0, f2, f3⟩ := hF.split
    have X1 := (h.hist (w' := w0) (g1.fr f3.sym (by omega)) (f2.wid (by omega) (by omega))).state g2 f3
    obtain ⟨e0, -⟩ := X1.cells
    obtain ⟨⟨o, t1⟩, -⟩ := X1.more
    unfold holdL
    simp only [List.getElem?_cons_zero, List.getElem?_cons_succ, fv4, Nat.reduceAdd, Nat.reduceSub, wp, pst, stp, LG, lput, ls_tl, two, bc, EL, pad, popN, csum, Option.toList, List.cons_append, List.nil_append, List.set_cons_zero, List.set_cons_succ, List.length_cons, List.length_nil, true_and, and_true, Nat.reduceLT, Nat.reduceLeDiff, Nat.zero_le, Nat.le_refl, RI_i, RI_z0, RI_z1, Int32.reduceOfInt, Int8.reduceOfInt, Int16.reduceOfInt, Int64.reduceOfInt, Int8.toInt32_ofNat, Int16.toInt32_ofNat, Int.reduceNeg, Int32.ofInt_neg, Int8.ofInt_neg, Int16.ofInt_neg, Int32.toInt64_ofNat, Int32.reduceToNatClampNeg, Fin.isValue, Fin.val_one, Fin.val_zero, Fin.val_two, Int64.reduceOfNat, Int32.reduceOfNat, hdl, cutc, Nat.reduceEqDiff, reduceIte, FV, tyC, tyX0, tyX1, tyX2, tyX3, tyX4, tyX5, tyX6, tyX7, tyX8, tyX9, tyX10, Nat.reduceMul, c_le, c_lt, c_eq, c_in, c_cl, c_add, c_rem, c_ofN, Int32.add_zero, Int32.zero_add, c_lt0, c_ge0, c_le0, c_gt0, c_e0, c_m1, c_m1', false_implies, true_implies, implies_true, not_false_eq_true, not_true_eq_false, Nat.not_lt_zero, up_s, up_1, up_m, ff9_undo, bb9_undo_0, bb9_undo_20, e0, t1]
    rw [List.length_dropLast]
    exact h1 rfl w1 X1 (hF.one (by omega) (by omega) (by omega) (by omega))
  · rw [dif_neg (fun q => hz (fun q2 => q (List.eq_nil_of_length_eq_zero q2)))] at h0
    exact h0 (Nat.succ_ne_zero _) w h' Fr.rf
theorem sp9_stoppedPart (h : XU w x U) (h1 : ∀ k, a_st (us_S U) = some k → Q (some (.int (nI k))) none w) (h0 : a_st (us_S U) = none → QX eIS w) : SpX Γ m9_stoppedPart [.ref x] none w Q QX := by
  have h' := h
  unfold XU at h
  obtain ⟨e0, ⟨v', e1, hv⟩, e2, e3, e4⟩ := h.cells
  refine entryX Γ m9_stoppedPart rfl _ (Nat.le_of_ble_eq_true rfl) _ _ _ _ ?_
  refine wp_ok kd9_stoppedPart 400 0 bb9_stoppedPart_0 _ _ _ _ _ _ oo9_stoppedPart_0 ?_
  cases hN : a_st (us_S U) with
  | none =>
    rw [hN] at e1
    unfold stI at e1
    dsimp only at e1
    simp only [List.getElem?_cons_zero, List.getElem?_cons_succ, fv4, Nat.reduceAdd, Nat.reduceSub, wp, pst, stp, LG, lput, ls_tl, two, bc, EL, pad, popN, csum, Option.toList, List.cons_append, List.nil_append, List.set_cons_zero, List.set_cons_succ, List.length_cons, List.length_nil, true_and, and_true, Nat.reduceLT, Nat.reduceLeDiff, Nat.zero_le, Nat.le_refl, RI_i, RI_z0, RI_z1, Int32.reduceOfInt, Int8.reduceOfInt, Int16.reduceOfInt, Int64.reduceOfInt, Int8.toInt32_ofNat, Int16.toInt32_ofNat, Int.reduceNeg, Int32.ofInt_neg, Int8.ofInt_neg, Int16.ofInt_neg, Int32.toInt64_ofNat, Int32.reduceToNatClampNeg, Fin.isValue, Fin.val_one, Fin.val_zero, Fin.val_two, Int64.reduceOfNat, Int32.reduceOfNat, hdl, cutc, Nat.reduceEqDiff, reduceIte, FV, tyC, tyX0, tyX1, tyX2, tyX3, tyX4, tyX5, tyX6, tyX7, tyX8, tyX9, tyX10, Nat.reduceMul, c_le, c_lt, c_eq, c_in, c_cl, c_add, c_rem, c_ofN, Int32.add_zero, Int32.zero_add, c_lt0, c_ge0, c_le0, c_gt0, c_e0, c_m1, c_m1', false_implies, true_implies, implies_true, not_false_eq_true, not_true_eq_false, Nat.not_lt_zero, up_s, up_1, up_m, ff9_stoppedPart, bb9_stoppedPart_0, bb9_stoppedPart_20, e0, e1, kX]
    exact h0 hN
  | some k =>
    rw [hN] at e1
    unfold stI at e1
    dsimp only at e1
    simp only [List.getElem?_cons_zero, List.getElem?_cons_succ, fv4, Nat.reduceAdd, Nat.reduceSub, wp, pst, stp, LG, lput, ls_tl, two, bc, EL, pad, popN, csum, Option.toList, List.cons_append, List.nil_append, List.set_cons_zero, List.set_cons_succ, List.length_cons, List.length_nil, true_and, and_true, Nat.reduceLT, Nat.reduceLeDiff, Nat.zero_le, Nat.le_refl, RI_i, RI_z0, RI_z1, Int32.reduceOfInt, Int8.reduceOfInt, Int16.reduceOfInt, Int64.reduceOfInt, Int8.toInt32_ofNat, Int16.toInt32_ofNat, Int.reduceNeg, Int32.ofInt_neg, Int8.ofInt_neg, Int16.ofInt_neg, Int32.toInt64_ofNat, Int32.reduceToNatClampNeg, Fin.isValue, Fin.val_one, Fin.val_zero, Fin.val_two, Int64.reduceOfNat, Int32.reduceOfNat, hdl, cutc, Nat.reduceEqDiff, reduceIte, FV, tyC, tyX0, tyX1, tyX2, tyX3, tyX4, tyX5, tyX6, tyX7, tyX8, tyX9, tyX10, Nat.reduceMul, c_le, c_lt, c_eq, c_in, c_cl, c_add, c_rem, c_ofN, Int32.add_zero, Int32.zero_add, c_lt0, c_ge0, c_le0, c_gt0, c_e0, c_m1, c_m1', false_implies, true_implies, implies_true, not_false_eq_true, not_true_eq_false, Nat.not_lt_zero, up_s, up_1, up_m, ff9_stoppedPart, bb9_stoppedPart_0, bb9_stoppedPart_20, e0, e1, n10]
    rw [hv k hN]
    exact h1 k hN
end OPS

/-! HISTORY -/
/-- the saved states at h, oldest first -/
def HsR (w : PW) (h : Nat) (T : List AS) : Prop := ∃ (o : Nat) (rf : Nat → Option Nat) (Sk : Nat → AS), w h = some (.inr (1, [.int (nI T.length), .int (nI o), .ref (h + 1)])) ∧ w (h + 1) = some (.inl (2, 5, .inr (.inr (.inr (.inr rf))))) ∧ o < 5 ∧ T.length ≤ 5 ∧
  (∀ k, k < 5 → rf k = some (h + 2 + 9 * k) ∧ StR w (h + 2 + 9 * k) (Sk k)) ∧ ∀ j, j < T.length → T[j]? = some (Sk ((o + j) % 5))
theorem HsR.fr {w w' : PW} {h lo n : Nat} {T : List AS} (hh : HsR w h T) (hf : Fr w w' lo n) (hd : h + 47 ≤ lo ∨ lo + n ≤ h) : HsR w' h T := by
  obtain ⟨o, rf, Sk, h1, h2, h3, h4, h5, h6⟩ := hh
  exact ⟨o, rf, Sk, by rw [hf h (by omega)]; exact h1, by rw [hf (h + 1) (by omega)]; exact h2, h3, h4, fun k hk => ⟨(h5 k hk).1, (h5 k hk).2.fr hf (by omega)⟩, h6⟩
/-- a state saved -/
def pushT (T : List AS) (S : AS) : List AS := if T.length = 5 then T.tail ++ [S] else T ++ [S]
section HIST
variable {Γ : Amb} {w : PW} {Q : Option Value → Option Nat → PW → Prop} {h : Nat} {T : List AS}
theorem sp1_slot {cv : Int32} {o g : Nat} {rf : Nat → Option Nat} (e1 : w h = some (.inr (1, [.int cv, .int (nI o), .ref (h + 1)]))) (e2 : w (h + 1) = some (.inl (2, 5, .inr (.inr (.inr (.inr rf)))))) (ho : o < 5) (hg : g < 10) (hr : ∀ k, k < 5 → rf k = some (h + 2 + 9 * k)) (hQ : Q (some (.ref (h + 2 + 9 * ((o + g) % 5)))) none w) : Sp Γ m1_slot [.ref h, .int (nI g)] none w Q := by
  have b1 : o + g < 2147483648 := by omega
  have b2 : (o + g) % 5 < 2147483648 := by omega
  have b3 : (o + g) % 5 < 5 := by omega
  refine entry Γ m1_slot rfl _ (Nat.le_of_ble_eq_true rfl) _ _ _ ?_
  refine wp_ok kd1_slot 400 0 bb1_slot_0 _ _ _ _ _ _ oo1_slot_0 ?_
  simp only [List.getElem?_cons_zero, List.getElem?_cons_succ, fv4, Nat.reduceAdd, Nat.reduceSub, wp, pst, stp, LG, lput, ls_tl, two, bc, EL, pad, popN, csum, Option.toList, List.cons_append, List.nil_append, List.set_cons_zero, List.set_cons_succ, List.length_cons, List.length_nil, true_and, and_true, Nat.reduceLT, Nat.reduceLeDiff, Nat.zero_le, Nat.le_refl, RI_i, RI_z0, RI_z1, Int32.reduceOfInt, Int8.reduceOfInt, Int16.reduceOfInt, Int64.reduceOfInt, Int8.toInt32_ofNat, Int16.toInt32_ofNat, Int.reduceNeg, Int32.ofInt_neg, Int8.ofInt_neg, Int16.ofInt_neg, Int32.toInt64_ofNat, Int32.reduceToNatClampNeg, Fin.isValue, Fin.val_one, Fin.val_zero, Fin.val_two, Int64.reduceOfNat, Int32.reduceOfNat, hdl, cutc, Nat.reduceEqDiff, reduceIte, FV, tyC, tyX0, tyX1, tyX2, tyX3, tyX4, tyX5, tyX6, tyX7, tyX8, tyX9, tyX10, Nat.reduceMul, c_le, c_lt, c_eq, c_in, c_cl, c_add, c_rem, c_ofN, Int32.add_zero, Int32.zero_add, c_lt0, c_ge0, c_le0, c_gt0, c_e0, c_m1, c_m1', false_implies, true_implies, implies_true, not_false_eq_true, not_true_eq_false, Nat.not_lt_zero, up_s, up_1, up_m, ff1_slot, bb1_slot_0, bb1_slot_31, bb1_slot_32, cl_5, ca_5, e1, e2, b1, b2, b3, Nat.not_le.mpr b3, hr _ b3, va_rf]
  first | exact hQ | exact ⟨by decide, hQ⟩
theorem sp1_push {a : Nat} {S : AS} (hP : HsR w h T) (hS : StR w a S) (hd : a + 9 ≤ h ∨ h + 47 ≤ a) (hQ : ∀ w', HsR w' h (pushT T S) → Fr w w' h 47 → Q none none w') : Sp Γ m1_push [.ref h, .ref a] none w Q := by
  obtain ⟨o, rf, Sk, e1, e2, e3, e4, e5, e6⟩ := hP
  have b1 : T.length < 2147483648 := by omega
  have b2 : o + 1 < 2147483648 := by omega
  have hr : ∀ k, k < 5 → rf k = some (h + 2 + 9 * k) := fun k hk => (e5 k hk).1
  refine entry Γ m1_push rfl _ (Nat.le_of_ble_eq_true rfl) _ _ _ ?_
  refine wp_ok kd1_push 400 0 bb1_push_0 _ _ _ _ _ _ oo1_push_0 ?_
  simp only [List.getElem?_cons_zero, List.getElem?_cons_succ, fv4, Nat.reduceAdd, Nat.reduceSub, wp, pst, stp, LG, lput, ls_tl, two, bc, EL, pad, popN, csum, Option.toList, List.cons_append, List.nil_append, List.set_cons_zero, List.set_cons_succ, List.length_cons, List.length_nil, true_and, and_true, Nat.reduceLT, Nat.reduceLeDiff, Nat.zero_le, Nat.le_refl, RI_i, RI_z0, RI_z1, Int32.reduceOfInt, Int8.reduceOfInt, Int16.reduceOfInt, Int64.reduceOfInt, Int8.toInt32_ofNat, Int16.toInt32_ofNat, Int.reduceNeg, Int32.ofInt_neg, Int8.ofInt_neg, Int16.ofInt_neg, Int32.toInt64_ofNat, Int32.reduceToNatClampNeg, Fin.isValue, Fin.val_one, Fin.val_zero, Fin.val_two, Int64.reduceOfNat, Int32.reduceOfNat, hdl, cutc, Nat.reduceEqDiff, reduceIte, FV, tyC, tyX0, tyX1, tyX2, tyX3, tyX4, tyX5, tyX6, tyX7, tyX8, tyX9, tyX10, Nat.reduceMul, c_le, c_lt, c_eq, c_in, c_cl, c_add, c_rem, c_ofN, Int32.add_zero, Int32.zero_add, c_lt0, c_ge0, c_le0, c_gt0, c_e0, c_m1, c_m1', false_implies, true_implies, implies_true, not_false_eq_true, not_true_eq_false, Nat.not_lt_zero, up_s, up_1, up_m, ff1_push, bb1_push_0, bb1_push_30, cl_1, ca_1, cl_5, ca_5, e1, b1, b2, up_u]
  refine ⟨fun h5 => ?_, fun h5 => ?_⟩
  · refine sp1_slot e1 e2 e3 (by omega) hr ?_
    have hk : (o + T.length) % 5 < 5 := by omega
    obtain ⟨-, -, -, v0, y0, -⟩ := (e5 _ hk).2
    unfold holdL
    simp only [List.getElem?_cons_zero, List.getElem?_cons_succ, fv4, Nat.reduceAdd, Nat.reduceSub, wp, pst, stp, LG, lput, ls_tl, two, bc, EL, pad, popN, csum, Option.toList, List.cons_append, List.nil_append, List.set_cons_zero, List.set_cons_succ, List.length_cons, List.length_nil, true_and, and_true, Nat.reduceLT, Nat.reduceLeDiff, Nat.zero_le, Nat.le_refl, RI_i, RI_z0, RI_z1, Int32.reduceOfInt, Int8.reduceOfInt, Int16.reduceOfInt, Int64.reduceOfInt, Int8.toInt32_ofNat, Int16.toInt32_ofNat, Int.reduceNeg, Int32.ofInt_neg, Int8.ofInt_neg, Int16.ofInt_neg, Int32.toInt64_ofNat, Int32.reduceToNatClampNeg, Fin.isValue, Fin.val_one, Fin.val_zero, Fin.val_two, Int64.reduceOfNat, Int32.reduceOfNat, hdl, cutc, Nat.reduceEqDiff, reduceIte, FV, tyC, tyX0, tyX1, tyX2, tyX3, tyX4, tyX5, tyX6, tyX7, tyX8, tyX9, tyX10, Nat.reduceMul, c_le, c_lt, c_eq, c_in, c_cl, c_add, c_rem, c_ofN, Int32.add_zero, Int32.zero_add, c_lt0, c_ge0, c_le0, c_gt0, c_e0, c_m1, c_m1', false_implies, true_implies, implies_true, not_false_eq_true, not_true_eq_false, Nat.not_lt_zero, up_s, up_1, up_m, ff1_push, bb1_push_0, bb1_push_30, cl_1, ca_1, cl_5, ca_5, y0]
    refine sp7_copyFrom (e5 _ hk).2 hS (by omega) (fun w1 h1 f1 => ?_)
    unfold holdL
    simp only [List.getElem?_cons_zero, List.getElem?_cons_succ, fv4, Nat.reduceAdd, Nat.reduceSub, wp, pst, stp, LG, lput, ls_tl, two, bc, EL, pad, popN, csum, Option.toList, List.cons_append, List.nil_append, List.set_cons_zero, List.set_cons_succ, List.length_cons, List.length_nil, true_and, and_true, Nat.reduceLT, Nat.reduceLeDiff, Nat.zero_le, Nat.le_refl, RI_i, RI_z0, RI_z1, Int32.reduceOfInt, Int8.reduceOfInt, Int16.reduceOfInt, Int64.reduceOfInt, Int8.toInt32_ofNat, Int16.toInt32_ofNat, Int.reduceNeg, Int32.ofInt_neg, Int8.ofInt_neg, Int16.ofInt_neg, Int32.toInt64_ofNat, Int32.reduceToNatClampNeg, Fin.isValue, Fin.val_one, Fin.val_zero, Fin.val_two, Int64.reduceOfNat, Int32.reduceOfNat, hdl, cutc, Nat.reduceEqDiff, reduceIte, FV, tyC, tyX0, tyX1, tyX2, tyX3, tyX4, tyX5, tyX6, tyX7, tyX8, tyX9, tyX10, Nat.reduceMul, c_le, c_lt, c_eq, c_in, c_cl, c_add, c_rem, c_ofN, Int32.add_zero, Int32.zero_add, c_lt0, c_ge0, c_le0, c_gt0, c_e0, c_m1, c_m1', false_implies, true_implies, implies_true, not_false_eq_true, not_true_eq_false, Nat.not_lt_zero, up_s, up_1, up_m, ff1_push, bb1_push_0, bb1_push_30, cl_1, ca_1, cl_5, ca_5, (f1.at (show h < h + 2 + 9 * ((o + T.length) % 5) ∨ _ by omega)).trans e1]
    have f2 : ∀ e, Fr w1 (up w1 h e) h 1 := fun e => Fr.wr (by omega) (by omega)
    refine hQ _ ⟨o, rf, fun k => if k = (o + T.length) % 5 then S else Sk k, ?_, ?_, e3, ?_, fun k hk2 => ⟨hr k hk2, ?_⟩, fun j hj => ?_⟩ ((f1.wid (by omega) (by omega)).tr ((f2 _).wid (by omega) (by omega)))
    · rw [up_s, pushT, if_neg (by omega), List.length_append]; rfl
    · rw [up_1, f1.at (by omega)]; exact e2
    · rw [pushT, if_neg (by omega), List.length_append]; simp; omega
    · by_cases q : k = (o + T.length) % 5
      · subst q; dsimp only; rw [if_pos rfl]; exact h1.fr (f2 _) (by omega)
      · dsimp only; rw [if_neg q]; exact ((e5 k hk2).2.fr f1 (by omega)).fr (f2 _) (by omega)
    · rw [pushT, if_neg (by omega)] at hj ⊢
      rw [List.length_append] at hj
      simp only [List.length_cons, List.length_nil] at hj
      by_cases q : j = T.length
      · subst q; dsimp only; rw [if_pos rfl]; simp
      · dsimp only; rw [if_neg (by omega), List.getElem?_append_left (by omega)]; exact e6 j (by omega)
  · have hT : T.length = 5 := by omega
    rw [show nI T.length - 1 = nI 4 by rw [hT]; rfl]
    have ho : (o + 1) % 5 < 5 := by omega
    have hk : ((o + 1) % 5 + 4) % 5 < 5 := by omega
    refine ⟨by decide, ?_⟩
    refine sp1_slot (up_s _ _ _) (by rw [up_1]; exact e2) ho (by omega) hr ?_
    have f0 : ∀ e, Fr w (up w h e) h 1 := fun e => Fr.wr (by omega) (by omega)
    have q5 := (e5 _ hk).2.fr (f0 (.inr (1, [.int (nI 4), .int (nI ((o + 1) % 5)), .ref (h + 1)]))) (by omega)
    obtain ⟨-, -, -, v0, y0, -⟩ := id q5
    unfold holdL
    simp only [List.getElem?_cons_zero, List.getElem?_cons_succ, fv4, Nat.reduceAdd, Nat.reduceSub, wp, pst, stp, LG, lput, ls_tl, two, bc, EL, pad, popN, csum, Option.toList, List.cons_append, List.nil_append, List.set_cons_zero, List.set_cons_succ, List.length_cons, List.length_nil, true_and, and_true, Nat.reduceLT, Nat.reduceLeDiff, Nat.zero_le, Nat.le_refl, RI_i, RI_z0, RI_z1, Int32.reduceOfInt, Int8.reduceOfInt, Int16.reduceOfInt, Int64.reduceOfInt, Int8.toInt32_ofNat, Int16.toInt32_ofNat, Int.reduceNeg, Int32.ofInt_neg, Int8.ofInt_neg, Int16.ofInt_neg, Int32.toInt64_ofNat, Int32.reduceToNatClampNeg, Fin.isValue, Fin.val_one, Fin.val_zero, Fin.val_two, Int64.reduceOfNat, Int32.reduceOfNat, hdl, cutc, Nat.reduceEqDiff, reduceIte, FV, tyC, tyX0, tyX1, tyX2, tyX3, tyX4, tyX5, tyX6, tyX7, tyX8, tyX9, tyX10, Nat.reduceMul, c_le, c_lt, c_eq, c_in, c_cl, c_add, c_rem, c_ofN, Int32.add_zero, Int32.zero_add, c_lt0, c_ge0, c_le0, c_gt0, c_e0, c_m1, c_m1', false_implies, true_implies, implies_true, not_false_eq_true, not_true_eq_false, Nat.not_lt_zero, up_s, up_1, up_m, ff1_push, bb1_push_0, bb1_push_30, cl_1, ca_1, cl_5, ca_5, y0]
    refine sp7_copyFrom q5 (hS.fr (f0 _) (by omega)) (by omega) (fun w1 h1 f1 => ?_)
    unfold holdL
    simp only [List.getElem?_cons_zero, List.getElem?_cons_succ, fv4, Nat.reduceAdd, Nat.reduceSub, wp, pst, stp, LG, lput, ls_tl, two, bc, EL, pad, popN, csum, Option.toList, List.cons_append, List.nil_append, List.set_cons_zero, List.set_cons_succ, List.length_cons, List.length_nil, true_and, and_true, Nat.reduceLT, Nat.reduceLeDiff, Nat.zero_le, Nat.le_refl, RI_i, RI_z0, RI_z1, Int32.reduceOfInt, Int8.reduceOfInt, Int16.reduceOfInt, Int64.reduceOfInt, Int8.toInt32_ofNat, Int16.toInt32_ofNat, Int.reduceNeg, Int32.ofInt_neg, Int8.ofInt_neg, Int16.ofInt_neg, Int32.toInt64_ofNat, Int32.reduceToNatClampNeg, Fin.isValue, Fin.val_one, Fin.val_zero, Fin.val_two, Int64.reduceOfNat, Int32.reduceOfNat, hdl, cutc, Nat.reduceEqDiff, reduceIte, FV, tyC, tyX0, tyX1, tyX2, tyX3, tyX4, tyX5, tyX6, tyX7, tyX8, tyX9, tyX10, Nat.reduceMul, c_le, c_lt, c_eq, c_in, c_cl, c_add, c_rem, c_ofN, Int32.add_zero, Int32.zero_add, c_lt0, c_ge0, c_le0, c_gt0, c_e0, c_m1, c_m1', false_implies, true_implies, implies_true, not_false_eq_true, not_true_eq_false, Nat.not_lt_zero, up_s, up_1, up_m, ff1_push, bb1_push_0, bb1_push_30, cl_1, ca_1, cl_5, ca_5, (f1.at (show h < h + 2 + 9 * (((o + 1) % 5 + 4) % 5) ∨ _ by omega)).trans (up_s w h _)]
    have f2 : ∀ e, Fr w1 (up w1 h e) h 1 := fun e => Fr.wr (by omega) (by omega)
    refine hQ _ ⟨(o + 1) % 5, rf, fun k => if k = ((o + 1) % 5 + 4) % 5 then S else Sk k, ?_, ?_, ho, ?_, fun k hk2 => ⟨hr k hk2, ?_⟩, fun j hj => ?_⟩ (((f0 _).wid (by omega) (by omega)).tr ((f1.wid (by omega) (by omega)).tr ((f2 _).wid (by omega) (by omega))))
    · rw [up_s, pushT, if_pos hT, List.length_append, List.length_tail, hT]; rfl
    · rw [up_1, f1.at (by omega), up_1]; exact e2
    · rw [pushT, if_pos hT, List.length_append, List.length_tail, hT]; exact Nat.le_refl 5
    · by_cases q : k = ((o + 1) % 5 + 4) % 5
      · subst q; dsimp only; rw [if_pos rfl]; exact h1.fr (f2 _) (by omega)
      · dsimp only; rw [if_neg q]; exact (((e5 k hk2).2.fr (f0 _) (by omega)).fr f1 (by omega)).fr (f2 _) (by omega)
    · rw [pushT, if_pos hT] at hj ⊢
      rw [List.length_append, List.length_tail, hT] at hj
      simp only [List.length_cons, List.length_nil] at hj
      by_cases q : j = 4
      · subst q; dsimp only; rw [if_pos rfl, List.getElem?_append_right (by simp [hT])]; simp [hT]
      · dsimp only
        rw [if_neg (by omega), List.getElem?_append_left (by simp [hT]; omega), List.getElem?_tail, e6 (j + 1) (by omega)]
        congr 2
        omega
theorem sp1_popInto {a : Nat} {S : AS} (hP : HsR w h T) (hS : StR w a S) (hne : T ≠ []) (hd : a + 9 ≤ h ∨ h + 47 ≤ a) (hQ : ∀ w', HsR w' h T.dropLast → StR w' a (T.getLast hne) → (∀ b, (b < h ∨ h + 1 ≤ b) → (b < a ∨ a + 9 ≤ b) → w' b = w b) → Q none none w') : Sp Γ m1_popInto [.ref h, .ref a] none w Q := by
  obtain ⟨o, rf, Sk, e1, e2, e3, e4, e5, e6⟩ := hP
  have hT : 0 < T.length := List.length_pos_iff.mpr hne
  have b1 : T.length < 2147483648 := by omega
  have hr : ∀ k, k < 5 → rf k = some (h + 2 + 9 * k) := fun k hk => (e5 k hk).1
  have hk : (o + (T.length - 1)) % 5 < 5 := by omega
  have hl : T.getLast hne = Sk ((o + (T.length - 1)) % 5) := by
    have := e6 (T.length - 1) (by omega)
    rw [List.getLast_eq_getElem, ← Option.some.injEq, ← List.getElem?_eq_getElem]
    exact this
  refine entry Γ m1_popInto rfl _ (Nat.le_of_ble_eq_true rfl) _ _ _ ?_
  refine wp_ok kd1_popInto 400 0 bb1_popInto_0 _ _ _ _ _ _ oo1_popInto_0 ?_
  simp only [List.getElem?_cons_zero, List.getElem?_cons_succ, fv4, Nat.reduceAdd, Nat.reduceSub, wp, pst, stp, LG, lput, ls_tl, two, bc, EL, pad, popN, csum, Option.toList, List.cons_append, List.nil_append, List.set_cons_zero, List.set_cons_succ, List.length_cons, List.length_nil, true_and, and_true, Nat.reduceLT, Nat.reduceLeDiff, Nat.zero_le, Nat.le_refl, RI_i, RI_z0, RI_z1, Int32.reduceOfInt, Int8.reduceOfInt, Int16.reduceOfInt, Int64.reduceOfInt, Int8.toInt32_ofNat, Int16.toInt32_ofNat, Int.reduceNeg, Int32.ofInt_neg, Int8.ofInt_neg, Int16.ofInt_neg, Int32.toInt64_ofNat, Int32.reduceToNatClampNeg, Fin.isValue, Fin.val_one, Fin.val_zero, Fin.val_two, Int64.reduceOfNat, Int32.reduceOfNat, hdl, cutc, Nat.reduceEqDiff, reduceIte, FV, tyC, tyX0, tyX1, tyX2, tyX3, tyX4, tyX5, tyX6, tyX7, tyX8, tyX9, tyX10, Nat.reduceMul, c_le, c_lt, c_eq, c_in, c_cl, c_add, c_rem, c_ofN, Int32.add_zero, Int32.zero_add, c_lt0, c_ge0, c_le0, c_gt0, c_e0, c_m1, c_m1', false_implies, true_implies, implies_true, not_false_eq_true, not_true_eq_false, Nat.not_lt_zero, up_s, up_1, up_m, ff1_popInto, bb1_popInto_0, bb1_popInto_37, cl_1, ca_1, e1, show nI T.length - 1 = nI (T.length - 1) from c_subr (b := 1) (by omega)]
  refine sp1_slot e1 e2 e3 (by omega) hr ?_
  obtain ⟨-, -, -, v0, y0, -⟩ := id hS
  unfold holdL
  simp only [List.getElem?_cons_zero, List.getElem?_cons_succ, fv4, Nat.reduceAdd, Nat.reduceSub, wp, pst, stp, LG, lput, ls_tl, two, bc, EL, pad, popN, csum, Option.toList, List.cons_append, List.nil_append, List.set_cons_zero, List.set_cons_succ, List.length_cons, List.length_nil, true_and, and_true, Nat.reduceLT, Nat.reduceLeDiff, Nat.zero_le, Nat.le_refl, RI_i, RI_z0, RI_z1, Int32.reduceOfInt, Int8.reduceOfInt, Int16.reduceOfInt, Int64.reduceOfInt, Int8.toInt32_ofNat, Int16.toInt32_ofNat, Int.reduceNeg, Int32.ofInt_neg, Int8.ofInt_neg, Int16.ofInt_neg, Int32.toInt64_ofNat, Int32.reduceToNatClampNeg, Fin.isValue, Fin.val_one, Fin.val_zero, Fin.val_two, Int64.reduceOfNat, Int32.reduceOfNat, hdl, cutc, Nat.reduceEqDiff, reduceIte, FV, tyC, tyX0, tyX1, tyX2, tyX3, tyX4, tyX5, tyX6, tyX7, tyX8, tyX9, tyX10, Nat.reduceMul, c_le, c_lt, c_eq, c_in, c_cl, c_add, c_rem, c_ofN, Int32.add_zero, Int32.zero_add, c_lt0, c_ge0, c_le0, c_gt0, c_e0, c_m1, c_m1', false_implies, true_implies, implies_true, not_false_eq_true, not_true_eq_false, Nat.not_lt_zero, up_s, up_1, up_m, ff1_popInto, bb1_popInto_0, bb1_popInto_37, cl_1, ca_1, e1, b1, y0]
  refine ⟨fun h' => absurd hT (by omega), fun _ => ?_⟩
  refine sp7_copyFrom hS (e5 _ hk).2 (by omega) (fun w1 h1 f1 => ?_)
  unfold holdL
  simp only [List.getElem?_cons_zero, List.getElem?_cons_succ, fv4, Nat.reduceAdd, Nat.reduceSub, wp, pst, stp, LG, lput, ls_tl, two, bc, EL, pad, popN, csum, Option.toList, List.cons_append, List.nil_append, List.set_cons_zero, List.set_cons_succ, List.length_cons, List.length_nil, true_and, and_true, Nat.reduceLT, Nat.reduceLeDiff, Nat.zero_le, Nat.le_refl, RI_i, RI_z0, RI_z1, Int32.reduceOfInt, Int8.reduceOfInt, Int16.reduceOfInt, Int64.reduceOfInt, Int8.toInt32_ofNat, Int16.toInt32_ofNat, Int.reduceNeg, Int32.ofInt_neg, Int8.ofInt_neg, Int16.ofInt_neg, Int32.toInt64_ofNat, Int32.reduceToNatClampNeg, Fin.isValue, Fin.val_one, Fin.val_zero, Fin.val_two, Int64.reduceOfNat, Int32.reduceOfNat, hdl, cutc, Nat.reduceEqDiff, reduceIte, FV, tyC, tyX0, tyX1, tyX2, tyX3, tyX4, tyX5, tyX6, tyX7, tyX8, tyX9, tyX10, Nat.reduceMul, c_le, c_lt, c_eq, c_in, c_cl, c_add, c_rem, c_ofN, Int32.add_zero, Int32.zero_add, c_lt0, c_ge0, c_le0, c_gt0, c_e0, c_m1, c_m1', false_implies, true_implies, implies_true, not_false_eq_true, not_true_eq_false, Nat.not_lt_zero, up_s, up_1, up_m, ff1_popInto, bb1_popInto_0, bb1_popInto_37, cl_1, ca_1, (f1.at (show h < a ∨ a + 9 ≤ h by omega)).trans e1, show nI T.length - 1 = nI (T.length - 1) from c_subr (b := 1) (by omega)]
  have f2 : ∀ e, Fr w1 (up w1 h e) h 1 := fun e => Fr.wr (by omega) (by omega)
  refine hQ _ ⟨o, rf, Sk, ?_, ?_, e3, ?_, fun k hk2 => ⟨hr k hk2, ?_⟩, fun j hj => ?_⟩ ?_ ?_
  · rw [up_s, List.length_dropLast]
  · rw [up_1, f1.at (by omega)]; exact e2
  · rw [List.length_dropLast]; omega
  · exact ((e5 k hk2).2.fr f1 (by omega)).fr (f2 _) (by omega)
  · rw [List.length_dropLast] at hj
    rw [List.getElem?_dropLast, if_pos hj]
    exact e6 j (by omega)
  · rw [hl]; exact h1.fr (f2 _) (by omega)
  · intro b hb1 hb2
    rw [up_n _ _ _ _ (by omega)]
    exact f1 b hb2
end HIST

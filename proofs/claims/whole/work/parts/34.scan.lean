/-! SCANNING A TEXT -/
def PSW (P : PS) (i : Nat) : Prop := P.1 ≤ 4 ∧ P.2.2.1 ≤ 32 ∧ P.2.2.2.2.1 ≤ i ∧ P.2.2.2.2.2.1 < 1000 ∧ P.2.2.2.2.2.2 < 1000
theorem PSW0 : PSW PS0 0 := ⟨by decide, by decide, by decide, by decide, by decide⟩
theorem pstp_w {P P' : PS} {k i : Nat} (h : pstp P k = some P') (hw : PSW P i) : PSW P' (i + 1) := by
  obtain ⟨ph, ki, pc, px, dg, pl, nu⟩ := P
  obtain ⟨w1, w2, w3, w4, w5⟩ := hw
  dsimp only at w1 w2 w3 w4 w5
  unfold pstp at h
  dsimp only at h
  have hE : ∀ A : PS, some A = some P' → PSW A (i + 1) → PSW P' (i + 1) := fun A e x => by cases e; exact x
  split at h
  · split at h
    · exact hE _ h ⟨by decide, by decide, Nat.zero_le _, by decide, by decide⟩
    · exact absurd h (by simp)
  · split at h
    · split at h
      · exact hE _ h ⟨by dsimp only; omega, w2, by dsimp only; omega, w4, w5⟩
      · split at h
        · exact hE _ h ⟨by dsimp only; omega, w2, by dsimp only; omega, w4, w5⟩
        · split at h
          · exact hE _ h ⟨by dsimp only; omega, w2, by dsimp only; omega, w4, w5⟩
          · exact absurd h (by simp)
    · split at h
      · split at h
        · exact hE _ h ⟨w1, by dsimp only; omega, by dsimp only; omega, w4, w5⟩
        · exact absurd h (by simp)
      · split at h
        · split at h
          · exact hE _ h ⟨by dsimp only; omega, w2, Nat.zero_le _, w4, w5⟩
          · split at h
            · rename_i hd
              unfold dgb at hd
              simp only [Bool.and_eq_true, decide_eq_true_eq] at hd
              exact hE _ h ⟨w1, w2, by dsimp only; omega, by dsimp only; omega, w5⟩
            · exact absurd h (by simp)
        · split at h
          · split at h
            · rename_i hd
              unfold dgb at hd
              simp only [Bool.and_eq_true, decide_eq_true_eq] at hd
              exact hE _ h ⟨w1, w2, by dsimp only; omega, w4, by dsimp only; omega⟩
            · exact absurd h (by simp)
          · exact absurd h (by simp)
/-- n characters from i on: how far it is right, and the scanner then -/
def pscan (T : List Nat) : Nat → Nat → PS → Nat × Option PS
  | 0, i, P => (i, some P)
  | n + 1, i, P =>
    match pstp P (T.getD i 0) with
    | none => (i, none)
    | some P' => pscan T n (i + 1) P'
section SCAN
variable {Γ : Amb} {w : PW} {Q : Option Value → Option Nat → PW → Prop} {b : Nat} {T : List Nat}
theorem sp3_firstWrong (hT : TxR w b T) (hS : ScR w (b + 2)) (hv : ∀ v ∈ T, v < 1000) (hQ : ∀ w', (∀ P, (pscan T T.length 0 PS0).2 = some P → w' (b + 2) = some (scp P) ∧ PSW P T.length) → ScR w' (b + 2) → Fr w w' (b + 2) 1 → Q (some (.int (nI (pscan T T.length 0 PS0).1))) none w') : Sp Γ m3_firstWrong [.ref b] none w Q := by
  obtain ⟨f, e1, e2, e3, e4⟩ := id hT
  have b1 : T.length < 2147483648 := by omega
  generalize hRES : pscan T T.length 0 PS0 = RES at hQ
  obtain ⟨_, _, _, _, _, _, _, hc⟩ := id hS
  unfold scr at hc
  have key : ∀ (n i : Nat) (P : PS) (w1 : PW), n + i = T.length → PSW P i → pscan T n i P = RES → w1 (b + 2) = some (scp P) → Fr w w1 (b + 2) 1 → G Γ m3_firstWrong Q (fun _ _ => False) 9 [some (.ref b), some (.int (nI i))] [] none w1 0 0 := by
    intro n
    induction n with
    | zero =>
      intro i P w1 hi hP hg h1 hF
      have b2 : i < 2147483648 := by omega
      simp only [pscan] at hg
      rw [← hg] at hQ
      have y1 := (hF.at (show b < b + 2 ∨ _ by omega)).trans e1
      have hq := hQ w1 (fun P2 h2 => by cases h2; exact ⟨h1, by rw [show T.length = i by omega]; exact hP⟩) ⟨_, _, _, _, _, _, _, h1⟩ hF
      rw [show i = T.length by omega] at hq
      refine wp_ok kd3_firstWrong 400 9 bb3_firstWrong_9 _ _ _ _ _ _ oo3_firstWrong_9 ?_
      simp only [List.getElem?_cons_zero, List.getElem?_cons_succ, fv4, Nat.reduceAdd, Nat.reduceSub, wp, pst, stp, LG, lput, ls_tl, two, bc, EL, pad, popN, csum, Option.toList, List.cons_append, List.nil_append, List.set_cons_zero, List.set_cons_succ, List.length_cons, List.length_nil, true_and, and_true, Nat.reduceLT, Nat.reduceLeDiff, Nat.zero_le, Nat.le_refl, RI_i, RI_z0, RI_z1, Int32.reduceOfInt, Int8.reduceOfInt, Int16.reduceOfInt, Int64.reduceOfInt, Int8.toInt32_ofNat, Int16.toInt32_ofNat, Int.reduceNeg, Int32.ofInt_neg, Int8.ofInt_neg, Int16.ofInt_neg, Int32.toInt64_ofNat, Int32.reduceToNatClampNeg, Fin.isValue, Fin.val_one, Fin.val_zero, Fin.val_two, Int64.reduceOfNat, Int32.reduceOfNat, hdl, cutc, Nat.reduceEqDiff, reduceIte, FV, tyC, tyX0, tyX1, tyX2, tyX3, tyX4, tyX5, tyX6, tyX7, tyX8, tyX9, tyX10, Nat.reduceMul, c_le, c_lt, c_eq, c_in, c_cl, c_add, c_rem, c_ofN, Int32.add_zero, Int32.zero_add, c_lt0, c_ge0, c_le0, c_gt0, c_e0, c_m1, c_m1', false_implies, true_implies, implies_true, not_false_eq_true, not_true_eq_false, Nat.not_lt_zero, up_s, up_1, up_m, ff3_firstWrong, bb3_firstWrong_0, bb3_firstWrong_9, bb3_firstWrong_34, bb3_firstWrong_40, cl_1, ca_1, y1, b1, b2]
      exact ⟨fun _ => hq, fun h => absurd h (by omega)⟩
    | succ n ih =>
      intro i P w1 hi hP hg h1 hF
      have b2 : i < 2147483648 := by omega
      simp only [pscan] at hg
      have y1 := (hF.at (show b < b + 2 ∨ _ by omega)).trans e1
      have hT1 := hT.fr hF (by omega)
      obtain ⟨p1, p2, p3, p4, p5⟩ := id hP
      have hk : T.getD i 0 < 1000 := by
        have := hv _ (List.mem_of_getElem? (getD_some (show i < T.length by omega)))
        exact this
      have h1' := h1
      unfold scp scr at h1'
      refine wp_ok kd3_firstWrong 400 9 bb3_firstWrong_9 _ _ _ _ _ _ oo3_firstWrong_9 ?_
      simp only [List.getElem?_cons_zero, List.getElem?_cons_succ, fv4, Nat.reduceAdd, Nat.reduceSub, wp, pst, stp, LG, lput, ls_tl, two, bc, EL, pad, popN, csum, Option.toList, List.cons_append, List.nil_append, List.set_cons_zero, List.set_cons_succ, List.length_cons, List.length_nil, true_and, and_true, Nat.reduceLT, Nat.reduceLeDiff, Nat.zero_le, Nat.le_refl, RI_i, RI_z0, RI_z1, Int32.reduceOfInt, Int8.reduceOfInt, Int16.reduceOfInt, Int64.reduceOfInt, Int8.toInt32_ofNat, Int16.toInt32_ofNat, Int.reduceNeg, Int32.ofInt_neg, Int8.ofInt_neg, Int16.ofInt_neg, Int32.toInt64_ofNat, Int32.reduceToNatClampNeg, Fin.isValue, Fin.val_one, Fin.val_zero, Fin.val_two, Int64.reduceOfNat, Int32.reduceOfNat, hdl, cutc, Nat.reduceEqDiff, reduceIte, FV, tyC, tyX0, tyX1, tyX2, tyX3, tyX4, tyX5, tyX6, tyX7, tyX8, tyX9, tyX10, Nat.reduceMul, c_le, c_lt, c_eq, c_in, c_cl, c_add, c_rem, c_ofN, Int32.add_zero, Int32.zero_add, c_lt0, c_ge0, c_le0, c_gt0, c_e0, c_m1, c_m1', false_implies, true_implies, implies_true, not_false_eq_true, not_true_eq_false, Nat.not_lt_zero, up_s, up_1, up_m, ff3_firstWrong, bb3_firstWrong_0, bb3_firstWrong_9, bb3_firstWrong_34, bb3_firstWrong_40, cl_1, ca_1, y1, b1, b2]
      refine ⟨fun h => absurd h (by omega), fun _ => ?_⟩
      refine sp3_codeAt hT1 i b2 (fun _ => ?_) (fun h => absurd h (by omega))
      unfold holdL
      simp only [List.getElem?_cons_zero, List.getElem?_cons_succ, fv4, Nat.reduceAdd, Nat.reduceSub, wp, pst, stp, LG, lput, ls_tl, two, bc, EL, pad, popN, csum, Option.toList, List.cons_append, List.nil_append, List.set_cons_zero, List.set_cons_succ, List.length_cons, List.length_nil, true_and, and_true, Nat.reduceLT, Nat.reduceLeDiff, Nat.zero_le, Nat.le_refl, RI_i, RI_z0, RI_z1, Int32.reduceOfInt, Int8.reduceOfInt, Int16.reduceOfInt, Int64.reduceOfInt, Int8.toInt32_ofNat, Int16.toInt32_ofNat, Int.reduceNeg, Int32.ofInt_neg, Int8.ofInt_neg, Int16.ofInt_neg, Int32.toInt64_ofNat, Int32.reduceToNatClampNeg, Fin.isValue, Fin.val_one, Fin.val_zero, Fin.val_two, Int64.reduceOfNat, Int32.reduceOfNat, hdl, cutc, Nat.reduceEqDiff, reduceIte, FV, tyC, tyX0, tyX1, tyX2, tyX3, tyX4, tyX5, tyX6, tyX7, tyX8, tyX9, tyX10, Nat.reduceMul, c_le, c_lt, c_eq, c_in, c_cl, c_add, c_rem, c_ofN, Int32.add_zero, Int32.zero_add, c_lt0, c_ge0, c_le0, c_gt0, c_e0, c_m1, c_m1', false_implies, true_implies, implies_true, not_false_eq_true, not_true_eq_false, Nat.not_lt_zero, up_s, up_1, up_m, ff3_firstWrong, bb3_firstWrong_0, bb3_firstWrong_9, bb3_firstWrong_34, bb3_firstWrong_40, cl_1, ca_1, y1, h1']
      refine sp4_accept P h1 _ hk p1 p2 (by omega) p4 p5 (fun P' hs w2 h2 f2 => ?_) (fun hs w2 h2 f2 => ?_)
      · rw [hs] at hg
        dsimp only at hg
        unfold holdL
        simp only [List.getElem?_cons_zero, List.getElem?_cons_succ, fv4, Nat.reduceAdd, Nat.reduceSub, wp, pst, stp, LG, lput, ls_tl, two, bc, EL, pad, popN, csum, Option.toList, List.cons_append, List.nil_append, List.set_cons_zero, List.set_cons_succ, List.length_cons, List.length_nil, true_and, and_true, Nat.reduceLT, Nat.reduceLeDiff, Nat.zero_le, Nat.le_refl, RI_i, RI_z0, RI_z1, Int32.reduceOfInt, Int8.reduceOfInt, Int16.reduceOfInt, Int64.reduceOfInt, Int8.toInt32_ofNat, Int16.toInt32_ofNat, Int.reduceNeg, Int32.ofInt_neg, Int8.ofInt_neg, Int16.ofInt_neg, Int32.toInt64_ofNat, Int32.reduceToNatClampNeg, Fin.isValue, Fin.val_one, Fin.val_zero, Fin.val_two, Int64.reduceOfNat, Int32.reduceOfNat, hdl, cutc, Nat.reduceEqDiff, reduceIte, FV, tyC, tyX0, tyX1, tyX2, tyX3, tyX4, tyX5, tyX6, tyX7, tyX8, tyX9, tyX10, Nat.reduceMul, c_le, c_lt, c_eq, c_in, c_cl, c_add, c_rem, c_ofN, Int32.add_zero, Int32.zero_add, c_lt0, c_ge0, c_le0, c_gt0, c_e0, c_m1, c_m1', false_implies, true_implies, implies_true, not_false_eq_true, not_true_eq_false, Nat.not_lt_zero, up_s, up_1, up_m, ff3_firstWrong, bb3_firstWrong_0, bb3_firstWrong_9, bb3_firstWrong_34, bb3_firstWrong_40, cl_1, ca_1, b2, dl1]
        exact ih (i + 1) P' w2 (by omega) (pstp_w hs hP) hg h2 (hF.tr f2)
      · rw [hs] at hg
        dsimp only at hg
        rw [← hg] at hQ
        unfold holdL
        simp only [List.getElem?_cons_zero, List.getElem?_cons_succ, fv4, Nat.reduceAdd, Nat.reduceSub, wp, pst, stp, LG, lput, ls_tl, two, bc, EL, pad, popN, csum, Option.toList, List.cons_append, List.nil_append, List.set_cons_zero, List.set_cons_succ, List.length_cons, List.length_nil, true_and, and_true, Nat.reduceLT, Nat.reduceLeDiff, Nat.zero_le, Nat.le_refl, RI_i, RI_z0, RI_z1, Int32.reduceOfInt, Int8.reduceOfInt, Int16.reduceOfInt, Int64.reduceOfInt, Int8.toInt32_ofNat, Int16.toInt32_ofNat, Int.reduceNeg, Int32.ofInt_neg, Int8.ofInt_neg, Int16.ofInt_neg, Int32.toInt64_ofNat, Int32.reduceToNatClampNeg, Fin.isValue, Fin.val_one, Fin.val_zero, Fin.val_two, Int64.reduceOfNat, Int32.reduceOfNat, hdl, cutc, Nat.reduceEqDiff, reduceIte, FV, tyC, tyX0, tyX1, tyX2, tyX3, tyX4, tyX5, tyX6, tyX7, tyX8, tyX9, tyX10, Nat.reduceMul, c_le, c_lt, c_eq, c_in, c_cl, c_add, c_rem, c_ofN, Int32.add_zero, Int32.zero_add, c_lt0, c_ge0, c_le0, c_gt0, c_e0, c_m1, c_m1', false_implies, true_implies, implies_true, not_false_eq_true, not_true_eq_false, Nat.not_lt_zero, up_s, up_1, up_m, ff3_firstWrong, bb3_firstWrong_0, bb3_firstWrong_9, bb3_firstWrong_34, bb3_firstWrong_40, cl_1, ca_1, b2]
        exact hQ w2 (fun P2 h => by cases h) h2 (hF.tr f2)
  refine entry Γ m3_firstWrong rfl _ (Nat.le_of_ble_eq_true rfl) _ _ _ ?_
  refine wp_ok kd3_firstWrong 400 0 bb3_firstWrong_0 _ _ _ _ _ _ oo3_firstWrong_0 ?_
  simp only [List.getElem?_cons_zero, List.getElem?_cons_succ, fv4, Nat.reduceAdd, Nat.reduceSub, wp, pst, stp, LG, lput, ls_tl, two, bc, EL, pad, popN, csum, Option.toList, List.cons_append, List.nil_append, List.set_cons_zero, List.set_cons_succ, List.length_cons, List.length_nil, true_and, and_true, Nat.reduceLT, Nat.reduceLeDiff, Nat.zero_le, Nat.le_refl, RI_i, RI_z0, RI_z1, Int32.reduceOfInt, Int8.reduceOfInt, Int16.reduceOfInt, Int64.reduceOfInt, Int8.toInt32_ofNat, Int16.toInt32_ofNat, Int.reduceNeg, Int32.ofInt_neg, Int8.ofInt_neg, Int16.ofInt_neg, Int32.toInt64_ofNat, Int32.reduceToNatClampNeg, Fin.isValue, Fin.val_one, Fin.val_zero, Fin.val_two, Int64.reduceOfNat, Int32.reduceOfNat, hdl, cutc, Nat.reduceEqDiff, reduceIte, FV, tyC, tyX0, tyX1, tyX2, tyX3, tyX4, tyX5, tyX6, tyX7, tyX8, tyX9, tyX10, Nat.reduceMul, c_le, c_lt, c_eq, c_in, c_cl, c_add, c_rem, c_ofN, Int32.add_zero, Int32.zero_add, c_lt0, c_ge0, c_le0, c_gt0, c_e0, c_m1, c_m1', false_implies, true_implies, implies_true, not_false_eq_true, not_true_eq_false, Nat.not_lt_zero, up_s, up_1, up_m, ff3_firstWrong, bb3_firstWrong_0, bb3_firstWrong_9, bb3_firstWrong_34, bb3_firstWrong_40, cl_1, ca_1, e1, hc]
  refine sp4_restart hS (fun w1 h1 f1 => ?_)
  unfold holdL
  simp only [List.getElem?_cons_zero, List.getElem?_cons_succ, fv4, Nat.reduceAdd, Nat.reduceSub, wp, pst, stp, LG, lput, ls_tl, two, bc, EL, pad, popN, csum, Option.toList, List.cons_append, List.nil_append, List.set_cons_zero, List.set_cons_succ, List.length_cons, List.length_nil, true_and, and_true, Nat.reduceLT, Nat.reduceLeDiff, Nat.zero_le, Nat.le_refl, RI_i, RI_z0, RI_z1, Int32.reduceOfInt, Int8.reduceOfInt, Int16.reduceOfInt, Int64.reduceOfInt, Int8.toInt32_ofNat, Int16.toInt32_ofNat, Int.reduceNeg, Int32.ofInt_neg, Int8.ofInt_neg, Int16.ofInt_neg, Int32.toInt64_ofNat, Int32.reduceToNatClampNeg, Fin.isValue, Fin.val_one, Fin.val_zero, Fin.val_two, Int64.reduceOfNat, Int32.reduceOfNat, hdl, cutc, Nat.reduceEqDiff, reduceIte, FV, tyC, tyX0, tyX1, tyX2, tyX3, tyX4, tyX5, tyX6, tyX7, tyX8, tyX9, tyX10, Nat.reduceMul, c_le, c_lt, c_eq, c_in, c_cl, c_add, c_rem, c_ofN, Int32.add_zero, Int32.zero_add, c_lt0, c_ge0, c_le0, c_gt0, c_e0, c_m1, c_m1', false_implies, true_implies, implies_true, not_false_eq_true, not_true_eq_false, Nat.not_lt_zero, up_s, up_1, up_m, ff3_firstWrong, bb3_firstWrong_0, bb3_firstWrong_9, bb3_firstWrong_34, bb3_firstWrong_40, cl_1, ca_1]
  exact key T.length 0 PS0 w1 rfl PSW0 hRES h1 f1
theorem pscan_len (T : List Nat) : ∀ n i P P', (pscan T n i P).2 = some P' → (pscan T n i P).1 = i + n := by
  intro n
  induction n with
  | zero => intro i P P' _; rfl
  | succ n ih =>
    intro i P P' h
    simp only [pscan] at h ⊢
    split at h
    · exact absurd h (by simp)
    · rename_i P2 hs
      rw [ih _ _ _ h]; omega
theorem pscan_lt (T : List Nat) : ∀ n i P, (pscan T n i P).2 = none → (pscan T n i P).1 < i + n := by
  intro n
  induction n with
  | zero => intro i P h; exact absurd h (by simp [pscan])
  | succ n ih =>
    intro i P h
    simp only [pscan] at h ⊢
    split at h
    · dsimp only; omega
    · rename_i P2 hs
      have := ih _ _ h
      omega
def pfull (T : List Nat) : Bool := match (pscan T T.length 0 PS0).2 with
  | none => false
  | some P => pdone P
theorem sp3_isComplete (hT : TxR w b T) (hS : ScR w (b + 2)) (hv : ∀ v ∈ T, v < 1000) (h1 : pfull T = true → ∀ w', ScR w' (b + 2) → Fr w w' (b + 2) 1 → Q (some (.int 1)) none w') (h0 : pfull T = false → ∀ w', ScR w' (b + 2) → Fr w w' (b + 2) 1 → Q (some (.int 0)) none w') : Sp Γ m3_isComplete [.ref b] none w Q := by
  obtain ⟨f, e1, e2, e3, e4⟩ := id hT
  have b1 : T.length < 2147483648 := by omega
  refine entry Γ m3_isComplete rfl _ (Nat.le_of_ble_eq_true rfl) _ _ _ ?_
  refine wp_ok kd3_isComplete 400 0 bb3_isComplete_0 _ _ _ _ _ _ oo3_isComplete_0 ?_
  simp only [List.getElem?_cons_zero, List.getElem?_cons_succ, fv4, Nat.reduceAdd, Nat.reduceSub, wp, pst, stp, LG, lput, ls_tl, two, bc, EL, pad, popN, csum, Option.toList, List.cons_append, List.nil_append, List.set_cons_zero, List.set_cons_succ, List.length_cons, List.length_nil, true_and, and_true, Nat.reduceLT, Nat.reduceLeDiff, Nat.zero_le, Nat.le_refl, RI_i, RI_z0, RI_z1, Int32.reduceOfInt, Int8.reduceOfInt, Int16.reduceOfInt, Int64.reduceOfInt, Int8.toInt32_ofNat, Int16.toInt32_ofNat, Int.reduceNeg, Int32.ofInt_neg, Int8.ofInt_neg, Int16.ofInt_neg, Int32.toInt64_ofNat, Int32.reduceToNatClampNeg, Fin.isValue, Fin.val_one, Fin.val_zero, Fin.val_two, Int64.reduceOfNat, Int32.reduceOfNat, hdl, cutc, Nat.reduceEqDiff, reduceIte, FV, tyC, tyX0, tyX1, tyX2, tyX3, tyX4, tyX5, tyX6, tyX7, tyX8, tyX9, tyX10, Nat.reduceMul, c_le, c_lt, c_eq, c_in, c_cl, c_add, c_rem, c_ofN, Int32.add_zero, Int32.zero_add, c_lt0, c_ge0, c_le0, c_gt0, c_e0, c_m1, c_m1', false_implies, true_implies, implies_true, not_false_eq_true, not_true_eq_false, Nat.not_lt_zero, up_s, up_1, up_m, ff3_isComplete, bb3_isComplete_0, bb3_isComplete_25, bb3_isComplete_26, cl_1, ca_1, e1]
  refine sp3_firstWrong hT hS hv (fun w1 hP hS1 f1 => ?_)
  have y1 := (f1.at (show b < b + 2 ∨ _ by omega)).trans e1
  obtain ⟨_, _, _, _, _, _, _, hc⟩ := id hS1
  unfold scr at hc
  unfold pfull at h1 h0
  cases hR : (pscan T T.length 0 PS0).2 with
  | none =>
    have hlt := pscan_lt T _ _ _ hR
    rw [hR] at h0
    have b2 : (pscan T T.length 0 PS0).1 < 2147483648 := by omega
    have hne : ¬(pscan T T.length 0 PS0).1 = T.length := by omega
    unfold holdL
    simp only [List.getElem?_cons_zero, List.getElem?_cons_succ, fv4, Nat.reduceAdd, Nat.reduceSub, wp, pst, stp, LG, lput, ls_tl, two, bc, EL, pad, popN, csum, Option.toList, List.cons_append, List.nil_append, List.set_cons_zero, List.set_cons_succ, List.length_cons, List.length_nil, true_and, and_true, Nat.reduceLT, Nat.reduceLeDiff, Nat.zero_le, Nat.le_refl, RI_i, RI_z0, RI_z1, Int32.reduceOfInt, Int8.reduceOfInt, Int16.reduceOfInt, Int64.reduceOfInt, Int8.toInt32_ofNat, Int16.toInt32_ofNat, Int.reduceNeg, Int32.ofInt_neg, Int8.ofInt_neg, Int16.ofInt_neg, Int32.toInt64_ofNat, Int32.reduceToNatClampNeg, Fin.isValue, Fin.val_one, Fin.val_zero, Fin.val_two, Int64.reduceOfNat, Int32.reduceOfNat, hdl, cutc, Nat.reduceEqDiff, reduceIte, FV, tyC, tyX0, tyX1, tyX2, tyX3, tyX4, tyX5, tyX6, tyX7, tyX8, tyX9, tyX10, Nat.reduceMul, c_le, c_lt, c_eq, c_in, c_cl, c_add, c_rem, c_ofN, Int32.add_zero, Int32.zero_add, c_lt0, c_ge0, c_le0, c_gt0, c_e0, c_m1, c_m1', false_implies, true_implies, implies_true, not_false_eq_true, not_true_eq_false, Nat.not_lt_zero, up_s, up_1, up_m, ff3_isComplete, bb3_isComplete_0, bb3_isComplete_25, bb3_isComplete_26, cl_1, ca_1, y1, b1, b2, hne]
    exact h0 rfl w1 hS1 f1
  | some P =>
    have hle := pscan_len T _ _ _ _ hR
    rw [Nat.zero_add] at hle
    obtain ⟨q1, q2⟩ := hP P hR
    obtain ⟨p1, p2, p3, p4, p5⟩ := id q2
    rw [hR] at h1 h0
    rw [hle]
    unfold holdL
    simp only [List.getElem?_cons_zero, List.getElem?_cons_succ, fv4, Nat.reduceAdd, Nat.reduceSub, wp, pst, stp, LG, lput, ls_tl, two, bc, EL, pad, popN, csum, Option.toList, List.cons_append, List.nil_append, List.set_cons_zero, List.set_cons_succ, List.length_cons, List.length_nil, true_and, and_true, Nat.reduceLT, Nat.reduceLeDiff, Nat.zero_le, Nat.le_refl, RI_i, RI_z0, RI_z1, Int32.reduceOfInt, Int8.reduceOfInt, Int16.reduceOfInt, Int64.reduceOfInt, Int8.toInt32_ofNat, Int16.toInt32_ofNat, Int.reduceNeg, Int32.ofInt_neg, Int8.ofInt_neg, Int16.ofInt_neg, Int32.toInt64_ofNat, Int32.reduceToNatClampNeg, Fin.isValue, Fin.val_one, Fin.val_zero, Fin.val_two, Int64.reduceOfNat, Int32.reduceOfNat, hdl, cutc, Nat.reduceEqDiff, reduceIte, FV, tyC, tyX0, tyX1, tyX2, tyX3, tyX4, tyX5, tyX6, tyX7, tyX8, tyX9, tyX10, Nat.reduceMul, c_le, c_lt, c_eq, c_in, c_cl, c_add, c_rem, c_ofN, Int32.add_zero, Int32.zero_add, c_lt0, c_ge0, c_le0, c_gt0, c_e0, c_m1, c_m1', false_implies, true_implies, implies_true, not_false_eq_true, not_true_eq_false, Nat.not_lt_zero, up_s, up_1, up_m, ff3_isComplete, bb3_isComplete_0, bb3_isComplete_25, bb3_isComplete_26, cl_1, ca_1, y1, b1, hc]
    refine sp4_isComplete P q1 p1 p2 (by omega) (fun hd => ?_) (fun hd => ?_)
    · unfold holdL
      simp only [List.getElem?_cons_zero, List.getElem?_cons_succ, fv4, Nat.reduceAdd, Nat.reduceSub, wp, pst, stp, LG, lput, ls_tl, two, bc, EL, pad, popN, csum, Option.toList, List.cons_append, List.nil_append, List.set_cons_zero, List.set_cons_succ, List.length_cons, List.length_nil, true_and, and_true, Nat.reduceLT, Nat.reduceLeDiff, Nat.zero_le, Nat.le_refl, RI_i, RI_z0, RI_z1, Int32.reduceOfInt, Int8.reduceOfInt, Int16.reduceOfInt, Int64.reduceOfInt, Int8.toInt32_ofNat, Int16.toInt32_ofNat, Int.reduceNeg, Int32.ofInt_neg, Int8.ofInt_neg, Int16.ofInt_neg, Int32.toInt64_ofNat, Int32.reduceToNatClampNeg, Fin.isValue, Fin.val_one, Fin.val_zero, Fin.val_two, Int64.reduceOfNat, Int32.reduceOfNat, hdl, cutc, Nat.reduceEqDiff, reduceIte, FV, tyC, tyX0, tyX1, tyX2, tyX3, tyX4, tyX5, tyX6, tyX7, tyX8, tyX9, tyX10, Nat.reduceMul, c_le, c_lt, c_eq, c_in, c_cl, c_add, c_rem, c_ofN, Int32.add_zero, Int32.zero_add, c_lt0, c_ge0, c_le0, c_gt0, c_e0, c_m1, c_m1', false_implies, true_implies, implies_true, not_false_eq_true, not_true_eq_false, Nat.not_lt_zero, up_s, up_1, up_m, ff3_isComplete, bb3_isComplete_0, bb3_isComplete_25, bb3_isComplete_26, cl_1, ca_1, dl1]
      exact h1 hd w1 hS1 f1
    · unfold holdL
      simp only [List.getElem?_cons_zero, List.getElem?_cons_succ, fv4, Nat.reduceAdd, Nat.reduceSub, wp, pst, stp, LG, lput, ls_tl, two, bc, EL, pad, popN, csum, Option.toList, List.cons_append, List.nil_append, List.set_cons_zero, List.set_cons_succ, List.length_cons, List.length_nil, true_and, and_true, Nat.reduceLT, Nat.reduceLeDiff, Nat.zero_le, Nat.le_refl, RI_i, RI_z0, RI_z1, Int32.reduceOfInt, Int8.reduceOfInt, Int16.reduceOfInt, Int64.reduceOfInt, Int8.toInt32_ofNat, Int16.toInt32_ofNat, Int.reduceNeg, Int32.ofInt_neg, Int8.ofInt_neg, Int16.ofInt_neg, Int32.toInt64_ofNat, Int32.reduceToNatClampNeg, Fin.isValue, Fin.val_one, Fin.val_zero, Fin.val_two, Int64.reduceOfNat, Int32.reduceOfNat, hdl, cutc, Nat.reduceEqDiff, reduceIte, FV, tyC, tyX0, tyX1, tyX2, tyX3, tyX4, tyX5, tyX6, tyX7, tyX8, tyX9, tyX10, Nat.reduceMul, c_le, c_lt, c_eq, c_in, c_cl, c_add, c_rem, c_ofN, Int32.add_zero, Int32.zero_add, c_lt0, c_ge0, c_le0, c_gt0, c_e0, c_m1, c_m1', false_implies, true_implies, implies_true, not_false_eq_true, not_true_eq_false, Nat.not_lt_zero, up_s, up_1, up_m, ff3_isComplete, bb3_isComplete_0, bb3_isComplete_25, bb3_isComplete_26, cl_1, ca_1]
      exact h0 hd w1 hS1 f1
theorem sp3_endsPart (hT : TxR w b T) (hv : ∀ v ∈ T, v < 1000) (i : Nat) (hi : i < T.length) (h1 : i + 1 = T.length ∨ T.getD (i + 1) 0 = 59 → Q (some (.int 1)) none w) (h0 : ¬(i + 1 = T.length ∨ T.getD (i + 1) 0 = 59) → Q (some (.int 0)) none w) : Sp Γ m3_endsPart [.ref b, .int (nI i)] none w Q := by
  obtain ⟨f, e1, e2, e3, e4⟩ := id hT
  have b1 : T.length < 2147483648 := by omega
  have b2 : i < 2147483648 := by omega
  have b3 : i + 1 < 2147483648 := by omega
  refine entry Γ m3_endsPart rfl _ (Nat.le_of_ble_eq_true rfl) _ _ _ ?_
  refine wp_ok kd3_endsPart 400 0 bb3_endsPart_0 _ _ _ _ _ _ oo3_endsPart_0 ?_
  simp only [List.getElem?_cons_zero, List.getElem?_cons_succ, fv4, Nat.reduceAdd, Nat.reduceSub, wp, pst, stp, LG, lput, ls_tl, two, bc, EL, pad, popN, csum, Option.toList, List.cons_append, List.nil_append, List.set_cons_zero, List.set_cons_succ, List.length_cons, List.length_nil, true_and, and_true, Nat.reduceLT, Nat.reduceLeDiff, Nat.zero_le, Nat.le_refl, RI_i, RI_z0, RI_z1, Int32.reduceOfInt, Int8.reduceOfInt, Int16.reduceOfInt, Int64.reduceOfInt, Int8.toInt32_ofNat, Int16.toInt32_ofNat, Int.reduceNeg, Int32.ofInt_neg, Int8.ofInt_neg, Int16.ofInt_neg, Int32.toInt64_ofNat, Int32.reduceToNatClampNeg, Fin.isValue, Fin.val_one, Fin.val_zero, Fin.val_two, Int64.reduceOfNat, Int32.reduceOfNat, hdl, cutc, Nat.reduceEqDiff, reduceIte, FV, tyC, tyX0, tyX1, tyX2, tyX3, tyX4, tyX5, tyX6, tyX7, tyX8, tyX9, tyX10, Nat.reduceMul, c_le, c_lt, c_eq, c_in, c_cl, c_add, c_rem, c_ofN, Int32.add_zero, Int32.zero_add, c_lt0, c_ge0, c_le0, c_gt0, c_e0, c_m1, c_m1', false_implies, true_implies, implies_true, not_false_eq_true, not_true_eq_false, Nat.not_lt_zero, up_s, up_1, up_m, ff3_endsPart, bb3_endsPart_0, bb3_endsPart_22, bb3_endsPart_26, bb3_endsPart_27, cl_1, ca_1, cl_59, ca_59, e1, b1, b2, b3]
  refine ⟨fun hl => h1 (by omega), fun hl => ?_⟩
  refine sp3_codeAt hT (i + 1) b3 (fun h => ?_) (fun h => absurd h (by omega))
  have hk : T.getD (i + 1) 0 < 1000 := hv _ (List.mem_of_getElem? (getD_some h))
  have b4 : T.getD (i + 1) 0 < 2147483648 := by omega
  unfold holdL
  simp only [List.getElem?_cons_zero, List.getElem?_cons_succ, fv4, Nat.reduceAdd, Nat.reduceSub, wp, pst, stp, LG, lput, ls_tl, two, bc, EL, pad, popN, csum, Option.toList, List.cons_append, List.nil_append, List.set_cons_zero, List.set_cons_succ, List.length_cons, List.length_nil, true_and, and_true, Nat.reduceLT, Nat.reduceLeDiff, Nat.zero_le, Nat.le_refl, RI_i, RI_z0, RI_z1, Int32.reduceOfInt, Int8.reduceOfInt, Int16.reduceOfInt, Int64.reduceOfInt, Int8.toInt32_ofNat, Int16.toInt32_ofNat, Int.reduceNeg, Int32.ofInt_neg, Int8.ofInt_neg, Int16.ofInt_neg, Int32.toInt64_ofNat, Int32.reduceToNatClampNeg, Fin.isValue, Fin.val_one, Fin.val_zero, Fin.val_two, Int64.reduceOfNat, Int32.reduceOfNat, hdl, cutc, Nat.reduceEqDiff, reduceIte, FV, tyC, tyX0, tyX1, tyX2, tyX3, tyX4, tyX5, tyX6, tyX7, tyX8, tyX9, tyX10, Nat.reduceMul, c_le, c_lt, c_eq, c_in, c_cl, c_add, c_rem, c_ofN, Int32.add_zero, Int32.zero_add, c_lt0, c_ge0, c_le0, c_gt0, c_e0, c_m1, c_m1', false_implies, true_implies, implies_true, not_false_eq_true, not_true_eq_false, Nat.not_lt_zero, up_s, up_1, up_m, ff3_endsPart, bb3_endsPart_0, bb3_endsPart_22, bb3_endsPart_26, bb3_endsPart_27, cl_1, ca_1, cl_59, ca_59, b4]
  exact ⟨fun hx => h0 (by omega), fun hx => h1 (by omega)⟩
end SCAN

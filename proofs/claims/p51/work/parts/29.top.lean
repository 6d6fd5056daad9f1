/-! THE OBJECT -/
/-- the object at x: its parts lie behind it -/
def XF (w : PW) (x : Nat) (hs : Int32) : Prop := w x = some (.inr (9, [.ref (x + 1), .ref (x + 10), .int hs, .ref (x + 19), .ref (x + 66), .ref (x + 69), .ref (x + 72), .ref (x + 73)]))
theorem XF.fr {w w' : PW} {x lo n : Nat} {hs : Int32} (h : XF w x hs) (hf : Fr w w' lo n) (hd : x + 1 ≤ lo ∨ lo + n ≤ x) : XF w' x hs := by
  unfold XF
  rw [hf x (by omega)]; exact h
/-- the length of a code -/
def clen (wd : Nat) (L : List Nat) (n m : Nat) : Nat := (code1 wd L n m).length
def bestM (wd : Nat) (L : List Nat) (n : Nat) : Nat :=
  if clen wd L n 2 < min (clen wd L n 0) (clen wd L n 1) then 2 else if clen wd L n 1 < clen wd L n 0 then 1 else 0
def modeS (S : AS) (n : Nat) : Nat := if a_sy S = 3 then bestM (a_wd S) (a_L S) n else a_sy S
theorem bestM_lt (wd : Nat) (L : List Nat) (n : Nat) : bestM wd L n < 3 := by unfold bestM; split <;> (try split) <;> decide
theorem modeS_lt {S : AS} (h : a_sy S ≤ 3) (n : Nat) : modeS S n < 3 := by
  unfold modeS; split
  · exact bestM_lt _ _ _
  · omega
theorem enc_nums {r : Nat} (hr : r ≤ 32) : nums (enc r) ≤ r + (if r = 0 then 1 else 0) := by
  by_cases h : r < 14
  · have := nrun_lt h
    unfold nrun at this
    rw [this]; split <;> omega
  · have := nrun_ge h hr
    unfold nrun at this
    rw [this, if_neg (show ¬r = 0 by omega)]; split <;> omega
theorem rl_nums (p : Nat) : ∀ n i b r, n + r ≤ 32 → nums ((rl p n i b r).flatMap enc) ≤ n + r + (if r = 0 then 1 else 0) := by
  intro n
  induction n with
  | zero => intro i b r hr; simp only [rl, List.flatMap_cons, List.flatMap_nil, List.append_nil, Nat.zero_add]; exact enc_nums (by omega)
  | succ n ih =>
    intro i b r hr
    simp only [rl]
    split
    · have := ih (i + 1) b (r + 1) (by omega); simp only [Nat.add_eq_zero_iff, Nat.succ_ne_self, and_false, if_false] at this; split <;> omega
    · have h1 := ih (i + 1) (!b) 1 (by omega)
      have h2 := enc_nums (show r ≤ 32 by omega)
      rw [List.flatMap_cons, nums_app]
      have h3 : (if (1 : Nat) = 0 then 1 else 0) = 0 := rfl
      omega
theorem clen_ker (wd : Nat) (L : List Nat) (n m : Nat) : clen wd L n m = 5 + nums (ker wd (kpx L n m) m) := by
  unfold clen code1; rw [kcode_len]; rfl
theorem clen_le (wd : Nat) (L : List Nat) (n m : Nat) (hw : wd ≤ 32) : clen wd L n m ≤ 38 := by
  rw [clen_ker, ker]
  split
  · have h1 := esc_all_len (fours (kpx L n m) ((wd + 3) / 4) 0)
    rw [fours_len] at h1
    unfold nums
    omega
  · have h1 := rl_nums (kpx L n m) wd 0 false 0 (by omega)
    unfold runs
    simp only [if_true] at h1
    omega
theorem kpx_lt32 {L : List Nat} (hL : LOK L) (n m : Nat) : kpx L n m < 4294967296 := by
  unfold kpx
  split
  · refine Nat.xor_lt_two_pow (n := 32) (hL n) ?_
    split
    · decide
    · exact hL (n - 1)
  · exact hL n
/-- nothing outside two stretches changed -/
def Fr2 (w w' : PW) (l n k m : Nat) : Prop := ∀ a, (a < l ∨ l + n ≤ a) → (a < k ∨ k + m ≤ a) → w' a = w a
theorem Fr2.split {w w' : PW} {l n k m : Nat} (h : Fr2 w w' l n k m) : ∃ w1, Fr w w1 l n ∧ Fr w1 w' k m := by
  refine ⟨fun a => if a < l ∨ l + n ≤ a then w a else w' a, fun a ha => if_pos ha, fun a ha => ?_⟩
  dsimp only
  by_cases c : a < l ∨ l + n ≤ a
  · rw [if_pos c]; exact h a c ha
  · rw [if_neg c]
theorem Fr2.tr {w w1 w2 : PW} {l n k m : Nat} (h : Fr2 w w1 l n k m) (h2 : Fr2 w1 w2 l n k m) : Fr2 w w2 l n k m := fun a h3 h4 => (h2 a h3 h4).trans (h a h3 h4)
theorem Fr2.of1 {w w1 : PW} {l n k m : Nat} (h : Fr w w1 l n) : Fr2 w w1 l n k m := fun a h3 _ => h a h3
theorem Fr2.of2 {w w1 : PW} {l n k m : Nat} (h : Fr w w1 k m) : Fr2 w w1 l n k m := fun a _ h3 => h a h3
section TOP
variable {Γ : Amb} {w : PW} {Q : Option Value → Option Nat → PW → Prop} {x : Nat} {hs : Int32} {S : AS}
theorem sp9_countedLength (hX : XF w x hs) (hS : StR w (x + 1) S) (hL : LOK (a_L S)) (h1 : 1 ≤ a_wd S) (hw : a_wd S ≤ 32) (n m : Nat) (hn : n < (a_L S).length) (hm : m < 3) (hQ : Q (some (.int (nI (clen (a_wd S) (a_L S) n m)))) none w) : Sp Γ m9_countedLength [.ref x, .int (nI n), .int (nI m)] none w Q := by
  obtain ⟨hG, -, -, v, hc, -⟩ := id hS
  obtain ⟨gf, g1, g2, g3, g4⟩ := id hG
  unfold XF at hX
  have b1 : n < 2147483648 := by omega
  have b2 : m < 2147483648 := by omega
  have hk := kpx_lt32 hL n m
  have hle := clen_le (a_wd S) (a_L S) n m hw
  rw [clen_ker] at hQ hle
  have b5 : nums (ker (a_wd S) (kpx (a_L S) n m) m) < 2147483648 := by omega
  refine entry Γ m9_countedLength rfl _ (Nat.le_of_ble_eq_true rfl) _ _ _ ?_
  refine wp_ok kd9_countedLength 400 0 bb9_countedLength_0 _ _ _ _ _ _ oo9_countedLength_0 ?_
  simp only [List.getElem?_cons_zero, List.getElem?_cons_succ, fv4, Nat.reduceAdd, Nat.reduceSub, wp, pst, stp, LG, lput, ls_tl, two, bc, EL, pad, popN, csum, Option.toList, List.cons_append, List.nil_append, List.set_cons_zero, List.set_cons_succ, List.length_cons, List.length_nil, true_and, and_true, Nat.reduceLT, Nat.reduceLeDiff, Nat.zero_le, Nat.le_refl, RI_i, RI_z0, RI_z1, Int32.reduceOfInt, Int8.reduceOfInt, Int16.reduceOfInt, Int64.reduceOfInt, Int8.toInt32_ofNat, Int16.toInt32_ofNat, Int.reduceNeg, Int32.ofInt_neg, Int8.ofInt_neg, Int16.ofInt_neg, Int32.toInt64_ofNat, Int32.reduceToNatClampNeg, Fin.isValue, Fin.val_one, Fin.val_zero, Fin.val_two, Int64.reduceOfNat, Int32.reduceOfNat, hdl, cutc, Nat.reduceEqDiff, reduceIte, FV, tyC, tyX0, tyX1, tyX2, tyX3, tyX4, tyX5, tyX6, tyX7, tyX8, tyX9, tyX10, Nat.reduceMul, c_le, c_lt, c_eq, c_in, c_cl, c_add, c_rem, c_ofN, Int32.add_zero, Int32.zero_add, c_lt0, c_ge0, c_le0, c_gt0, c_e0, c_m1, c_m1', false_implies, true_implies, implies_true, not_false_eq_true, not_true_eq_false, Nat.not_lt_zero, up_s, up_1, up_m, ff9_countedLength, bb9_countedLength_0, bb9_countedLength_39, bb9_countedLength_45, cl_1, ca_1, cl_5, ca_5, hX, hc, g1, b1, b2]
  refine sp2_toCode hG n m hn hm ?_
  unfold holdL
  simp only [List.getElem?_cons_zero, List.getElem?_cons_succ, fv4, Nat.reduceAdd, Nat.reduceSub, wp, pst, stp, LG, lput, ls_tl, two, bc, EL, pad, popN, csum, Option.toList, List.cons_append, List.nil_append, List.set_cons_zero, List.set_cons_succ, List.length_cons, List.length_nil, true_and, and_true, Nat.reduceLT, Nat.reduceLeDiff, Nat.zero_le, Nat.le_refl, RI_i, RI_z0, RI_z1, Int32.reduceOfInt, Int8.reduceOfInt, Int16.reduceOfInt, Int64.reduceOfInt, Int8.toInt32_ofNat, Int16.toInt32_ofNat, Int.reduceNeg, Int32.ofInt_neg, Int8.ofInt_neg, Int16.ofInt_neg, Int32.toInt64_ofNat, Int32.reduceToNatClampNeg, Fin.isValue, Fin.val_one, Fin.val_zero, Fin.val_two, Int64.reduceOfNat, Int32.reduceOfNat, hdl, cutc, Nat.reduceEqDiff, reduceIte, FV, tyC, tyX0, tyX1, tyX2, tyX3, tyX4, tyX5, tyX6, tyX7, tyX8, tyX9, tyX10, Nat.reduceMul, c_le, c_lt, c_eq, c_in, c_cl, c_add, c_rem, c_ofN, Int32.add_zero, Int32.zero_add, c_lt0, c_ge0, c_le0, c_gt0, c_e0, c_m1, c_m1', false_implies, true_implies, implies_true, not_false_eq_true, not_true_eq_false, Nat.not_lt_zero, up_s, up_1, up_m, ff9_countedLength, bb9_countedLength_0, bb9_countedLength_39, bb9_countedLength_45, cl_1, ca_1, cl_5, ca_5, hX, hc, g1, b1, b2]
  refine ⟨fun h => ?_, fun h => ?_⟩
  · refine sp9_countedRuns _ _ (by omega) h1 hw ?_
    rw [ker, if_neg h] at hQ b5
    unfold holdL
    simp only [List.getElem?_cons_zero, List.getElem?_cons_succ, fv4, Nat.reduceAdd, Nat.reduceSub, wp, pst, stp, LG, lput, ls_tl, two, bc, EL, pad, popN, csum, Option.toList, List.cons_append, List.nil_append, List.set_cons_zero, List.set_cons_succ, List.length_cons, List.length_nil, true_and, and_true, Nat.reduceLT, Nat.reduceLeDiff, Nat.zero_le, Nat.le_refl, RI_i, RI_z0, RI_z1, Int32.reduceOfInt, Int8.reduceOfInt, Int16.reduceOfInt, Int64.reduceOfInt, Int8.toInt32_ofNat, Int16.toInt32_ofNat, Int.reduceNeg, Int32.ofInt_neg, Int8.ofInt_neg, Int16.ofInt_neg, Int32.toInt64_ofNat, Int32.reduceToNatClampNeg, Fin.isValue, Fin.val_one, Fin.val_zero, Fin.val_two, Int64.reduceOfNat, Int32.reduceOfNat, hdl, cutc, Nat.reduceEqDiff, reduceIte, FV, tyC, tyX0, tyX1, tyX2, tyX3, tyX4, tyX5, tyX6, tyX7, tyX8, tyX9, tyX10, Nat.reduceMul, c_le, c_lt, c_eq, c_in, c_cl, c_add, c_rem, c_ofN, Int32.add_zero, Int32.zero_add, c_lt0, c_ge0, c_le0, c_gt0, c_e0, c_m1, c_m1', false_implies, true_implies, implies_true, not_false_eq_true, not_true_eq_false, Nat.not_lt_zero, up_s, up_1, up_m, ff9_countedLength, bb9_countedLength_0, bb9_countedLength_39, bb9_countedLength_45, cl_1, ca_1, cl_5, ca_5, b5]
    exact hQ
  · refine sp9_countedFours _ _ (by omega) hw ?_
    rw [ker, if_pos (by omega)] at hQ b5
    unfold holdL
    simp only [List.getElem?_cons_zero, List.getElem?_cons_succ, fv4, Nat.reduceAdd, Nat.reduceSub, wp, pst, stp, LG, lput, ls_tl, two, bc, EL, pad, popN, csum, Option.toList, List.cons_append, List.nil_append, List.set_cons_zero, List.set_cons_succ, List.length_cons, List.length_nil, true_and, and_true, Nat.reduceLT, Nat.reduceLeDiff, Nat.zero_le, Nat.le_refl, RI_i, RI_z0, RI_z1, Int32.reduceOfInt, Int8.reduceOfInt, Int16.reduceOfInt, Int64.reduceOfInt, Int8.toInt32_ofNat, Int16.toInt32_ofNat, Int.reduceNeg, Int32.ofInt_neg, Int8.ofInt_neg, Int16.ofInt_neg, Int32.toInt64_ofNat, Int32.reduceToNatClampNeg, Fin.isValue, Fin.val_one, Fin.val_zero, Fin.val_two, Int64.reduceOfNat, Int32.reduceOfNat, hdl, cutc, Nat.reduceEqDiff, reduceIte, FV, tyC, tyX0, tyX1, tyX2, tyX3, tyX4, tyX5, tyX6, tyX7, tyX8, tyX9, tyX10, Nat.reduceMul, c_le, c_lt, c_eq, c_in, c_cl, c_add, c_rem, c_ofN, Int32.add_zero, Int32.zero_add, c_lt0, c_ge0, c_le0, c_gt0, c_e0, c_m1, c_m1', false_implies, true_implies, implies_true, not_false_eq_true, not_true_eq_false, Nat.not_lt_zero, up_s, up_1, up_m, ff9_countedLength, bb9_countedLength_0, bb9_countedLength_39, bb9_countedLength_45, cl_1, ca_1, cl_5, ca_5, b5]
    exact hQ
theorem sp9_modeToSend (hX : XF w x hs) (hS : StR w (x + 1) S) (hL : LOK (a_L S)) (h1 : 1 ≤ a_wd S) (hw : a_wd S ≤ 32) (hsy : a_sy S ≤ 3) (n : Nat) (hn : n < (a_L S).length) (hQ : Q (some (.int (nI (modeS S n)))) none w) : Sp Γ m9_modeToSend [.ref x, .int (nI n)] none w Q := by
  obtain ⟨hG, -, -, v, hc, -⟩ := id hS
  obtain ⟨gf, g1, g2, g3, g4⟩ := id hG
  have hX' := hX
  unfold XF at hX
  have b1 : n < 2147483648 := by omega
  have b2 : a_sy S < 2147483648 := by omega
  have l0 := clen_le (a_wd S) (a_L S) n 0 hw
  have l1 := clen_le (a_wd S) (a_L S) n 1 hw
  have l2 := clen_le (a_wd S) (a_L S) n 2 hw
  have c0 : clen (a_wd S) (a_L S) n 0 < 2147483648 := by omega
  have c1 : clen (a_wd S) (a_L S) n 1 < 2147483648 := by omega
  have c2 : clen (a_wd S) (a_L S) n 2 < 2147483648 := by omega
  refine entry Γ m9_modeToSend rfl _ (Nat.le_of_ble_eq_true rfl) _ _ _ ?_
  refine wp_ok kd9_modeToSend 400 0 bb9_modeToSend_0 _ _ _ _ _ _ oo9_modeToSend_0 ?_
  simp only [List.getElem?_cons_zero, List.getElem?_cons_succ, fv4, Nat.reduceAdd, Nat.reduceSub, wp, pst, stp, LG, lput, ls_tl, two, bc, EL, pad, popN, csum, Option.toList, List.cons_append, List.nil_append, List.set_cons_zero, List.set_cons_succ, List.length_cons, List.length_nil, true_and, and_true, Nat.reduceLT, Nat.reduceLeDiff, Nat.zero_le, Nat.le_refl, RI_i, RI_z0, RI_z1, Int32.reduceOfInt, Int8.reduceOfInt, Int16.reduceOfInt, Int64.reduceOfInt, Int8.toInt32_ofNat, Int16.toInt32_ofNat, Int.reduceNeg, Int32.ofInt_neg, Int8.ofInt_neg, Int16.ofInt_neg, Int32.toInt64_ofNat, Int32.reduceToNatClampNeg, Fin.isValue, Fin.val_one, Fin.val_zero, Fin.val_two, Int64.reduceOfNat, Int32.reduceOfNat, hdl, cutc, Nat.reduceEqDiff, reduceIte, FV, tyC, tyX0, tyX1, tyX2, tyX3, tyX4, tyX5, tyX6, tyX7, tyX8, tyX9, tyX10, Nat.reduceMul, c_le, c_lt, c_eq, c_in, c_cl, c_add, c_rem, c_ofN, Int32.add_zero, Int32.zero_add, c_lt0, c_ge0, c_le0, c_gt0, c_e0, c_m1, c_m1', false_implies, true_implies, implies_true, not_false_eq_true, not_true_eq_false, Nat.not_lt_zero, up_s, up_1, up_m, ff9_modeToSend, bb9_modeToSend_0, bb9_modeToSend_25, bb9_modeToSend_37, bb9_modeToSend_64, bb9_modeToSend_70, cl_1, ca_1, cl_3, ca_3, hX, hc, g1, b1, b2]
  unfold modeS at hQ
  refine ⟨fun h => ?_, fun h => ?_⟩
  · rw [if_pos h] at hQ
    refine sp9_countedLength hX' hS hL h1 hw n 0 hn (by decide) ?_
    unfold holdL
    simp only [List.getElem?_cons_zero, List.getElem?_cons_succ, fv4, Nat.reduceAdd, Nat.reduceSub, wp, pst, stp, LG, lput, ls_tl, two, bc, EL, pad, popN, csum, Option.toList, List.cons_append, List.nil_append, List.set_cons_zero, List.set_cons_succ, List.length_cons, List.length_nil, true_and, and_true, Nat.reduceLT, Nat.reduceLeDiff, Nat.zero_le, Nat.le_refl, RI_i, RI_z0, RI_z1, Int32.reduceOfInt, Int8.reduceOfInt, Int16.reduceOfInt, Int64.reduceOfInt, Int8.toInt32_ofNat, Int16.toInt32_ofNat, Int.reduceNeg, Int32.ofInt_neg, Int8.ofInt_neg, Int16.ofInt_neg, Int32.toInt64_ofNat, Int32.reduceToNatClampNeg, Fin.isValue, Fin.val_one, Fin.val_zero, Fin.val_two, Int64.reduceOfNat, Int32.reduceOfNat, hdl, cutc, Nat.reduceEqDiff, reduceIte, FV, tyC, tyX0, tyX1, tyX2, tyX3, tyX4, tyX5, tyX6, tyX7, tyX8, tyX9, tyX10, Nat.reduceMul, c_le, c_lt, c_eq, c_in, c_cl, c_add, c_rem, c_ofN, Int32.add_zero, Int32.zero_add, c_lt0, c_ge0, c_le0, c_gt0, c_e0, c_m1, c_m1', false_implies, true_implies, implies_true, not_false_eq_true, not_true_eq_false, Nat.not_lt_zero, up_s, up_1, up_m, ff9_modeToSend, bb9_modeToSend_0, bb9_modeToSend_25, bb9_modeToSend_37, bb9_modeToSend_64, bb9_modeToSend_70, cl_1, ca_1, cl_3, ca_3]
    have hend : ∀ (b l : Nat) (j : Option Value), Q (some (.int (nI b))) none w → G Γ m9_modeToSend Q (fun _ _ => False) 37 [some (.ref x), some (.int (nI n)), some (.int (nI b)), some (.int (nI l)), some (.int (nI 3)), j] [] none w 0 0 := by
      intro b l j hq
      refine wp_ok kd9_modeToSend 400 37 bb9_modeToSend_37 _ _ _ _ _ _ oo9_modeToSend_37 ?_
      simp only [List.getElem?_cons_zero, List.getElem?_cons_succ, fv4, Nat.reduceAdd, Nat.reduceSub, wp, pst, stp, LG, lput, ls_tl, two, bc, EL, pad, popN, csum, Option.toList, List.cons_append, List.nil_append, List.set_cons_zero, List.set_cons_succ, List.length_cons, List.length_nil, true_and, and_true, Nat.reduceLT, Nat.reduceLeDiff, Nat.zero_le, Nat.le_refl, RI_i, RI_z0, RI_z1, Int32.reduceOfInt, Int8.reduceOfInt, Int16.reduceOfInt, Int64.reduceOfInt, Int8.toInt32_ofNat, Int16.toInt32_ofNat, Int.reduceNeg, Int32.ofInt_neg, Int8.ofInt_neg, Int16.ofInt_neg, Int32.toInt64_ofNat, Int32.reduceToNatClampNeg, Fin.isValue, Fin.val_one, Fin.val_zero, Fin.val_two, Int64.reduceOfNat, Int32.reduceOfNat, hdl, cutc, Nat.reduceEqDiff, reduceIte, FV, tyC, tyX0, tyX1, tyX2, tyX3, tyX4, tyX5, tyX6, tyX7, tyX8, tyX9, tyX10, Nat.reduceMul, c_le, c_lt, c_eq, c_in, c_cl, c_add, c_rem, c_ofN, Int32.add_zero, Int32.zero_add, c_lt0, c_ge0, c_le0, c_gt0, c_e0, c_m1, c_m1', false_implies, true_implies, implies_true, not_false_eq_true, not_true_eq_false, Nat.not_lt_zero, up_s, up_1, up_m, ff9_modeToSend, bb9_modeToSend_0, bb9_modeToSend_25, bb9_modeToSend_37, bb9_modeToSend_64, bb9_modeToSend_70, cl_1, ca_1, cl_3, ca_3, hX]
      exact hq
    have hst : ∀ (m b l : Nat) (j : Option Value), m < 3 → l < 2147483648 → (clen (a_wd S) (a_L S) n m < l → ∀ j, G Γ m9_modeToSend Q (fun _ _ => False) 37 [some (.ref x), some (.int (nI n)), some (.int (nI m)), some (.int (nI (clen (a_wd S) (a_L S) n m))), some (.int (nI (m + 1))), j] [] none w 0 0) → (¬clen (a_wd S) (a_L S) n m < l → ∀ j, G Γ m9_modeToSend Q (fun _ _ => False) 37 [some (.ref x), some (.int (nI n)), some (.int (nI b)), some (.int (nI l)), some (.int (nI (m + 1))), j] [] none w 0 0) → G Γ m9_modeToSend Q (fun _ _ => False) 37 [some (.ref x), some (.int (nI n)), some (.int (nI b)), some (.int (nI l)), some (.int (nI m)), j] [] none w 0 0 := by
      intro m b l j hm hl hy hn2
      have d1 : m < 2147483648 := by omega
      have hle := clen_le (a_wd S) (a_L S) n m hw
      have d2 : clen (a_wd S) (a_L S) n m < 2147483648 := by omega
      refine wp_ok kd9_modeToSend 400 37 bb9_modeToSend_37 _ _ _ _ _ _ oo9_modeToSend_37 ?_
      simp only [List.getElem?_cons_zero, List.getElem?_cons_succ, fv4, Nat.reduceAdd, Nat.reduceSub, wp, pst, stp, LG, lput, ls_tl, two, bc, EL, pad, popN, csum, Option.toList, List.cons_append, List.nil_append, List.set_cons_zero, List.set_cons_succ, List.length_cons, List.length_nil, true_and, and_true, Nat.reduceLT, Nat.reduceLeDiff, Nat.zero_le, Nat.le_refl, RI_i, RI_z0, RI_z1, Int32.reduceOfInt, Int8.reduceOfInt, Int16.reduceOfInt, Int64.reduceOfInt, Int8.toInt32_ofNat, Int16.toInt32_ofNat, Int.reduceNeg, Int32.ofInt_neg, Int8.ofInt_neg, Int16.ofInt_neg, Int32.toInt64_ofNat, Int32.reduceToNatClampNeg, Fin.isValue, Fin.val_one, Fin.val_zero, Fin.val_two, Int64.reduceOfNat, Int32.reduceOfNat, hdl, cutc, Nat.reduceEqDiff, reduceIte, FV, tyC, tyX0, tyX1, tyX2, tyX3, tyX4, tyX5, tyX6, tyX7, tyX8, tyX9, tyX10, Nat.reduceMul, c_le, c_lt, c_eq, c_in, c_cl, c_add, c_rem, c_ofN, Int32.add_zero, Int32.zero_add, c_lt0, c_ge0, c_le0, c_gt0, c_e0, c_m1, c_m1', false_implies, true_implies, implies_true, not_false_eq_true, not_true_eq_false, Nat.not_lt_zero, up_s, up_1, up_m, ff9_modeToSend, bb9_modeToSend_0, bb9_modeToSend_25, bb9_modeToSend_37, bb9_modeToSend_64, bb9_modeToSend_70, cl_1, ca_1, cl_3, ca_3, hX, d1, hl]
      refine ⟨fun h => absurd h (by omega), fun _ => ?_⟩
      refine sp9_countedLength hX' hS hL h1 hw n m hn hm ?_
      unfold holdL
      simp only [List.getElem?_cons_zero, List.getElem?_cons_succ, fv4, Nat.reduceAdd, Nat.reduceSub, wp, pst, stp, LG, lput, ls_tl, two, bc, EL, pad, popN, csum, Option.toList, List.cons_append, List.nil_append, List.set_cons_zero, List.set_cons_succ, List.length_cons, List.length_nil, true_and, and_true, Nat.reduceLT, Nat.reduceLeDiff, Nat.zero_le, Nat.le_refl, RI_i, RI_z0, RI_z1, Int32.reduceOfInt, Int8.reduceOfInt, Int16.reduceOfInt, Int64.reduceOfInt, Int8.toInt32_ofNat, Int16.toInt32_ofNat, Int.reduceNeg, Int32.ofInt_neg, Int8.ofInt_neg, Int16.ofInt_neg, Int32.toInt64_ofNat, Int32.reduceToNatClampNeg, Fin.isValue, Fin.val_one, Fin.val_zero, Fin.val_two, Int64.reduceOfNat, Int32.reduceOfNat, hdl, cutc, Nat.reduceEqDiff, reduceIte, FV, tyC, tyX0, tyX1, tyX2, tyX3, tyX4, tyX5, tyX6, tyX7, tyX8, tyX9, tyX10, Nat.reduceMul, c_le, c_lt, c_eq, c_in, c_cl, c_add, c_rem, c_ofN, Int32.add_zero, Int32.zero_add, c_lt0, c_ge0, c_le0, c_gt0, c_e0, c_m1, c_m1', false_implies, true_implies, implies_true, not_false_eq_true, not_true_eq_false, Nat.not_lt_zero, up_s, up_1, up_m, ff9_modeToSend, bb9_modeToSend_0, bb9_modeToSend_25, bb9_modeToSend_37, bb9_modeToSend_64, bb9_modeToSend_70, cl_1, ca_1, cl_3, ca_3, d1, d2, hl]
      exact ⟨fun h => hn2 (by omega) _, fun h => hy (by omega) _⟩
    refine hst 1 0 _ none (by decide) c0 (fun k1 j1 => hst 2 1 _ j1 (by decide) c1 (fun k2 j2 => hend 2 _ j2 ?_) (fun k2 j2 => hend 1 _ j2 ?_)) (fun k1 j1 => hst 2 0 _ j1 (by decide) c0 (fun k2 j2 => hend 2 _ j2 ?_) (fun k2 j2 => hend 0 _ j2 ?_))
    · rw [bestM, if_pos (by omega)] at hQ; exact hQ
    · rw [bestM, if_neg (by omega), if_pos k1] at hQ; exact hQ
    · rw [bestM, if_pos (by omega)] at hQ; exact hQ
    · rw [bestM, if_neg (by omega), if_neg k1] at hQ; exact hQ
  · rw [if_neg h] at hQ
    exact hQ
/-- the stream of the first k lines -/
def sent (S : AS) (k : Nat) : List Nat := (List.range k).flatMap (fun n => code1 (a_wd S) (a_L S) n (modeS S n))
theorem sent_succ (S : AS) (k : Nat) : sent S (k + 1) = sent S k ++ code1 (a_wd S) (a_L S) k (modeS S k) := by
  unfold sent
  rw [List.range_succ, List.flatMap_append]
  simp only [List.flatMap_cons, List.flatMap_nil, List.append_nil]
theorem sent_len (S : AS) (hw : a_wd S ≤ 32) : ∀ k, (sent S k).length ≤ 38 * k := by
  intro k
  induction k with
  | zero => simp [sent]
  | succ k ih =>
    have := clen_le (a_wd S) (a_L S) k (modeS S k) hw
    unfold clen at this
    rw [sent_succ, List.length_append]
    omega
abbrev a_set (S : AS) (s : List Nat) : AS := (a_wd S, a_sy S, a_L S, s, a_R S, a_E S, a_st S)
theorem sp9_sendPage {K C : List Nat} {ch : Int32} (hX : XF w x hs) (hS : StR w (x + 1) S) (hC : CoR w (x + 69) K C ch) (hL : LOK (a_L S)) (h1 : 1 ≤ a_wd S) (hw : a_wd S ≤ 32) (hsy : a_sy S ≤ 3) (hQ : ∀ w' K' C' ch', StR w' (x + 1) (a_set S (sent S (a_L S).length)) → CoR w' (x + 69) K' C' ch' → Fr2 w w' (x + 4) 2 (x + 69) 3 → Q none none w') : Sp Γ m9_sendPage [.ref x] none w Q := by
  obtain ⟨hG, hM, hR, v, hc, hv⟩ := id hS
  obtain ⟨gf, g1, g2, g3, g4⟩ := id hG
  obtain ⟨mf, m1, m2, m3, m4⟩ := id hM
  have hX' := hX
  unfold XF at hX
  have b1 : (a_L S).length < 2147483648 := by omega
  have hSt : ∀ w1 s, SmR w1 (x + 4) s → Fr2 w w1 (x + 4) 2 (x + 69) 3 → StR w1 (x + 1) (a_set S s) := by
    intro w1 s hm hF
    obtain ⟨w0, f1, f2⟩ := hF.split
    exact ⟨(hG.fr f1 (by omega)).fr f2 (by omega), hm, (hR.fr f1 (by omega)).fr f2 (by omega), v, by rw [f2 _ (by omega), f1 _ (by omega)]; exact hc, hv⟩
  have loop : ∀ (u k : Nat) (w1 : PW) (K C : List Nat) (ch : Int32), u + k = (a_L S).length → SmR w1 (x + 4) (sent S k) → CoR w1 (x + 69) K C ch → Fr2 w w1 (x + 4) 2 (x + 69) 3 → G Γ m9_sendPage Q (fun _ _ => False) 12 [some (.ref x), some (.int (nI k))] [] none w1 0 0 := by
    intro u
    induction u with
    | zero =>
      intro k w1 K C ch hk hm hC1 hF
      have hk2 : k = (a_L S).length := by omega
      subst hk2
      have y0 := (hF x (by omega) (by omega)).trans hX
      have y1 := (hF (x + 1) (by omega) (by omega)).trans hc
      have y2 := (hF (x + 1 + 1) (by omega) (by omega)).trans g1
      refine wp_ok kd9_sendPage 400 12 bb9_sendPage_12 _ _ _ _ _ _ oo9_sendPage_12 ?_
      simp only [List.getElem?_cons_zero, List.getElem?_cons_succ, fv4, Nat.reduceAdd, Nat.reduceSub, wp, pst, stp, LG, lput, ls_tl, two, bc, EL, pad, popN, csum, Option.toList, List.cons_append, List.nil_append, List.set_cons_zero, List.set_cons_succ, List.length_cons, List.length_nil, true_and, and_true, Nat.reduceLT, Nat.reduceLeDiff, Nat.zero_le, Nat.le_refl, RI_i, RI_z0, RI_z1, Int32.reduceOfInt, Int8.reduceOfInt, Int16.reduceOfInt, Int64.reduceOfInt, Int8.toInt32_ofNat, Int16.toInt32_ofNat, Int.reduceNeg, Int32.ofInt_neg, Int8.ofInt_neg, Int16.ofInt_neg, Int32.toInt64_ofNat, Int32.reduceToNatClampNeg, Fin.isValue, Fin.val_one, Fin.val_zero, Fin.val_two, Int64.reduceOfNat, Int32.reduceOfNat, hdl, cutc, Nat.reduceEqDiff, reduceIte, FV, tyC, tyX0, tyX1, tyX2, tyX3, tyX4, tyX5, tyX6, tyX7, tyX8, tyX9, tyX10, Nat.reduceMul, c_le, c_lt, c_eq, c_in, c_cl, c_add, c_rem, c_ofN, Int32.add_zero, Int32.zero_add, c_lt0, c_ge0, c_le0, c_gt0, c_e0, c_m1, c_m1', false_implies, true_implies, implies_true, not_false_eq_true, not_true_eq_false, Nat.not_lt_zero, up_s, up_1, up_m, ff9_sendPage, bb9_sendPage_0, bb9_sendPage_12, bb9_sendPage_76, cl_1, ca_1, y0, y1, y2, b1]
      exact hQ w1 K C ch (hSt w1 _ hm hF) hC1 hF
    | succ u ih =>
      intro k w1 K C ch hk hm hC1 hF
      have b2 : k < 2147483648 := by omega
      have y0 := (hF x (by omega) (by omega)).trans hX
      have y1 := (hF (x + 1) (by omega) (by omega)).trans hc
      have y2 := (hF (x + 1 + 1) (by omega) (by omega)).trans g1
      refine wp_ok kd9_sendPage 400 12 bb9_sendPage_12 _ _ _ _ _ _ oo9_sendPage_12 ?_
      simp only [List.getElem?_cons_zero, List.getElem?_cons_succ, fv4, Nat.reduceAdd, Nat.reduceSub, wp, pst, stp, LG, lput, ls_tl, two, bc, EL, pad, popN, csum, Option.toList, List.cons_append, List.nil_append, List.set_cons_zero, List.set_cons_succ, List.length_cons, List.length_nil, true_and, and_true, Nat.reduceLT, Nat.reduceLeDiff, Nat.zero_le, Nat.le_refl, RI_i, RI_z0, RI_z1, Int32.reduceOfInt, Int8.reduceOfInt, Int16.reduceOfInt, Int64.reduceOfInt, Int8.toInt32_ofNat, Int16.toInt32_ofNat, Int.reduceNeg, Int32.ofInt_neg, Int8.ofInt_neg, Int16.ofInt_neg, Int32.toInt64_ofNat, Int32.reduceToNatClampNeg, Fin.isValue, Fin.val_one, Fin.val_zero, Fin.val_two, Int64.reduceOfNat, Int32.reduceOfNat, hdl, cutc, Nat.reduceEqDiff, reduceIte, FV, tyC, tyX0, tyX1, tyX2, tyX3, tyX4, tyX5, tyX6, tyX7, tyX8, tyX9, tyX10, Nat.reduceMul, c_le, c_lt, c_eq, c_in, c_cl, c_add, c_rem, c_ofN, Int32.add_zero, Int32.zero_add, c_lt0, c_ge0, c_le0, c_gt0, c_e0, c_m1, c_m1', false_implies, true_implies, implies_true, not_false_eq_true, not_true_eq_false, Nat.not_lt_zero, up_s, up_1, up_m, ff9_sendPage, bb9_sendPage_0, bb9_sendPage_12, bb9_sendPage_76, cl_1, ca_1, y0, y1, y2, b1, b2]
      refine ⟨fun h => absurd h (by omega), fun _ => ?_⟩
      have hS1 := hSt w1 _ hm hF
      refine sp9_modeToSend (S := a_set S (sent S k)) y0 hS1 hL h1 hw hsy k (by show k < (a_L S).length; omega) ?_
      obtain ⟨_, _, q1, -⟩ := id hC1
      unfold holdL
      simp only [List.getElem?_cons_zero, List.getElem?_cons_succ, fv4, Nat.reduceAdd, Nat.reduceSub, wp, pst, stp, LG, lput, ls_tl, two, bc, EL, pad, popN, csum, Option.toList, List.cons_append, List.nil_append, List.set_cons_zero, List.set_cons_succ, List.length_cons, List.length_nil, true_and, and_true, Nat.reduceLT, Nat.reduceLeDiff, Nat.zero_le, Nat.le_refl, RI_i, RI_z0, RI_z1, Int32.reduceOfInt, Int8.reduceOfInt, Int16.reduceOfInt, Int64.reduceOfInt, Int8.toInt32_ofNat, Int16.toInt32_ofNat, Int.reduceNeg, Int32.ofInt_neg, Int8.ofInt_neg, Int16.ofInt_neg, Int32.toInt64_ofNat, Int32.reduceToNatClampNeg, Fin.isValue, Fin.val_one, Fin.val_zero, Fin.val_two, Int64.reduceOfNat, Int32.reduceOfNat, hdl, cutc, Nat.reduceEqDiff, reduceIte, FV, tyC, tyX0, tyX1, tyX2, tyX3, tyX4, tyX5, tyX6, tyX7, tyX8, tyX9, tyX10, Nat.reduceMul, c_le, c_lt, c_eq, c_in, c_cl, c_add, c_rem, c_ofN, Int32.add_zero, Int32.zero_add, c_lt0, c_ge0, c_le0, c_gt0, c_e0, c_m1, c_m1', false_implies, true_implies, implies_true, not_false_eq_true, not_true_eq_false, Nat.not_lt_zero, up_s, up_1, up_m, ff9_sendPage, bb9_sendPage_0, bb9_sendPage_12, bb9_sendPage_76, cl_1, ca_1, q1]
      rw [show modeS (a_set S (sent S k)) k = modeS S k from rfl]
      refine sp0_write hC1 hS1.1 hL h1 hw k (modeS S k) (by show k < (a_L S).length; omega) (modeS_lt hsy k) (by omega) (fun w2 h2 f2 => ?_)
      have hF2 := hF.tr (Fr2.of2 f2)
      have z0 := (hF2 x (by omega) (by omega)).trans hX
      have z1 := (hF2 (x + 1) (by omega) (by omega)).trans hc
      obtain ⟨kf, cf, x1, x2, x3, x4, x5, x6, x7⟩ := id h2
      have hm2 := hm.fr f2 (by omega)
      obtain ⟨_, q2, -⟩ := id hm2
      rw [show x + 4 = x + 1 + 3 from rfl] at q2
      unfold holdL
      simp only [List.getElem?_cons_zero, List.getElem?_cons_succ, fv4, Nat.reduceAdd, Nat.reduceSub, wp, pst, stp, LG, lput, ls_tl, two, bc, EL, pad, popN, csum, Option.toList, List.cons_append, List.nil_append, List.set_cons_zero, List.set_cons_succ, List.length_cons, List.length_nil, true_and, and_true, Nat.reduceLT, Nat.reduceLeDiff, Nat.zero_le, Nat.le_refl, RI_i, RI_z0, RI_z1, Int32.reduceOfInt, Int8.reduceOfInt, Int16.reduceOfInt, Int64.reduceOfInt, Int8.toInt32_ofNat, Int16.toInt32_ofNat, Int.reduceNeg, Int32.ofInt_neg, Int8.ofInt_neg, Int16.ofInt_neg, Int32.toInt64_ofNat, Int32.reduceToNatClampNeg, Fin.isValue, Fin.val_one, Fin.val_zero, Fin.val_two, Int64.reduceOfNat, Int32.reduceOfNat, hdl, cutc, Nat.reduceEqDiff, reduceIte, FV, tyC, tyX0, tyX1, tyX2, tyX3, tyX4, tyX5, tyX6, tyX7, tyX8, tyX9, tyX10, Nat.reduceMul, c_le, c_lt, c_eq, c_in, c_cl, c_add, c_rem, c_ofN, Int32.add_zero, Int32.zero_add, c_lt0, c_ge0, c_le0, c_gt0, c_e0, c_m1, c_m1', false_implies, true_implies, implies_true, not_false_eq_true, not_true_eq_false, Nat.not_lt_zero, up_s, up_1, up_m, ff9_sendPage, bb9_sendPage_0, bb9_sendPage_12, bb9_sendPage_76, cl_1, ca_1, z0, z1, x1, q2]
      have hsl := sent_len S hw k
      have hcl := clen_le (a_wd S) (a_L S) k (modeS S k) hw
      unfold clen at hcl
      refine sp8_addAll hm2 (x + 69 + 2) cf _ 71 x3 (by omega) x5 x7 (by decide) (by omega) (fun w3 h3 f3 => ?_)
      unfold holdL
      simp only [List.getElem?_cons_zero, List.getElem?_cons_succ, fv4, Nat.reduceAdd, Nat.reduceSub, wp, pst, stp, LG, lput, ls_tl, two, bc, EL, pad, popN, csum, Option.toList, List.cons_append, List.nil_append, List.set_cons_zero, List.set_cons_succ, List.length_cons, List.length_nil, true_and, and_true, Nat.reduceLT, Nat.reduceLeDiff, Nat.zero_le, Nat.le_refl, RI_i, RI_z0, RI_z1, Int32.reduceOfInt, Int8.reduceOfInt, Int16.reduceOfInt, Int64.reduceOfInt, Int8.toInt32_ofNat, Int16.toInt32_ofNat, Int.reduceNeg, Int32.ofInt_neg, Int8.ofInt_neg, Int16.ofInt_neg, Int32.toInt64_ofNat, Int32.reduceToNatClampNeg, Fin.isValue, Fin.val_one, Fin.val_zero, Fin.val_two, Int64.reduceOfNat, Int32.reduceOfNat, hdl, cutc, Nat.reduceEqDiff, reduceIte, FV, tyC, tyX0, tyX1, tyX2, tyX3, tyX4, tyX5, tyX6, tyX7, tyX8, tyX9, tyX10, Nat.reduceMul, c_le, c_lt, c_eq, c_in, c_cl, c_add, c_rem, c_ofN, Int32.add_zero, Int32.zero_add, c_lt0, c_ge0, c_le0, c_gt0, c_e0, c_m1, c_m1', false_implies, true_implies, implies_true, not_false_eq_true, not_true_eq_false, Nat.not_lt_zero, up_s, up_1, up_m, ff9_sendPage, bb9_sendPage_0, bb9_sendPage_12, bb9_sendPage_76, cl_1, ca_1, b2]
      rw [← sent_succ] at h3
      exact ih (k + 1) w3 _ _ _ (by omega) h3 (h2.fr f3 (by omega)) (hF2.tr (Fr2.of1 f3))
  refine entry Γ m9_sendPage rfl _ (Nat.le_of_ble_eq_true rfl) _ _ _ ?_
  refine wp_ok kd9_sendPage 400 0 bb9_sendPage_0 _ _ _ _ _ _ oo9_sendPage_0 ?_
  simp only [List.getElem?_cons_zero, List.getElem?_cons_succ, fv4, Nat.reduceAdd, Nat.reduceSub, wp, pst, stp, LG, lput, ls_tl, two, bc, EL, pad, popN, csum, Option.toList, List.cons_append, List.nil_append, List.set_cons_zero, List.set_cons_succ, List.length_cons, List.length_nil, true_and, and_true, Nat.reduceLT, Nat.reduceLeDiff, Nat.zero_le, Nat.le_refl, RI_i, RI_z0, RI_z1, Int32.reduceOfInt, Int8.reduceOfInt, Int16.reduceOfInt, Int64.reduceOfInt, Int8.toInt32_ofNat, Int16.toInt32_ofNat, Int.reduceNeg, Int32.ofInt_neg, Int8.ofInt_neg, Int16.ofInt_neg, Int32.toInt64_ofNat, Int32.reduceToNatClampNeg, Fin.isValue, Fin.val_one, Fin.val_zero, Fin.val_two, Int64.reduceOfNat, Int32.reduceOfNat, hdl, cutc, Nat.reduceEqDiff, reduceIte, FV, tyC, tyX0, tyX1, tyX2, tyX3, tyX4, tyX5, tyX6, tyX7, tyX8, tyX9, tyX10, Nat.reduceMul, c_le, c_lt, c_eq, c_in, c_cl, c_add, c_rem, c_ofN, Int32.add_zero, Int32.zero_add, c_lt0, c_ge0, c_le0, c_gt0, c_e0, c_m1, c_m1', false_implies, true_implies, implies_true, not_false_eq_true, not_true_eq_false, Nat.not_lt_zero, up_s, up_1, up_m, ff9_sendPage, bb9_sendPage_0, bb9_sendPage_12, bb9_sendPage_76, cl_1, ca_1, hX, hc, m1]
  refine sp8_empty hM (fun w1 h1 f1 => ?_)
  unfold holdL
  simp only [List.getElem?_cons_zero, List.getElem?_cons_succ, fv4, Nat.reduceAdd, Nat.reduceSub, wp, pst, stp, LG, lput, ls_tl, two, bc, EL, pad, popN, csum, Option.toList, List.cons_append, List.nil_append, List.set_cons_zero, List.set_cons_succ, List.length_cons, List.length_nil, true_and, and_true, Nat.reduceLT, Nat.reduceLeDiff, Nat.zero_le, Nat.le_refl, RI_i, RI_z0, RI_z1, Int32.reduceOfInt, Int8.reduceOfInt, Int16.reduceOfInt, Int64.reduceOfInt, Int8.toInt32_ofNat, Int16.toInt32_ofNat, Int.reduceNeg, Int32.ofInt_neg, Int8.ofInt_neg, Int16.ofInt_neg, Int32.toInt64_ofNat, Int32.reduceToNatClampNeg, Fin.isValue, Fin.val_one, Fin.val_zero, Fin.val_two, Int64.reduceOfNat, Int32.reduceOfNat, hdl, cutc, Nat.reduceEqDiff, reduceIte, FV, tyC, tyX0, tyX1, tyX2, tyX3, tyX4, tyX5, tyX6, tyX7, tyX8, tyX9, tyX10, Nat.reduceMul, c_le, c_lt, c_eq, c_in, c_cl, c_add, c_rem, c_ofN, Int32.add_zero, Int32.zero_add, c_lt0, c_ge0, c_le0, c_gt0, c_e0, c_m1, c_m1', false_implies, true_implies, implies_true, not_false_eq_true, not_true_eq_false, Nat.not_lt_zero, up_s, up_1, up_m, ff9_sendPage, bb9_sendPage_0, bb9_sendPage_12, bb9_sendPage_76, cl_1, ca_1]
  refine loop (a_L S).length 0 w1 K C ch rfl h1 (hC.fr f1 (by omega)) (fun a h1 h2 => f1 a (by omega))
end TOP

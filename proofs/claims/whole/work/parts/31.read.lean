/-! READING A CODE -/
def prevR (R : List (Option Nat)) (n : Nat) : Nat := if n = 0 then 0 else (R.getD (n - 1) none).getD 0
def rend (s : List Nat) (R : List (Option Nat)) (n m : Nat) (z : Nat ⊕ (Nat × Nat × Nat)) : Nat ⊕ (Nat × Nat × Nat) :=
  match z with
  | .inl e => .inl e
  | .inr (x, q, sm) =>
    match s[q]? with
    | none => .inl 1
    | some c => if c = sm % 15 then .inr (n, if m = 2 then x ^^^ prevR R n else x, q + 1) else .inl 8
/-- a code from behind its marker: what is wrong, or the line, its pixels, the place behind -/
def rcd (s : List Nat) (wd : Nat) (R : List (Option Nat)) (p : Nat) : Nat ⊕ (Nat × Nat × Nat) :=
  match s[p]? with
  | none => .inl 1
  | some n => if 10 ≤ n then .inl 2 else
    match s[p + 1]? with
    | none => .inl 1
    | some m => if 3 ≤ m then .inl 3 else if m = 2 ∧ 0 < n ∧ R.getD (n - 1) none = none then .inl 7 else
      rend s R n m (if m = 1 then fos s wd 9 0 0 (p + 2) (n + m) else rns s wd 501 0 false 0 (p + 2) (n + m))
theorem dl1 : ((1 : Int32) = 0) = False := eq_false (by decide)
theorem dl2 : ((2 : Int32) = 0) = False := eq_false (by decide)
theorem dl3 : ((3 : Int32) = 0) = False := eq_false (by decide)
theorem dl7 : ((7 : Int32) = 0) = False := eq_false (by decide)
theorem dl8 : ((8 : Int32) = 0) = False := eq_false (by decide)
theorem dm10 : ((-1 : Int32) < 10) = True := eq_true (by decide)
theorem dm3 : ((-1 : Int32) < 3) = True := eq_true (by decide)
theorem dm2 : ((-1 : Int32) = 2) = False := eq_false (by decide)
theorem d15 : ((15 : Int32) = 0) = False := eq_false (by decide)
section READ
variable {Γ : Amb} {w : PW} {Q : Option Value → Option Nat → PW → Prop} {a r c : Nat} {s : List Nat} {R : List (Option Nat)} {E : List (Nat × Nat)}
theorem sp5_readCode (hS : SmR w a s) (hR : RcR w c R E) (hv : ∀ v ∈ s, v < 16) (wd p : Nat) (sm : Int32) (h1w : 1 ≤ wd) (hw : wd ≤ 32) (hr : w r = some (rdc (nI p) sm 0)) (hp : p ≤ s.length) (hd : r < a ∨ a + 2 ≤ r) (hd2 : r < c ∨ c + 4 ≤ r) (hd3 : a + 2 ≤ c ∨ c + 4 ≤ a) (h1 : ∀ n x q, rcd s wd R p = .inr (n, x, q) → n < 10 → q ≤ s.length → p < q → ∀ w' sm', RcR w' c (R.set n (some x)) E → w' r = some (rdc (nI q) sm' 0) → Fr2 w w' r 1 c 4 → Q none none w') (h0 : ∀ e, rcd s wd R p = .inl e → 1 ≤ e → e ≤ 8 → ∀ w' p' s', w' r = some (rdc p' s' (nI e)) → Fr w w' r 1 → Q none none w') : Sp Γ m5_readCode [.ref r, .ref a, .int (nI wd), .ref c] none w Q := by
  have b2 : wd < 2147483648 := by omega
  obtain ⟨sf, s1, s2, s3, s4⟩ := id hS
  have f0 : ∀ (w : PW) e, Fr w (up w r e) r 1 := fun w e => Fr.wr (by omega) (by omega)
  have hB : ∀ (e : Nat) (w1 : PW) (p' s' : Int32) (x : Int64) (n m : Int32) (j6 j7 j8 : Option Value), rcd s wd R p = .inl e → 1 ≤ e → e ≤ 8 → w1 r = some (rdc p' s' (nI e)) → Fr w w1 r 1 → G Γ m5_readCode Q (fun _ _ => False) 114 [some (.ref r), some (.ref a), some (.int (nI wd)), some (.ref c), some (.int n), some (.int m), j6, j7, j8] [.long x] none w1 0 0 := by
    intro e w1 p' s' x n m j6 j7 j8 he e1 e2 hr1 hF
    have b3 : e < 2147483648 := by omega
    have hne : ¬e = 0 := by omega
    have hq := h0 e he e1 e2 w1 p' s' hr1 hF
    have hr1' := hr1
    unfold rdc at hr1'
    refine wp_ok kd5_readCode 400 114 bb5_readCode_114 _ _ _ _ _ _ oo5_readCode_114 ?_
    simp only [List.getElem?_cons_zero, List.getElem?_cons_succ, fv4, Nat.reduceAdd, Nat.reduceSub, wp, pst, stp, LG, lput, ls_tl, two, bc, EL, pad, popN, csum, Option.toList, List.cons_append, List.nil_append, List.set_cons_zero, List.set_cons_succ, List.length_cons, List.length_nil, true_and, and_true, Nat.reduceLT, Nat.reduceLeDiff, Nat.zero_le, Nat.le_refl, RI_i, RI_z0, RI_z1, Int32.reduceOfInt, Int8.reduceOfInt, Int16.reduceOfInt, Int64.reduceOfInt, Int8.toInt32_ofNat, Int16.toInt32_ofNat, Int.reduceNeg, Int32.ofInt_neg, Int8.ofInt_neg, Int16.ofInt_neg, Int32.toInt64_ofNat, Int32.reduceToNatClampNeg, Fin.isValue, Fin.val_one, Fin.val_zero, Fin.val_two, Int64.reduceOfNat, Int32.reduceOfNat, hdl, cutc, Nat.reduceEqDiff, reduceIte, FV, tyC, tyX0, tyX1, tyX2, tyX3, tyX4, tyX5, tyX6, tyX7, tyX8, tyX9, tyX10, Nat.reduceMul, c_le, c_lt, c_eq, c_in, c_cl, c_add, c_rem, c_ofN, Int32.add_zero, Int32.zero_add, c_lt0, c_ge0, c_le0, c_gt0, c_e0, c_m1, c_m1', false_implies, true_implies, implies_true, not_false_eq_true, not_true_eq_false, Nat.not_lt_zero, up_s, up_1, up_m, ff5_readCode, bb5_readCode_0, bb5_readCode_19, bb5_readCode_34, bb5_readCode_35, bb5_readCode_48, bb5_readCode_76, bb5_readCode_84, bb5_readCode_108, bb5_readCode_114, bb5_readCode_131, bb5_readCode_132, bb5_readCode_159, bb5_readCode_189, bb5_readCode_191, bb5_readCode_194, cl_1, ca_1, cl_2, ca_2, cl_3, ca_3, cl_7, ca_7, cl_8, ca_8, cl_10, ca_10, cl_15, ca_15, hr1', b3, hne]
    exact hq
  have hJ : ∀ (w1 : PW) (x q sm1 n m : Nat) (j6 j7 j8 : Option Value), rcd s wd R p = rend s R n m (.inr (x, q, sm1)) → n < 10 → m < 3 → q ≤ s.length → sm1 < 2147480000 → p < q → ¬(m = 2 ∧ 0 < n ∧ R.getD (n - 1) none = none) → w1 r = some (rdc (nI q) (nI sm1) 0) → Fr w w1 r 1 → G Γ m5_readCode Q (fun _ _ => False) 114 [some (.ref r), some (.ref a), some (.int (nI wd)), some (.ref c), some (.int (nI n)), some (.int (nI m)), j6, j7, j8] [.long (lN x)] none w1 0 0 := by
    intro w1 x q sm1 n m j6 j7 j8 hrc hn hm hq hs1 hpq hm7 hr1 hF
    unfold rend at hrc
    dsimp only at hrc
    have b3 : sm1 < 2147483648 := by omega
    have b5 : m < 2147483648 := by omega
    have b6 : n < 2147483648 := by omega
    have hr1' := hr1
    unfold rdc at hr1'
    refine wp_ok kd5_readCode 400 114 bb5_readCode_114 _ _ _ _ _ _ oo5_readCode_114 ?_
    simp only [List.getElem?_cons_zero, List.getElem?_cons_succ, fv4, Nat.reduceAdd, Nat.reduceSub, wp, pst, stp, LG, lput, ls_tl, two, bc, EL, pad, popN, csum, Option.toList, List.cons_append, List.nil_append, List.set_cons_zero, List.set_cons_succ, List.length_cons, List.length_nil, true_and, and_true, Nat.reduceLT, Nat.reduceLeDiff, Nat.zero_le, Nat.le_refl, RI_i, RI_z0, RI_z1, Int32.reduceOfInt, Int8.reduceOfInt, Int16.reduceOfInt, Int64.reduceOfInt, Int8.toInt32_ofNat, Int16.toInt32_ofNat, Int.reduceNeg, Int32.ofInt_neg, Int8.ofInt_neg, Int16.ofInt_neg, Int32.toInt64_ofNat, Int32.reduceToNatClampNeg, Fin.isValue, Fin.val_one, Fin.val_zero, Fin.val_two, Int64.reduceOfNat, Int32.reduceOfNat, hdl, cutc, Nat.reduceEqDiff, reduceIte, FV, tyC, tyX0, tyX1, tyX2, tyX3, tyX4, tyX5, tyX6, tyX7, tyX8, tyX9, tyX10, Nat.reduceMul, c_le, c_lt, c_eq, c_in, c_cl, c_add, c_rem, c_ofN, Int32.add_zero, Int32.zero_add, c_lt0, c_ge0, c_le0, c_gt0, c_e0, c_m1, c_m1', false_implies, true_implies, implies_true, not_false_eq_true, not_true_eq_false, Nat.not_lt_zero, up_s, up_1, up_m, ff5_readCode, bb5_readCode_0, bb5_readCode_19, bb5_readCode_34, bb5_readCode_35, bb5_readCode_48, bb5_readCode_76, bb5_readCode_84, bb5_readCode_108, bb5_readCode_114, bb5_readCode_131, bb5_readCode_132, bb5_readCode_159, bb5_readCode_189, bb5_readCode_191, bb5_readCode_194, cl_1, ca_1, cl_2, ca_2, cl_3, ca_3, cl_7, ca_7, cl_8, ca_8, cl_10, ca_10, cl_15, ca_15, hr1']
    refine sp5_next (hS.fr hF (by omega)) hv _ _ q hr1 (by omega) (fun h w2 r2 f2 => ?_) (fun h w2 r2 f2 => ?_)
    · have hlt := getD_lt hv q
      rw [getD_some h] at hrc
      dsimp only at hrc
      have b4 : s.getD q 0 < 2147483648 := by omega
      have b7 : sm1 % 15 < 2147483648 := by omega
      have hF2 := hF.tr f2
      have r2' := r2
      unfold rdc at r2'
      have hR2 := (hR.fr hF (by omega)).fr f2 (by omega)
      obtain ⟨_, _, _, _, q1, -⟩ := id hR2
      unfold holdL
      simp only [List.getElem?_cons_zero, List.getElem?_cons_succ, fv4, Nat.reduceAdd, Nat.reduceSub, wp, pst, stp, LG, lput, ls_tl, two, bc, EL, pad, popN, csum, Option.toList, List.cons_append, List.nil_append, List.set_cons_zero, List.set_cons_succ, List.length_cons, List.length_nil, true_and, and_true, Nat.reduceLT, Nat.reduceLeDiff, Nat.zero_le, Nat.le_refl, RI_i, RI_z0, RI_z1, Int32.reduceOfInt, Int8.reduceOfInt, Int16.reduceOfInt, Int64.reduceOfInt, Int8.toInt32_ofNat, Int16.toInt32_ofNat, Int.reduceNeg, Int32.ofInt_neg, Int8.ofInt_neg, Int16.ofInt_neg, Int32.toInt64_ofNat, Int32.reduceToNatClampNeg, Fin.isValue, Fin.val_one, Fin.val_zero, Fin.val_two, Int64.reduceOfNat, Int32.reduceOfNat, hdl, cutc, Nat.reduceEqDiff, reduceIte, FV, tyC, tyX0, tyX1, tyX2, tyX3, tyX4, tyX5, tyX6, tyX7, tyX8, tyX9, tyX10, Nat.reduceMul, c_le, c_lt, c_eq, c_in, c_cl, c_add, c_rem, c_ofN, Int32.add_zero, Int32.zero_add, c_lt0, c_ge0, c_le0, c_gt0, c_e0, c_m1, c_m1', false_implies, true_implies, implies_true, not_false_eq_true, not_true_eq_false, Nat.not_lt_zero, up_s, up_1, up_m, ff5_readCode, bb5_readCode_0, bb5_readCode_19, bb5_readCode_34, bb5_readCode_35, bb5_readCode_48, bb5_readCode_76, bb5_readCode_84, bb5_readCode_108, bb5_readCode_114, bb5_readCode_131, bb5_readCode_132, bb5_readCode_159, bb5_readCode_189, bb5_readCode_191, bb5_readCode_194, cl_1, ca_1, cl_2, ca_2, cl_3, ca_3, cl_7, ca_7, cl_8, ca_8, cl_10, ca_10, cl_15, ca_15, r2', q1, b3, b4, b5, b6, b7, dl8, d15]
      have hin : ∀ x2 w3, RcR w3 c (R.set n (some x2)) E → Fr w2 w3 c 4 → x2 = (if m = 2 then x ^^^ prevR R n else x) → s.getD q 0 = sm1 % 15 → Q none none w3 := by
        intro x2 w3 h3 f3 hx2 hck
        rw [if_pos hck, ← hx2] at hrc
        exact h1 n x2 (q + 1) hrc hn (by omega) (by omega) w3 _ h3 (by rw [f3 r (by omega)]; exact r2) ((Fr2.of1 hF2).tr (Fr2.of2 f3))
      refine ⟨fun hck => ⟨fun hm2 => ?_, fun hm2 => ?_⟩, fun hck => ?_⟩
      · refine sp6_take hR2 n x hn (fun w3 h3 f3 => ?_)
        unfold holdL
        simp only [List.getElem?_cons_zero, List.getElem?_cons_succ, fv4, Nat.reduceAdd, Nat.reduceSub, wp, pst, stp, LG, lput, ls_tl, two, bc, EL, pad, popN, csum, Option.toList, List.cons_append, List.nil_append, List.set_cons_zero, List.set_cons_succ, List.length_cons, List.length_nil, true_and, and_true, Nat.reduceLT, Nat.reduceLeDiff, Nat.zero_le, Nat.le_refl, RI_i, RI_z0, RI_z1, Int32.reduceOfInt, Int8.reduceOfInt, Int16.reduceOfInt, Int64.reduceOfInt, Int8.toInt32_ofNat, Int16.toInt32_ofNat, Int.reduceNeg, Int32.ofInt_neg, Int8.ofInt_neg, Int16.ofInt_neg, Int32.toInt64_ofNat, Int32.reduceToNatClampNeg, Fin.isValue, Fin.val_one, Fin.val_zero, Fin.val_two, Int64.reduceOfNat, Int32.reduceOfNat, hdl, cutc, Nat.reduceEqDiff, reduceIte, FV, tyC, tyX0, tyX1, tyX2, tyX3, tyX4, tyX5, tyX6, tyX7, tyX8, tyX9, tyX10, Nat.reduceMul, c_le, c_lt, c_eq, c_in, c_cl, c_add, c_rem, c_ofN, Int32.add_zero, Int32.zero_add, c_lt0, c_ge0, c_le0, c_gt0, c_e0, c_m1, c_m1', false_implies, true_implies, implies_true, not_false_eq_true, not_true_eq_false, Nat.not_lt_zero, up_s, up_1, up_m, ff5_readCode, bb5_readCode_0, bb5_readCode_19, bb5_readCode_34, bb5_readCode_35, bb5_readCode_48, bb5_readCode_76, bb5_readCode_84, bb5_readCode_108, bb5_readCode_114, bb5_readCode_131, bb5_readCode_132, bb5_readCode_159, bb5_readCode_189, bb5_readCode_191, bb5_readCode_194, cl_1, ca_1, cl_2, ca_2, cl_3, ca_3, cl_7, ca_7, cl_8, ca_8, cl_10, ca_10, cl_15, ca_15]
        exact hin x w3 h3 f3 (by rw [if_neg hm2]) hck
      · have hm2' := Classical.not_not.mp hm2
        by_cases hn0 : n = 0
        · subst hn0
          refine sp6_rowOf_m1 hR2 ?_
          unfold holdL
          simp only [List.getElem?_cons_zero, List.getElem?_cons_succ, fv4, Nat.reduceAdd, Nat.reduceSub, wp, pst, stp, LG, lput, ls_tl, two, bc, EL, pad, popN, csum, Option.toList, List.cons_append, List.nil_append, List.set_cons_zero, List.set_cons_succ, List.length_cons, List.length_nil, true_and, and_true, Nat.reduceLT, Nat.reduceLeDiff, Nat.zero_le, Nat.le_refl, RI_i, RI_z0, RI_z1, Int32.reduceOfInt, Int8.reduceOfInt, Int16.reduceOfInt, Int64.reduceOfInt, Int8.toInt32_ofNat, Int16.toInt32_ofNat, Int.reduceNeg, Int32.ofInt_neg, Int8.ofInt_neg, Int16.ofInt_neg, Int32.toInt64_ofNat, Int32.reduceToNatClampNeg, Fin.isValue, Fin.val_one, Fin.val_zero, Fin.val_two, Int64.reduceOfNat, Int32.reduceOfNat, hdl, cutc, Nat.reduceEqDiff, reduceIte, FV, tyC, tyX0, tyX1, tyX2, tyX3, tyX4, tyX5, tyX6, tyX7, tyX8, tyX9, tyX10, Nat.reduceMul, c_le, c_lt, c_eq, c_in, c_cl, c_add, c_rem, c_ofN, Int32.add_zero, Int32.zero_add, c_lt0, c_ge0, c_le0, c_gt0, c_e0, c_m1, c_m1', false_implies, true_implies, implies_true, not_false_eq_true, not_true_eq_false, Nat.not_lt_zero, up_s, up_1, up_m, ff5_readCode, bb5_readCode_0, bb5_readCode_19, bb5_readCode_34, bb5_readCode_35, bb5_readCode_48, bb5_readCode_76, bb5_readCode_84, bb5_readCode_108, bb5_readCode_114, bb5_readCode_131, bb5_readCode_132, bb5_readCode_159, bb5_readCode_189, bb5_readCode_191, bb5_readCode_194, cl_1, ca_1, cl_2, ca_2, cl_3, ca_3, cl_7, ca_7, cl_8, ca_8, cl_10, ca_10, cl_15, ca_15, q1]
          rw [lN_0, fb_xorL]
          refine sp6_take hR2 0 _ hn (fun w3 h3 f3 => ?_)
          unfold holdL
          simp only [List.getElem?_cons_zero, List.getElem?_cons_succ, fv4, Nat.reduceAdd, Nat.reduceSub, wp, pst, stp, LG, lput, ls_tl, two, bc, EL, pad, popN, csum, Option.toList, List.cons_append, List.nil_append, List.set_cons_zero, List.set_cons_succ, List.length_cons, List.length_nil, true_and, and_true, Nat.reduceLT, Nat.reduceLeDiff, Nat.zero_le, Nat.le_refl, RI_i, RI_z0, RI_z1, Int32.reduceOfInt, Int8.reduceOfInt, Int16.reduceOfInt, Int64.reduceOfInt, Int8.toInt32_ofNat, Int16.toInt32_ofNat, Int.reduceNeg, Int32.ofInt_neg, Int8.ofInt_neg, Int16.ofInt_neg, Int32.toInt64_ofNat, Int32.reduceToNatClampNeg, Fin.isValue, Fin.val_one, Fin.val_zero, Fin.val_two, Int64.reduceOfNat, Int32.reduceOfNat, hdl, cutc, Nat.reduceEqDiff, reduceIte, FV, tyC, tyX0, tyX1, tyX2, tyX3, tyX4, tyX5, tyX6, tyX7, tyX8, tyX9, tyX10, Nat.reduceMul, c_le, c_lt, c_eq, c_in, c_cl, c_add, c_rem, c_ofN, Int32.add_zero, Int32.zero_add, c_lt0, c_ge0, c_le0, c_gt0, c_e0, c_m1, c_m1', false_implies, true_implies, implies_true, not_false_eq_true, not_true_eq_false, Nat.not_lt_zero, up_s, up_1, up_m, ff5_readCode, bb5_readCode_0, bb5_readCode_19, bb5_readCode_34, bb5_readCode_35, bb5_readCode_48, bb5_readCode_76, bb5_readCode_84, bb5_readCode_108, bb5_readCode_114, bb5_readCode_131, bb5_readCode_132, bb5_readCode_159, bb5_readCode_189, bb5_readCode_191, bb5_readCode_194, cl_1, ca_1, cl_2, ca_2, cl_3, ca_3, cl_7, ca_7, cl_8, ca_8, cl_10, ca_10, cl_15, ca_15]
          exact hin _ w3 h3 f3 (by rw [if_pos hm2', prevR, if_pos rfl]) hck
        · rw [show nI n - 1 = nI (n - 1) from c_subr (b := 1) (by omega)]
          refine sp6_rowOf hR2 (n - 1) (by omega) (fun y hy => ?_) (fun hy => ?_)
          · unfold holdL
            simp only [List.getElem?_cons_zero, List.getElem?_cons_succ, fv4, Nat.reduceAdd, Nat.reduceSub, wp, pst, stp, LG, lput, ls_tl, two, bc, EL, pad, popN, csum, Option.toList, List.cons_append, List.nil_append, List.set_cons_zero, List.set_cons_succ, List.length_cons, List.length_nil, true_and, and_true, Nat.reduceLT, Nat.reduceLeDiff, Nat.zero_le, Nat.le_refl, RI_i, RI_z0, RI_z1, Int32.reduceOfInt, Int8.reduceOfInt, Int16.reduceOfInt, Int64.reduceOfInt, Int8.toInt32_ofNat, Int16.toInt32_ofNat, Int.reduceNeg, Int32.ofInt_neg, Int8.ofInt_neg, Int16.ofInt_neg, Int32.toInt64_ofNat, Int32.reduceToNatClampNeg, Fin.isValue, Fin.val_one, Fin.val_zero, Fin.val_two, Int64.reduceOfNat, Int32.reduceOfNat, hdl, cutc, Nat.reduceEqDiff, reduceIte, FV, tyC, tyX0, tyX1, tyX2, tyX3, tyX4, tyX5, tyX6, tyX7, tyX8, tyX9, tyX10, Nat.reduceMul, c_le, c_lt, c_eq, c_in, c_cl, c_add, c_rem, c_ofN, Int32.add_zero, Int32.zero_add, c_lt0, c_ge0, c_le0, c_gt0, c_e0, c_m1, c_m1', false_implies, true_implies, implies_true, not_false_eq_true, not_true_eq_false, Nat.not_lt_zero, up_s, up_1, up_m, ff5_readCode, bb5_readCode_0, bb5_readCode_19, bb5_readCode_34, bb5_readCode_35, bb5_readCode_48, bb5_readCode_76, bb5_readCode_84, bb5_readCode_108, bb5_readCode_114, bb5_readCode_131, bb5_readCode_132, bb5_readCode_159, bb5_readCode_189, bb5_readCode_191, bb5_readCode_194, cl_1, ca_1, cl_2, ca_2, cl_3, ca_3, cl_7, ca_7, cl_8, ca_8, cl_10, ca_10, cl_15, ca_15, q1]
            rw [fb_xorL]
            refine sp6_take hR2 n _ hn (fun w3 h3 f3 => ?_)
            unfold holdL
            simp only [List.getElem?_cons_zero, List.getElem?_cons_succ, fv4, Nat.reduceAdd, Nat.reduceSub, wp, pst, stp, LG, lput, ls_tl, two, bc, EL, pad, popN, csum, Option.toList, List.cons_append, List.nil_append, List.set_cons_zero, List.set_cons_succ, List.length_cons, List.length_nil, true_and, and_true, Nat.reduceLT, Nat.reduceLeDiff, Nat.zero_le, Nat.le_refl, RI_i, RI_z0, RI_z1, Int32.reduceOfInt, Int8.reduceOfInt, Int16.reduceOfInt, Int64.reduceOfInt, Int8.toInt32_ofNat, Int16.toInt32_ofNat, Int.reduceNeg, Int32.ofInt_neg, Int8.ofInt_neg, Int16.ofInt_neg, Int32.toInt64_ofNat, Int32.reduceToNatClampNeg, Fin.isValue, Fin.val_one, Fin.val_zero, Fin.val_two, Int64.reduceOfNat, Int32.reduceOfNat, hdl, cutc, Nat.reduceEqDiff, reduceIte, FV, tyC, tyX0, tyX1, tyX2, tyX3, tyX4, tyX5, tyX6, tyX7, tyX8, tyX9, tyX10, Nat.reduceMul, c_le, c_lt, c_eq, c_in, c_cl, c_add, c_rem, c_ofN, Int32.add_zero, Int32.zero_add, c_lt0, c_ge0, c_le0, c_gt0, c_e0, c_m1, c_m1', false_implies, true_implies, implies_true, not_false_eq_true, not_true_eq_false, Nat.not_lt_zero, up_s, up_1, up_m, ff5_readCode, bb5_readCode_0, bb5_readCode_19, bb5_readCode_34, bb5_readCode_35, bb5_readCode_48, bb5_readCode_76, bb5_readCode_84, bb5_readCode_108, bb5_readCode_114, bb5_readCode_131, bb5_readCode_132, bb5_readCode_159, bb5_readCode_189, bb5_readCode_191, bb5_readCode_194, cl_1, ca_1, cl_2, ca_2, cl_3, ca_3, cl_7, ca_7, cl_8, ca_8, cl_10, ca_10, cl_15, ca_15]
            exact hin _ w3 h3 f3 (by rw [if_pos hm2', prevR, if_neg hn0, hy]; rfl) hck
          · exact absurd ⟨hm2', by omega, hy⟩ hm7
      · rw [if_neg hck] at hrc
        exact h0 8 hrc (by decide) (by decide) _ _ _ (up_s _ _ _) (hF2.tr (f0 _ _))
    · rw [getD_none h] at hrc
      dsimp only at hrc
      have r2' := r2
      unfold rdc at r2'
      unfold holdL
      simp only [List.getElem?_cons_zero, List.getElem?_cons_succ, fv4, Nat.reduceAdd, Nat.reduceSub, wp, pst, stp, LG, lput, ls_tl, two, bc, EL, pad, popN, csum, Option.toList, List.cons_append, List.nil_append, List.set_cons_zero, List.set_cons_succ, List.length_cons, List.length_nil, true_and, and_true, Nat.reduceLT, Nat.reduceLeDiff, Nat.zero_le, Nat.le_refl, RI_i, RI_z0, RI_z1, Int32.reduceOfInt, Int8.reduceOfInt, Int16.reduceOfInt, Int64.reduceOfInt, Int8.toInt32_ofNat, Int16.toInt32_ofNat, Int.reduceNeg, Int32.ofInt_neg, Int8.ofInt_neg, Int16.ofInt_neg, Int32.toInt64_ofNat, Int32.reduceToNatClampNeg, Fin.isValue, Fin.val_one, Fin.val_zero, Fin.val_two, Int64.reduceOfNat, Int32.reduceOfNat, hdl, cutc, Nat.reduceEqDiff, reduceIte, FV, tyC, tyX0, tyX1, tyX2, tyX3, tyX4, tyX5, tyX6, tyX7, tyX8, tyX9, tyX10, Nat.reduceMul, c_le, c_lt, c_eq, c_in, c_cl, c_add, c_rem, c_ofN, Int32.add_zero, Int32.zero_add, c_lt0, c_ge0, c_le0, c_gt0, c_e0, c_m1, c_m1', false_implies, true_implies, implies_true, not_false_eq_true, not_true_eq_false, Nat.not_lt_zero, up_s, up_1, up_m, ff5_readCode, bb5_readCode_0, bb5_readCode_19, bb5_readCode_34, bb5_readCode_35, bb5_readCode_48, bb5_readCode_76, bb5_readCode_84, bb5_readCode_108, bb5_readCode_114, bb5_readCode_131, bb5_readCode_132, bb5_readCode_159, bb5_readCode_189, bb5_readCode_191, bb5_readCode_194, cl_1, ca_1, cl_2, ca_2, cl_3, ca_3, cl_7, ca_7, cl_8, ca_8, cl_10, ca_10, cl_15, ca_15, r2', b3, dl1]
      exact h0 1 hrc (by decide) (by decide) _ _ _ r2 (hF.tr f2)
  have hr' := hr
  unfold rdc at hr'
  unfold rcd at h1 h0 hB hJ
  refine entry Γ m5_readCode rfl _ (Nat.le_of_ble_eq_true rfl) _ _ _ ?_
  refine wp_ok (kd_cut 114 kd5_readCode) 400 0 bb5_readCode_0 _ _ _ _ _ _ oo5_readCode_0 ?_
  simp only [List.getElem?_cons_zero, List.getElem?_cons_succ, fv4, Nat.reduceAdd, Nat.reduceSub, wp, pst, stp, LG, lput, ls_tl, two, bc, EL, pad, popN, csum, Option.toList, List.cons_append, List.nil_append, List.set_cons_zero, List.set_cons_succ, List.length_cons, List.length_nil, true_and, and_true, Nat.reduceLT, Nat.reduceLeDiff, Nat.zero_le, Nat.le_refl, RI_i, RI_z0, RI_z1, Int32.reduceOfInt, Int8.reduceOfInt, Int16.reduceOfInt, Int64.reduceOfInt, Int8.toInt32_ofNat, Int16.toInt32_ofNat, Int.reduceNeg, Int32.ofInt_neg, Int8.ofInt_neg, Int16.ofInt_neg, Int32.toInt64_ofNat, Int32.reduceToNatClampNeg, Fin.isValue, Fin.val_one, Fin.val_zero, Fin.val_two, Int64.reduceOfNat, Int32.reduceOfNat, hdl, cutc, Nat.reduceEqDiff, reduceIte, FV, tyC, tyX0, tyX1, tyX2, tyX3, tyX4, tyX5, tyX6, tyX7, tyX8, tyX9, tyX10, Nat.reduceMul, c_le, c_lt, c_eq, c_in, c_cl, c_add, c_rem, c_ofN, Int32.add_zero, Int32.zero_add, c_lt0, c_ge0, c_le0, c_gt0, c_e0, c_m1, c_m1', false_implies, true_implies, implies_true, not_false_eq_true, not_true_eq_false, Nat.not_lt_zero, up_s, up_1, up_m, ff5_readCode, bb5_readCode_0, bb5_readCode_19, bb5_readCode_34, bb5_readCode_35, bb5_readCode_48, bb5_readCode_76, bb5_readCode_84, bb5_readCode_108, bb5_readCode_114, bb5_readCode_131, bb5_readCode_132, bb5_readCode_159, bb5_readCode_189, bb5_readCode_191, bb5_readCode_194, cl_1, ca_1, cl_2, ca_2, cl_3, ca_3, cl_7, ca_7, cl_8, ca_8, cl_10, ca_10, cl_15, ca_15, hr']
  refine sp5_next hS hv _ _ p hr (by omega) (fun h w1 r1 f1 => ?_) (fun h w1 r1 f1 => ?_)
  · have hlt := getD_lt hv p
    rw [getD_some h] at h1 h0 hB hJ
    dsimp only at h1 h0 hB hJ
    have b3 : s.getD p 0 < 2147483648 := by omega
    have r1' := r1
    unfold rdc at r1'
    unfold holdL
    simp only [List.getElem?_cons_zero, List.getElem?_cons_succ, fv4, Nat.reduceAdd, Nat.reduceSub, wp, pst, stp, LG, lput, ls_tl, two, bc, EL, pad, popN, csum, Option.toList, List.cons_append, List.nil_append, List.set_cons_zero, List.set_cons_succ, List.length_cons, List.length_nil, true_and, and_true, Nat.reduceLT, Nat.reduceLeDiff, Nat.zero_le, Nat.le_refl, RI_i, RI_z0, RI_z1, Int32.reduceOfInt, Int8.reduceOfInt, Int16.reduceOfInt, Int64.reduceOfInt, Int8.toInt32_ofNat, Int16.toInt32_ofNat, Int.reduceNeg, Int32.ofInt_neg, Int8.ofInt_neg, Int16.ofInt_neg, Int32.toInt64_ofNat, Int32.reduceToNatClampNeg, Fin.isValue, Fin.val_one, Fin.val_zero, Fin.val_two, Int64.reduceOfNat, Int32.reduceOfNat, hdl, cutc, Nat.reduceEqDiff, reduceIte, FV, tyC, tyX0, tyX1, tyX2, tyX3, tyX4, tyX5, tyX6, tyX7, tyX8, tyX9, tyX10, Nat.reduceMul, c_le, c_lt, c_eq, c_in, c_cl, c_add, c_rem, c_ofN, Int32.add_zero, Int32.zero_add, c_lt0, c_ge0, c_le0, c_gt0, c_e0, c_m1, c_m1', false_implies, true_implies, implies_true, not_false_eq_true, not_true_eq_false, Nat.not_lt_zero, up_s, up_1, up_m, ff5_readCode, bb5_readCode_0, bb5_readCode_19, bb5_readCode_34, bb5_readCode_35, bb5_readCode_48, bb5_readCode_76, bb5_readCode_84, bb5_readCode_108, bb5_readCode_114, bb5_readCode_131, bb5_readCode_132, bb5_readCode_159, bb5_readCode_189, bb5_readCode_191, bb5_readCode_194, cl_1, ca_1, cl_2, ca_2, cl_3, ca_3, cl_7, ca_7, cl_8, ca_8, cl_10, ca_10, cl_15, ca_15, r1', b3, dl1, dl2, dl3, dl7, dm3, dm2]
    refine ⟨fun h10 => ?_, fun h10 => ?_⟩
    · rw [if_neg (by omega)] at h1 h0 hB hJ
      refine sp5_next (hS.fr f1 (by omega)) hv _ _ (p + 1) r1 (by omega) (fun h2 w2 r2 f2 => ?_) (fun h2 w2 r2 f2 => ?_)
      · have hlt2 := getD_lt hv (p + 1)
        rw [getD_some h2] at h1 h0 hB hJ
        dsimp only at h1 h0 hB hJ
        have b4 : s.getD (p + 1) 0 < 2147483648 := by omega
        have r2' := r2
        unfold rdc at r2'
        have hF2 := f1.tr f2
        have hR2 := hR.fr hF2 (by omega)
        obtain ⟨_, _, _, _, q1, -⟩ := id hR2
        unfold holdL
        simp only [List.getElem?_cons_zero, List.getElem?_cons_succ, fv4, Nat.reduceAdd, Nat.reduceSub, wp, pst, stp, LG, lput, ls_tl, two, bc, EL, pad, popN, csum, Option.toList, List.cons_append, List.nil_append, List.set_cons_zero, List.set_cons_succ, List.length_cons, List.length_nil, true_and, and_true, Nat.reduceLT, Nat.reduceLeDiff, Nat.zero_le, Nat.le_refl, RI_i, RI_z0, RI_z1, Int32.reduceOfInt, Int8.reduceOfInt, Int16.reduceOfInt, Int64.reduceOfInt, Int8.toInt32_ofNat, Int16.toInt32_ofNat, Int.reduceNeg, Int32.ofInt_neg, Int8.ofInt_neg, Int16.ofInt_neg, Int32.toInt64_ofNat, Int32.reduceToNatClampNeg, Fin.isValue, Fin.val_one, Fin.val_zero, Fin.val_two, Int64.reduceOfNat, Int32.reduceOfNat, hdl, cutc, Nat.reduceEqDiff, reduceIte, FV, tyC, tyX0, tyX1, tyX2, tyX3, tyX4, tyX5, tyX6, tyX7, tyX8, tyX9, tyX10, Nat.reduceMul, c_le, c_lt, c_eq, c_in, c_cl, c_add, c_rem, c_ofN, Int32.add_zero, Int32.zero_add, c_lt0, c_ge0, c_le0, c_gt0, c_e0, c_m1, c_m1', false_implies, true_implies, implies_true, not_false_eq_true, not_true_eq_false, Nat.not_lt_zero, up_s, up_1, up_m, ff5_readCode, bb5_readCode_0, bb5_readCode_19, bb5_readCode_34, bb5_readCode_35, bb5_readCode_48, bb5_readCode_76, bb5_readCode_84, bb5_readCode_108, bb5_readCode_114, bb5_readCode_131, bb5_readCode_132, bb5_readCode_159, bb5_readCode_189, bb5_readCode_191, bb5_readCode_194, cl_1, ca_1, cl_2, ca_2, cl_3, ca_3, cl_7, ca_7, cl_8, ca_8, cl_10, ca_10, cl_15, ca_15, r2', q1, b3, b4, dl1, dl2, dl3, dl7, dm3, dm2]
        trace_state
        sorry
      · rw [getD_none h2] at h1 h0
        have r2' := r2
        unfold rdc at r2'
        unfold holdL
        simp only [List.getElem?_cons_zero, List.getElem?_cons_succ, fv4, Nat.reduceAdd, Nat.reduceSub, wp, pst, stp, LG, lput, ls_tl, two, bc, EL, pad, popN, csum, Option.toList, List.cons_append, List.nil_append, List.set_cons_zero, List.set_cons_succ, List.length_cons, List.length_nil, true_and, and_true, Nat.reduceLT, Nat.reduceLeDiff, Nat.zero_le, Nat.le_refl, RI_i, RI_z0, RI_z1, Int32.reduceOfInt, Int8.reduceOfInt, Int16.reduceOfInt, Int64.reduceOfInt, Int8.toInt32_ofNat, Int16.toInt32_ofNat, Int.reduceNeg, Int32.ofInt_neg, Int8.ofInt_neg, Int16.ofInt_neg, Int32.toInt64_ofNat, Int32.reduceToNatClampNeg, Fin.isValue, Fin.val_one, Fin.val_zero, Fin.val_two, Int64.reduceOfNat, Int32.reduceOfNat, hdl, cutc, Nat.reduceEqDiff, reduceIte, FV, tyC, tyX0, tyX1, tyX2, tyX3, tyX4, tyX5, tyX6, tyX7, tyX8, tyX9, tyX10, Nat.reduceMul, c_le, c_lt, c_eq, c_in, c_cl, c_add, c_rem, c_ofN, Int32.add_zero, Int32.zero_add, c_lt0, c_ge0, c_le0, c_gt0, c_e0, c_m1, c_m1', false_implies, true_implies, implies_true, not_false_eq_true, not_true_eq_false, Nat.not_lt_zero, up_s, up_1, up_m, ff5_readCode, bb5_readCode_0, bb5_readCode_19, bb5_readCode_34, bb5_readCode_35, bb5_readCode_48, bb5_readCode_76, bb5_readCode_84, bb5_readCode_108, bb5_readCode_114, bb5_readCode_131, bb5_readCode_132, bb5_readCode_159, bb5_readCode_189, bb5_readCode_191, bb5_readCode_194, cl_1, ca_1, cl_2, ca_2, cl_3, ca_3, cl_7, ca_7, cl_8, ca_8, cl_10, ca_10, cl_15, ca_15, r2', dm10, dl1, dm3, dm2]
        exact h0 1 rfl (by decide) (by decide) _ _ _ r2 (f1.tr f2)
    · rw [if_pos (by omega)] at h1 h0
      exact h0 2 rfl (by decide) (by decide) _ _ _ (up_s _ _ _) (f1.tr (f0 _ _))
  · rw [getD_none h] at h1 h0
    have r1' := r1
    unfold rdc at r1'
    unfold holdL
    simp only [List.getElem?_cons_zero, List.getElem?_cons_succ, fv4, Nat.reduceAdd, Nat.reduceSub, wp, pst, stp, LG, lput, ls_tl, two, bc, EL, pad, popN, csum, Option.toList, List.cons_append, List.nil_append, List.set_cons_zero, List.set_cons_succ, List.length_cons, List.length_nil, true_and, and_true, Nat.reduceLT, Nat.reduceLeDiff, Nat.zero_le, Nat.le_refl, RI_i, RI_z0, RI_z1, Int32.reduceOfInt, Int8.reduceOfInt, Int16.reduceOfInt, Int64.reduceOfInt, Int8.toInt32_ofNat, Int16.toInt32_ofNat, Int.reduceNeg, Int32.ofInt_neg, Int8.ofInt_neg, Int16.ofInt_neg, Int32.toInt64_ofNat, Int32.reduceToNatClampNeg, Fin.isValue, Fin.val_one, Fin.val_zero, Fin.val_two, Int64.reduceOfNat, Int32.reduceOfNat, hdl, cutc, Nat.reduceEqDiff, reduceIte, FV, tyC, tyX0, tyX1, tyX2, tyX3, tyX4, tyX5, tyX6, tyX7, tyX8, tyX9, tyX10, Nat.reduceMul, c_le, c_lt, c_eq, c_in, c_cl, c_add, c_rem, c_ofN, Int32.add_zero, Int32.zero_add, c_lt0, c_ge0, c_le0, c_gt0, c_e0, c_m1, c_m1', false_implies, true_implies, implies_true, not_false_eq_true, not_true_eq_false, Nat.not_lt_zero, up_s, up_1, up_m, ff5_readCode, bb5_readCode_0, bb5_readCode_19, bb5_readCode_34, bb5_readCode_35, bb5_readCode_48, bb5_readCode_76, bb5_readCode_84, bb5_readCode_108, bb5_readCode_114, bb5_readCode_131, bb5_readCode_132, bb5_readCode_159, bb5_readCode_189, bb5_readCode_191, bb5_readCode_194, cl_1, ca_1, cl_2, ca_2, cl_3, ca_3, cl_7, ca_7, cl_8, ca_8, cl_10, ca_10, cl_15, ca_15, r1', dm10, dl1, dm3, dm2]
    exact h0 1 rfl (by decide) (by decide) _ _ _ r1 f1
end READ

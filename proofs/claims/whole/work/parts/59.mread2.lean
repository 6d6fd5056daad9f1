/-! THE MODEL READS KERNELS -/
section MREAD
variable {Γ : Amb} {w : PW} {Q : Option Value → Option Nat → PW → Prop} {m : Nat} {th sm hs ln at_ iw rm rn cm su pl wy px : Int32} {fs fa ft fn fx fr fu fc : Nat → Int32} {s : List Nat}
theorem n60 : ((6 : Int32) = 0) = False := eq_false (by decide)
theorem sp10_takesRuns (hS : StrF fs 0 s) (hl : s.length ≤ 500) (hv : ∀ v ∈ s, v < 16) (wd p s0 : Nat) (h0w : fs 0 = nI wd) (hw : wd ≤ 32) (hp1 : 1 ≤ p) (hp : p ≤ s.length) (h1 : ∀ x q sm', rns s wd 501 0 false 0 p s0 = .inr (x, q, sm') → Q none none (mw w m th sm hs ln at_ iw rm rn cm (nI sm') (nI q) 0 (nI x) fs fa ft fn fx fr fu fc)) (h0 : ∀ e, rns s wd 501 0 false 0 p s0 = .inl e → ∀ su' pl' px', Q none none (mw w m th sm hs ln at_ iw rm rn cm (su') (pl') (nI e) (px') fs fa ft fn fx fr fu fc)) : Sp Γ m10_takesRuns [.ref m] none (mw w m th sm hs ln at_ iw rm rn cm (nI s0) (nI p) 0 0 fs fa ft fn fx fr fu fc) Q := by
  have bw : wd < 2147483648 := by omega
  generalize hRES : rns s wd 501 0 false 0 p s0 = RES at h1 h0
  have herr : ∀ (e : Nat) (a b c d : Option Value) (su pl px : Int32), RES = .inl e → 1 ≤ e → e ≤ 8 → G Γ m10_takesRuns Q (fun _ _ => False) 4 [some (.ref m), a, b, c, d] [] none (mw w m th sm hs ln at_ iw rm rn cm su pl (nI e) px fs fa ft fn fx fr fu fc) 0 0 := by
    intro e a b c d su pl px he e1 e2
    have be : e < 2147483648 := by omega
    have hne : ¬e = 0 := by omega
    have hq := h0 e he su pl px
    refine wp_ok kd10_takesRuns 400 4 bb10_takesRuns_4 _ _ _ _ _ _ oo10_takesRuns_4 ?_
    simp only [List.getElem?_cons_zero, List.getElem?_cons_succ, fv4, Nat.reduceAdd, Nat.reduceSub, wp, pst, stp, LG, lput, ls_tl, two, bc, EL, pad, popN, csum, Option.toList, List.cons_append, List.nil_append, List.set_cons_zero, List.set_cons_succ, List.length_cons, List.length_nil, true_and, and_true, Nat.reduceLT, Nat.reduceLeDiff, Nat.zero_le, Nat.le_refl, RI_i, RI_z0, RI_z1, Int32.reduceOfInt, Int8.reduceOfInt, Int16.reduceOfInt, Int64.reduceOfInt, Int8.toInt32_ofNat, Int16.toInt32_ofNat, Int.reduceNeg, Int32.ofInt_neg, Int8.ofInt_neg, Int16.ofInt_neg, Int32.toInt64_ofNat, Int32.reduceToNatClampNeg, Fin.isValue, Fin.val_one, Fin.val_zero, Fin.val_two, Int64.reduceOfNat, Int32.reduceOfNat, hdl, cutc, Nat.reduceEqDiff, reduceIte, FV, tyC, tyX0, tyX1, tyX2, tyX3, tyX4, tyX5, tyX6, tyX7, tyX8, tyX9, tyX10, Nat.reduceMul, c_le, c_lt, c_eq, c_in, c_cl, c_add, c_rem, c_ofN, Int32.add_zero, Int32.zero_add, c_lt0, c_ge0, c_le0, c_gt0, c_e0, c_m1, c_m1', false_implies, true_implies, implies_true, not_false_eq_true, not_true_eq_false, Nat.not_lt_zero, up_s, up_1, up_m, ff10_takesRuns, bb10_takesRuns_0, bb10_takesRuns_4, bb10_takesRuns_51, bb10_takesRuns_55, bb10_takesRuns_61, bb10_takesRuns_95, bb10_takesRuns_102, cl_1, ca_1, cl_6, ca_6, mw_0, mw_1, mw_2, mw_3, mw_4, mw_5, mw_6, mw_7, mw_8, mu_0, mu_1, mu_2, mu_3, mu_4, mu_5, mu_6, mu_7, mu_8, vi_0, vi_1, vi_2, vi_3, vi_4, vi_5, vi_6, be, hne]
    exact hq
  have herr61 : ∀ (e : Nat) (t : Int32) (b : Bool) (r k : Int32) (su pl px : Int32), RES = .inl e → 1 ≤ e → e ≤ 8 → G Γ m10_takesRuns Q (fun _ _ => False) 61 [some (.ref m), some (.int t), some (.int (nI b.toNat)), some (.int r), some (.int k)] [] none (mw w m th sm hs ln at_ iw rm rn cm su pl (nI e) px fs fa ft fn fx fr fu fc) 0 0 := by
    intro e t b r k su pl px he e1 e2
    have be : e < 2147483648 := by omega
    have hne : ¬e = 0 := by omega
    have hq := fun a b c d => herr e a b c d su pl px he e1 e2
    refine wp_ok (kd_cut 4 kd10_takesRuns) 400 61 bb10_takesRuns_61 _ _ _ _ _ _ oo10_takesRuns_61 ?_
    simp only [List.getElem?_cons_zero, List.getElem?_cons_succ, fv4, Nat.reduceAdd, Nat.reduceSub, wp, pst, stp, LG, lput, ls_tl, two, bc, EL, pad, popN, csum, Option.toList, List.cons_append, List.nil_append, List.set_cons_zero, List.set_cons_succ, List.length_cons, List.length_nil, true_and, and_true, Nat.reduceLT, Nat.reduceLeDiff, Nat.zero_le, Nat.le_refl, RI_i, RI_z0, RI_z1, Int32.reduceOfInt, Int8.reduceOfInt, Int16.reduceOfInt, Int64.reduceOfInt, Int8.toInt32_ofNat, Int16.toInt32_ofNat, Int.reduceNeg, Int32.ofInt_neg, Int8.ofInt_neg, Int16.ofInt_neg, Int32.toInt64_ofNat, Int32.reduceToNatClampNeg, Fin.isValue, Fin.val_one, Fin.val_zero, Fin.val_two, Int64.reduceOfNat, Int32.reduceOfNat, hdl, cutc, Nat.reduceEqDiff, reduceIte, FV, tyC, tyX0, tyX1, tyX2, tyX3, tyX4, tyX5, tyX6, tyX7, tyX8, tyX9, tyX10, Nat.reduceMul, c_le, c_lt, c_eq, c_in, c_cl, c_add, c_rem, c_ofN, Int32.add_zero, Int32.zero_add, c_lt0, c_ge0, c_le0, c_gt0, c_e0, c_m1, c_m1', false_implies, true_implies, implies_true, not_false_eq_true, not_true_eq_false, Nat.not_lt_zero, up_s, up_1, up_m, ff10_takesRuns, bb10_takesRuns_0, bb10_takesRuns_4, bb10_takesRuns_51, bb10_takesRuns_55, bb10_takesRuns_61, bb10_takesRuns_95, bb10_takesRuns_102, cl_1, ca_1, cl_6, ca_6, mw_0, mw_1, mw_2, mw_3, mw_4, mw_5, mw_6, mw_7, mw_8, mu_0, mu_1, mu_2, mu_3, mu_4, mu_5, mu_6, mu_7, mu_8, vi_0, vi_1, vi_2, vi_3, vi_4, vi_5, vi_6, be, hne]
    exact ⟨fun _ => hq _ _ _ _, fun _ => hq _ _ _ _⟩
  have key : ∀ (n t x p s0 : Nat) (b : Bool) (j3 j4 : Option Value), 501 ≤ n + p → p ≤ s.length → t ≤ wd → rns s wd n t b x p s0 = RES → G Γ m10_takesRuns Q (fun _ _ => False) 4 [some (.ref m), some (.int (nI t)), some (.int (nI b.toNat)), j3, j4] [] none (mw w m th sm hs ln at_ iw rm rn cm (nI s0) (nI p) 0 (nI x) fs fa ft fn fx fr fu fc) 0 0 := by
    intro n
    induction n with
    | zero => intro t x p s0 b j3 j4 hnp hp; omega
    | succ n ih =>
      intro t x p s0 b j3 j4 hnp hp ht hg
      have bt : t < 2147483648 := by omega
      simp only [rns] at hg
      by_cases hwt : wd ≤ t
      · rw [if_pos hwt] at hg
        have hq := h1 x p s0 hg.symm
        refine wp_ok kd10_takesRuns 400 4 bb10_takesRuns_4 _ _ _ _ _ _ oo10_takesRuns_4 ?_
        simp only [List.getElem?_cons_zero, List.getElem?_cons_succ, fv4, Nat.reduceAdd, Nat.reduceSub, wp, pst, stp, LG, lput, ls_tl, two, bc, EL, pad, popN, csum, Option.toList, List.cons_append, List.nil_append, List.set_cons_zero, List.set_cons_succ, List.length_cons, List.length_nil, true_and, and_true, Nat.reduceLT, Nat.reduceLeDiff, Nat.zero_le, Nat.le_refl, RI_i, RI_z0, RI_z1, Int32.reduceOfInt, Int8.reduceOfInt, Int16.reduceOfInt, Int64.reduceOfInt, Int8.toInt32_ofNat, Int16.toInt32_ofNat, Int.reduceNeg, Int32.ofInt_neg, Int8.ofInt_neg, Int16.ofInt_neg, Int32.toInt64_ofNat, Int32.reduceToNatClampNeg, Fin.isValue, Fin.val_one, Fin.val_zero, Fin.val_two, Int64.reduceOfNat, Int32.reduceOfNat, hdl, cutc, Nat.reduceEqDiff, reduceIte, FV, tyC, tyX0, tyX1, tyX2, tyX3, tyX4, tyX5, tyX6, tyX7, tyX8, tyX9, tyX10, Nat.reduceMul, c_le, c_lt, c_eq, c_in, c_cl, c_add, c_rem, c_ofN, Int32.add_zero, Int32.zero_add, c_lt0, c_ge0, c_le0, c_gt0, c_e0, c_m1, c_m1', false_implies, true_implies, implies_true, not_false_eq_true, not_true_eq_false, Nat.not_lt_zero, up_s, up_1, up_m, ff10_takesRuns, bb10_takesRuns_0, bb10_takesRuns_4, bb10_takesRuns_51, bb10_takesRuns_55, bb10_takesRuns_61, bb10_takesRuns_95, bb10_takesRuns_102, cl_1, ca_1, cl_6, ca_6, mw_0, mw_1, mw_2, mw_3, mw_4, mw_5, mw_6, mw_7, mw_8, mu_0, mu_1, mu_2, mu_3, mu_4, mu_5, mu_6, mu_7, mu_8, vi_0, vi_1, vi_2, vi_3, vi_4, vi_5, vi_6, h0w, bw, bt]
        exact ⟨fun _ => hq, fun hh => absurd hwt hh⟩
      · rw [if_neg hwt] at hg
        refine wp_ok kd10_takesRuns 400 4 bb10_takesRuns_4 _ _ _ _ _ _ oo10_takesRuns_4 ?_
        simp only [List.getElem?_cons_zero, List.getElem?_cons_succ, fv4, Nat.reduceAdd, Nat.reduceSub, wp, pst, stp, LG, lput, ls_tl, two, bc, EL, pad, popN, csum, Option.toList, List.cons_append, List.nil_append, List.set_cons_zero, List.set_cons_succ, List.length_cons, List.length_nil, true_and, and_true, Nat.reduceLT, Nat.reduceLeDiff, Nat.zero_le, Nat.le_refl, RI_i, RI_z0, RI_z1, Int32.reduceOfInt, Int8.reduceOfInt, Int16.reduceOfInt, Int64.reduceOfInt, Int8.toInt32_ofNat, Int16.toInt32_ofNat, Int.reduceNeg, Int32.ofInt_neg, Int8.ofInt_neg, Int16.ofInt_neg, Int32.toInt64_ofNat, Int32.reduceToNatClampNeg, Fin.isValue, Fin.val_one, Fin.val_zero, Fin.val_two, Int64.reduceOfNat, Int32.reduceOfNat, hdl, cutc, Nat.reduceEqDiff, reduceIte, FV, tyC, tyX0, tyX1, tyX2, tyX3, tyX4, tyX5, tyX6, tyX7, tyX8, tyX9, tyX10, Nat.reduceMul, c_le, c_lt, c_eq, c_in, c_cl, c_add, c_rem, c_ofN, Int32.add_zero, Int32.zero_add, c_lt0, c_ge0, c_le0, c_gt0, c_e0, c_m1, c_m1', false_implies, true_implies, implies_true, not_false_eq_true, not_true_eq_false, Nat.not_lt_zero, up_s, up_1, up_m, ff10_takesRuns, bb10_takesRuns_0, bb10_takesRuns_4, bb10_takesRuns_51, bb10_takesRuns_55, bb10_takesRuns_61, bb10_takesRuns_95, bb10_takesRuns_102, cl_1, ca_1, cl_6, ca_6, mw_0, mw_1, mw_2, mw_3, mw_4, mw_5, mw_6, mw_7, mw_8, mu_0, mu_1, mu_2, mu_3, mu_4, mu_5, mu_6, mu_7, mu_8, vi_0, vi_1, vi_2, vi_3, vi_4, vi_5, vi_6, h0w, bw, bt]
        refine ⟨fun hh => absurd hh hwt, fun _ => ?_⟩
        refine sp10_takesRun hS hl hv p s0 (by omega) (fun l q d hr => ?_) (fun e hr r su' pl' => ?_)
        · obtain ⟨r1, r2, r3, r4⟩ := rn_inr hv hr
          have hr' := hr
          unfold rn_ at hr'
          rw [hr'] at hg
          dsimp only at hg
          have btl : t + l < 2147483648 := by omega
          have bl : l < 2147483648 := by omega
          by_cases hov : wd - t < l
          · rw [if_pos hov] at hg
            have hE := herr61 6 (nI t) b (nI l) 0 (nI (s0 + d)) (nI q) (nI x) hg.symm (by decide) (by decide)
            unfold holdL
            simp only [List.getElem?_cons_zero, List.getElem?_cons_succ, fv4, Nat.reduceAdd, Nat.reduceSub, wp, pst, stp, LG, lput, ls_tl, two, bc, EL, pad, popN, csum, Option.toList, List.cons_append, List.nil_append, List.set_cons_zero, List.set_cons_succ, List.length_cons, List.length_nil, true_and, and_true, Nat.reduceLT, Nat.reduceLeDiff, Nat.zero_le, Nat.le_refl, RI_i, RI_z0, RI_z1, Int32.reduceOfInt, Int8.reduceOfInt, Int16.reduceOfInt, Int64.reduceOfInt, Int8.toInt32_ofNat, Int16.toInt32_ofNat, Int.reduceNeg, Int32.ofInt_neg, Int8.ofInt_neg, Int16.ofInt_neg, Int32.toInt64_ofNat, Int32.reduceToNatClampNeg, Fin.isValue, Fin.val_one, Fin.val_zero, Fin.val_two, Int64.reduceOfNat, Int32.reduceOfNat, hdl, cutc, Nat.reduceEqDiff, reduceIte, FV, tyC, tyX0, tyX1, tyX2, tyX3, tyX4, tyX5, tyX6, tyX7, tyX8, tyX9, tyX10, Nat.reduceMul, c_le, c_lt, c_eq, c_in, c_cl, c_add, c_rem, c_ofN, Int32.add_zero, Int32.zero_add, c_lt0, c_ge0, c_le0, c_gt0, c_e0, c_m1, c_m1', false_implies, true_implies, implies_true, not_false_eq_true, not_true_eq_false, Nat.not_lt_zero, up_s, up_1, up_m, ff10_takesRuns, bb10_takesRuns_0, bb10_takesRuns_4, bb10_takesRuns_51, bb10_takesRuns_55, bb10_takesRuns_61, bb10_takesRuns_95, bb10_takesRuns_102, cl_1, ca_1, cl_6, ca_6, mw_0, mw_1, mw_2, mw_3, mw_4, mw_5, mw_6, mw_7, mw_8, mu_0, mu_1, mu_2, mu_3, mu_4, mu_5, mu_6, mu_7, mu_8, vi_0, vi_1, vi_2, vi_3, vi_4, vi_5, vi_6, h0w, bw, bt, btl]
            exact ⟨fun hh => absurd hh (by omega), fun _ => hE⟩
          · rw [if_neg hov] at hg
            have inner : ∀ (u k : Nat), u + k = l → G Γ m10_takesRuns Q (fun _ _ => False) 61 [some (.ref m), some (.int (nI (t + k))), some (.int (nI b.toNat)), some (.int (nI l)), some (.int (nI k))] [] none (mw w m th sm hs ln at_ iw rm rn cm (nI (s0 + d)) (nI q) 0 (nI (if b then x ||| (2 ^ k - 1) * 2 ^ t else x)) fs fa ft fn fx fr fu fc) 0 0 := by
              intro u
              induction u with
              | zero =>
                intro k hk
                have bk : k < 2147483648 := by omega
                have hkl : k = l := by omega
                subst hkl
                have hr := fun j3 j4 => ih (t + k) (if b = true then x ||| (2 ^ k - 1) * 2 ^ t else x) q (s0 + d) (!b) j3 j4 (by omega) r3 (by omega) hg
                have eb : 1 - nI b.toNat = nI (!b).toNat := by cases b <;> decide
                refine wp_ok (kd_cut 4 kd10_takesRuns) 400 61 bb10_takesRuns_61 _ _ _ _ _ _ oo10_takesRuns_61 ?_
                simp only [List.getElem?_cons_zero, List.getElem?_cons_succ, fv4, Nat.reduceAdd, Nat.reduceSub, wp, pst, stp, LG, lput, ls_tl, two, bc, EL, pad, popN, csum, Option.toList, List.cons_append, List.nil_append, List.set_cons_zero, List.set_cons_succ, List.length_cons, List.length_nil, true_and, and_true, Nat.reduceLT, Nat.reduceLeDiff, Nat.zero_le, Nat.le_refl, RI_i, RI_z0, RI_z1, Int32.reduceOfInt, Int8.reduceOfInt, Int16.reduceOfInt, Int64.reduceOfInt, Int8.toInt32_ofNat, Int16.toInt32_ofNat, Int.reduceNeg, Int32.ofInt_neg, Int8.ofInt_neg, Int16.ofInt_neg, Int32.toInt64_ofNat, Int32.reduceToNatClampNeg, Fin.isValue, Fin.val_one, Fin.val_zero, Fin.val_two, Int64.reduceOfNat, Int32.reduceOfNat, hdl, cutc, Nat.reduceEqDiff, reduceIte, FV, tyC, tyX0, tyX1, tyX2, tyX3, tyX4, tyX5, tyX6, tyX7, tyX8, tyX9, tyX10, Nat.reduceMul, c_le, c_lt, c_eq, c_in, c_cl, c_add, c_rem, c_ofN, Int32.add_zero, Int32.zero_add, c_lt0, c_ge0, c_le0, c_gt0, c_e0, c_m1, c_m1', false_implies, true_implies, implies_true, not_false_eq_true, not_true_eq_false, Nat.not_lt_zero, up_s, up_1, up_m, ff10_takesRuns, bb10_takesRuns_0, bb10_takesRuns_4, bb10_takesRuns_51, bb10_takesRuns_55, bb10_takesRuns_61, bb10_takesRuns_95, bb10_takesRuns_102, cl_1, ca_1, cl_6, ca_6, mw_0, mw_1, mw_2, mw_3, mw_4, mw_5, mw_6, mw_7, mw_8, mu_0, mu_1, mu_2, mu_3, mu_4, mu_5, mu_6, mu_7, mu_8, vi_0, vi_1, vi_2, vi_3, vi_4, vi_5, vi_6, bk, eb]
                exact hr _ _
              | succ u ihu =>
                intro k hk
                have bk : k < 2147483648 := by omega
                have hr := ihu (k + 1) (by omega)
                have htk : t + k < 32 := by omega
                rw [show t + (k + 1) = t + k + 1 by omega] at hr
                cases b with
                | true =>
                  rw [if_pos rfl, ← orx] at hr
                  have e1 : (1 : Int32) <<< (nI (t + k) &&& 31) = nI (2 ^ (t + k)) := shl1 _ htk
                  have e0 : nI (Bool.toNat true) = 1 := rfl
                  rw [e0] at hr ⊢
                  rw [if_pos rfl]
                  refine wp_ok (kd_cut 4 kd10_takesRuns) 400 61 bb10_takesRuns_61 _ _ _ _ _ _ oo10_takesRuns_61 ?_
                  simp only [List.getElem?_cons_zero, List.getElem?_cons_succ, fv4, Nat.reduceAdd, Nat.reduceSub, wp, pst, stp, LG, lput, ls_tl, two, bc, EL, pad, popN, csum, Option.toList, List.cons_append, List.nil_append, List.set_cons_zero, List.set_cons_succ, List.length_cons, List.length_nil, true_and, and_true, Nat.reduceLT, Nat.reduceLeDiff, Nat.zero_le, Nat.le_refl, RI_i, RI_z0, RI_z1, Int32.reduceOfInt, Int8.reduceOfInt, Int16.reduceOfInt, Int64.reduceOfInt, Int8.toInt32_ofNat, Int16.toInt32_ofNat, Int.reduceNeg, Int32.ofInt_neg, Int8.ofInt_neg, Int16.ofInt_neg, Int32.toInt64_ofNat, Int32.reduceToNatClampNeg, Fin.isValue, Fin.val_one, Fin.val_zero, Fin.val_two, Int64.reduceOfNat, Int32.reduceOfNat, hdl, cutc, Nat.reduceEqDiff, reduceIte, FV, tyC, tyX0, tyX1, tyX2, tyX3, tyX4, tyX5, tyX6, tyX7, tyX8, tyX9, tyX10, Nat.reduceMul, c_le, c_lt, c_eq, c_in, c_cl, c_add, c_rem, c_ofN, Int32.add_zero, Int32.zero_add, c_lt0, c_ge0, c_le0, c_gt0, c_e0, c_m1, c_m1', false_implies, true_implies, implies_true, not_false_eq_true, not_true_eq_false, Nat.not_lt_zero, up_s, up_1, up_m, ff10_takesRuns, bb10_takesRuns_0, bb10_takesRuns_4, bb10_takesRuns_51, bb10_takesRuns_55, bb10_takesRuns_61, bb10_takesRuns_95, bb10_takesRuns_102, cl_1, ca_1, cl_6, ca_6, mw_0, mw_1, mw_2, mw_3, mw_4, mw_5, mw_6, mw_7, mw_8, mu_0, mu_1, mu_2, mu_3, mu_4, mu_5, mu_6, mu_7, mu_8, vi_0, vi_1, vi_2, vi_3, vi_4, vi_5, vi_6, bk, bl, e1, fa_or]
                  exact ⟨fun hh => absurd hh (by omega), fun _ => hr⟩
                | false =>
                  have e1 : (0 : Int32) <<< (nI (t + k) &&& 31) = 0 := shl0 _ htk
                  have e0 : nI (Bool.toNat false) = 0 := rfl
                  rw [e0] at hr ⊢
                  rw [if_neg (by decide)] at hr ⊢
                  have eo : nI x ||| 0 = nI x := by rw [show (0 : Int32) = nI 0 from rfl, fa_or, Nat.or_zero]
                  refine wp_ok (kd_cut 4 kd10_takesRuns) 400 61 bb10_takesRuns_61 _ _ _ _ _ _ oo10_takesRuns_61 ?_
                  simp only [List.getElem?_cons_zero, List.getElem?_cons_succ, fv4, Nat.reduceAdd, Nat.reduceSub, wp, pst, stp, LG, lput, ls_tl, two, bc, EL, pad, popN, csum, Option.toList, List.cons_append, List.nil_append, List.set_cons_zero, List.set_cons_succ, List.length_cons, List.length_nil, true_and, and_true, Nat.reduceLT, Nat.reduceLeDiff, Nat.zero_le, Nat.le_refl, RI_i, RI_z0, RI_z1, Int32.reduceOfInt, Int8.reduceOfInt, Int16.reduceOfInt, Int64.reduceOfInt, Int8.toInt32_ofNat, Int16.toInt32_ofNat, Int.reduceNeg, Int32.ofInt_neg, Int8.ofInt_neg, Int16.ofInt_neg, Int32.toInt64_ofNat, Int32.reduceToNatClampNeg, Fin.isValue, Fin.val_one, Fin.val_zero, Fin.val_two, Int64.reduceOfNat, Int32.reduceOfNat, hdl, cutc, Nat.reduceEqDiff, reduceIte, FV, tyC, tyX0, tyX1, tyX2, tyX3, tyX4, tyX5, tyX6, tyX7, tyX8, tyX9, tyX10, Nat.reduceMul, c_le, c_lt, c_eq, c_in, c_cl, c_add, c_rem, c_ofN, Int32.add_zero, Int32.zero_add, c_lt0, c_ge0, c_le0, c_gt0, c_e0, c_m1, c_m1', false_implies, true_implies, implies_true, not_false_eq_true, not_true_eq_false, Nat.not_lt_zero, up_s, up_1, up_m, ff10_takesRuns, bb10_takesRuns_0, bb10_takesRuns_4, bb10_takesRuns_51, bb10_takesRuns_55, bb10_takesRuns_61, bb10_takesRuns_95, bb10_takesRuns_102, cl_1, ca_1, cl_6, ca_6, mw_0, mw_1, mw_2, mw_3, mw_4, mw_5, mw_6, mw_7, mw_8, mu_0, mu_1, mu_2, mu_3, mu_4, mu_5, mu_6, mu_7, mu_8, vi_0, vi_1, vi_2, vi_3, vi_4, vi_5, vi_6, bk, bl, e1, eo]
                  exact ⟨fun hh => absurd hh (by omega), fun _ => hr⟩
            have hin := inner l 0 rfl
            have ex : (if b = true then x ||| (2 ^ 0 - 1) * 2 ^ t else x) = x := by
              rw [show 2 ^ 0 - 1 = 0 from rfl, Nat.zero_mul, Nat.or_zero, ite_self]
            rw [ex] at hin
            unfold holdL
            simp only [List.getElem?_cons_zero, List.getElem?_cons_succ, fv4, Nat.reduceAdd, Nat.reduceSub, wp, pst, stp, LG, lput, ls_tl, two, bc, EL, pad, popN, csum, Option.toList, List.cons_append, List.nil_append, List.set_cons_zero, List.set_cons_succ, List.length_cons, List.length_nil, true_and, and_true, Nat.reduceLT, Nat.reduceLeDiff, Nat.zero_le, Nat.le_refl, RI_i, RI_z0, RI_z1, Int32.reduceOfInt, Int8.reduceOfInt, Int16.reduceOfInt, Int64.reduceOfInt, Int8.toInt32_ofNat, Int16.toInt32_ofNat, Int.reduceNeg, Int32.ofInt_neg, Int8.ofInt_neg, Int16.ofInt_neg, Int32.toInt64_ofNat, Int32.reduceToNatClampNeg, Fin.isValue, Fin.val_one, Fin.val_zero, Fin.val_two, Int64.reduceOfNat, Int32.reduceOfNat, hdl, cutc, Nat.reduceEqDiff, reduceIte, FV, tyC, tyX0, tyX1, tyX2, tyX3, tyX4, tyX5, tyX6, tyX7, tyX8, tyX9, tyX10, Nat.reduceMul, c_le, c_lt, c_eq, c_in, c_cl, c_add, c_rem, c_ofN, Int32.add_zero, Int32.zero_add, c_lt0, c_ge0, c_le0, c_gt0, c_e0, c_m1, c_m1', false_implies, true_implies, implies_true, not_false_eq_true, not_true_eq_false, Nat.not_lt_zero, up_s, up_1, up_m, ff10_takesRuns, bb10_takesRuns_0, bb10_takesRuns_4, bb10_takesRuns_51, bb10_takesRuns_55, bb10_takesRuns_61, bb10_takesRuns_95, bb10_takesRuns_102, cl_1, ca_1, cl_6, ca_6, mw_0, mw_1, mw_2, mw_3, mw_4, mw_5, mw_6, mw_7, mw_8, mu_0, mu_1, mu_2, mu_3, mu_4, mu_5, mu_6, mu_7, mu_8, vi_0, vi_1, vi_2, vi_3, vi_4, vi_5, vi_6, h0w, bw, bt, btl]
            exact ⟨fun _ => hin, fun hh => absurd hh (by omega)⟩
        · have hr' : CRunFaxesLaw_law_r3572_37cf10.rn s p = .inl e := hr
          rw [hr'] at hg
          dsimp only at hg
          have he := rn_inl hr'
          have be : e < 2147483648 := by omega
          have hne : ¬e = 0 := by omega
          have hE := herr61 e (nI t) b r 0 su' pl' (nI x) hg.symm (by omega) (by omega)
          unfold holdL
          simp only [List.getElem?_cons_zero, List.getElem?_cons_succ, fv4, Nat.reduceAdd, Nat.reduceSub, wp, pst, stp, LG, lput, ls_tl, two, bc, EL, pad, popN, csum, Option.toList, List.cons_append, List.nil_append, List.set_cons_zero, List.set_cons_succ, List.length_cons, List.length_nil, true_and, and_true, Nat.reduceLT, Nat.reduceLeDiff, Nat.zero_le, Nat.le_refl, RI_i, RI_z0, RI_z1, Int32.reduceOfInt, Int8.reduceOfInt, Int16.reduceOfInt, Int64.reduceOfInt, Int8.toInt32_ofNat, Int16.toInt32_ofNat, Int.reduceNeg, Int32.ofInt_neg, Int8.ofInt_neg, Int16.ofInt_neg, Int32.toInt64_ofNat, Int32.reduceToNatClampNeg, Fin.isValue, Fin.val_one, Fin.val_zero, Fin.val_two, Int64.reduceOfNat, Int32.reduceOfNat, hdl, cutc, Nat.reduceEqDiff, reduceIte, FV, tyC, tyX0, tyX1, tyX2, tyX3, tyX4, tyX5, tyX6, tyX7, tyX8, tyX9, tyX10, Nat.reduceMul, c_le, c_lt, c_eq, c_in, c_cl, c_add, c_rem, c_ofN, Int32.add_zero, Int32.zero_add, c_lt0, c_ge0, c_le0, c_gt0, c_e0, c_m1, c_m1', false_implies, true_implies, implies_true, not_false_eq_true, not_true_eq_false, Nat.not_lt_zero, up_s, up_1, up_m, ff10_takesRuns, bb10_takesRuns_0, bb10_takesRuns_4, bb10_takesRuns_51, bb10_takesRuns_55, bb10_takesRuns_61, bb10_takesRuns_95, bb10_takesRuns_102, cl_1, ca_1, cl_6, ca_6, mw_0, mw_1, mw_2, mw_3, mw_4, mw_5, mw_6, mw_7, mw_8, mu_0, mu_1, mu_2, mu_3, mu_4, mu_5, mu_6, mu_7, mu_8, vi_0, vi_1, vi_2, vi_3, vi_4, vi_5, vi_6, h0w, bw, bt, be, hne]
          exact hE
  have hr := key 501 0 0 p s0 false none none (by omega) hp (Nat.zero_le _) hRES
  refine entry Γ m10_takesRuns rfl _ (Nat.le_of_ble_eq_true rfl) _ _ _ ?_
  refine wp_ok kd10_takesRuns 400 0 bb10_takesRuns_0 _ _ _ _ _ _ oo10_takesRuns_0 ?_
  simp only [List.getElem?_cons_zero, List.getElem?_cons_succ, fv4, Nat.reduceAdd, Nat.reduceSub, wp, pst, stp, LG, lput, ls_tl, two, bc, EL, pad, popN, csum, Option.toList, List.cons_append, List.nil_append, List.set_cons_zero, List.set_cons_succ, List.length_cons, List.length_nil, true_and, and_true, Nat.reduceLT, Nat.reduceLeDiff, Nat.zero_le, Nat.le_refl, RI_i, RI_z0, RI_z1, Int32.reduceOfInt, Int8.reduceOfInt, Int16.reduceOfInt, Int64.reduceOfInt, Int8.toInt32_ofNat, Int16.toInt32_ofNat, Int.reduceNeg, Int32.ofInt_neg, Int8.ofInt_neg, Int16.ofInt_neg, Int32.toInt64_ofNat, Int32.reduceToNatClampNeg, Fin.isValue, Fin.val_one, Fin.val_zero, Fin.val_two, Int64.reduceOfNat, Int32.reduceOfNat, hdl, cutc, Nat.reduceEqDiff, reduceIte, FV, tyC, tyX0, tyX1, tyX2, tyX3, tyX4, tyX5, tyX6, tyX7, tyX8, tyX9, tyX10, Nat.reduceMul, c_le, c_lt, c_eq, c_in, c_cl, c_add, c_rem, c_ofN, Int32.add_zero, Int32.zero_add, c_lt0, c_ge0, c_le0, c_gt0, c_e0, c_m1, c_m1', false_implies, true_implies, implies_true, not_false_eq_true, not_true_eq_false, Nat.not_lt_zero, up_s, up_1, up_m, ff10_takesRuns, bb10_takesRuns_0, bb10_takesRuns_4, bb10_takesRuns_51, bb10_takesRuns_55, bb10_takesRuns_61, bb10_takesRuns_95, bb10_takesRuns_102, cl_1, ca_1, cl_6, ca_6, mw_0, mw_1, mw_2, mw_3, mw_4, mw_5, mw_6, mw_7, mw_8, mu_0, mu_1, mu_2, mu_3, mu_4, mu_5, mu_6, mu_7, mu_8, vi_0, vi_1, vi_2, vi_3, vi_4, vi_5, vi_6]
  exact hr
end MREAD

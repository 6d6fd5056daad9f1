/-! THE MODEL'S ROWS: saved, put aside, taken back; receptions -/
/-- what a reading may write -/
def RF (f g : Nat → Int32) : Prop := ∀ j, j ≠ 4 → j ≠ 5 → (j < 18 ∨ 68 ≤ j) → g j = f j
theorem RF.rf {f : Nat → Int32} : RF f f := fun _ _ _ _ => rfl
theorem RF.tr {f g h : Nat → Int32} (a : RF f g) (b : RF g h) : RF f h := fun j x y z => (b j x y z).trans (a j x y z)
theorem RF.str {f g : Nat → Int32} {s : List Nat} (h : RF f g) (hs : StrF f 0 s) : StrF g 0 s := ⟨(h 3 (by decide) (by decide) (by decide)).trans hs.1, fun j hj => (h (0 + 68 + j) (by omega) (by omega) (by omega)).trans (hs.2 j hj)⟩
theorem RF.st {f g : Nat → Int32} {S : AS} {z : List (Option Nat) × List (Nat × Nat)} (h : RF f g) (hS : StF f 0 S) (hl : (a_L S).length ≤ 10) (h1 : GotF g 0 z.1) (h2 : ErrF g 0 z.2) : StF g 0 (s_rd S z) := by
  obtain ⟨a, b, ⟨c, c'⟩, d, -, -, i⟩ := hS
  exact ⟨(h 0 (by decide) (by decide) (by decide)).trans a, (h 1 (by decide) (by decide) (by decide)).trans b, ⟨(h 2 (by decide) (by decide) (by decide)).trans c, fun j hj => (h (0 + 8 + j) (by omega) (by omega) (by have hj' : j < (a_L S).length := hj; omega)).trans (c' j hj)⟩, h.str d, h1, h2, (h 6 (by decide) (by decide) (by decide)).trans i⟩
section MR
variable {Γ : Amb} {w : PW} {Q : Option Value → Option Nat → PW → Prop} {m : Nat} {th sm hs ln at_ iw rm rn cm su pl wy px : Int32} {fs fa ft fn fx fr fu fc : Nat → Int32}
/-- the saved states in the row f -/
def HsF (f : Nat → Int32) (T : List AS) : Prop := ∀ k t, T[k]? = some t → StF f (568 * k) t
theorem sp10_records {S : AS} {T : List AS} (hS : StF fs 0 S) (hT : HsF ft T) (h5 : T.length ≤ 5) (oS : SOK S) (oT : ∀ t ∈ T, SOK t) (hQ : ∀ ft', HsF ft' (pushT T S) → Q none none (mw w m th (nI (pushT T S).length) hs ln at_ iw rm rn cm su pl wy px fs fa (ft') fn fx fr fu fc)) : Sp Γ m10_records [.ref m] none (mw w m th (nI T.length) hs ln at_ iw rm rn cm su pl wy px fs fa ft fn fx fr fu fc) Q := by
  -- the copy behind the others
  have cpy : ∀ (T' : List AS) (ft0 : Nat → Int32), T'.length ≤ 4 → HsF ft0 T' → (∀ t ∈ T', SOK t) → (∀ ft', HsF ft' (T' ++ [S]) → Q none none (mw w m th (nI (T' ++ [S]).length) hs ln at_ iw rm rn cm su pl wy px fs fa (ft') fn fx fr fu fc)) → ∀ (n k : Nat), n + k = 568 → G Γ m10_records Q (fun _ _ => False) 51 [some (.ref m), some (.int (nI k))] [] none (mw w m th (nI T'.length) hs ln at_ iw rm rn cm su pl wy px fs fa (fb_put ft0 fs (568 * T'.length) k) fn fx fr fu fc) 0 0 := by
    intro T' ft0 hl hH oT' hq n
    induction n with
    | zero =>
      intro k hk
      have hk2 : k = 568 := by omega
      subst hk2
      have e : (T' ++ [S]).length = T'.length + 1 := List.length_append
      refine wp_ok kd10_records 400 51 bb10_records_51 _ _ _ _ _ _ oo10_records_51 ?_
      simp only [List.getElem?_cons_zero, List.getElem?_cons_succ, fv4, Nat.reduceAdd, Nat.reduceSub, wp, pst, stp, LG, lput, ls_tl, two, bc, EL, pad, popN, csum, Option.toList, List.cons_append, List.nil_append, List.set_cons_zero, List.set_cons_succ, List.length_cons, List.length_nil, true_and, and_true, Nat.reduceLT, Nat.reduceLeDiff, Nat.zero_le, Nat.le_refl, RI_i, RI_z0, RI_z1, Int32.reduceOfInt, Int8.reduceOfInt, Int16.reduceOfInt, Int64.reduceOfInt, Int8.toInt32_ofNat, Int16.toInt32_ofNat, Int.reduceNeg, Int32.ofInt_neg, Int8.ofInt_neg, Int16.ofInt_neg, Int32.toInt64_ofNat, Int32.reduceToNatClampNeg, Fin.isValue, Fin.val_one, Fin.val_zero, Fin.val_two, Int64.reduceOfNat, Int32.reduceOfNat, hdl, cutc, Nat.reduceEqDiff, reduceIte, FV, tyC, tyX0, tyX1, tyX2, tyX3, tyX4, tyX5, tyX6, tyX7, tyX8, tyX9, tyX10, Nat.reduceMul, c_le, c_lt, c_eq, c_in, c_cl, c_add, c_rem, c_ofN, Int32.add_zero, Int32.zero_add, c_lt0, c_ge0, c_le0, c_gt0, c_e0, c_m1, c_m1', false_implies, true_implies, implies_true, not_false_eq_true, not_true_eq_false, Nat.not_lt_zero, up_s, up_1, up_m, ff10_records, bb10_records_0, bb10_records_10, bb10_records_39, bb10_records_49, bb10_records_51, bb10_records_85, cl_1, ca_1, cl_5, ca_5, cl_568, ca_568, cl_2272, ca_2272, mw_0, mw_1, mw_2, mw_3, mw_4, mw_5, mw_6, mw_7, mw_8, mu_0, mu_1, mu_2, mu_3, mu_4, mu_5, mu_6, mu_7, mu_8, vi_0, vi_1, vi_2, vi_3, vi_4, vi_5, vi_6]
      rw [e] at hq
      refine hq _ (fun k t ht => ?_)
      by_cases hkl : k < T'.length
      · rw [List.getElem?_append_left hkl] at ht
        refine (hH k t ht).cp (oT' t (List.mem_of_getElem? ht)) (fun j hj => fb_put_out (by omega))
      · rw [List.getElem?_append_right (by omega)] at ht
        have hk0 : k - T'.length = 0 := by
          rcases Nat.eq_zero_or_pos (k - T'.length) with h | h
          · exact h
          · rw [List.getElem?_eq_none (by simp only [List.length_cons, List.length_nil]; omega)] at ht; exact absurd ht (by simp)
        rw [hk0] at ht
        simp only [List.getElem?_cons_zero, Option.some.injEq] at ht
        subst ht
        have hke : k = T'.length := by omega
        subst hke
        exact hS.cp oS (fun j hj => by rw [fb_put_in (by omega) (by omega)]; congr 1; omega)
    | succ n ih =>
      intro k hk
      have b1 : k < 2147483648 := by omega
      have b2 : k < 568 := by omega
      have b3 : 568 * T'.length + k < 2147483648 := by omega
      have b4 : 568 * T'.length + k < 2840 := by omega
      refine wp_ok kd10_records 400 51 bb10_records_51 _ _ _ _ _ _ oo10_records_51 ?_
      simp only [List.getElem?_cons_zero, List.getElem?_cons_succ, fv4, Nat.reduceAdd, Nat.reduceSub, wp, pst, stp, LG, lput, ls_tl, two, bc, EL, pad, popN, csum, Option.toList, List.cons_append, List.nil_append, List.set_cons_zero, List.set_cons_succ, List.length_cons, List.length_nil, true_and, and_true, Nat.reduceLT, Nat.reduceLeDiff, Nat.zero_le, Nat.le_refl, RI_i, RI_z0, RI_z1, Int32.reduceOfInt, Int8.reduceOfInt, Int16.reduceOfInt, Int64.reduceOfInt, Int8.toInt32_ofNat, Int16.toInt32_ofNat, Int.reduceNeg, Int32.ofInt_neg, Int8.ofInt_neg, Int16.ofInt_neg, Int32.toInt64_ofNat, Int32.reduceToNatClampNeg, Fin.isValue, Fin.val_one, Fin.val_zero, Fin.val_two, Int64.reduceOfNat, Int32.reduceOfNat, hdl, cutc, Nat.reduceEqDiff, reduceIte, FV, tyC, tyX0, tyX1, tyX2, tyX3, tyX4, tyX5, tyX6, tyX7, tyX8, tyX9, tyX10, Nat.reduceMul, c_le, c_lt, c_eq, c_in, c_cl, c_add, c_rem, c_ofN, Int32.add_zero, Int32.zero_add, c_lt0, c_ge0, c_le0, c_gt0, c_e0, c_m1, c_m1', false_implies, true_implies, implies_true, not_false_eq_true, not_true_eq_false, Nat.not_lt_zero, up_s, up_1, up_m, ff10_records, bb10_records_0, bb10_records_10, bb10_records_39, bb10_records_49, bb10_records_51, bb10_records_85, cl_1, ca_1, cl_5, ca_5, cl_568, ca_568, cl_2272, ca_2272, mw_0, mw_1, mw_2, mw_3, mw_4, mw_5, mw_6, mw_7, mw_8, mu_0, mu_1, mu_2, mu_3, mu_4, mu_5, mu_6, mu_7, mu_8, vi_0, vi_1, vi_2, vi_3, vi_4, vi_5, vi_6, b1, b2, b3, b4]
      have hr := ih (k + 1) (by omega)
      rw [← fb_put_succ] at hr
      exact ⟨fun hh => absurd hh (by omega), fun _ => hr⟩
  refine entry Γ m10_records rfl _ (Nat.le_of_ble_eq_true rfl) _ _ _ ?_
  refine wp_ok kd10_records 400 0 bb10_records_0 _ _ _ _ _ _ oo10_records_0 ?_
  by_cases h : T.length = 5
  · rw [h]
    have sh : ∀ (n k : Nat), n + k = 2272 → G Γ m10_records Q (fun _ _ => False) 10 [some (.ref m), some (.int (nI k))] [] none (mw w m th (nI 5) hs ln at_ iw rm rn cm su pl wy px fs fa (fb_put ft (fun j => ft (j + 568)) 0 k) fn fx fr fu fc) 0 0 := by
      intro n
      induction n with
      | zero =>
        intro k hk
        have hk2 : k = 2272 := by omega
        subst hk2
        have hq : ∀ ft', HsF ft' (T.tail ++ [S]) → Q none none (mw w m th (nI (T.tail ++ [S]).length) hs ln at_ iw rm rn cm su pl wy px fs fa (ft') fn fx fr fu fc) := by
          intro ft' hf
          have := hQ ft'
          unfold pushT at this
          rw [if_pos h] at this
          exact this hf
        have hr := cpy T.tail (fb_put ft (fun j => ft (j + 568)) 0 2272) (by rw [List.length_tail]; omega) (fun k t ht => ?_) (fun t ht => oT t (List.mem_of_mem_tail ht)) hq 568 0 rfl
        · rw [fb_put_0, List.length_tail, h] at hr
          have e : nI 5 - 1 = nI 4 := by decide
          refine wp_ok (kd_cut 51 kd10_records) 400 10 bb10_records_10 _ _ _ _ _ _ oo10_records_10 ?_
          simp only [List.getElem?_cons_zero, List.getElem?_cons_succ, fv4, Nat.reduceAdd, Nat.reduceSub, wp, pst, stp, LG, lput, ls_tl, two, bc, EL, pad, popN, csum, Option.toList, List.cons_append, List.nil_append, List.set_cons_zero, List.set_cons_succ, List.length_cons, List.length_nil, true_and, and_true, Nat.reduceLT, Nat.reduceLeDiff, Nat.zero_le, Nat.le_refl, RI_i, RI_z0, RI_z1, Int32.reduceOfInt, Int8.reduceOfInt, Int16.reduceOfInt, Int64.reduceOfInt, Int8.toInt32_ofNat, Int16.toInt32_ofNat, Int.reduceNeg, Int32.ofInt_neg, Int8.ofInt_neg, Int16.ofInt_neg, Int32.toInt64_ofNat, Int32.reduceToNatClampNeg, Fin.isValue, Fin.val_one, Fin.val_zero, Fin.val_two, Int64.reduceOfNat, Int32.reduceOfNat, hdl, cutc, Nat.reduceEqDiff, reduceIte, FV, tyC, tyX0, tyX1, tyX2, tyX3, tyX4, tyX5, tyX6, tyX7, tyX8, tyX9, tyX10, Nat.reduceMul, c_le, c_lt, c_eq, c_in, c_cl, c_add, c_rem, c_ofN, Int32.add_zero, Int32.zero_add, c_lt0, c_ge0, c_le0, c_gt0, c_e0, c_m1, c_m1', false_implies, true_implies, implies_true, not_false_eq_true, not_true_eq_false, Nat.not_lt_zero, up_s, up_1, up_m, ff10_records, bb10_records_0, bb10_records_10, bb10_records_39, bb10_records_49, bb10_records_51, bb10_records_85, cl_1, ca_1, cl_5, ca_5, cl_568, ca_568, cl_2272, ca_2272, mw_0, mw_1, mw_2, mw_3, mw_4, mw_5, mw_6, mw_7, mw_8, mu_0, mu_1, mu_2, mu_3, mu_4, mu_5, mu_6, mu_7, mu_8, vi_0, vi_1, vi_2, vi_3, vi_4, vi_5, vi_6, e]
          exact hr
        · rw [List.getElem?_tail] at ht
          have hk4 : k + 1 < 5 := by
            rcases Nat.lt_or_ge (k + 1) 5 with q | q
            · exact q
            · rw [List.getElem?_eq_none (by omega)] at ht; exact absurd ht (by simp)
          exact (hT (k + 1) t ht).cp (oT t (List.mem_of_getElem? ht)) (fun j hj => by rw [fb_put_in (by omega) (by omega)]; congr 1; omega)
      | succ n ih =>
        intro k hk
        have b1 : k < 2147483648 := by omega
        have b2 : k < 2840 := by omega
        have b3 : k + 568 < 2147483648 := by omega
        have b4 : k + 568 < 2840 := by omega
        refine wp_ok (kd_cut 51 kd10_records) 400 10 bb10_records_10 _ _ _ _ _ _ oo10_records_10 ?_
        simp only [List.getElem?_cons_zero, List.getElem?_cons_succ, fv4, Nat.reduceAdd, Nat.reduceSub, wp, pst, stp, LG, lput, ls_tl, two, bc, EL, pad, popN, csum, Option.toList, List.cons_append, List.nil_append, List.set_cons_zero, List.set_cons_succ, List.length_cons, List.length_nil, true_and, and_true, Nat.reduceLT, Nat.reduceLeDiff, Nat.zero_le, Nat.le_refl, RI_i, RI_z0, RI_z1, Int32.reduceOfInt, Int8.reduceOfInt, Int16.reduceOfInt, Int64.reduceOfInt, Int8.toInt32_ofNat, Int16.toInt32_ofNat, Int.reduceNeg, Int32.ofInt_neg, Int8.ofInt_neg, Int16.ofInt_neg, Int32.toInt64_ofNat, Int32.reduceToNatClampNeg, Fin.isValue, Fin.val_one, Fin.val_zero, Fin.val_two, Int64.reduceOfNat, Int32.reduceOfNat, hdl, cutc, Nat.reduceEqDiff, reduceIte, FV, tyC, tyX0, tyX1, tyX2, tyX3, tyX4, tyX5, tyX6, tyX7, tyX8, tyX9, tyX10, Nat.reduceMul, c_le, c_lt, c_eq, c_in, c_cl, c_add, c_rem, c_ofN, Int32.add_zero, Int32.zero_add, c_lt0, c_ge0, c_le0, c_gt0, c_e0, c_m1, c_m1', false_implies, true_implies, implies_true, not_false_eq_true, not_true_eq_false, Nat.not_lt_zero, up_s, up_1, up_m, ff10_records, bb10_records_0, bb10_records_10, bb10_records_39, bb10_records_49, bb10_records_51, bb10_records_85, cl_1, ca_1, cl_5, ca_5, cl_568, ca_568, cl_2272, ca_2272, mw_0, mw_1, mw_2, mw_3, mw_4, mw_5, mw_6, mw_7, mw_8, mu_0, mu_1, mu_2, mu_3, mu_4, mu_5, mu_6, mu_7, mu_8, vi_0, vi_1, vi_2, vi_3, vi_4, vi_5, vi_6, b1, b2, b3, b4, fb_put_out (f := ft) (g := fun j => ft (j + 568)) (a := 0) (n := k) (k := k + 568) (Or.inr (by omega))]
        have hr := ih (k + 1) (by omega)
        rw [← fb_put_succ, Nat.zero_add] at hr
        refine ⟨fun hh => absurd hh (by omega), fun _ => hr⟩
    have hr := sh 2272 0 rfl
    rw [fb_put_0] at hr
    simp only [List.getElem?_cons_zero, List.getElem?_cons_succ, fv4, Nat.reduceAdd, Nat.reduceSub, wp, pst, stp, LG, lput, ls_tl, two, bc, EL, pad, popN, csum, Option.toList, List.cons_append, List.nil_append, List.set_cons_zero, List.set_cons_succ, List.length_cons, List.length_nil, true_and, and_true, Nat.reduceLT, Nat.reduceLeDiff, Nat.zero_le, Nat.le_refl, RI_i, RI_z0, RI_z1, Int32.reduceOfInt, Int8.reduceOfInt, Int16.reduceOfInt, Int64.reduceOfInt, Int8.toInt32_ofNat, Int16.toInt32_ofNat, Int.reduceNeg, Int32.ofInt_neg, Int8.ofInt_neg, Int16.ofInt_neg, Int32.toInt64_ofNat, Int32.reduceToNatClampNeg, Fin.isValue, Fin.val_one, Fin.val_zero, Fin.val_two, Int64.reduceOfNat, Int32.reduceOfNat, hdl, cutc, Nat.reduceEqDiff, reduceIte, FV, tyC, tyX0, tyX1, tyX2, tyX3, tyX4, tyX5, tyX6, tyX7, tyX8, tyX9, tyX10, Nat.reduceMul, c_le, c_lt, c_eq, c_in, c_cl, c_add, c_rem, c_ofN, Int32.add_zero, Int32.zero_add, c_lt0, c_ge0, c_le0, c_gt0, c_e0, c_m1, c_m1', false_implies, true_implies, implies_true, not_false_eq_true, not_true_eq_false, Nat.not_lt_zero, up_s, up_1, up_m, ff10_records, bb10_records_0, bb10_records_10, bb10_records_39, bb10_records_49, bb10_records_51, bb10_records_85, cl_1, ca_1, cl_5, ca_5, cl_568, ca_568, cl_2272, ca_2272, mw_0, mw_1, mw_2, mw_3, mw_4, mw_5, mw_6, mw_7, mw_8, mu_0, mu_1, mu_2, mu_3, mu_4, mu_5, mu_6, mu_7, mu_8, vi_0, vi_1, vi_2, vi_3, vi_4, vi_5, vi_6]
    exact hr
  · have hq : ∀ ft', HsF ft' (T ++ [S]) → Q none none (mw w m th (nI (T ++ [S]).length) hs ln at_ iw rm rn cm su pl wy px fs fa (ft') fn fx fr fu fc) := by
      intro ft' hf
      have := hQ ft'
      unfold pushT at this
      rw [if_neg h] at this
      exact this hf
    have hr := cpy T ft (by omega) hT oT hq 568 0 rfl
    rw [fb_put_0] at hr
    have b1 : T.length < 2147483648 := by omega
    simp only [List.getElem?_cons_zero, List.getElem?_cons_succ, fv4, Nat.reduceAdd, Nat.reduceSub, wp, pst, stp, LG, lput, ls_tl, two, bc, EL, pad, popN, csum, Option.toList, List.cons_append, List.nil_append, List.set_cons_zero, List.set_cons_succ, List.length_cons, List.length_nil, true_and, and_true, Nat.reduceLT, Nat.reduceLeDiff, Nat.zero_le, Nat.le_refl, RI_i, RI_z0, RI_z1, Int32.reduceOfInt, Int8.reduceOfInt, Int16.reduceOfInt, Int64.reduceOfInt, Int8.toInt32_ofNat, Int16.toInt32_ofNat, Int.reduceNeg, Int32.ofInt_neg, Int8.ofInt_neg, Int16.ofInt_neg, Int32.toInt64_ofNat, Int32.reduceToNatClampNeg, Fin.isValue, Fin.val_one, Fin.val_zero, Fin.val_two, Int64.reduceOfNat, Int32.reduceOfNat, hdl, cutc, Nat.reduceEqDiff, reduceIte, FV, tyC, tyX0, tyX1, tyX2, tyX3, tyX4, tyX5, tyX6, tyX7, tyX8, tyX9, tyX10, Nat.reduceMul, c_le, c_lt, c_eq, c_in, c_cl, c_add, c_rem, c_ofN, Int32.add_zero, Int32.zero_add, c_lt0, c_ge0, c_le0, c_gt0, c_e0, c_m1, c_m1', false_implies, true_implies, implies_true, not_false_eq_true, not_true_eq_false, Nat.not_lt_zero, up_s, up_1, up_m, ff10_records, bb10_records_0, bb10_records_10, bb10_records_39, bb10_records_49, bb10_records_51, bb10_records_85, cl_1, ca_1, cl_5, ca_5, cl_568, ca_568, cl_2272, ca_2272, mw_0, mw_1, mw_2, mw_3, mw_4, mw_5, mw_6, mw_7, mw_8, mu_0, mu_1, mu_2, mu_3, mu_4, mu_5, mu_6, mu_7, mu_8, vi_0, vi_1, vi_2, vi_3, vi_4, vi_5, vi_6, b1, h]
    exact hr
end MR

/-! THE MODEL READS A PART, A PAGE -/
theorem pend_n (T : List Nat) : ∀ n i P, (pend T n i P).1 ≤ i + n ∧ i ≤ (pend T n i P).1 := by
  intro n
  induction n with
  | zero => intro i P; simp only [pend]; omega
  | succ n ih =>
    intro i P
    simp only [pend]
    split
    · dsimp only; omega
    · split
      · dsimp only; omega
      · have := ih (i + 1) ‹_›; omega
/-- a part in the row f at k -/
def PtF (f : Nat → Int32) (k : Nat) (P : PS) : Prop := f k = nI P.2.1 ∧ (P.2.1 = 43 → f (k + 1) = nI P.2.2.2.1 ∧ f (k + 2) = nI P.2.2.1) ∧ (P.2.1 = 120 → f (k + 1) = nI P.2.2.2.2.2.1 ∧ f (k + 2) = nI P.2.2.2.2.2.2)
section MTEXT
variable {Γ : Amb} {w : PW} {Q : Option Value → Option Nat → PW → Prop} {m : Nat} {th sm hs ln at_ iw rm rn cm su pl wy px : Int32} {fs fa ft fn fx fr fu fc : Nat → Int32} {B : List Nat}
theorem sp10_readsPart (hB : IA fx B) (h60 : B.length ≤ 60) (hv : ∀ c ∈ B, 33 ≤ c ∧ c ≤ 126) (p r : Nat) (hp : p ≤ B.length) (hr : r ≤ 31) (e : Nat) (P : PS) (hz : pend B (B.length - p) p PS0 = (e, P)) (hQ : ∀ fr', (∀ k, k < 3 * r → fr' k = fr k) → (pdone P = true → PtF fr' (3 * r) P) → Q none none (mw w m th sm hs (nI B.length) (nI e) ((if pdone P = true then 1 else 0)) (nI (if pdone P = true then r + 1 else r)) rn cm su pl wy px fs fa ft fn fx (fr') fu fc)) : Sp Γ m10_readsPart [.ref m] none (mw w m th sm hs (nI B.length) (nI p) iw (nI r) rn cm su pl wy px fs fa ft fn fx fr fu fc) Q := by
  have br : r < 2147483648 := by omega
  have b3 : 3 * r < 2147483648 := by omega
  have b4 : 3 * r < 96 := by omega
  have b5 : 3 * r + 1 < 2147483648 := by omega
  have b6 : 3 * r + 2 < 2147483648 := by omega
  have b7 : 3 * r + 1 < 96 := by omega
  have b8 : 3 * r + 2 < 96 := by omega
  have bp : p < 2147483648 := by omega
  have bs := (sgn_lt hv p).1
  have bsg : sgn B p < 2147483648 := by omega
  -- the end
  have hend : ∀ (v : Bool) (at_ : Int32) (f : Nat → Int32) (a b : Option Value), Q none none (mw w m th sm hs (nI B.length) at_ ((if v = true then 1 else 0)) (nI (if v = true then r + 1 else r)) rn cm su pl wy px fs fa ft fn fx f fu fc) → G Γ m10_readsPart Q (fun _ _ => False) 148 [some (.ref m), a, b] [] none (mw w m th sm hs (nI B.length) at_ ((if v = true then 1 else 0)) (nI r) rn cm su pl wy px fs fa ft fn fx f fu fc) 0 0 := by
    intro v at_ f a b hq
    cases v with
    | true =>
      rw [if_pos rfl] at hq ⊢
      rw [if_pos rfl] at hq
      refine wp_ok kd10_readsPart 400 148 bb10_readsPart_148 _ _ _ _ _ _ oo10_readsPart_148 ?_
      simp only [List.getElem?_cons_zero, List.getElem?_cons_succ, fv4, Nat.reduceAdd, Nat.reduceSub, wp, pst, stp, LG, lput, ls_tl, two, bc, EL, pad, popN, csum, Option.toList, List.cons_append, List.nil_append, List.set_cons_zero, List.set_cons_succ, List.length_cons, List.length_nil, true_and, and_true, Nat.reduceLT, Nat.reduceLeDiff, Nat.zero_le, Nat.le_refl, RI_i, RI_z0, RI_z1, Int32.reduceOfInt, Int8.reduceOfInt, Int16.reduceOfInt, Int64.reduceOfInt, Int8.toInt32_ofNat, Int16.toInt32_ofNat, Int.reduceNeg, Int32.ofInt_neg, Int8.ofInt_neg, Int16.ofInt_neg, Int32.toInt64_ofNat, Int32.reduceToNatClampNeg, Fin.isValue, Fin.val_one, Fin.val_zero, Fin.val_two, Int64.reduceOfNat, Int32.reduceOfNat, hdl, cutc, Nat.reduceEqDiff, reduceIte, FV, tyC, tyX0, tyX1, tyX2, tyX3, tyX4, tyX5, tyX6, tyX7, tyX8, tyX9, tyX10, Nat.reduceMul, c_le, c_lt, c_eq, c_in, c_cl, c_add, c_rem, c_ofN, Int32.add_zero, Int32.zero_add, c_lt0, c_ge0, c_le0, c_gt0, c_e0, c_m1, c_m1', false_implies, true_implies, implies_true, not_false_eq_true, not_true_eq_false, Nat.not_lt_zero, up_s, up_1, up_m, ff10_readsPart, bb10_readsPart_0, bb10_readsPart_43, bb10_readsPart_47, bb10_readsPart_48, bb10_readsPart_67, bb10_readsPart_68, bb10_readsPart_93, bb10_readsPart_146, bb10_readsPart_147, bb10_readsPart_148, bb10_readsPart_164, bb10_readsPart_165, cl_1, ca_1, cl_2, ca_2, cl_3, ca_3, cl_15, ca_15, cl_43, ca_43, cl_45, ca_45, cl_61, ca_61, cl_114, ca_114, cl_115, ca_115, cl_120, ca_120, cl_499, ca_499, mw_0, mw_1, mw_2, mw_3, mw_4, mw_5, mw_6, mw_7, mw_8, mu_0, mu_1, mu_2, mu_3, mu_4, mu_5, mu_6, mu_7, mu_8, vi_0, vi_1, vi_2, vi_3, vi_4, vi_5, vi_6, n10, br]
      exact hq
    | false =>
      rw [if_neg (by decide)] at hq ⊢
      rw [if_neg (by decide)] at hq
      refine wp_ok kd10_readsPart 400 148 bb10_readsPart_148 _ _ _ _ _ _ oo10_readsPart_148 ?_
      simp only [List.getElem?_cons_zero, List.getElem?_cons_succ, fv4, Nat.reduceAdd, Nat.reduceSub, wp, pst, stp, LG, lput, ls_tl, two, bc, EL, pad, popN, csum, Option.toList, List.cons_append, List.nil_append, List.set_cons_zero, List.set_cons_succ, List.length_cons, List.length_nil, true_and, and_true, Nat.reduceLT, Nat.reduceLeDiff, Nat.zero_le, Nat.le_refl, RI_i, RI_z0, RI_z1, Int32.reduceOfInt, Int8.reduceOfInt, Int16.reduceOfInt, Int64.reduceOfInt, Int8.toInt32_ofNat, Int16.toInt32_ofNat, Int.reduceNeg, Int32.ofInt_neg, Int8.ofInt_neg, Int16.ofInt_neg, Int32.toInt64_ofNat, Int32.reduceToNatClampNeg, Fin.isValue, Fin.val_one, Fin.val_zero, Fin.val_two, Int64.reduceOfNat, Int32.reduceOfNat, hdl, cutc, Nat.reduceEqDiff, reduceIte, FV, tyC, tyX0, tyX1, tyX2, tyX3, tyX4, tyX5, tyX6, tyX7, tyX8, tyX9, tyX10, Nat.reduceMul, c_le, c_lt, c_eq, c_in, c_cl, c_add, c_rem, c_ofN, Int32.add_zero, Int32.zero_add, c_lt0, c_ge0, c_le0, c_gt0, c_e0, c_m1, c_m1', false_implies, true_implies, implies_true, not_false_eq_true, not_true_eq_false, Nat.not_lt_zero, up_s, up_1, up_m, ff10_readsPart, bb10_readsPart_0, bb10_readsPart_43, bb10_readsPart_47, bb10_readsPart_48, bb10_readsPart_67, bb10_readsPart_68, bb10_readsPart_93, bb10_readsPart_146, bb10_readsPart_147, bb10_readsPart_148, bb10_readsPart_164, bb10_readsPart_165, cl_1, ca_1, cl_2, ca_2, cl_3, ca_3, cl_15, ca_15, cl_43, ca_43, cl_45, ca_45, cl_61, ca_61, cl_114, ca_114, cl_115, ca_115, cl_120, ca_120, cl_499, ca_499, mw_0, mw_1, mw_2, mw_3, mw_4, mw_5, mw_6, mw_7, mw_8, mu_0, mu_1, mu_2, mu_3, mu_4, mu_5, mu_6, mu_7, mu_8, vi_0, vi_1, vi_2, vi_3, vi_4, vi_5, vi_6, br]
      exact hq
  by_cases h43 : sgn B p = 43
  · sorry
  · by_cases h120 : sgn B p = 120
    · sorry
    · by_cases h4 : sgn B p = 45 ∨ sgn B p = 114 ∨ sgn B p = 115
      · sorry
      · -- no part begins so
        have hPe : (e, P) = (p, PS0) := by
          rw [← hz]
          cases hn : B.length - p with
          | zero => rfl
          | succ n =>
            simp only [pend]
            unfold sgn at h43 h120 h4
            by_cases h59 : B.getD p 0 = 59
            · rw [if_pos h59]
            · have hs : pstp PS0 (B.getD p 0) = none := by
                unfold pstp PS0
                dsimp only
                rw [if_neg h59, if_pos rfl, if_neg h43, if_neg h120, if_neg (by omega)]
              rw [if_neg h59, hs]
        simp only [Prod.mk.injEq] at hPe
        obtain ⟨rfl, rfl⟩ := hPe
        have hq := hQ (upd fr (3 * r) (nI (sgn B e))) (fun k hk => upd_ne _ _ (by omega)) (fun h => absurd h (by decide))
        have hr := hend false (nI e) _ (some (.int (nI (3 * r)))) (some (.int (nI (sgn B e)))) hq
        rw [if_neg (by decide)] at hr
        refine entry Γ m10_readsPart rfl _ (Nat.le_of_ble_eq_true rfl) _ _ _ ?_
        refine wp_ok (kd_cut 148 kd10_readsPart) 400 0 bb10_readsPart_0 _ _ _ _ _ _ oo10_readsPart_0 ?_
        simp only [List.getElem?_cons_zero, List.getElem?_cons_succ, fv4, Nat.reduceAdd, Nat.reduceSub, wp, pst, stp, LG, lput, ls_tl, two, bc, EL, pad, popN, csum, Option.toList, List.cons_append, List.nil_append, List.set_cons_zero, List.set_cons_succ, List.length_cons, List.length_nil, true_and, and_true, Nat.reduceLT, Nat.reduceLeDiff, Nat.zero_le, Nat.le_refl, RI_i, RI_z0, RI_z1, Int32.reduceOfInt, Int8.reduceOfInt, Int16.reduceOfInt, Int64.reduceOfInt, Int8.toInt32_ofNat, Int16.toInt32_ofNat, Int.reduceNeg, Int32.ofInt_neg, Int8.ofInt_neg, Int16.ofInt_neg, Int32.toInt64_ofNat, Int32.reduceToNatClampNeg, Fin.isValue, Fin.val_one, Fin.val_zero, Fin.val_two, Int64.reduceOfNat, Int32.reduceOfNat, hdl, cutc, Nat.reduceEqDiff, reduceIte, FV, tyC, tyX0, tyX1, tyX2, tyX3, tyX4, tyX5, tyX6, tyX7, tyX8, tyX9, tyX10, Nat.reduceMul, c_le, c_lt, c_eq, c_in, c_cl, c_add, c_rem, c_ofN, Int32.add_zero, Int32.zero_add, c_lt0, c_ge0, c_le0, c_gt0, c_e0, c_m1, c_m1', false_implies, true_implies, implies_true, not_false_eq_true, not_true_eq_false, Nat.not_lt_zero, up_s, up_1, up_m, ff10_readsPart, bb10_readsPart_0, bb10_readsPart_43, bb10_readsPart_47, bb10_readsPart_48, bb10_readsPart_67, bb10_readsPart_68, bb10_readsPart_93, bb10_readsPart_146, bb10_readsPart_147, bb10_readsPart_148, bb10_readsPart_164, bb10_readsPart_165, cl_1, ca_1, cl_2, ca_2, cl_3, ca_3, cl_15, ca_15, cl_43, ca_43, cl_45, ca_45, cl_61, ca_61, cl_114, ca_114, cl_115, ca_115, cl_120, ca_120, cl_499, ca_499, mw_0, mw_1, mw_2, mw_3, mw_4, mw_5, mw_6, mw_7, mw_8, mu_0, mu_1, mu_2, mu_3, mu_4, mu_5, mu_6, mu_7, mu_8, vi_0, vi_1, vi_2, vi_3, vi_4, vi_5, vi_6, br]
        refine sp10_sign hB h60 e hp ?_
        unfold holdL
        simp only [List.getElem?_cons_zero, List.getElem?_cons_succ, fv4, Nat.reduceAdd, Nat.reduceSub, wp, pst, stp, LG, lput, ls_tl, two, bc, EL, pad, popN, csum, Option.toList, List.cons_append, List.nil_append, List.set_cons_zero, List.set_cons_succ, List.length_cons, List.length_nil, true_and, and_true, Nat.reduceLT, Nat.reduceLeDiff, Nat.zero_le, Nat.le_refl, RI_i, RI_z0, RI_z1, Int32.reduceOfInt, Int8.reduceOfInt, Int16.reduceOfInt, Int64.reduceOfInt, Int8.toInt32_ofNat, Int16.toInt32_ofNat, Int.reduceNeg, Int32.ofInt_neg, Int8.ofInt_neg, Int16.ofInt_neg, Int32.toInt64_ofNat, Int32.reduceToNatClampNeg, Fin.isValue, Fin.val_one, Fin.val_zero, Fin.val_two, Int64.reduceOfNat, Int32.reduceOfNat, hdl, cutc, Nat.reduceEqDiff, reduceIte, FV, tyC, tyX0, tyX1, tyX2, tyX3, tyX4, tyX5, tyX6, tyX7, tyX8, tyX9, tyX10, Nat.reduceMul, c_le, c_lt, c_eq, c_in, c_cl, c_add, c_rem, c_ofN, Int32.add_zero, Int32.zero_add, c_lt0, c_ge0, c_le0, c_gt0, c_e0, c_m1, c_m1', false_implies, true_implies, implies_true, not_false_eq_true, not_true_eq_false, Nat.not_lt_zero, up_s, up_1, up_m, ff10_readsPart, bb10_readsPart_0, bb10_readsPart_43, bb10_readsPart_47, bb10_readsPart_48, bb10_readsPart_67, bb10_readsPart_68, bb10_readsPart_93, bb10_readsPart_146, bb10_readsPart_147, bb10_readsPart_148, bb10_readsPart_164, bb10_readsPart_165, cl_1, ca_1, cl_2, ca_2, cl_3, ca_3, cl_15, ca_15, cl_43, ca_43, cl_45, ca_45, cl_61, ca_61, cl_114, ca_114, cl_115, ca_115, cl_120, ca_120, cl_499, ca_499, mw_0, mw_1, mw_2, mw_3, mw_4, mw_5, mw_6, mw_7, mw_8, mu_0, mu_1, mu_2, mu_3, mu_4, mu_5, mu_6, mu_7, mu_8, vi_0, vi_1, vi_2, vi_3, vi_4, vi_5, vi_6, bsg, br, b3, b4, bp, true_or, or_true]
        trace_state
        sorry
end MTEXT

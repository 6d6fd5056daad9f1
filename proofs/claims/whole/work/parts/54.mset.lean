/-! THE MODEL'S STATE CHANGED -/
theorem upd_ne (f : Nat → Int32) (v : Int32) {i j : Nat} (h : j ≠ i) : upd f i v j = f j := if_neg h
theorem upd_eq (f : Nat → Int32) (i : Nat) (v : Int32) : upd f i v i = v := if_pos rfl
/-- the errors alone are written -/
def EF (f g : Nat → Int32) : Prop := ∀ j, j ≠ 5 → (j < 28 ∨ 68 ≤ j) → g j = f j
theorem EF.rf {f g : Nat → Int32} (h : EF f g) : RF f g := fun j _ a b => h j a (by omega)
theorem EF.got {f g : Nat → Int32} {R : List (Option Nat)} (h : EF f g) (hG : GotF f 0 R) : GotF g 0 R := by
  obtain ⟨⟨b, h1, h2⟩, h3⟩ := hG
  exact ⟨⟨b, (h 4 (by decide) (by decide)).trans h1, h2⟩, fun j p hj hp => (h (0 + 18 + j) (by omega) (by omega)).trans (h3 j p hj hp)⟩
theorem StF.upL {f g : Nat → Int32} {S : AS} {L : List Nat} (h : StF f 0 S) (hr : (a_R S).length = 10) (hg : ∀ j, j ≠ 2 → (j < 8 ∨ 18 ≤ j) → g j = f j) (hl : LinF g 0 L) : StF g 0 (s_L S L) := by
  obtain ⟨a, b, -, ⟨c, c'⟩, ⟨⟨bt, d, d'⟩, d''⟩, ⟨e, e'⟩, i⟩ := h
  refine ⟨(hg 0 (by decide) (by decide)).trans a, (hg 1 (by decide) (by decide)).trans b, hl, ⟨(hg 3 (by decide) (by decide)).trans c, fun j hj => (hg _ (by omega) (by omega)).trans (c' j hj)⟩, ⟨⟨bt, (hg 4 (by decide) (by decide)).trans d, d'⟩, fun j p hj hp => (hg _ (by omega) (by omega)).trans (d'' j p hj hp)⟩, ⟨(hg 5 (by decide) (by decide)).trans e, fun k hk => ⟨(hg _ (by omega) (by omega)).trans (e' k hk).1, (hg _ (by omega) (by omega)).trans (e' k hk).2⟩⟩, (hg 6 (by decide) (by decide)).trans i⟩
theorem StF.upS {f g : Nat → Int32} {S : AS} {s : List Nat} (h : StF f 0 S) (oS : SOK S) (hg : ∀ j, j ≠ 3 → j < 68 → g j = f j) (hl : StrF g 0 s) : StF g 0 (s_s S s) := by
  obtain ⟨a, b, ⟨c, c'⟩, -, ⟨⟨bt, d, d'⟩, d''⟩, ⟨e, e'⟩, i⟩ := h
  obtain ⟨k1, k2, k3, k4, k5, k6, k7, k8, k9, k10, -⟩ := oS
  refine ⟨(hg 0 (by decide) (by decide)).trans a, (hg 1 (by decide) (by decide)).trans b, ⟨(hg 2 (by decide) (by decide)).trans c, fun j hj => (hg _ (by omega) (by have hj' : j < (a_L S).length := hj; omega)).trans (c' j hj)⟩, hl, ⟨⟨bt, (hg 4 (by decide) (by decide)).trans d, d'⟩, fun j p hj hp => (hg _ (by omega) (by omega)).trans (d'' j p hj hp)⟩, ⟨(hg 5 (by decide) (by decide)).trans e, fun k hk => ⟨(hg _ (by omega) (by have hk' : k < (a_E S).length := hk; omega)).trans (e' k hk).1, (hg _ (by omega) (by have hk' : k < (a_E S).length := hk; omega)).trans (e' k hk).2⟩⟩, (hg 6 (by decide) (by decide)).trans i⟩
theorem StF.upSy {f : Nat → Int32} {S : AS} {y : Nat} (h : StF f 0 S) : StF (upd f 1 (nI y)) 0 (a_wd S, y, a_L S, a_s S, a_R S, a_E S, a_st S) := by
  obtain ⟨a, -, ⟨l, l'⟩, ⟨c, c'⟩, ⟨⟨bt, d, d'⟩, d''⟩, ⟨e, e'⟩, i⟩ := h
  have hg : ∀ j, j ≠ 1 → upd f 1 (nI y) j = f j := fun j hj => upd_ne _ _ hj
  exact ⟨(hg 0 (by decide)).trans a, upd_eq _ _ _, ⟨(hg 2 (by decide)).trans l, fun j hj => (hg _ (by omega)).trans (l' j hj)⟩, ⟨(hg 3 (by decide)).trans c, fun j hj => (hg _ (by omega)).trans (c' j hj)⟩, ⟨⟨bt, (hg 4 (by decide)).trans d, d'⟩, fun j p hj hp => (hg _ (by omega)).trans (d'' j p hj hp)⟩, ⟨(hg 5 (by decide)).trans e, fun k hk => ⟨(hg _ (by omega)).trans (e' k hk).1, (hg _ (by omega)).trans (e' k hk).2⟩⟩, (hg 6 (by decide)).trans i⟩
theorem StF.upSt {f : Nat → Int32} {S : AS} {o : Option Nat} (h : StF f 0 S) : StF (upd f 6 (stN o)) 0 (s_st S o) := by
  obtain ⟨a, b, ⟨l, l'⟩, ⟨c, c'⟩, ⟨⟨bt, d, d'⟩, d''⟩, ⟨e, e'⟩, i⟩ := h
  have hg : ∀ j, j ≠ 6 → upd f 6 (stN o) j = f j := fun j hj => upd_ne _ _ hj
  exact ⟨(hg 0 (by decide)).trans a, (hg 1 (by decide)).trans b, ⟨(hg 2 (by decide)).trans l, fun j hj => (hg _ (by omega)).trans (l' j hj)⟩, ⟨(hg 3 (by decide)).trans c, fun j hj => (hg _ (by omega)).trans (c' j hj)⟩, ⟨⟨bt, (hg 4 (by decide)).trans d, d'⟩, fun j p hj hp => (hg _ (by omega)).trans (d'' j p hj hp)⟩, ⟨(hg 5 (by decide)).trans e, fun k hk => ⟨(hg _ (by omega)).trans (e' k hk).1, (hg _ (by omega)).trans (e' k hk).2⟩⟩, upd_eq _ _ _⟩
theorem nI32 {a b : Nat} (ha : a < 4294967296) (hb : b < 4294967296) : (nI a = nI b) = (a = b) := by
  apply propext
  constructor
  · intro h
    have h2 : (BitVec.ofNat 32 a).toNat = (BitVec.ofNat 32 b).toNat := congrArg (fun z : Int32 => z.toBitVec.toNat) h
    rw [BitVec.toNat_ofNat, BitVec.toNat_ofNat, Nat.mod_eq_of_lt (by omega), Nat.mod_eq_of_lt (by omega)] at h2
    exact h2
  · intro h; rw [h]
theorem ibitS {b k : Nat} (hk : k < 32) : ((nI b >>> (nI k &&& 31)) &&& 1) = nI (b.testBit k).toNat := by
  apply b_ext
  intro i hi
  rw [b_and, b_sshr k hk _ hi, show (1 : Int32) = nI 1 from rfl, bt_n 1 i hi, bt_n _ i hi]
  have h1 : Nat.testBit 1 i = decide (i = 0) := by
    cases i with
    | zero => rfl
    | succ i => rw [Nat.testBit_succ]; simp
  rw [h1]
  by_cases h0 : i = 0
  · subst h0
    rw [Nat.add_zero, if_pos hk, bt_n b k hk]
    cases b.testBit k <;> rfl
  · rw [decide_eq_false h0, Bool.and_false]
    cases b.testBit k
    · exact (Nat.zero_testBit i).symm
    · show false = Nat.testBit 1 i
      rw [h1, decide_eq_false h0]
section MS
variable {Γ : Amb} {w : PW} {Q : Option Value → Option Nat → PW → Prop} {m : Nat} {th sm hs ln at_ iw rm rn cm su pl wy px : Int32} {fs fa ft fn fx fr fu fc : Nat → Int32}
theorem sp10_putAside (hQ : Q none none (mw w m th sm hs ln at_ iw rm rn cm su pl wy px fs (fb_put fa fs 0 568) ft fn fx fr fu fc)) : Sp Γ m10_putAside [.ref m] none (mw w m th sm hs ln at_ iw rm rn cm su pl wy px fs fa ft fn fx fr fu fc) Q := by
  have key : ∀ (n k : Nat), n + k = 568 → G Γ m10_putAside Q (fun _ _ => False) 2 [some (.ref m), some (.int (nI k))] [] none (mw w m th sm hs ln at_ iw rm rn cm su pl wy px fs (fb_put fa fs 0 k) ft fn fx fr fu fc) 0 0 := by
    intro n
    induction n with
    | zero =>
      intro k hk
      have hk2 : k = 568 := by omega
      subst hk2
      refine wp_ok kd10_putAside 400 2 bb10_putAside_2 _ _ _ _ _ _ oo10_putAside_2 ?_
      simp only [List.getElem?_cons_zero, List.getElem?_cons_succ, fv4, Nat.reduceAdd, Nat.reduceSub, wp, pst, stp, LG, lput, ls_tl, two, bc, EL, pad, popN, csum, Option.toList, List.cons_append, List.nil_append, List.set_cons_zero, List.set_cons_succ, List.length_cons, List.length_nil, true_and, and_true, Nat.reduceLT, Nat.reduceLeDiff, Nat.zero_le, Nat.le_refl, RI_i, RI_z0, RI_z1, Int32.reduceOfInt, Int8.reduceOfInt, Int16.reduceOfInt, Int64.reduceOfInt, Int8.toInt32_ofNat, Int16.toInt32_ofNat, Int.reduceNeg, Int32.ofInt_neg, Int8.ofInt_neg, Int16.ofInt_neg, Int32.toInt64_ofNat, Int32.reduceToNatClampNeg, Fin.isValue, Fin.val_one, Fin.val_zero, Fin.val_two, Int64.reduceOfNat, Int32.reduceOfNat, hdl, cutc, Nat.reduceEqDiff, reduceIte, FV, tyC, tyX0, tyX1, tyX2, tyX3, tyX4, tyX5, tyX6, tyX7, tyX8, tyX9, tyX10, Nat.reduceMul, c_le, c_lt, c_eq, c_in, c_cl, c_add, c_rem, c_ofN, Int32.add_zero, Int32.zero_add, c_lt0, c_ge0, c_le0, c_gt0, c_e0, c_m1, c_m1', false_implies, true_implies, implies_true, not_false_eq_true, not_true_eq_false, Nat.not_lt_zero, up_s, up_1, up_m, ff10_putAside, bb10_putAside_0, bb10_putAside_2, bb10_putAside_27, cl_1, ca_1, cl_568, ca_568, mw_0, mw_1, mw_2, mw_3, mw_4, mw_5, mw_6, mw_7, mw_8, mu_0, mu_1, mu_2, mu_3, mu_4, mu_5, mu_6, mu_7, mu_8, vi_0, vi_1, vi_2, vi_3, vi_4, vi_5, vi_6]
      exact hQ
    | succ n ih =>
      intro k hk
      have b1 : k < 2147483648 := by omega
      have b2 : k < 568 := by omega
      have hr := ih (k + 1) (by omega)
      rw [← fb_put_succ, Nat.zero_add] at hr
      refine wp_ok kd10_putAside 400 2 bb10_putAside_2 _ _ _ _ _ _ oo10_putAside_2 ?_
      simp only [List.getElem?_cons_zero, List.getElem?_cons_succ, fv4, Nat.reduceAdd, Nat.reduceSub, wp, pst, stp, LG, lput, ls_tl, two, bc, EL, pad, popN, csum, Option.toList, List.cons_append, List.nil_append, List.set_cons_zero, List.set_cons_succ, List.length_cons, List.length_nil, true_and, and_true, Nat.reduceLT, Nat.reduceLeDiff, Nat.zero_le, Nat.le_refl, RI_i, RI_z0, RI_z1, Int32.reduceOfInt, Int8.reduceOfInt, Int16.reduceOfInt, Int64.reduceOfInt, Int8.toInt32_ofNat, Int16.toInt32_ofNat, Int.reduceNeg, Int32.ofInt_neg, Int8.ofInt_neg, Int16.ofInt_neg, Int32.toInt64_ofNat, Int32.reduceToNatClampNeg, Fin.isValue, Fin.val_one, Fin.val_zero, Fin.val_two, Int64.reduceOfNat, Int32.reduceOfNat, hdl, cutc, Nat.reduceEqDiff, reduceIte, FV, tyC, tyX0, tyX1, tyX2, tyX3, tyX4, tyX5, tyX6, tyX7, tyX8, tyX9, tyX10, Nat.reduceMul, c_le, c_lt, c_eq, c_in, c_cl, c_add, c_rem, c_ofN, Int32.add_zero, Int32.zero_add, c_lt0, c_ge0, c_le0, c_gt0, c_e0, c_m1, c_m1', false_implies, true_implies, implies_true, not_false_eq_true, not_true_eq_false, Nat.not_lt_zero, up_s, up_1, up_m, ff10_putAside, bb10_putAside_0, bb10_putAside_2, bb10_putAside_27, cl_1, ca_1, cl_568, ca_568, mw_0, mw_1, mw_2, mw_3, mw_4, mw_5, mw_6, mw_7, mw_8, mu_0, mu_1, mu_2, mu_3, mu_4, mu_5, mu_6, mu_7, mu_8, vi_0, vi_1, vi_2, vi_3, vi_4, vi_5, vi_6, b1, b2]
      exact ⟨fun hh => absurd hh (by omega), fun _ => hr⟩
  have hr := key 568 0 rfl
  rw [fb_put_0] at hr
  refine entry Γ m10_putAside rfl _ (Nat.le_of_ble_eq_true rfl) _ _ _ ?_
  refine wp_ok kd10_putAside 400 0 bb10_putAside_0 _ _ _ _ _ _ oo10_putAside_0 ?_
  simp only [List.getElem?_cons_zero, List.getElem?_cons_succ, fv4, Nat.reduceAdd, Nat.reduceSub, wp, pst, stp, LG, lput, ls_tl, two, bc, EL, pad, popN, csum, Option.toList, List.cons_append, List.nil_append, List.set_cons_zero, List.set_cons_succ, List.length_cons, List.length_nil, true_and, and_true, Nat.reduceLT, Nat.reduceLeDiff, Nat.zero_le, Nat.le_refl, RI_i, RI_z0, RI_z1, Int32.reduceOfInt, Int8.reduceOfInt, Int16.reduceOfInt, Int64.reduceOfInt, Int8.toInt32_ofNat, Int16.toInt32_ofNat, Int.reduceNeg, Int32.ofInt_neg, Int8.ofInt_neg, Int16.ofInt_neg, Int32.toInt64_ofNat, Int32.reduceToNatClampNeg, Fin.isValue, Fin.val_one, Fin.val_zero, Fin.val_two, Int64.reduceOfNat, Int32.reduceOfNat, hdl, cutc, Nat.reduceEqDiff, reduceIte, FV, tyC, tyX0, tyX1, tyX2, tyX3, tyX4, tyX5, tyX6, tyX7, tyX8, tyX9, tyX10, Nat.reduceMul, c_le, c_lt, c_eq, c_in, c_cl, c_add, c_rem, c_ofN, Int32.add_zero, Int32.zero_add, c_lt0, c_ge0, c_le0, c_gt0, c_e0, c_m1, c_m1', false_implies, true_implies, implies_true, not_false_eq_true, not_true_eq_false, Nat.not_lt_zero, up_s, up_1, up_m, ff10_putAside, bb10_putAside_0, bb10_putAside_2, bb10_putAside_27, cl_1, ca_1, cl_568, ca_568, mw_0, mw_1, mw_2, mw_3, mw_4, mw_5, mw_6, mw_7, mw_8, mu_0, mu_1, mu_2, mu_3, mu_4, mu_5, mu_6, mu_7, mu_8, vi_0, vi_1, vi_2, vi_3, vi_4, vi_5, vi_6]
  exact hr
theorem sp10_takeBack (hQ : Q none none (mw w m th sm hs ln at_ iw rm rn cm su pl wy px (fb_put fs fa 0 568) fa ft fn fx fr fu fc)) : Sp Γ m10_takeBack [.ref m] none (mw w m th sm hs ln at_ iw rm rn cm su pl wy px fs fa ft fn fx fr fu fc) Q := by
  have key : ∀ (n k : Nat), n + k = 568 → G Γ m10_takeBack Q (fun _ _ => False) 2 [some (.ref m), some (.int (nI k))] [] none (mw w m th sm hs ln at_ iw rm rn cm su pl wy px (fb_put fs fa 0 k) fa ft fn fx fr fu fc) 0 0 := by
    intro n
    induction n with
    | zero =>
      intro k hk
      have hk2 : k = 568 := by omega
      subst hk2
      refine wp_ok kd10_takeBack 400 2 bb10_takeBack_2 _ _ _ _ _ _ oo10_takeBack_2 ?_
      simp only [List.getElem?_cons_zero, List.getElem?_cons_succ, fv4, Nat.reduceAdd, Nat.reduceSub, wp, pst, stp, LG, lput, ls_tl, two, bc, EL, pad, popN, csum, Option.toList, List.cons_append, List.nil_append, List.set_cons_zero, List.set_cons_succ, List.length_cons, List.length_nil, true_and, and_true, Nat.reduceLT, Nat.reduceLeDiff, Nat.zero_le, Nat.le_refl, RI_i, RI_z0, RI_z1, Int32.reduceOfInt, Int8.reduceOfInt, Int16.reduceOfInt, Int64.reduceOfInt, Int8.toInt32_ofNat, Int16.toInt32_ofNat, Int.reduceNeg, Int32.ofInt_neg, Int8.ofInt_neg, Int16.ofInt_neg, Int32.toInt64_ofNat, Int32.reduceToNatClampNeg, Fin.isValue, Fin.val_one, Fin.val_zero, Fin.val_two, Int64.reduceOfNat, Int32.reduceOfNat, hdl, cutc, Nat.reduceEqDiff, reduceIte, FV, tyC, tyX0, tyX1, tyX2, tyX3, tyX4, tyX5, tyX6, tyX7, tyX8, tyX9, tyX10, Nat.reduceMul, c_le, c_lt, c_eq, c_in, c_cl, c_add, c_rem, c_ofN, Int32.add_zero, Int32.zero_add, c_lt0, c_ge0, c_le0, c_gt0, c_e0, c_m1, c_m1', false_implies, true_implies, implies_true, not_false_eq_true, not_true_eq_false, Nat.not_lt_zero, up_s, up_1, up_m, ff10_takeBack, bb10_takeBack_0, bb10_takeBack_2, bb10_takeBack_27, cl_1, ca_1, cl_568, ca_568, mw_0, mw_1, mw_2, mw_3, mw_4, mw_5, mw_6, mw_7, mw_8, mu_0, mu_1, mu_2, mu_3, mu_4, mu_5, mu_6, mu_7, mu_8, vi_0, vi_1, vi_2, vi_3, vi_4, vi_5, vi_6]
      exact hQ
    | succ n ih =>
      intro k hk
      have b1 : k < 2147483648 := by omega
      have b2 : k < 568 := by omega
      have hr := ih (k + 1) (by omega)
      rw [← fb_put_succ, Nat.zero_add] at hr
      refine wp_ok kd10_takeBack 400 2 bb10_takeBack_2 _ _ _ _ _ _ oo10_takeBack_2 ?_
      simp only [List.getElem?_cons_zero, List.getElem?_cons_succ, fv4, Nat.reduceAdd, Nat.reduceSub, wp, pst, stp, LG, lput, ls_tl, two, bc, EL, pad, popN, csum, Option.toList, List.cons_append, List.nil_append, List.set_cons_zero, List.set_cons_succ, List.length_cons, List.length_nil, true_and, and_true, Nat.reduceLT, Nat.reduceLeDiff, Nat.zero_le, Nat.le_refl, RI_i, RI_z0, RI_z1, Int32.reduceOfInt, Int8.reduceOfInt, Int16.reduceOfInt, Int64.reduceOfInt, Int8.toInt32_ofNat, Int16.toInt32_ofNat, Int.reduceNeg, Int32.ofInt_neg, Int8.ofInt_neg, Int16.ofInt_neg, Int32.toInt64_ofNat, Int32.reduceToNatClampNeg, Fin.isValue, Fin.val_one, Fin.val_zero, Fin.val_two, Int64.reduceOfNat, Int32.reduceOfNat, hdl, cutc, Nat.reduceEqDiff, reduceIte, FV, tyC, tyX0, tyX1, tyX2, tyX3, tyX4, tyX5, tyX6, tyX7, tyX8, tyX9, tyX10, Nat.reduceMul, c_le, c_lt, c_eq, c_in, c_cl, c_add, c_rem, c_ofN, Int32.add_zero, Int32.zero_add, c_lt0, c_ge0, c_le0, c_gt0, c_e0, c_m1, c_m1', false_implies, true_implies, implies_true, not_false_eq_true, not_true_eq_false, Nat.not_lt_zero, up_s, up_1, up_m, ff10_takeBack, bb10_takeBack_0, bb10_takeBack_2, bb10_takeBack_27, cl_1, ca_1, cl_568, ca_568, mw_0, mw_1, mw_2, mw_3, mw_4, mw_5, mw_6, mw_7, mw_8, mu_0, mu_1, mu_2, mu_3, mu_4, mu_5, mu_6, mu_7, mu_8, vi_0, vi_1, vi_2, vi_3, vi_4, vi_5, vi_6, b1, b2]
      exact ⟨fun hh => absurd hh (by omega), fun _ => hr⟩
  have hr := key 568 0 rfl
  rw [fb_put_0] at hr
  refine entry Γ m10_takeBack rfl _ (Nat.le_of_ble_eq_true rfl) _ _ _ ?_
  refine wp_ok kd10_takeBack 400 0 bb10_takeBack_0 _ _ _ _ _ _ oo10_takeBack_0 ?_
  simp only [List.getElem?_cons_zero, List.getElem?_cons_succ, fv4, Nat.reduceAdd, Nat.reduceSub, wp, pst, stp, LG, lput, ls_tl, two, bc, EL, pad, popN, csum, Option.toList, List.cons_append, List.nil_append, List.set_cons_zero, List.set_cons_succ, List.length_cons, List.length_nil, true_and, and_true, Nat.reduceLT, Nat.reduceLeDiff, Nat.zero_le, Nat.le_refl, RI_i, RI_z0, RI_z1, Int32.reduceOfInt, Int8.reduceOfInt, Int16.reduceOfInt, Int64.reduceOfInt, Int8.toInt32_ofNat, Int16.toInt32_ofNat, Int.reduceNeg, Int32.ofInt_neg, Int8.ofInt_neg, Int16.ofInt_neg, Int32.toInt64_ofNat, Int32.reduceToNatClampNeg, Fin.isValue, Fin.val_one, Fin.val_zero, Fin.val_two, Int64.reduceOfNat, Int32.reduceOfNat, hdl, cutc, Nat.reduceEqDiff, reduceIte, FV, tyC, tyX0, tyX1, tyX2, tyX3, tyX4, tyX5, tyX6, tyX7, tyX8, tyX9, tyX10, Nat.reduceMul, c_le, c_lt, c_eq, c_in, c_cl, c_add, c_rem, c_ofN, Int32.add_zero, Int32.zero_add, c_lt0, c_ge0, c_le0, c_gt0, c_e0, c_m1, c_m1', false_implies, true_implies, implies_true, not_false_eq_true, not_true_eq_false, Nat.not_lt_zero, up_s, up_1, up_m, ff10_takeBack, bb10_takeBack_0, bb10_takeBack_2, bb10_takeBack_27, cl_1, ca_1, cl_568, ca_568, mw_0, mw_1, mw_2, mw_3, mw_4, mw_5, mw_6, mw_7, mw_8, mu_0, mu_1, mu_2, mu_3, mu_4, mu_5, mu_6, mu_7, mu_8, vi_0, vi_1, vi_2, vi_3, vi_4, vi_5, vi_6]
  exact hr
theorem sp10_forgets (hQ : ∀ fs', RF fs fs' → GotF fs' 0 R0 → ErrF fs' 0 [] → Q none none (mw w m th sm hs ln at_ iw rm rn cm su pl wy px (fs') fa ft fn fx fr fu fc)) : Sp Γ m10_forgets [.ref m] none (mw w m th sm hs ln at_ iw rm rn cm su pl wy px fs fa ft fn fx fr fu fc) Q := by
  have key : ∀ (n k : Nat) (f : Nat → Int32), n + k = 10 → RF fs f → f 4 = 0 → f 5 = 0 → G Γ m10_forgets Q (fun _ _ => False) 16 [some (.ref m), some (.int (nI k))] [] none (mw w m th sm hs ln at_ iw rm rn cm su pl wy px f fa ft fn fx fr fu fc) 0 0 := by
    intro n
    induction n with
    | zero =>
      intro k f hk hf h4 h5
      have hk2 : k = 10 := by omega
      subst hk2
      refine wp_ok kd10_forgets 400 16 bb10_forgets_16 _ _ _ _ _ _ oo10_forgets_16 ?_
      simp only [List.getElem?_cons_zero, List.getElem?_cons_succ, fv4, Nat.reduceAdd, Nat.reduceSub, wp, pst, stp, LG, lput, ls_tl, two, bc, EL, pad, popN, csum, Option.toList, List.cons_append, List.nil_append, List.set_cons_zero, List.set_cons_succ, List.length_cons, List.length_nil, true_and, and_true, Nat.reduceLT, Nat.reduceLeDiff, Nat.zero_le, Nat.le_refl, RI_i, RI_z0, RI_z1, Int32.reduceOfInt, Int8.reduceOfInt, Int16.reduceOfInt, Int64.reduceOfInt, Int8.toInt32_ofNat, Int16.toInt32_ofNat, Int.reduceNeg, Int32.ofInt_neg, Int8.ofInt_neg, Int16.ofInt_neg, Int32.toInt64_ofNat, Int32.reduceToNatClampNeg, Fin.isValue, Fin.val_one, Fin.val_zero, Fin.val_two, Int64.reduceOfNat, Int32.reduceOfNat, hdl, cutc, Nat.reduceEqDiff, reduceIte, FV, tyC, tyX0, tyX1, tyX2, tyX3, tyX4, tyX5, tyX6, tyX7, tyX8, tyX9, tyX10, Nat.reduceMul, c_le, c_lt, c_eq, c_in, c_cl, c_add, c_rem, c_ofN, Int32.add_zero, Int32.zero_add, c_lt0, c_ge0, c_le0, c_gt0, c_e0, c_m1, c_m1', false_implies, true_implies, implies_true, not_false_eq_true, not_true_eq_false, Nat.not_lt_zero, up_s, up_1, up_m, ff10_forgets, bb10_forgets_0, bb10_forgets_16, bb10_forgets_38, cl_1, ca_1, cl_4, ca_4, cl_5, ca_5, cl_10, ca_10, cl_18, ca_18, mw_0, mw_1, mw_2, mw_3, mw_4, mw_5, mw_6, mw_7, mw_8, mu_0, mu_1, mu_2, mu_3, mu_4, mu_5, mu_6, mu_7, mu_8, vi_0, vi_1, vi_2, vi_3, vi_4, vi_5, vi_6]
      refine hQ f hf ⟨⟨0, h4, by decide, fun j hj => ?_⟩, fun j p hj hp => ?_⟩ ⟨h5, fun k hk => absurd hk (by simp)⟩
      · unfold R0
        rw [List.getD_eq_getElem?_getD, List.getElem?_replicate, if_pos hj, Nat.zero_testBit]
        rfl
      · unfold R0 at hp
        rw [List.getD_eq_getElem?_getD, List.getElem?_replicate, if_pos hj] at hp
        exact absurd hp (by simp)
    | succ n ih =>
      intro k f hk hf h4 h5
      have b1 : k < 2147483648 := by omega
      have b2 : 18 + k < 2147483648 := by omega
      have b3 : 18 + k < 568 := by omega
      have hr := ih (k + 1) (upd f (18 + k) 0) (by omega) (hf.tr (fun j a b c => upd_ne _ _ (by omega))) (by rw [upd_ne _ _ (by omega)]; exact h4) (by rw [upd_ne _ _ (by omega)]; exact h5)
      refine wp_ok kd10_forgets 400 16 bb10_forgets_16 _ _ _ _ _ _ oo10_forgets_16 ?_
      simp only [List.getElem?_cons_zero, List.getElem?_cons_succ, fv4, Nat.reduceAdd, Nat.reduceSub, wp, pst, stp, LG, lput, ls_tl, two, bc, EL, pad, popN, csum, Option.toList, List.cons_append, List.nil_append, List.set_cons_zero, List.set_cons_succ, List.length_cons, List.length_nil, true_and, and_true, Nat.reduceLT, Nat.reduceLeDiff, Nat.zero_le, Nat.le_refl, RI_i, RI_z0, RI_z1, Int32.reduceOfInt, Int8.reduceOfInt, Int16.reduceOfInt, Int64.reduceOfInt, Int8.toInt32_ofNat, Int16.toInt32_ofNat, Int.reduceNeg, Int32.ofInt_neg, Int8.ofInt_neg, Int16.ofInt_neg, Int32.toInt64_ofNat, Int32.reduceToNatClampNeg, Fin.isValue, Fin.val_one, Fin.val_zero, Fin.val_two, Int64.reduceOfNat, Int32.reduceOfNat, hdl, cutc, Nat.reduceEqDiff, reduceIte, FV, tyC, tyX0, tyX1, tyX2, tyX3, tyX4, tyX5, tyX6, tyX7, tyX8, tyX9, tyX10, Nat.reduceMul, c_le, c_lt, c_eq, c_in, c_cl, c_add, c_rem, c_ofN, Int32.add_zero, Int32.zero_add, c_lt0, c_ge0, c_le0, c_gt0, c_e0, c_m1, c_m1', false_implies, true_implies, implies_true, not_false_eq_true, not_true_eq_false, Nat.not_lt_zero, up_s, up_1, up_m, ff10_forgets, bb10_forgets_0, bb10_forgets_16, bb10_forgets_38, cl_1, ca_1, cl_4, ca_4, cl_5, ca_5, cl_10, ca_10, cl_18, ca_18, mw_0, mw_1, mw_2, mw_3, mw_4, mw_5, mw_6, mw_7, mw_8, mu_0, mu_1, mu_2, mu_3, mu_4, mu_5, mu_6, mu_7, mu_8, vi_0, vi_1, vi_2, vi_3, vi_4, vi_5, vi_6, b1, b2, b3]
      exact ⟨fun hh => absurd hh (by omega), fun _ => hr⟩
  have hr := key 10 0 (upd (upd fs 4 0) 5 0) rfl (fun j a b c => by rw [upd_ne _ _ b, upd_ne _ _ a]) (by rw [upd_ne _ _ (by decide), upd_eq]) (upd_eq _ _ _)
  refine entry Γ m10_forgets rfl _ (Nat.le_of_ble_eq_true rfl) _ _ _ ?_
  refine wp_ok kd10_forgets 400 0 bb10_forgets_0 _ _ _ _ _ _ oo10_forgets_0 ?_
  simp only [List.getElem?_cons_zero, List.getElem?_cons_succ, fv4, Nat.reduceAdd, Nat.reduceSub, wp, pst, stp, LG, lput, ls_tl, two, bc, EL, pad, popN, csum, Option.toList, List.cons_append, List.nil_append, List.set_cons_zero, List.set_cons_succ, List.length_cons, List.length_nil, true_and, and_true, Nat.reduceLT, Nat.reduceLeDiff, Nat.zero_le, Nat.le_refl, RI_i, RI_z0, RI_z1, Int32.reduceOfInt, Int8.reduceOfInt, Int16.reduceOfInt, Int64.reduceOfInt, Int8.toInt32_ofNat, Int16.toInt32_ofNat, Int.reduceNeg, Int32.ofInt_neg, Int8.ofInt_neg, Int16.ofInt_neg, Int32.toInt64_ofNat, Int32.reduceToNatClampNeg, Fin.isValue, Fin.val_one, Fin.val_zero, Fin.val_two, Int64.reduceOfNat, Int32.reduceOfNat, hdl, cutc, Nat.reduceEqDiff, reduceIte, FV, tyC, tyX0, tyX1, tyX2, tyX3, tyX4, tyX5, tyX6, tyX7, tyX8, tyX9, tyX10, Nat.reduceMul, c_le, c_lt, c_eq, c_in, c_cl, c_add, c_rem, c_ofN, Int32.add_zero, Int32.zero_add, c_lt0, c_ge0, c_le0, c_gt0, c_e0, c_m1, c_m1', false_implies, true_implies, implies_true, not_false_eq_true, not_true_eq_false, Nat.not_lt_zero, up_s, up_1, up_m, ff10_forgets, bb10_forgets_0, bb10_forgets_16, bb10_forgets_38, cl_1, ca_1, cl_4, ca_4, cl_5, ca_5, cl_10, ca_10, cl_18, ca_18, mw_0, mw_1, mw_2, mw_3, mw_4, mw_5, mw_6, mw_7, mw_8, mu_0, mu_1, mu_2, mu_3, mu_4, mu_5, mu_6, mu_7, mu_8, vi_0, vi_1, vi_2, vi_3, vi_4, vi_5, vi_6]
  exact hr
theorem sp10_notes {E : List (Nat × Nat)} (hE : ErrF fs 0 E) (hl : E.length ≤ 20) (p r : Nat) (hQ : ∀ fs', EF fs fs' → ErrF fs' 0 (noteE E p r) → Q none none (mw w m th sm hs ln at_ iw rm rn cm su pl wy px (fs') fa ft fn fx fr fu fc)) : Sp Γ m10_notes [.ref m, .int (nI p), .int (nI r)] none (mw w m th sm hs ln at_ iw rm rn cm su pl wy px fs fa ft fn fx fr fu fc) Q := by
  have e5 : fs 5 = nI E.length := hE.1
  have b1 : E.length < 2147483648 := by omega
  unfold noteE at hQ
  by_cases h : E.length < 20
  · rw [if_pos h] at hQ
    have b2 : 28 + 2 * E.length < 2147483648 := by omega
    have b3 : 28 + 2 * E.length < 568 := by omega
    have b4 : 28 + 2 * E.length + 1 < 2147483648 := by omega
    have b5 : 28 + 2 * E.length + 1 < 568 := by omega
    refine entry Γ m10_notes rfl _ (Nat.le_of_ble_eq_true rfl) _ _ _ ?_
    refine wp_ok kd10_notes 400 0 bb10_notes_0 _ _ _ _ _ _ oo10_notes_0 ?_
    simp only [List.getElem?_cons_zero, List.getElem?_cons_succ, fv4, Nat.reduceAdd, Nat.reduceSub, wp, pst, stp, LG, lput, ls_tl, two, bc, EL, pad, popN, csum, Option.toList, List.cons_append, List.nil_append, List.set_cons_zero, List.set_cons_succ, List.length_cons, List.length_nil, true_and, and_true, Nat.reduceLT, Nat.reduceLeDiff, Nat.zero_le, Nat.le_refl, RI_i, RI_z0, RI_z1, Int32.reduceOfInt, Int8.reduceOfInt, Int16.reduceOfInt, Int64.reduceOfInt, Int8.toInt32_ofNat, Int16.toInt32_ofNat, Int.reduceNeg, Int32.ofInt_neg, Int8.ofInt_neg, Int16.ofInt_neg, Int32.toInt64_ofNat, Int32.reduceToNatClampNeg, Fin.isValue, Fin.val_one, Fin.val_zero, Fin.val_two, Int64.reduceOfNat, Int32.reduceOfNat, hdl, cutc, Nat.reduceEqDiff, reduceIte, FV, tyC, tyX0, tyX1, tyX2, tyX3, tyX4, tyX5, tyX6, tyX7, tyX8, tyX9, tyX10, Nat.reduceMul, c_le, c_lt, c_eq, c_in, c_cl, c_add, c_rem, c_ofN, Int32.add_zero, Int32.zero_add, c_lt0, c_ge0, c_le0, c_gt0, c_e0, c_m1, c_m1', false_implies, true_implies, implies_true, not_false_eq_true, not_true_eq_false, Nat.not_lt_zero, up_s, up_1, up_m, ff10_notes, bb10_notes_0, bb10_notes_57, cl_1, ca_1, cl_2, ca_2, cl_5, ca_5, cl_20, ca_20, cl_28, ca_28, mw_0, mw_1, mw_2, mw_3, mw_4, mw_5, mw_6, mw_7, mw_8, mu_0, mu_1, mu_2, mu_3, mu_4, mu_5, mu_6, mu_7, mu_8, vi_0, vi_1, vi_2, vi_3, vi_4, vi_5, vi_6, e5, b1, b2, b3, b4, b5, upd_ne _ _ (show (5 : Nat) ≠ 28 + 2 * E.length by omega), upd_ne _ _ (show (5 : Nat) ≠ 28 + 2 * E.length + 1 by omega)]
    refine ⟨fun hh => absurd hh (by omega), fun _ => hQ _ (fun j a b => ?_) ⟨?_, fun k hk => ?_⟩⟩
    · rw [upd_ne _ _ a, upd_ne _ _ (by omega), upd_ne _ _ (by omega)]
    · show upd _ 5 _ 5 = _
      rw [upd_eq, List.length_append]; rfl
    · rw [List.length_append] at hk
      simp only [List.length_cons, List.length_nil] at hk
      rw [List.getD_eq_getElem?_getD]
      by_cases hk2 : k = E.length
      · subst hk2
        rw [List.getElem?_append_right (Nat.le_refl _), Nat.sub_self]
        refine ⟨?_, ?_⟩
        · rw [upd_ne _ _ (by omega), upd_ne _ _ (by omega), show 0 + 28 + 2 * E.length = 28 + 2 * E.length by omega, upd_eq]; rfl
        · rw [upd_ne _ _ (by omega), show 0 + 29 + 2 * E.length = 28 + 2 * E.length + 1 by omega, upd_eq]; rfl
      · rw [List.getElem?_append_left (by omega), ← List.getD_eq_getElem?_getD]
        have := hE.2 k (by omega)
        rw [upd_ne _ _ (by omega), upd_ne _ _ (by omega), upd_ne _ _ (by omega), upd_ne _ _ (by omega), upd_ne _ _ (by omega), upd_ne _ _ (by omega)]
        exact this
  · rw [if_neg h] at hQ
    refine entry Γ m10_notes rfl _ (Nat.le_of_ble_eq_true rfl) _ _ _ ?_
    refine wp_ok kd10_notes 400 0 bb10_notes_0 _ _ _ _ _ _ oo10_notes_0 ?_
    simp only [List.getElem?_cons_zero, List.getElem?_cons_succ, fv4, Nat.reduceAdd, Nat.reduceSub, wp, pst, stp, LG, lput, ls_tl, two, bc, EL, pad, popN, csum, Option.toList, List.cons_append, List.nil_append, List.set_cons_zero, List.set_cons_succ, List.length_cons, List.length_nil, true_and, and_true, Nat.reduceLT, Nat.reduceLeDiff, Nat.zero_le, Nat.le_refl, RI_i, RI_z0, RI_z1, Int32.reduceOfInt, Int8.reduceOfInt, Int16.reduceOfInt, Int64.reduceOfInt, Int8.toInt32_ofNat, Int16.toInt32_ofNat, Int.reduceNeg, Int32.ofInt_neg, Int8.ofInt_neg, Int16.ofInt_neg, Int32.toInt64_ofNat, Int32.reduceToNatClampNeg, Fin.isValue, Fin.val_one, Fin.val_zero, Fin.val_two, Int64.reduceOfNat, Int32.reduceOfNat, hdl, cutc, Nat.reduceEqDiff, reduceIte, FV, tyC, tyX0, tyX1, tyX2, tyX3, tyX4, tyX5, tyX6, tyX7, tyX8, tyX9, tyX10, Nat.reduceMul, c_le, c_lt, c_eq, c_in, c_cl, c_add, c_rem, c_ofN, Int32.add_zero, Int32.zero_add, c_lt0, c_ge0, c_le0, c_gt0, c_e0, c_m1, c_m1', false_implies, true_implies, implies_true, not_false_eq_true, not_true_eq_false, Nat.not_lt_zero, up_s, up_1, up_m, ff10_notes, bb10_notes_0, bb10_notes_57, cl_1, ca_1, cl_2, ca_2, cl_5, ca_5, cl_20, ca_20, cl_28, ca_28, mw_0, mw_1, mw_2, mw_3, mw_4, mw_5, mw_6, mw_7, mw_8, mu_0, mu_1, mu_2, mu_3, mu_4, mu_5, mu_6, mu_7, mu_8, vi_0, vi_1, vi_2, vi_3, vi_4, vi_5, vi_6, e5, b1]
    exact ⟨fun _ => hQ fs (fun _ _ _ => rfl) hE, fun hh => absurd hh (by omega)⟩
theorem sp10_addsLine {L : List Nat} (hL : LinF fs 0 L) (hl : L.length < 10) (p : Nat) (hQ : ∀ fs', (∀ j, j ≠ 2 → (j < 8 ∨ 18 ≤ j) → fs' j = fs j) → LinF fs' 0 (L ++ [p]) → Q (some (.int (nI L.length))) none (mw w m th sm hs ln at_ iw rm rn cm su pl wy px (fs') fa ft fn fx fr fu fc)) : Sp Γ m10_addsLine [.ref m, .int (nI p)] none (mw w m th sm hs ln at_ iw rm rn cm su pl wy px fs fa ft fn fx fr fu fc) Q := by
  have e2 : fs 2 = nI L.length := hL.1
  have b1 : L.length < 2147483648 := by omega
  have b2 : 8 + L.length < 2147483648 := by omega
  have b3 : 8 + L.length < 568 := by omega
  have e : nI (L.length + 1) - 1 = nI L.length := c_subr (a := L.length + 1) (b := 1) (by omega)
  refine entry Γ m10_addsLine rfl _ (Nat.le_of_ble_eq_true rfl) _ _ _ ?_
  refine wp_ok kd10_addsLine 400 0 bb10_addsLine_0 _ _ _ _ _ _ oo10_addsLine_0 ?_
  simp only [List.getElem?_cons_zero, List.getElem?_cons_succ, fv4, Nat.reduceAdd, Nat.reduceSub, wp, pst, stp, LG, lput, ls_tl, two, bc, EL, pad, popN, csum, Option.toList, List.cons_append, List.nil_append, List.set_cons_zero, List.set_cons_succ, List.length_cons, List.length_nil, true_and, and_true, Nat.reduceLT, Nat.reduceLeDiff, Nat.zero_le, Nat.le_refl, RI_i, RI_z0, RI_z1, Int32.reduceOfInt, Int8.reduceOfInt, Int16.reduceOfInt, Int64.reduceOfInt, Int8.toInt32_ofNat, Int16.toInt32_ofNat, Int.reduceNeg, Int32.ofInt_neg, Int8.ofInt_neg, Int16.ofInt_neg, Int32.toInt64_ofNat, Int32.reduceToNatClampNeg, Fin.isValue, Fin.val_one, Fin.val_zero, Fin.val_two, Int64.reduceOfNat, Int32.reduceOfNat, hdl, cutc, Nat.reduceEqDiff, reduceIte, FV, tyC, tyX0, tyX1, tyX2, tyX3, tyX4, tyX5, tyX6, tyX7, tyX8, tyX9, tyX10, Nat.reduceMul, c_le, c_lt, c_eq, c_in, c_cl, c_add, c_rem, c_ofN, Int32.add_zero, Int32.zero_add, c_lt0, c_ge0, c_le0, c_gt0, c_e0, c_m1, c_m1', false_implies, true_implies, implies_true, not_false_eq_true, not_true_eq_false, Nat.not_lt_zero, up_s, up_1, up_m, ff10_addsLine, bb10_addsLine_0, cl_1, ca_1, cl_2, ca_2, cl_8, ca_8, mw_0, mw_1, mw_2, mw_3, mw_4, mw_5, mw_6, mw_7, mw_8, mu_0, mu_1, mu_2, mu_3, mu_4, mu_5, mu_6, mu_7, mu_8, vi_0, vi_1, vi_2, vi_3, vi_4, vi_5, vi_6, e2, b1, b2, b3, upd_ne _ _ (show (2 : Nat) ≠ 8 + L.length by omega), upd_eq, e]
  refine hQ _ (fun j a b => by rw [upd_ne _ _ a, upd_ne _ _ (by omega)]) ⟨?_, fun j hj => ?_⟩
  · show upd _ 2 _ 2 = _
    rw [upd_eq, List.length_append]; rfl
  · rw [List.length_append] at hj
    simp only [List.length_cons, List.length_nil] at hj
    rw [List.getD_eq_getElem?_getD, upd_ne _ _ (by omega)]
    by_cases hk2 : j = L.length
    · subst hk2
      rw [List.getElem?_append_right (Nat.le_refl _), Nat.sub_self, show 0 + 8 + L.length = 8 + L.length by omega, upd_eq]; rfl
    · rw [List.getElem?_append_left (by omega), ← List.getD_eq_getElem?_getD, upd_ne _ _ (by omega)]
      exact hL.2 j (by omega)
theorem sp10_replaces {s : List Nat} (hS : StrF fs 0 s) (hl : s.length ≤ 500) (j n : Nat) (hj : j < s.length) (hQ : ∀ fs', (∀ j, j ≠ 3 → j < 68 → fs' j = fs j) → StrF fs' 0 (s.set j n) → Q (some (.int (nI (s.getD j 0)))) none (mw w m th sm hs ln at_ iw rm rn cm su pl wy px (fs') fa ft fn fx fr fu fc)) : Sp Γ m10_replaces [.ref m, .int (nI j), .int (nI n)] none (mw w m th sm hs ln at_ iw rm rn cm su pl wy px fs fa ft fn fx fr fu fc) Q := by
  have b2 : 68 + j < 2147483648 := by omega
  have b3 : 68 + j < 568 := by omega
  have e := hS.2 j hj
  rw [Nat.zero_add] at e
  refine entry Γ m10_replaces rfl _ (Nat.le_of_ble_eq_true rfl) _ _ _ ?_
  refine wp_ok kd10_replaces 400 0 bb10_replaces_0 _ _ _ _ _ _ oo10_replaces_0 ?_
  simp only [List.getElem?_cons_zero, List.getElem?_cons_succ, fv4, Nat.reduceAdd, Nat.reduceSub, wp, pst, stp, LG, lput, ls_tl, two, bc, EL, pad, popN, csum, Option.toList, List.cons_append, List.nil_append, List.set_cons_zero, List.set_cons_succ, List.length_cons, List.length_nil, true_and, and_true, Nat.reduceLT, Nat.reduceLeDiff, Nat.zero_le, Nat.le_refl, RI_i, RI_z0, RI_z1, Int32.reduceOfInt, Int8.reduceOfInt, Int16.reduceOfInt, Int64.reduceOfInt, Int8.toInt32_ofNat, Int16.toInt32_ofNat, Int.reduceNeg, Int32.ofInt_neg, Int8.ofInt_neg, Int16.ofInt_neg, Int32.toInt64_ofNat, Int32.reduceToNatClampNeg, Fin.isValue, Fin.val_one, Fin.val_zero, Fin.val_two, Int64.reduceOfNat, Int32.reduceOfNat, hdl, cutc, Nat.reduceEqDiff, reduceIte, FV, tyC, tyX0, tyX1, tyX2, tyX3, tyX4, tyX5, tyX6, tyX7, tyX8, tyX9, tyX10, Nat.reduceMul, c_le, c_lt, c_eq, c_in, c_cl, c_add, c_rem, c_ofN, Int32.add_zero, Int32.zero_add, c_lt0, c_ge0, c_le0, c_gt0, c_e0, c_m1, c_m1', false_implies, true_implies, implies_true, not_false_eq_true, not_true_eq_false, Nat.not_lt_zero, up_s, up_1, up_m, ff10_replaces, bb10_replaces_0, cl_68, ca_68, mw_0, mw_1, mw_2, mw_3, mw_4, mw_5, mw_6, mw_7, mw_8, mu_0, mu_1, mu_2, mu_3, mu_4, mu_5, mu_6, mu_7, mu_8, vi_0, vi_1, vi_2, vi_3, vi_4, vi_5, vi_6, b2, b3, e]
  refine hQ _ (fun i a b => upd_ne _ _ (by omega)) ⟨?_, fun i hi => ?_⟩
  · rw [upd_ne _ _ (by omega), List.length_set]; exact hS.1
  · rw [List.length_set] at hi
    rw [List.getD_eq_getElem?_getD, List.getElem?_set]
    by_cases h : j = i
    · subst h
      rw [if_pos rfl, if_pos hj, show 0 + 68 + j = 68 + j by omega, upd_eq]; rfl
    · rw [if_neg h, ← List.getD_eq_getElem?_getD, upd_ne _ _ (by omega)]
      exact hS.2 i hi
theorem got_bit {R : List (Option Nat)} {f : Nat → Int32} (hG : GotF f 0 R) {j : Nat} (hj : j < 10) : ((f 4 >>> (nI j &&& 31)) &&& 1) = nI (gotN R j) := by
  obtain ⟨⟨b, h1, h2, h3⟩, -⟩ := hG
  have e4 : f 4 = nI b := h1
  rw [e4, ibitS (by omega), h3 j hj]
  unfold gotN
  cases R.getD j none <;> rfl
theorem gotN_le (R : List (Option Nat)) (j : Nat) : gotN R j ≤ 1 := by unfold gotN; split <;> decide
theorem sp10_isGot {R : List (Option Nat)} (hG : GotF fs 0 R) (j : Nat) (hj : j < 10) (hQ : Q (some (.int (nI (gotN R j)))) none (mw w m th sm hs ln at_ iw rm rn cm su pl wy px fs fa ft fn fx fr fu fc)) : Sp Γ m10_isGot [.ref m, .int (nI j)] none (mw w m th sm hs ln at_ iw rm rn cm su pl wy px fs fa ft fn fx fr fu fc) Q := by
  have e := got_bit hG hj
  have hle := gotN_le R j
  have b1 : gotN R j < 2147483648 := by omega
  refine entry Γ m10_isGot rfl _ (Nat.le_of_ble_eq_true rfl) _ _ _ ?_
  refine wp_ok kd10_isGot 400 0 bb10_isGot_0 _ _ _ _ _ _ oo10_isGot_0 ?_
  simp only [List.getElem?_cons_zero, List.getElem?_cons_succ, fv4, Nat.reduceAdd, Nat.reduceSub, wp, pst, stp, LG, lput, ls_tl, two, bc, EL, pad, popN, csum, Option.toList, List.cons_append, List.nil_append, List.set_cons_zero, List.set_cons_succ, List.length_cons, List.length_nil, true_and, and_true, Nat.reduceLT, Nat.reduceLeDiff, Nat.zero_le, Nat.le_refl, RI_i, RI_z0, RI_z1, Int32.reduceOfInt, Int8.reduceOfInt, Int16.reduceOfInt, Int64.reduceOfInt, Int8.toInt32_ofNat, Int16.toInt32_ofNat, Int.reduceNeg, Int32.ofInt_neg, Int8.ofInt_neg, Int16.ofInt_neg, Int32.toInt64_ofNat, Int32.reduceToNatClampNeg, Fin.isValue, Fin.val_one, Fin.val_zero, Fin.val_two, Int64.reduceOfNat, Int32.reduceOfNat, hdl, cutc, Nat.reduceEqDiff, reduceIte, FV, tyC, tyX0, tyX1, tyX2, tyX3, tyX4, tyX5, tyX6, tyX7, tyX8, tyX9, tyX10, Nat.reduceMul, c_le, c_lt, c_eq, c_in, c_cl, c_add, c_rem, c_ofN, Int32.add_zero, Int32.zero_add, c_lt0, c_ge0, c_le0, c_gt0, c_e0, c_m1, c_m1', false_implies, true_implies, implies_true, not_false_eq_true, not_true_eq_false, Nat.not_lt_zero, up_s, up_1, up_m, ff10_isGot, bb10_isGot_0, bb10_isGot_18, bb10_isGot_19, cl_1, ca_1, cl_4, ca_4, mw_0, mw_1, mw_2, mw_3, mw_4, mw_5, mw_6, mw_7, mw_8, mu_0, mu_1, mu_2, mu_3, mu_4, mu_5, mu_6, mu_7, mu_8, vi_0, vi_1, vi_2, vi_3, vi_4, vi_5, vi_6, e, b1]
  rcases (show gotN R j = 0 ∨ gotN R j = 1 by omega) with h | h
  · rw [h] at hQ ⊢
    exact ⟨fun _ => hQ, fun hh => absurd hh (by decide)⟩
  · rw [h] at hQ ⊢
    exact ⟨fun hh => absurd rfl hh, fun _ => hQ⟩
theorem sp10_arePixels (wd : Nat) (h0' : fs 0 = nI wd) (hw : wd < 64) (v : Int64) (h1 : ∀ p, p < 2 ^ wd → v = lN p → Q (some (.int 1)) none (mw w m th sm hs ln at_ iw rm rn cm su pl wy px fs fa ft fn fx fr fu fc)) (h0 : (∀ p, p < 2 ^ wd → v ≠ lN p) → Q (some (.int 0)) none (mw w m th sm hs ln at_ iw rm rn cm su pl wy px fs fa ft fn fx fr fu fc)) : Sp Γ m10_arePixels [.ref m, .long v] none (mw w m th sm hs ln at_ iw rm rn cm su pl wy px fs fa ft fn fx fr fu fc) Q := by
  refine entry Γ m10_arePixels rfl _ (Nat.le_of_ble_eq_true rfl) _ _ _ ?_
  refine wp_ok kd10_arePixels 400 0 bb10_arePixels_0 _ _ _ _ _ _ oo10_arePixels_0 ?_
  simp only [List.getElem?_cons_zero, List.getElem?_cons_succ, fv4, Nat.reduceAdd, Nat.reduceSub, wp, pst, stp, LG, lput, ls_tl, two, bc, EL, pad, popN, csum, Option.toList, List.cons_append, List.nil_append, List.set_cons_zero, List.set_cons_succ, List.length_cons, List.length_nil, true_and, and_true, Nat.reduceLT, Nat.reduceLeDiff, Nat.zero_le, Nat.le_refl, RI_i, RI_z0, RI_z1, Int32.reduceOfInt, Int8.reduceOfInt, Int16.reduceOfInt, Int64.reduceOfInt, Int8.toInt32_ofNat, Int16.toInt32_ofNat, Int.reduceNeg, Int32.ofInt_neg, Int8.ofInt_neg, Int16.ofInt_neg, Int32.toInt64_ofNat, Int32.reduceToNatClampNeg, Fin.isValue, Fin.val_one, Fin.val_zero, Fin.val_two, Int64.reduceOfNat, Int32.reduceOfNat, hdl, cutc, Nat.reduceEqDiff, reduceIte, FV, tyC, tyX0, tyX1, tyX2, tyX3, tyX4, tyX5, tyX6, tyX7, tyX8, tyX9, tyX10, Nat.reduceMul, c_le, c_lt, c_eq, c_in, c_cl, c_add, c_rem, c_ofN, Int32.add_zero, Int32.zero_add, c_lt0, c_ge0, c_le0, c_gt0, c_e0, c_m1, c_m1', false_implies, true_implies, implies_true, not_false_eq_true, not_true_eq_false, Nat.not_lt_zero, up_s, up_1, up_m, ff10_arePixels, bb10_arePixels_0, bb10_arePixels_17, bb10_arePixels_18, cl_1, ca_1, mw_0, mw_1, mw_2, mw_3, mw_4, mw_5, mw_6, mw_7, mw_8, mu_0, mu_1, mu_2, mu_3, mu_4, mu_5, mu_6, mu_7, mu_8, vi_0, vi_1, vi_2, vi_3, vi_4, vi_5, vi_6, h0', cmp0, fits_iff v hw]
  refine ⟨fun h => h0 (fun p hp q => h ⟨p, hp, q⟩), fun h => ?_⟩
  obtain ⟨p, hp, q⟩ := Classical.not_not.mp h
  exact h1 p hp q
theorem sp10_rightMany {R : List (Option Nat)} {L : List Nat} (hG : GotF fs 0 R) (hL : LinF fs 0 L) (hl : L.length ≤ 10) (oR : RcOK R) (oL : LOK L) (hQ : Q (some (.int (nI (alike R L L.length)))) none (mw w m th sm hs ln at_ iw rm rn cm su pl wy px fs fa ft fn fx fr fu fc)) : Sp Γ m10_rightMany [.ref m] none (mw w m th sm hs ln at_ iw rm rn cm su pl wy px fs fa ft fn fx fr fu fc) Q := by
  have e2 : fs 2 = nI L.length := hL.1
  have bl : L.length < 2147483648 := by omega
  have key : ∀ (n k : Nat), n + k = L.length → G Γ m10_rightMany Q (fun _ _ => False) 4 [some (.ref m), some (.int (nI (alike R L k))), some (.int (nI k))] [] none (mw w m th sm hs ln at_ iw rm rn cm su pl wy px fs fa ft fn fx fr fu fc) 0 0 := by
    intro n
    induction n with
    | zero =>
      intro k hk
      have b1 : k < 2147483648 := by omega
      refine wp_ok kd10_rightMany 400 4 bb10_rightMany_4 _ _ _ _ _ _ oo10_rightMany_4 ?_
      simp only [List.getElem?_cons_zero, List.getElem?_cons_succ, fv4, Nat.reduceAdd, Nat.reduceSub, wp, pst, stp, LG, lput, ls_tl, two, bc, EL, pad, popN, csum, Option.toList, List.cons_append, List.nil_append, List.set_cons_zero, List.set_cons_succ, List.length_cons, List.length_nil, true_and, and_true, Nat.reduceLT, Nat.reduceLeDiff, Nat.zero_le, Nat.le_refl, RI_i, RI_z0, RI_z1, Int32.reduceOfInt, Int8.reduceOfInt, Int16.reduceOfInt, Int64.reduceOfInt, Int8.toInt32_ofNat, Int16.toInt32_ofNat, Int.reduceNeg, Int32.ofInt_neg, Int8.ofInt_neg, Int16.ofInt_neg, Int32.toInt64_ofNat, Int32.reduceToNatClampNeg, Fin.isValue, Fin.val_one, Fin.val_zero, Fin.val_two, Int64.reduceOfNat, Int32.reduceOfNat, hdl, cutc, Nat.reduceEqDiff, reduceIte, FV, tyC, tyX0, tyX1, tyX2, tyX3, tyX4, tyX5, tyX6, tyX7, tyX8, tyX9, tyX10, Nat.reduceMul, c_le, c_lt, c_eq, c_in, c_cl, c_add, c_rem, c_ofN, Int32.add_zero, Int32.zero_add, c_lt0, c_ge0, c_le0, c_gt0, c_e0, c_m1, c_m1', false_implies, true_implies, implies_true, not_false_eq_true, not_true_eq_false, Nat.not_lt_zero, up_s, up_1, up_m, ff10_rightMany, bb10_rightMany_0, bb10_rightMany_4, bb10_rightMany_54, bb10_rightMany_55, bb10_rightMany_63, cl_1, ca_1, cl_2, ca_2, cl_4, ca_4, cl_8, ca_8, cl_18, ca_18, mw_0, mw_1, mw_2, mw_3, mw_4, mw_5, mw_6, mw_7, mw_8, mu_0, mu_1, mu_2, mu_3, mu_4, mu_5, mu_6, mu_7, mu_8, vi_0, vi_1, vi_2, vi_3, vi_4, vi_5, vi_6, e2, b1, bl]
      refine ⟨fun _ => ?_, fun hh => absurd hh (by omega)⟩
      rw [show k = L.length by omega]
      exact hQ
    | succ n ih =>
      intro k hk
      have b1 : k < 2147483648 := by omega
      have b2 : 8 + k < 2147483648 := by omega
      have b3 : 8 + k < 568 := by omega
      have b4 : 18 + k < 2147483648 := by omega
      have b5 : 18 + k < 568 := by omega
      have hal := alike_le R L k
      have b6 : alike R L k < 2147483648 := by omega
      have e := got_bit hG (show k < 10 by omega)
      have el := hL.2 k (by omega)
      rw [Nat.zero_add] at el
      have hr := ih (k + 1) (by omega)
      simp only [alike] at hr
      cases hR : R.getD k none with
      | none =>
        have hg : gotN R k = 0 := by unfold gotN; rw [hR]
        rw [hg] at e
        rw [hR, if_neg (by simp)] at hr
        refine wp_ok kd10_rightMany 400 4 bb10_rightMany_4 _ _ _ _ _ _ oo10_rightMany_4 ?_
        simp only [List.getElem?_cons_zero, List.getElem?_cons_succ, fv4, Nat.reduceAdd, Nat.reduceSub, wp, pst, stp, LG, lput, ls_tl, two, bc, EL, pad, popN, csum, Option.toList, List.cons_append, List.nil_append, List.set_cons_zero, List.set_cons_succ, List.length_cons, List.length_nil, true_and, and_true, Nat.reduceLT, Nat.reduceLeDiff, Nat.zero_le, Nat.le_refl, RI_i, RI_z0, RI_z1, Int32.reduceOfInt, Int8.reduceOfInt, Int16.reduceOfInt, Int64.reduceOfInt, Int8.toInt32_ofNat, Int16.toInt32_ofNat, Int.reduceNeg, Int32.ofInt_neg, Int8.ofInt_neg, Int16.ofInt_neg, Int32.toInt64_ofNat, Int32.reduceToNatClampNeg, Fin.isValue, Fin.val_one, Fin.val_zero, Fin.val_two, Int64.reduceOfNat, Int32.reduceOfNat, hdl, cutc, Nat.reduceEqDiff, reduceIte, FV, tyC, tyX0, tyX1, tyX2, tyX3, tyX4, tyX5, tyX6, tyX7, tyX8, tyX9, tyX10, Nat.reduceMul, c_le, c_lt, c_eq, c_in, c_cl, c_add, c_rem, c_ofN, Int32.add_zero, Int32.zero_add, c_lt0, c_ge0, c_le0, c_gt0, c_e0, c_m1, c_m1', false_implies, true_implies, implies_true, not_false_eq_true, not_true_eq_false, Nat.not_lt_zero, up_s, up_1, up_m, ff10_rightMany, bb10_rightMany_0, bb10_rightMany_4, bb10_rightMany_54, bb10_rightMany_55, bb10_rightMany_63, cl_1, ca_1, cl_2, ca_2, cl_4, ca_4, cl_8, ca_8, cl_18, ca_18, mw_0, mw_1, mw_2, mw_3, mw_4, mw_5, mw_6, mw_7, mw_8, mu_0, mu_1, mu_2, mu_3, mu_4, mu_5, mu_6, mu_7, mu_8, vi_0, vi_1, vi_2, vi_3, vi_4, vi_5, vi_6, e2, b1, b2, b3, b4, b5, b6, bl, e, el]
        exact ⟨fun hh => absurd hh (by omega), fun _ => hr⟩
      | some p =>
        have hg : gotN R k = 1 := by unfold gotN; rw [hR]
        rw [hg] at e
        have ep := hG.2 k p (by omega) hR
        rw [Nat.zero_add] at ep
        have hp : p < 4294967296 := oR k p hR
        have hlk := oL k
        rw [hR] at hr
        simp only [Option.some.injEq] at hr
        refine wp_ok kd10_rightMany 400 4 bb10_rightMany_4 _ _ _ _ _ _ oo10_rightMany_4 ?_
        simp only [List.getElem?_cons_zero, List.getElem?_cons_succ, fv4, Nat.reduceAdd, Nat.reduceSub, wp, pst, stp, LG, lput, ls_tl, two, bc, EL, pad, popN, csum, Option.toList, List.cons_append, List.nil_append, List.set_cons_zero, List.set_cons_succ, List.length_cons, List.length_nil, true_and, and_true, Nat.reduceLT, Nat.reduceLeDiff, Nat.zero_le, Nat.le_refl, RI_i, RI_z0, RI_z1, Int32.reduceOfInt, Int8.reduceOfInt, Int16.reduceOfInt, Int64.reduceOfInt, Int8.toInt32_ofNat, Int16.toInt32_ofNat, Int.reduceNeg, Int32.ofInt_neg, Int8.ofInt_neg, Int16.ofInt_neg, Int32.toInt64_ofNat, Int32.reduceToNatClampNeg, Fin.isValue, Fin.val_one, Fin.val_zero, Fin.val_two, Int64.reduceOfNat, Int32.reduceOfNat, hdl, cutc, Nat.reduceEqDiff, reduceIte, FV, tyC, tyX0, tyX1, tyX2, tyX3, tyX4, tyX5, tyX6, tyX7, tyX8, tyX9, tyX10, Nat.reduceMul, c_le, c_lt, c_eq, c_in, c_cl, c_add, c_rem, c_ofN, Int32.add_zero, Int32.zero_add, c_lt0, c_ge0, c_le0, c_gt0, c_e0, c_m1, c_m1', false_implies, true_implies, implies_true, not_false_eq_true, not_true_eq_false, Nat.not_lt_zero, up_s, up_1, up_m, ff10_rightMany, bb10_rightMany_0, bb10_rightMany_4, bb10_rightMany_54, bb10_rightMany_55, bb10_rightMany_63, cl_1, ca_1, cl_2, ca_2, cl_4, ca_4, cl_8, ca_8, cl_18, ca_18, mw_0, mw_1, mw_2, mw_3, mw_4, mw_5, mw_6, mw_7, mw_8, mu_0, mu_1, mu_2, mu_3, mu_4, mu_5, mu_6, mu_7, mu_8, vi_0, vi_1, vi_2, vi_3, vi_4, vi_5, vi_6, e2, b1, b2, b3, b4, b5, b6, bl, e, el, ep, nI32 hp hlk]
        refine ⟨fun hh => absurd hh (by omega), fun _ => ?_⟩
        by_cases hpe : p = L.getD k 0
        · rw [if_pos hpe] at hr
          first | exact ⟨fun hh => absurd hpe hh, fun _ => hr⟩ | exact ⟨fun hh => absurd rfl hh, fun _ => ⟨fun hh => absurd hpe hh, fun _ => hr⟩⟩
        · rw [if_neg hpe] at hr
          first | exact ⟨fun _ => hr, fun hh => absurd hpe hh⟩ | exact ⟨fun hh => absurd rfl hh, fun _ => ⟨fun _ => hr, fun hh => absurd hpe hh⟩⟩
  refine entry Γ m10_rightMany rfl _ (Nat.le_of_ble_eq_true rfl) _ _ _ ?_
  refine wp_ok kd10_rightMany 400 0 bb10_rightMany_0 _ _ _ _ _ _ oo10_rightMany_0 ?_
  simp only [List.getElem?_cons_zero, List.getElem?_cons_succ, fv4, Nat.reduceAdd, Nat.reduceSub, wp, pst, stp, LG, lput, ls_tl, two, bc, EL, pad, popN, csum, Option.toList, List.cons_append, List.nil_append, List.set_cons_zero, List.set_cons_succ, List.length_cons, List.length_nil, true_and, and_true, Nat.reduceLT, Nat.reduceLeDiff, Nat.zero_le, Nat.le_refl, RI_i, RI_z0, RI_z1, Int32.reduceOfInt, Int8.reduceOfInt, Int16.reduceOfInt, Int64.reduceOfInt, Int8.toInt32_ofNat, Int16.toInt32_ofNat, Int.reduceNeg, Int32.ofInt_neg, Int8.ofInt_neg, Int16.ofInt_neg, Int32.toInt64_ofNat, Int32.reduceToNatClampNeg, Fin.isValue, Fin.val_one, Fin.val_zero, Fin.val_two, Int64.reduceOfNat, Int32.reduceOfNat, hdl, cutc, Nat.reduceEqDiff, reduceIte, FV, tyC, tyX0, tyX1, tyX2, tyX3, tyX4, tyX5, tyX6, tyX7, tyX8, tyX9, tyX10, Nat.reduceMul, c_le, c_lt, c_eq, c_in, c_cl, c_add, c_rem, c_ofN, Int32.add_zero, Int32.zero_add, c_lt0, c_ge0, c_le0, c_gt0, c_e0, c_m1, c_m1', false_implies, true_implies, implies_true, not_false_eq_true, not_true_eq_false, Nat.not_lt_zero, up_s, up_1, up_m, ff10_rightMany, bb10_rightMany_0, bb10_rightMany_4, bb10_rightMany_54, bb10_rightMany_55, bb10_rightMany_63, cl_1, ca_1, cl_2, ca_2, cl_4, ca_4, cl_8, ca_8, cl_18, ca_18, mw_0, mw_1, mw_2, mw_3, mw_4, mw_5, mw_6, mw_7, mw_8, mu_0, mu_1, mu_2, mu_3, mu_4, mu_5, mu_6, mu_7, mu_8, vi_0, vi_1, vi_2, vi_3, vi_4, vi_5, vi_6]
  exact key _ 0 rfl
end MS

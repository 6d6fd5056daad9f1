/-! THE MODEL PLAYS -/
theorem pstp_59' {P P' : PS} (h : pstp P 59 = some P') : P' = PS0 := by
  unfold pstp at h
  rw [if_pos rfl] at h
  split at h
  · cases h; rfl
  · exact absurd h (by simp)
/-- a part takes a sign, and one between -/
theorem pts_half (T : List Nat) (Pf : PS) (hf : pdone Pf = true) : ∀ k n, n ≤ k → ∀ i P, n + i = T.length → (pscan T n i P).2 = some Pf → 2 * (pts T n i P).length ≤ n + 1 := by
  intro k
  induction k with
  | zero =>
    intro n hn i P hi hs
    have h0 : n = 0 := by omega
    subst h0
    simp [pts]
  | succ k ih =>
    intro n hn i P hi hs
    cases n with
    | zero => simp [pts]
    | succ n =>
      simp only [pscan] at hs
      simp only [pts]
      cases hp : pstp P (T.getD i 0) with
      | none => rw [hp] at hs; exact absurd hs (by simp)
      | some P' =>
        rw [hp] at hs
        dsimp only at hs ⊢
        by_cases he : i + 1 = T.length ∨ T.getD (i + 1) 0 = 59
        · rw [if_pos he, List.length_cons]
          cases n with
          | zero => simp [pts]
          | succ n =>
            have h59 : T.getD (i + 1) 0 = 59 := by
              rcases he with he | he
              · omega
              · exact he
            simp only [pscan] at hs
            simp only [pts]
            rw [h59] at hs ⊢
            cases hq : pstp P' 59 with
            | none => rw [hq] at hs; exact absurd hs (by simp)
            | some P2 =>
              rw [hq] at hs
              have h2 := pstp_59' hq
              subst h2
              dsimp only at hs ⊢
              have hne : ¬(i + 1 + 1 = T.length ∨ T.getD (i + 1 + 1) 0 = 59) := by
                intro q
                cases n with
                | zero =>
                  simp only [pscan, Option.some.injEq] at hs
                  rw [← hs] at hf
                  exact pd0 hf
                | succ n =>
                  rcases q with q | q
                  · omega
                  · simp only [pscan] at hs
                    rw [q] at hs
                    cases hr : pstp PS0 59 with
                    | none => rw [hr] at hs; exact absurd hs (by simp)
                    | some P3 => exact pd0 (pstp_59 hr)
              rw [if_neg hne]
              have := ih n (by omega) (i + 1 + 1) PS0 (by omega) hs
              omega
        · rw [if_neg he]
          have := ih n (by omega) (i + 1) P' (by omega) hs
          omega
section MPLAY
variable {Γ : Amb} {w : PW} {Q : Option Value → Option Nat → PW → Prop} {m : Nat} {th : Int32} {U : US}
theorem sp10_firstError (h : MU w m th U) (hU : UOK U) (hQ : ∀ w', MU w' m 0 U → Fr w w' m 9 → Q (some (.int (nI (pscan (us_B U) (us_B U).length 0 PS0).1))) none w') : Sp Γ m10_firstError [.ref m] none w Q := by
  obtain ⟨at_, iw, rm, rn, cm, su, pl, wy, px, fs, fa, ft, fn, fx, fr, fu, fc, hw, hS, hT, hN, hB⟩ := h
  rw [hw]
  refine entry Γ m10_firstError rfl _ (Nat.le_of_ble_eq_true rfl) _ _ _ ?_
  refine wp_ok kd10_firstError 400 0 bb10_firstError_0 _ _ _ _ _ _ oo10_firstError_0 ?_
  simp only [List.getElem?_cons_zero, List.getElem?_cons_succ, fv4, Nat.reduceAdd, Nat.reduceSub, wp, pst, stp, LG, lput, ls_tl, two, bc, EL, pad, popN, csum, Option.toList, List.cons_append, List.nil_append, List.set_cons_zero, List.set_cons_succ, List.length_cons, List.length_nil, true_and, and_true, Nat.reduceLT, Nat.reduceLeDiff, Nat.zero_le, Nat.le_refl, RI_i, RI_z0, RI_z1, Int32.reduceOfInt, Int8.reduceOfInt, Int16.reduceOfInt, Int64.reduceOfInt, Int8.toInt32_ofNat, Int16.toInt32_ofNat, Int.reduceNeg, Int32.ofInt_neg, Int8.ofInt_neg, Int16.ofInt_neg, Int32.toInt64_ofNat, Int32.reduceToNatClampNeg, Fin.isValue, Fin.val_one, Fin.val_zero, Fin.val_two, Int64.reduceOfNat, Int32.reduceOfNat, hdl, cutc, Nat.reduceEqDiff, reduceIte, FV, tyC, tyX0, tyX1, tyX2, tyX3, tyX4, tyX5, tyX6, tyX7, tyX8, tyX9, tyX10, Nat.reduceMul, c_le, c_lt, c_eq, c_in, c_cl, c_add, c_rem, c_ofN, Int32.add_zero, Int32.zero_add, c_lt0, c_ge0, c_le0, c_gt0, c_e0, c_m1, c_m1', false_implies, true_implies, implies_true, not_false_eq_true, not_true_eq_false, Nat.not_lt_zero, up_s, up_1, up_m, ff10_firstError, bb10_firstError_0, bb10_firstError_19, bb10_firstError_23, mw_0, mw_1, mw_2, mw_3, mw_4, mw_5, mw_6, mw_7, mw_8, mu_0, mu_1, mu_2, mu_3, mu_4, mu_5, mu_6, mu_7, mu_8, vi_0, vi_1, vi_2, vi_3, vi_4, vi_5, vi_6]
  refine sp10_readsPage hB hU.2.2.2.2.2 hU.2.2.2.2.1 (fun hf at' fr' _ => ?_) (fun hf rm' fr' => ?_)
  · unfold holdL
    simp only [List.getElem?_cons_zero, List.getElem?_cons_succ, fv4, Nat.reduceAdd, Nat.reduceSub, wp, pst, stp, LG, lput, ls_tl, two, bc, EL, pad, popN, csum, Option.toList, List.cons_append, List.nil_append, List.set_cons_zero, List.set_cons_succ, List.length_cons, List.length_nil, true_and, and_true, Nat.reduceLT, Nat.reduceLeDiff, Nat.zero_le, Nat.le_refl, RI_i, RI_z0, RI_z1, Int32.reduceOfInt, Int8.reduceOfInt, Int16.reduceOfInt, Int64.reduceOfInt, Int8.toInt32_ofNat, Int16.toInt32_ofNat, Int.reduceNeg, Int32.ofInt_neg, Int8.ofInt_neg, Int16.ofInt_neg, Int32.toInt64_ofNat, Int32.reduceToNatClampNeg, Fin.isValue, Fin.val_one, Fin.val_zero, Fin.val_two, Int64.reduceOfNat, Int32.reduceOfNat, hdl, cutc, Nat.reduceEqDiff, reduceIte, FV, tyC, tyX0, tyX1, tyX2, tyX3, tyX4, tyX5, tyX6, tyX7, tyX8, tyX9, tyX10, Nat.reduceMul, c_le, c_lt, c_eq, c_in, c_cl, c_add, c_rem, c_ofN, Int32.add_zero, Int32.zero_add, c_lt0, c_ge0, c_le0, c_gt0, c_e0, c_m1, c_m1', false_implies, true_implies, implies_true, not_false_eq_true, not_true_eq_false, Nat.not_lt_zero, up_s, up_1, up_m, ff10_firstError, bb10_firstError_0, bb10_firstError_19, bb10_firstError_23, mw_0, mw_1, mw_2, mw_3, mw_4, mw_5, mw_6, mw_7, mw_8, mu_0, mu_1, mu_2, mu_3, mu_4, mu_5, mu_6, mu_7, mu_8, vi_0, vi_1, vi_2, vi_3, vi_4, vi_5, vi_6, n10]
    obtain ⟨Pf, hs1, hs2⟩ := pfull_some hf
    have hle := pscan_len _ _ _ _ _ hs1
    rw [Nat.zero_add] at hle
    rw [hle] at hQ
    exact hQ _ (MU.mk' (U := U) hS hT hN hB) mw_fr0
  · unfold holdL
    simp only [List.getElem?_cons_zero, List.getElem?_cons_succ, fv4, Nat.reduceAdd, Nat.reduceSub, wp, pst, stp, LG, lput, ls_tl, two, bc, EL, pad, popN, csum, Option.toList, List.cons_append, List.nil_append, List.set_cons_zero, List.set_cons_succ, List.length_cons, List.length_nil, true_and, and_true, Nat.reduceLT, Nat.reduceLeDiff, Nat.zero_le, Nat.le_refl, RI_i, RI_z0, RI_z1, Int32.reduceOfInt, Int8.reduceOfInt, Int16.reduceOfInt, Int64.reduceOfInt, Int8.toInt32_ofNat, Int16.toInt32_ofNat, Int.reduceNeg, Int32.ofInt_neg, Int8.ofInt_neg, Int16.ofInt_neg, Int32.toInt64_ofNat, Int32.reduceToNatClampNeg, Fin.isValue, Fin.val_one, Fin.val_zero, Fin.val_two, Int64.reduceOfNat, Int32.reduceOfNat, hdl, cutc, Nat.reduceEqDiff, reduceIte, FV, tyC, tyX0, tyX1, tyX2, tyX3, tyX4, tyX5, tyX6, tyX7, tyX8, tyX9, tyX10, Nat.reduceMul, c_le, c_lt, c_eq, c_in, c_cl, c_add, c_rem, c_ofN, Int32.add_zero, Int32.zero_add, c_lt0, c_ge0, c_le0, c_gt0, c_e0, c_m1, c_m1', false_implies, true_implies, implies_true, not_false_eq_true, not_true_eq_false, Nat.not_lt_zero, up_s, up_1, up_m, ff10_firstError, bb10_firstError_0, bb10_firstError_19, bb10_firstError_23, mw_0, mw_1, mw_2, mw_3, mw_4, mw_5, mw_6, mw_7, mw_8, mu_0, mu_1, mu_2, mu_3, mu_4, mu_5, mu_6, mu_7, mu_8, vi_0, vi_1, vi_2, vi_3, vi_4, vi_5, vi_6]
    exact hQ _ (MU.mk' (U := U) hS hT hN hB) mw_fr0
theorem sp10_does {th sm hs ln at_ iw rm rn cm su pl wy px : Int32} {fs fa ft fn fx fr fu fc : Nat → Int32} {S : AS} (hS : StF fs 0 S) (oS : SOK S) (n : Nat) (hn : n ≤ 31) {P : PS} (hP : PtF fr (3 * n) P) (gP : PGd P) (h1 : ∀ S', prf P S = some S' → ∀ rn' cm' su' pl' wy' px' fs' fu' fc', StF fs' 0 S' → Q (some (.int 1)) none (mw w m th sm hs ln at_ iw rm (rn') (cm') (su') (pl') (wy') (px') (fs') fa ft fn fx fr (fu') (fc'))) (h0 : prf P S = none → Q (some (.int 0)) none (mw w m th sm hs ln at_ iw rm rn cm su pl wy px fs fa ft fn fx fr fu fc)) : Sp Γ m10_does [.ref m, .int (nI (3 * n))] none (mw w m th sm hs ln at_ iw rm rn cm su pl wy px fs fa ft fn fx fr fu fc) Q := by
  obtain ⟨k1, k2, k3, k4, k5, k6, k7, k8, k9, k10, k11, k12⟩ := id oS
  obtain ⟨z0, z1, zL, zS, zG, zE, z6⟩ := id hS
  have e0 : fs 0 = nI (a_wd S) := z0
  have e2 : fs 2 = nI (a_L S).length := zL.1
  have e3 : fs 3 = nI (a_s S).length := zS.1
  have bW : a_wd S < 2147483648 := by omega
  have bL : (a_L S).length < 2147483648 := by omega
  have bS : (a_s S).length < 2147483648 := by omega
  obtain ⟨p0, pA, pX⟩ := hP
  have c0 : 3 * n < 2147483648 := by omega
  have c1 : 3 * n + 1 < 2147483648 := by omega
  have c2 : 3 * n + 2 < 2147483648 := by omega
  have d0 : 3 * n < 96 := by omega
  have d1 : 3 * n + 1 < 96 := by omega
  have d2 : 3 * n + 2 < 96 := by omega
  have l1 : ((nI 43).toInt = 43) := by decide
  have l2 : ((nI 45).toInt = 45) := by decide
  have l3 : ((nI 114).toInt = 114) := by decide
  have l4 : ((nI 115).toInt = 115) := by decide
  have l5 : ((nI 120).toInt = 120) := by decide
  have t1 : (((8 : Nat) : Int) + 44).toNat = 52 := rfl
  have t2 : (((8 : Nat) : Int) + 98).toNat = 106 := rfl
  have t3 : (((8 : Nat) : Int) + 142).toNat = 150 := rfl
  have t4 : (((8 : Nat) : Int) + 134).toNat = 142 := rfl
  have t5 : (((8 : Nat) : Int) + 150).toNat = 158 := rfl
  unfold prf at h1 h0
  refine entry Γ m10_does rfl _ (Nat.le_of_ble_eq_true rfl) _ _ _ ?_
  refine wp_ok kd10_does 400 0 bb10_does_0 _ _ _ _ _ _ oo10_does_0 ?_
  rcases gP with ⟨hk, hp1, hp2⟩ | hk | hk | hk | ⟨hk, hp1, hp2⟩
  · rw [hk] at p0 h1 h0
    rw [if_pos rfl] at h1 h0
    obtain ⟨pA1, pA2⟩ := pA hk
    have b2 : P.2.2.1 < 2147483648 := by omega
    simp only [List.getElem?_cons_zero, List.getElem?_cons_succ, fv4, Nat.reduceAdd, Nat.reduceSub, wp, pst, stp, LG, lput, ls_tl, two, bc, EL, pad, popN, csum, Option.toList, List.cons_append, List.nil_append, List.set_cons_zero, List.set_cons_succ, List.length_cons, List.length_nil, true_and, and_true, Nat.reduceLT, Nat.reduceLeDiff, Nat.zero_le, Nat.le_refl, RI_i, RI_z0, RI_z1, Int32.reduceOfInt, Int8.reduceOfInt, Int16.reduceOfInt, Int64.reduceOfInt, Int8.toInt32_ofNat, Int16.toInt32_ofNat, Int.reduceNeg, Int32.ofInt_neg, Int8.ofInt_neg, Int16.ofInt_neg, Int32.toInt64_ofNat, Int32.reduceToNatClampNeg, Fin.isValue, Fin.val_one, Fin.val_zero, Fin.val_two, Int64.reduceOfNat, Int32.reduceOfNat, hdl, cutc, Nat.reduceEqDiff, reduceIte, FV, tyC, tyX0, tyX1, tyX2, tyX3, tyX4, tyX5, tyX6, tyX7, tyX8, tyX9, tyX10, Nat.reduceMul, c_le, c_lt, c_eq, c_in, c_cl, c_add, c_rem, c_ofN, Int32.add_zero, Int32.zero_add, c_lt0, c_ge0, c_le0, c_gt0, c_e0, c_m1, c_m1', false_implies, true_implies, implies_true, not_false_eq_true, not_true_eq_false, Nat.not_lt_zero, up_s, up_1, up_m, ff10_does, bb10_does_0, bb10_does_52, bb10_does_84, bb10_does_85, bb10_does_106, bb10_does_119, bb10_does_120, bb10_does_136, bb10_does_137, bb10_does_142, bb10_does_150, bb10_does_158, bb10_does_196, cl_1, ca_1, cl_2, ca_2, cl_10, ca_10, mw_0, mw_1, mw_2, mw_3, mw_4, mw_5, mw_6, mw_7, mw_8, mu_0, mu_1, mu_2, mu_3, mu_4, mu_5, mu_6, mu_7, mu_8, vi_0, vi_1, vi_2, vi_3, vi_4, vi_5, vi_6, n10, p0, pA1, pA2, lsw, Int.reduceEq, l1, t1, c0, c1, c2, d0, d1, d2, e0, e2, bW, bL, b2]
    refine ⟨fun hgt => ?_, fun hle => ⟨fun hge => ?_, fun hlt => ?_⟩⟩
    · rw [if_neg (by omega)] at h0
      exact h0 rfl
    · rw [if_neg (by omega)] at h0
      exact h0 rfl
    · rw [if_pos (by omega)] at h1
      refine sp10_addsLine zL (by omega) _ (fun fs' hf hl => ?_)
      unfold holdL
      simp only [List.getElem?_cons_zero, List.getElem?_cons_succ, fv4, Nat.reduceAdd, Nat.reduceSub, wp, pst, stp, LG, lput, ls_tl, two, bc, EL, pad, popN, csum, Option.toList, List.cons_append, List.nil_append, List.set_cons_zero, List.set_cons_succ, List.length_cons, List.length_nil, true_and, and_true, Nat.reduceLT, Nat.reduceLeDiff, Nat.zero_le, Nat.le_refl, RI_i, RI_z0, RI_z1, Int32.reduceOfInt, Int8.reduceOfInt, Int16.reduceOfInt, Int64.reduceOfInt, Int8.toInt32_ofNat, Int16.toInt32_ofNat, Int.reduceNeg, Int32.ofInt_neg, Int8.ofInt_neg, Int16.ofInt_neg, Int32.toInt64_ofNat, Int32.reduceToNatClampNeg, Fin.isValue, Fin.val_one, Fin.val_zero, Fin.val_two, Int64.reduceOfNat, Int32.reduceOfNat, hdl, cutc, Nat.reduceEqDiff, reduceIte, FV, tyC, tyX0, tyX1, tyX2, tyX3, tyX4, tyX5, tyX6, tyX7, tyX8, tyX9, tyX10, Nat.reduceMul, c_le, c_lt, c_eq, c_in, c_cl, c_add, c_rem, c_ofN, Int32.add_zero, Int32.zero_add, c_lt0, c_ge0, c_le0, c_gt0, c_e0, c_m1, c_m1', false_implies, true_implies, implies_true, not_false_eq_true, not_true_eq_false, Nat.not_lt_zero, up_s, up_1, up_m, ff10_does, bb10_does_0, bb10_does_52, bb10_does_84, bb10_does_85, bb10_does_106, bb10_does_119, bb10_does_120, bb10_does_136, bb10_does_137, bb10_does_142, bb10_does_150, bb10_does_158, bb10_does_196, cl_1, ca_1, cl_2, ca_2, cl_10, ca_10, mw_0, mw_1, mw_2, mw_3, mw_4, mw_5, mw_6, mw_7, mw_8, mu_0, mu_1, mu_2, mu_3, mu_4, mu_5, mu_6, mu_7, mu_8, vi_0, vi_1, vi_2, vi_3, vi_4, vi_5, vi_6]
      exact h1 _ rfl _ _ _ _ _ _ _ _ _ (hS.upL k8 hf hl)
  · rw [hk] at p0 h1 h0
    rw [if_neg (by decide), if_pos rfl] at h1 h0
    simp only [List.getElem?_cons_zero, List.getElem?_cons_succ, fv4, Nat.reduceAdd, Nat.reduceSub, wp, pst, stp, LG, lput, ls_tl, two, bc, EL, pad, popN, csum, Option.toList, List.cons_append, List.nil_append, List.set_cons_zero, List.set_cons_succ, List.length_cons, List.length_nil, true_and, and_true, Nat.reduceLT, Nat.reduceLeDiff, Nat.zero_le, Nat.le_refl, RI_i, RI_z0, RI_z1, Int32.reduceOfInt, Int8.reduceOfInt, Int16.reduceOfInt, Int64.reduceOfInt, Int8.toInt32_ofNat, Int16.toInt32_ofNat, Int.reduceNeg, Int32.ofInt_neg, Int8.ofInt_neg, Int16.ofInt_neg, Int32.toInt64_ofNat, Int32.reduceToNatClampNeg, Fin.isValue, Fin.val_one, Fin.val_zero, Fin.val_two, Int64.reduceOfNat, Int32.reduceOfNat, hdl, cutc, Nat.reduceEqDiff, reduceIte, FV, tyC, tyX0, tyX1, tyX2, tyX3, tyX4, tyX5, tyX6, tyX7, tyX8, tyX9, tyX10, Nat.reduceMul, c_le, c_lt, c_eq, c_in, c_cl, c_add, c_rem, c_ofN, Int32.add_zero, Int32.zero_add, c_lt0, c_ge0, c_le0, c_gt0, c_e0, c_m1, c_m1', false_implies, true_implies, implies_true, not_false_eq_true, not_true_eq_false, Nat.not_lt_zero, up_s, up_1, up_m, ff10_does, bb10_does_0, bb10_does_52, bb10_does_84, bb10_does_85, bb10_does_106, bb10_does_119, bb10_does_120, bb10_does_136, bb10_does_137, bb10_does_142, bb10_does_150, bb10_does_158, bb10_does_196, cl_1, ca_1, cl_2, ca_2, cl_10, ca_10, mw_0, mw_1, mw_2, mw_3, mw_4, mw_5, mw_6, mw_7, mw_8, mu_0, mu_1, mu_2, mu_3, mu_4, mu_5, mu_6, mu_7, mu_8, vi_0, vi_1, vi_2, vi_3, vi_4, vi_5, vi_6, n10, p0, lsw, Int.reduceEq, l2, t2, c0, d0, e2, bL]
    refine ⟨fun hle => ?_, fun hgt => ?_⟩
    · rw [if_neg (by omega)] at h0
      have hu : upd fs 2 (nI (a_L S).length - 0) = fs := by
        rw [show nI (a_L S).length - 0 = nI (a_L S).length from c_subr (b := 0) (by omega)]
        funext i
        by_cases hi : i = 2
        · rw [hi, upd_eq, e2]
        · rw [upd_ne _ _ hi]
      rw [hu]
      exact h0 rfl
    · rw [if_pos (by omega)] at h1
      have es : nI (a_L S).length - 1 = nI ((a_L S).length - 1) := c_subr (b := 1) (by omega)
      rw [es]
      refine h1 _ rfl _ _ _ _ _ _ _ _ _ (hS.upL k8 (fun i a b => upd_ne _ _ a) ⟨?_, fun i hi => ?_⟩)
      · show upd _ 2 _ 2 = _
        rw [upd_eq, List.length_dropLast]
      · rw [List.length_dropLast] at hi
        rw [upd_ne _ _ (by omega), List.getD_eq_getElem?_getD, List.getElem?_dropLast, if_pos hi, ← List.getD_eq_getElem?_getD]
        exact zL.2 i (by omega)
  · rw [hk] at p0 h1
    rw [if_neg (by decide), if_neg (by decide), if_pos rfl] at h1
    simp only [List.getElem?_cons_zero, List.getElem?_cons_succ, fv4, Nat.reduceAdd, Nat.reduceSub, wp, pst, stp, LG, lput, ls_tl, two, bc, EL, pad, popN, csum, Option.toList, List.cons_append, List.nil_append, List.set_cons_zero, List.set_cons_succ, List.length_cons, List.length_nil, true_and, and_true, Nat.reduceLT, Nat.reduceLeDiff, Nat.zero_le, Nat.le_refl, RI_i, RI_z0, RI_z1, Int32.reduceOfInt, Int8.reduceOfInt, Int16.reduceOfInt, Int64.reduceOfInt, Int8.toInt32_ofNat, Int16.toInt32_ofNat, Int.reduceNeg, Int32.ofInt_neg, Int8.ofInt_neg, Int16.ofInt_neg, Int32.toInt64_ofNat, Int32.reduceToNatClampNeg, Fin.isValue, Fin.val_one, Fin.val_zero, Fin.val_two, Int64.reduceOfNat, Int32.reduceOfNat, hdl, cutc, Nat.reduceEqDiff, reduceIte, FV, tyC, tyX0, tyX1, tyX2, tyX3, tyX4, tyX5, tyX6, tyX7, tyX8, tyX9, tyX10, Nat.reduceMul, c_le, c_lt, c_eq, c_in, c_cl, c_add, c_rem, c_ofN, Int32.add_zero, Int32.zero_add, c_lt0, c_ge0, c_le0, c_gt0, c_e0, c_m1, c_m1', false_implies, true_implies, implies_true, not_false_eq_true, not_true_eq_false, Nat.not_lt_zero, up_s, up_1, up_m, ff10_does, bb10_does_0, bb10_does_52, bb10_does_84, bb10_does_85, bb10_does_106, bb10_does_119, bb10_does_120, bb10_does_136, bb10_does_137, bb10_does_142, bb10_does_150, bb10_does_158, bb10_does_196, cl_1, ca_1, cl_2, ca_2, cl_10, ca_10, mw_0, mw_1, mw_2, mw_3, mw_4, mw_5, mw_6, mw_7, mw_8, mu_0, mu_1, mu_2, mu_3, mu_4, mu_5, mu_6, mu_7, mu_8, vi_0, vi_1, vi_2, vi_3, vi_4, vi_5, vi_6, p0, lsw, Int.reduceEq, l3, t3, c0, d0]
    refine sp10_readsStream hS oS (fun fs' su' pl' wy' px' hrf hgot herr => ?_)
    unfold holdL
    simp only [List.getElem?_cons_zero, List.getElem?_cons_succ, fv4, Nat.reduceAdd, Nat.reduceSub, wp, pst, stp, LG, lput, ls_tl, two, bc, EL, pad, popN, csum, Option.toList, List.cons_append, List.nil_append, List.set_cons_zero, List.set_cons_succ, List.length_cons, List.length_nil, true_and, and_true, Nat.reduceLT, Nat.reduceLeDiff, Nat.zero_le, Nat.le_refl, RI_i, RI_z0, RI_z1, Int32.reduceOfInt, Int8.reduceOfInt, Int16.reduceOfInt, Int64.reduceOfInt, Int8.toInt32_ofNat, Int16.toInt32_ofNat, Int.reduceNeg, Int32.ofInt_neg, Int8.ofInt_neg, Int16.ofInt_neg, Int32.toInt64_ofNat, Int32.reduceToNatClampNeg, Fin.isValue, Fin.val_one, Fin.val_zero, Fin.val_two, Int64.reduceOfNat, Int32.reduceOfNat, hdl, cutc, Nat.reduceEqDiff, reduceIte, FV, tyC, tyX0, tyX1, tyX2, tyX3, tyX4, tyX5, tyX6, tyX7, tyX8, tyX9, tyX10, Nat.reduceMul, c_le, c_lt, c_eq, c_in, c_cl, c_add, c_rem, c_ofN, Int32.add_zero, Int32.zero_add, c_lt0, c_ge0, c_le0, c_gt0, c_e0, c_m1, c_m1', false_implies, true_implies, implies_true, not_false_eq_true, not_true_eq_false, Nat.not_lt_zero, up_s, up_1, up_m, ff10_does, bb10_does_0, bb10_does_52, bb10_does_84, bb10_does_85, bb10_does_106, bb10_does_119, bb10_does_120, bb10_does_136, bb10_does_137, bb10_does_142, bb10_does_150, bb10_does_158, bb10_does_196, cl_1, ca_1, cl_2, ca_2, cl_10, ca_10, mw_0, mw_1, mw_2, mw_3, mw_4, mw_5, mw_6, mw_7, mw_8, mu_0, mu_1, mu_2, mu_3, mu_4, mu_5, mu_6, mu_7, mu_8, vi_0, vi_1, vi_2, vi_3, vi_4, vi_5, vi_6]
    exact h1 _ rfl _ _ _ _ _ _ _ _ _ (hrf.st hS k5 hgot herr)
  · rw [hk] at p0 h1
    rw [if_neg (by decide), if_neg (by decide), if_neg (by decide), if_pos rfl] at h1
    simp only [List.getElem?_cons_zero, List.getElem?_cons_succ, fv4, Nat.reduceAdd, Nat.reduceSub, wp, pst, stp, LG, lput, ls_tl, two, bc, EL, pad, popN, csum, Option.toList, List.cons_append, List.nil_append, List.set_cons_zero, List.set_cons_succ, List.length_cons, List.length_nil, true_and, and_true, Nat.reduceLT, Nat.reduceLeDiff, Nat.zero_le, Nat.le_refl, RI_i, RI_z0, RI_z1, Int32.reduceOfInt, Int8.reduceOfInt, Int16.reduceOfInt, Int64.reduceOfInt, Int8.toInt32_ofNat, Int16.toInt32_ofNat, Int.reduceNeg, Int32.ofInt_neg, Int8.ofInt_neg, Int16.ofInt_neg, Int32.toInt64_ofNat, Int32.reduceToNatClampNeg, Fin.isValue, Fin.val_one, Fin.val_zero, Fin.val_two, Int64.reduceOfNat, Int32.reduceOfNat, hdl, cutc, Nat.reduceEqDiff, reduceIte, FV, tyC, tyX0, tyX1, tyX2, tyX3, tyX4, tyX5, tyX6, tyX7, tyX8, tyX9, tyX10, Nat.reduceMul, c_le, c_lt, c_eq, c_in, c_cl, c_add, c_rem, c_ofN, Int32.add_zero, Int32.zero_add, c_lt0, c_ge0, c_le0, c_gt0, c_e0, c_m1, c_m1', false_implies, true_implies, implies_true, not_false_eq_true, not_true_eq_false, Nat.not_lt_zero, up_s, up_1, up_m, ff10_does, bb10_does_0, bb10_does_52, bb10_does_84, bb10_does_85, bb10_does_106, bb10_does_119, bb10_does_120, bb10_does_136, bb10_does_137, bb10_does_142, bb10_does_150, bb10_does_158, bb10_does_196, cl_1, ca_1, cl_2, ca_2, cl_10, ca_10, mw_0, mw_1, mw_2, mw_3, mw_4, mw_5, mw_6, mw_7, mw_8, mu_0, mu_1, mu_2, mu_3, mu_4, mu_5, mu_6, mu_7, mu_8, vi_0, vi_1, vi_2, vi_3, vi_4, vi_5, vi_6, p0, lsw, Int.reduceEq, l4, t4, c0, d0]
    refine sp10_sends hS oS (fun rn' cm' su' fu' fc' fs' hf hl => ?_)
    unfold holdL
    simp only [List.getElem?_cons_zero, List.getElem?_cons_succ, fv4, Nat.reduceAdd, Nat.reduceSub, wp, pst, stp, LG, lput, ls_tl, two, bc, EL, pad, popN, csum, Option.toList, List.cons_append, List.nil_append, List.set_cons_zero, List.set_cons_succ, List.length_cons, List.length_nil, true_and, and_true, Nat.reduceLT, Nat.reduceLeDiff, Nat.zero_le, Nat.le_refl, RI_i, RI_z0, RI_z1, Int32.reduceOfInt, Int8.reduceOfInt, Int16.reduceOfInt, Int64.reduceOfInt, Int8.toInt32_ofNat, Int16.toInt32_ofNat, Int.reduceNeg, Int32.ofInt_neg, Int8.ofInt_neg, Int16.ofInt_neg, Int32.toInt64_ofNat, Int32.reduceToNatClampNeg, Fin.isValue, Fin.val_one, Fin.val_zero, Fin.val_two, Int64.reduceOfNat, Int32.reduceOfNat, hdl, cutc, Nat.reduceEqDiff, reduceIte, FV, tyC, tyX0, tyX1, tyX2, tyX3, tyX4, tyX5, tyX6, tyX7, tyX8, tyX9, tyX10, Nat.reduceMul, c_le, c_lt, c_eq, c_in, c_cl, c_add, c_rem, c_ofN, Int32.add_zero, Int32.zero_add, c_lt0, c_ge0, c_le0, c_gt0, c_e0, c_m1, c_m1', false_implies, true_implies, implies_true, not_false_eq_true, not_true_eq_false, Nat.not_lt_zero, up_s, up_1, up_m, ff10_does, bb10_does_0, bb10_does_52, bb10_does_84, bb10_does_85, bb10_does_106, bb10_does_119, bb10_does_120, bb10_does_136, bb10_does_137, bb10_does_142, bb10_does_150, bb10_does_158, bb10_does_196, cl_1, ca_1, cl_2, ca_2, cl_10, ca_10, mw_0, mw_1, mw_2, mw_3, mw_4, mw_5, mw_6, mw_7, mw_8, mu_0, mu_1, mu_2, mu_3, mu_4, mu_5, mu_6, mu_7, mu_8, vi_0, vi_1, vi_2, vi_3, vi_4, vi_5, vi_6]
    exact h1 _ rfl _ _ _ _ _ _ _ _ _ (hS.upS oS hf hl)
  · rw [hk] at p0 h1 h0
    rw [if_neg (by decide), if_neg (by decide), if_neg (by decide), if_neg (by decide)] at h1 h0
    obtain ⟨pX1, pX2⟩ := pX hk
    have b2 : P.2.2.2.2.2.1 < 2147483648 := by omega
    simp only [List.getElem?_cons_zero, List.getElem?_cons_succ, fv4, Nat.reduceAdd, Nat.reduceSub, wp, pst, stp, LG, lput, ls_tl, two, bc, EL, pad, popN, csum, Option.toList, List.cons_append, List.nil_append, List.set_cons_zero, List.set_cons_succ, List.length_cons, List.length_nil, true_and, and_true, Nat.reduceLT, Nat.reduceLeDiff, Nat.zero_le, Nat.le_refl, RI_i, RI_z0, RI_z1, Int32.reduceOfInt, Int8.reduceOfInt, Int16.reduceOfInt, Int64.reduceOfInt, Int8.toInt32_ofNat, Int16.toInt32_ofNat, Int.reduceNeg, Int32.ofInt_neg, Int8.ofInt_neg, Int16.ofInt_neg, Int32.toInt64_ofNat, Int32.reduceToNatClampNeg, Fin.isValue, Fin.val_one, Fin.val_zero, Fin.val_two, Int64.reduceOfNat, Int32.reduceOfNat, hdl, cutc, Nat.reduceEqDiff, reduceIte, FV, tyC, tyX0, tyX1, tyX2, tyX3, tyX4, tyX5, tyX6, tyX7, tyX8, tyX9, tyX10, Nat.reduceMul, c_le, c_lt, c_eq, c_in, c_cl, c_add, c_rem, c_ofN, Int32.add_zero, Int32.zero_add, c_lt0, c_ge0, c_le0, c_gt0, c_e0, c_m1, c_m1', false_implies, true_implies, implies_true, not_false_eq_true, not_true_eq_false, Nat.not_lt_zero, up_s, up_1, up_m, ff10_does, bb10_does_0, bb10_does_52, bb10_does_84, bb10_does_85, bb10_does_106, bb10_does_119, bb10_does_120, bb10_does_136, bb10_does_137, bb10_does_142, bb10_does_150, bb10_does_158, bb10_does_196, cl_1, ca_1, cl_2, ca_2, cl_10, ca_10, mw_0, mw_1, mw_2, mw_3, mw_4, mw_5, mw_6, mw_7, mw_8, mu_0, mu_1, mu_2, mu_3, mu_4, mu_5, mu_6, mu_7, mu_8, vi_0, vi_1, vi_2, vi_3, vi_4, vi_5, vi_6, p0, pX1, lsw, Int.reduceEq, l5, t5, c0, c1, d0, d1]
    by_cases hj : P.2.2.2.2.2.1 < (a_s S).length
    · rw [if_pos hj] at h1
      refine sp10_isPlace _ e3 k7 _ (fun _ _ _ => ?_) (fun hno => absurd rfl (hno _ hj))
      unfold holdL
      simp only [List.getElem?_cons_zero, List.getElem?_cons_succ, fv4, Nat.reduceAdd, Nat.reduceSub, wp, pst, stp, LG, lput, ls_tl, two, bc, EL, pad, popN, csum, Option.toList, List.cons_append, List.nil_append, List.set_cons_zero, List.set_cons_succ, List.length_cons, List.length_nil, true_and, and_true, Nat.reduceLT, Nat.reduceLeDiff, Nat.zero_le, Nat.le_refl, RI_i, RI_z0, RI_z1, Int32.reduceOfInt, Int8.reduceOfInt, Int16.reduceOfInt, Int64.reduceOfInt, Int8.toInt32_ofNat, Int16.toInt32_ofNat, Int.reduceNeg, Int32.ofInt_neg, Int8.ofInt_neg, Int16.ofInt_neg, Int32.toInt64_ofNat, Int32.reduceToNatClampNeg, Fin.isValue, Fin.val_one, Fin.val_zero, Fin.val_two, Int64.reduceOfNat, Int32.reduceOfNat, hdl, cutc, Nat.reduceEqDiff, reduceIte, FV, tyC, tyX0, tyX1, tyX2, tyX3, tyX4, tyX5, tyX6, tyX7, tyX8, tyX9, tyX10, Nat.reduceMul, c_le, c_lt, c_eq, c_in, c_cl, c_add, c_rem, c_ofN, Int32.add_zero, Int32.zero_add, c_lt0, c_ge0, c_le0, c_gt0, c_e0, c_m1, c_m1', false_implies, true_implies, implies_true, not_false_eq_true, not_true_eq_false, Nat.not_lt_zero, up_s, up_1, up_m, ff10_does, bb10_does_0, bb10_does_52, bb10_does_84, bb10_does_85, bb10_does_106, bb10_does_119, bb10_does_120, bb10_does_136, bb10_does_137, bb10_does_142, bb10_does_150, bb10_does_158, bb10_does_196, cl_1, ca_1, cl_2, ca_2, cl_10, ca_10, mw_0, mw_1, mw_2, mw_3, mw_4, mw_5, mw_6, mw_7, mw_8, mu_0, mu_1, mu_2, mu_3, mu_4, mu_5, mu_6, mu_7, mu_8, vi_0, vi_1, vi_2, vi_3, vi_4, vi_5, vi_6, n10, pX1, pX2, c0, c1, c2, d0, d1, d2]
      refine sp10_replaces zS k7 _ _ hj (fun fs' hf hl => ?_)
      unfold holdL
      simp only [List.getElem?_cons_zero, List.getElem?_cons_succ, fv4, Nat.reduceAdd, Nat.reduceSub, wp, pst, stp, LG, lput, ls_tl, two, bc, EL, pad, popN, csum, Option.toList, List.cons_append, List.nil_append, List.set_cons_zero, List.set_cons_succ, List.length_cons, List.length_nil, true_and, and_true, Nat.reduceLT, Nat.reduceLeDiff, Nat.zero_le, Nat.le_refl, RI_i, RI_z0, RI_z1, Int32.reduceOfInt, Int8.reduceOfInt, Int16.reduceOfInt, Int64.reduceOfInt, Int8.toInt32_ofNat, Int16.toInt32_ofNat, Int.reduceNeg, Int32.ofInt_neg, Int8.ofInt_neg, Int16.ofInt_neg, Int32.toInt64_ofNat, Int32.reduceToNatClampNeg, Fin.isValue, Fin.val_one, Fin.val_zero, Fin.val_two, Int64.reduceOfNat, Int32.reduceOfNat, hdl, cutc, Nat.reduceEqDiff, reduceIte, FV, tyC, tyX0, tyX1, tyX2, tyX3, tyX4, tyX5, tyX6, tyX7, tyX8, tyX9, tyX10, Nat.reduceMul, c_le, c_lt, c_eq, c_in, c_cl, c_add, c_rem, c_ofN, Int32.add_zero, Int32.zero_add, c_lt0, c_ge0, c_le0, c_gt0, c_e0, c_m1, c_m1', false_implies, true_implies, implies_true, not_false_eq_true, not_true_eq_false, Nat.not_lt_zero, up_s, up_1, up_m, ff10_does, bb10_does_0, bb10_does_52, bb10_does_84, bb10_does_85, bb10_does_106, bb10_does_119, bb10_does_120, bb10_does_136, bb10_does_137, bb10_does_142, bb10_does_150, bb10_does_158, bb10_does_196, cl_1, ca_1, cl_2, ca_2, cl_10, ca_10, mw_0, mw_1, mw_2, mw_3, mw_4, mw_5, mw_6, mw_7, mw_8, mu_0, mu_1, mu_2, mu_3, mu_4, mu_5, mu_6, mu_7, mu_8, vi_0, vi_1, vi_2, vi_3, vi_4, vi_5, vi_6]
      exact h1 _ rfl _ _ _ _ _ _ _ _ _ (hS.upS oS hf hl)
    · rw [if_neg hj] at h0
      refine sp10_isPlace _ e3 k7 _ (fun j hj2 hv => ?_) (fun _ => ?_)
      · rw [c_eq (by omega) (by omega)] at hv
        omega
      · unfold holdL
        simp only [List.getElem?_cons_zero, List.getElem?_cons_succ, fv4, Nat.reduceAdd, Nat.reduceSub, wp, pst, stp, LG, lput, ls_tl, two, bc, EL, pad, popN, csum, Option.toList, List.cons_append, List.nil_append, List.set_cons_zero, List.set_cons_succ, List.length_cons, List.length_nil, true_and, and_true, Nat.reduceLT, Nat.reduceLeDiff, Nat.zero_le, Nat.le_refl, RI_i, RI_z0, RI_z1, Int32.reduceOfInt, Int8.reduceOfInt, Int16.reduceOfInt, Int64.reduceOfInt, Int8.toInt32_ofNat, Int16.toInt32_ofNat, Int.reduceNeg, Int32.ofInt_neg, Int8.ofInt_neg, Int16.ofInt_neg, Int32.toInt64_ofNat, Int32.reduceToNatClampNeg, Fin.isValue, Fin.val_one, Fin.val_zero, Fin.val_two, Int64.reduceOfNat, Int32.reduceOfNat, hdl, cutc, Nat.reduceEqDiff, reduceIte, FV, tyC, tyX0, tyX1, tyX2, tyX3, tyX4, tyX5, tyX6, tyX7, tyX8, tyX9, tyX10, Nat.reduceMul, c_le, c_lt, c_eq, c_in, c_cl, c_add, c_rem, c_ofN, Int32.add_zero, Int32.zero_add, c_lt0, c_ge0, c_le0, c_gt0, c_e0, c_m1, c_m1', false_implies, true_implies, implies_true, not_false_eq_true, not_true_eq_false, Nat.not_lt_zero, up_s, up_1, up_m, ff10_does, bb10_does_0, bb10_does_52, bb10_does_84, bb10_does_85, bb10_does_106, bb10_does_119, bb10_does_120, bb10_does_136, bb10_does_137, bb10_does_142, bb10_does_150, bb10_does_158, bb10_does_196, cl_1, ca_1, cl_2, ca_2, cl_10, ca_10, mw_0, mw_1, mw_2, mw_3, mw_4, mw_5, mw_6, mw_7, mw_8, mu_0, mu_1, mu_2, mu_3, mu_4, mu_5, mu_6, mu_7, mu_8, vi_0, vi_1, vi_2, vi_3, vi_4, vi_5, vi_6]
        exact h0 rfl
theorem sp10_play (h : MU w m th U) (hU : UOK U) (hQ : ∀ w', MU w' m (nI (o_play U).1) (o_play U).2.2 → Fr w w' m 9 → Q (some (.int (nI (o_play U).2.1))) none w') : Sp Γ m10_play [.ref m] none w Q := by
  obtain ⟨at_, iw, rm, rn, cm, su, pl, wy, px, fs, fa, ft, fn, fx, fr, fu, fc, hw, hS, hT, hN, hB⟩ := h
  have h60 := hU.2.2.2.2.2
  rw [hw]
  unfold o_play at hQ
  refine entry Γ m10_play rfl _ (Nat.le_of_ble_eq_true rfl) _ _ _ ?_
  refine wp_ok kd10_play 400 0 bb10_play_0 _ _ _ _ _ _ oo10_play_0 ?_
  simp only [List.getElem?_cons_zero, List.getElem?_cons_succ, fv4, Nat.reduceAdd, Nat.reduceSub, wp, pst, stp, LG, lput, ls_tl, two, bc, EL, pad, popN, csum, Option.toList, List.cons_append, List.nil_append, List.set_cons_zero, List.set_cons_succ, List.length_cons, List.length_nil, true_and, and_true, Nat.reduceLT, Nat.reduceLeDiff, Nat.zero_le, Nat.le_refl, RI_i, RI_z0, RI_z1, Int32.reduceOfInt, Int8.reduceOfInt, Int16.reduceOfInt, Int64.reduceOfInt, Int8.toInt32_ofNat, Int16.toInt32_ofNat, Int.reduceNeg, Int32.ofInt_neg, Int8.ofInt_neg, Int16.ofInt_neg, Int32.toInt64_ofNat, Int32.reduceToNatClampNeg, Fin.isValue, Fin.val_one, Fin.val_zero, Fin.val_two, Int64.reduceOfNat, Int32.reduceOfNat, hdl, cutc, Nat.reduceEqDiff, reduceIte, FV, tyC, tyX0, tyX1, tyX2, tyX3, tyX4, tyX5, tyX6, tyX7, tyX8, tyX9, tyX10, Nat.reduceMul, c_le, c_lt, c_eq, c_in, c_cl, c_add, c_rem, c_ofN, Int32.add_zero, Int32.zero_add, c_lt0, c_ge0, c_le0, c_gt0, c_e0, c_m1, c_m1', false_implies, true_implies, implies_true, not_false_eq_true, not_true_eq_false, Nat.not_lt_zero, up_s, up_1, up_m, ff10_play, bb10_play_0, bb10_play_18, bb10_play_29, bb10_play_53, bb10_play_71, bb10_play_72, cl_1, ca_1, cl_3, ca_3, cl_6, ca_6, mw_0, mw_1, mw_2, mw_3, mw_4, mw_5, mw_6, mw_7, mw_8, mu_0, mu_1, mu_2, mu_3, mu_4, mu_5, mu_6, mu_7, mu_8, vi_0, vi_1, vi_2, vi_3, vi_4, vi_5, vi_6]
  refine sp10_readsPage hB hU.2.2.2.2.2 hU.2.2.2.2.1 (fun hf at' fr' hPs => ?_) (fun hf rm' fr' => ?_)
  · rw [if_pos hf] at hQ
    obtain ⟨Pf, hs1, hs2⟩ := pfull_some hf
    have hpts := pts_ok (us_B U) Pf hs2 _ 0 PS0 rfl PSZ0 hs1
    have hlen := pts_len (us_B U) (us_B U).length 0 PS0
    have hlen2 : 2 * (pts (us_B U) (us_B U).length 0 PS0).length ≤ (us_B U).length + 1 := pts_half _ Pf hs2 _ _ (Nat.le_refl _) _ _ rfl hs1
    unfold playA at hQ
    generalize pts (us_B U) (us_B U).length 0 PS0 = l at *
    have bl : l.length < 2147483648 := by omega
    unfold holdL
    simp only [List.getElem?_cons_zero, List.getElem?_cons_succ, fv4, Nat.reduceAdd, Nat.reduceSub, wp, pst, stp, LG, lput, ls_tl, two, bc, EL, pad, popN, csum, Option.toList, List.cons_append, List.nil_append, List.set_cons_zero, List.set_cons_succ, List.length_cons, List.length_nil, true_and, and_true, Nat.reduceLT, Nat.reduceLeDiff, Nat.zero_le, Nat.le_refl, RI_i, RI_z0, RI_z1, Int32.reduceOfInt, Int8.reduceOfInt, Int16.reduceOfInt, Int64.reduceOfInt, Int8.toInt32_ofNat, Int16.toInt32_ofNat, Int.reduceNeg, Int32.ofInt_neg, Int8.ofInt_neg, Int16.ofInt_neg, Int32.toInt64_ofNat, Int32.reduceToNatClampNeg, Fin.isValue, Fin.val_one, Fin.val_zero, Fin.val_two, Int64.reduceOfNat, Int32.reduceOfNat, hdl, cutc, Nat.reduceEqDiff, reduceIte, FV, tyC, tyX0, tyX1, tyX2, tyX3, tyX4, tyX5, tyX6, tyX7, tyX8, tyX9, tyX10, Nat.reduceMul, c_le, c_lt, c_eq, c_in, c_cl, c_add, c_rem, c_ofN, Int32.add_zero, Int32.zero_add, c_lt0, c_ge0, c_le0, c_gt0, c_e0, c_m1, c_m1', false_implies, true_implies, implies_true, not_false_eq_true, not_true_eq_false, Nat.not_lt_zero, up_s, up_1, up_m, ff10_play, bb10_play_0, bb10_play_18, bb10_play_29, bb10_play_53, bb10_play_71, bb10_play_72, cl_1, ca_1, cl_3, ca_3, cl_6, ca_6, mw_0, mw_1, mw_2, mw_3, mw_4, mw_5, mw_6, mw_7, mw_8, mu_0, mu_1, mu_2, mu_3, mu_4, mu_5, mu_6, mu_7, mu_8, vi_0, vi_1, vi_2, vi_3, vi_4, vi_5, vi_6, n10]
    refine sp10_records hS hT hU.2.2.2.1 hU.1 hU.2.2.1 (fun ft' hT' => ?_)
    unfold holdL
    simp only [List.getElem?_cons_zero, List.getElem?_cons_succ, fv4, Nat.reduceAdd, Nat.reduceSub, wp, pst, stp, LG, lput, ls_tl, two, bc, EL, pad, popN, csum, Option.toList, List.cons_append, List.nil_append, List.set_cons_zero, List.set_cons_succ, List.length_cons, List.length_nil, true_and, and_true, Nat.reduceLT, Nat.reduceLeDiff, Nat.zero_le, Nat.le_refl, RI_i, RI_z0, RI_z1, Int32.reduceOfInt, Int8.reduceOfInt, Int16.reduceOfInt, Int64.reduceOfInt, Int8.toInt32_ofNat, Int16.toInt32_ofNat, Int.reduceNeg, Int32.ofInt_neg, Int8.ofInt_neg, Int16.ofInt_neg, Int32.toInt64_ofNat, Int32.reduceToNatClampNeg, Fin.isValue, Fin.val_one, Fin.val_zero, Fin.val_two, Int64.reduceOfNat, Int32.reduceOfNat, hdl, cutc, Nat.reduceEqDiff, reduceIte, FV, tyC, tyX0, tyX1, tyX2, tyX3, tyX4, tyX5, tyX6, tyX7, tyX8, tyX9, tyX10, Nat.reduceMul, c_le, c_lt, c_eq, c_in, c_cl, c_add, c_rem, c_ofN, Int32.add_zero, Int32.zero_add, c_lt0, c_ge0, c_le0, c_gt0, c_e0, c_m1, c_m1', false_implies, true_implies, implies_true, not_false_eq_true, not_true_eq_false, Nat.not_lt_zero, up_s, up_1, up_m, ff10_play, bb10_play_0, bb10_play_18, bb10_play_29, bb10_play_53, bb10_play_71, bb10_play_72, cl_1, ca_1, cl_3, ca_3, cl_6, ca_6, mw_0, mw_1, mw_2, mw_3, mw_4, mw_5, mw_6, mw_7, mw_8, mu_0, mu_1, mu_2, mu_3, mu_4, mu_5, mu_6, mu_7, mu_8, vi_0, vi_1, vi_2, vi_3, vi_4, vi_5, vi_6]
    generalize hRES : doP l (us_S U) 0 = RES at hQ
    have hend : ∀ (d : Nat) (st : Bool) (S1 : AS) (rn cm su pl wy px : Int32) (f fu fc : Nat → Int32), StF f 0 S1 → RES = (d, st, S1) → d ≤ l.length → (d < l.length ↔ st = true) → G Γ m10_play Q (fun _ _ => False) 53 [some (.ref m), some (.int (nI d))] [] none (mw w m 0 (nI (pushT (us_T U) (us_S U)).length) (hsI (us_N U)) 0 (at') 1 (nI l.length) rn cm su pl wy px f fa (ft') fn fx (fr') fu fc) 0 0 := by
      intro d st S1 rn cm su pl wy px f fu fc hf1 hR hd hst
      rw [hR] at hQ
      dsimp only at hQ
      have bd : d < 2147483648 := by omega
      refine wp_ok kd10_play 400 53 bb10_play_53 _ _ _ _ _ _ oo10_play_53 ?_
      cases st with
      | true =>
        have hlt := hst.mpr rfl
        rw [if_pos rfl] at hQ
        simp only [List.getElem?_cons_zero, List.getElem?_cons_succ, fv4, Nat.reduceAdd, Nat.reduceSub, wp, pst, stp, LG, lput, ls_tl, two, bc, EL, pad, popN, csum, Option.toList, List.cons_append, List.nil_append, List.set_cons_zero, List.set_cons_succ, List.length_cons, List.length_nil, true_and, and_true, Nat.reduceLT, Nat.reduceLeDiff, Nat.zero_le, Nat.le_refl, RI_i, RI_z0, RI_z1, Int32.reduceOfInt, Int8.reduceOfInt, Int16.reduceOfInt, Int64.reduceOfInt, Int8.toInt32_ofNat, Int16.toInt32_ofNat, Int.reduceNeg, Int32.ofInt_neg, Int8.ofInt_neg, Int16.ofInt_neg, Int32.toInt64_ofNat, Int32.reduceToNatClampNeg, Fin.isValue, Fin.val_one, Fin.val_zero, Fin.val_two, Int64.reduceOfNat, Int32.reduceOfNat, hdl, cutc, Nat.reduceEqDiff, reduceIte, FV, tyC, tyX0, tyX1, tyX2, tyX3, tyX4, tyX5, tyX6, tyX7, tyX8, tyX9, tyX10, Nat.reduceMul, c_le, c_lt, c_eq, c_in, c_cl, c_add, c_rem, c_ofN, Int32.add_zero, Int32.zero_add, c_lt0, c_ge0, c_le0, c_gt0, c_e0, c_m1, c_m1', false_implies, true_implies, implies_true, not_false_eq_true, not_true_eq_false, Nat.not_lt_zero, up_s, up_1, up_m, ff10_play, bb10_play_0, bb10_play_18, bb10_play_29, bb10_play_53, bb10_play_71, bb10_play_72, cl_1, ca_1, cl_3, ca_3, cl_6, ca_6, mw_0, mw_1, mw_2, mw_3, mw_4, mw_5, mw_6, mw_7, mw_8, mu_0, mu_1, mu_2, mu_3, mu_4, mu_5, mu_6, mu_7, mu_8, vi_0, vi_1, vi_2, vi_3, vi_4, vi_5, vi_6, bd, bl]
        refine ⟨fun hh => absurd hh (by omega), fun _ => ?_⟩
        exact hQ _ (MU.mk' (U := (s_st S1 (some d), us_N U, pushT (us_T U) (us_S U), [])) (hf1.upSt (o := some d)) hT' hN (fun j hj => absurd hj (Nat.not_lt_zero j))) mw_fr0
      | false =>
        have hlt : ¬d < l.length := fun q => absurd (hst.mp q) (by decide)
        rw [if_neg (by decide)] at hQ
        simp only [List.getElem?_cons_zero, List.getElem?_cons_succ, fv4, Nat.reduceAdd, Nat.reduceSub, wp, pst, stp, LG, lput, ls_tl, two, bc, EL, pad, popN, csum, Option.toList, List.cons_append, List.nil_append, List.set_cons_zero, List.set_cons_succ, List.length_cons, List.length_nil, true_and, and_true, Nat.reduceLT, Nat.reduceLeDiff, Nat.zero_le, Nat.le_refl, RI_i, RI_z0, RI_z1, Int32.reduceOfInt, Int8.reduceOfInt, Int16.reduceOfInt, Int64.reduceOfInt, Int8.toInt32_ofNat, Int16.toInt32_ofNat, Int.reduceNeg, Int32.ofInt_neg, Int8.ofInt_neg, Int16.ofInt_neg, Int32.toInt64_ofNat, Int32.reduceToNatClampNeg, Fin.isValue, Fin.val_one, Fin.val_zero, Fin.val_two, Int64.reduceOfNat, Int32.reduceOfNat, hdl, cutc, Nat.reduceEqDiff, reduceIte, FV, tyC, tyX0, tyX1, tyX2, tyX3, tyX4, tyX5, tyX6, tyX7, tyX8, tyX9, tyX10, Nat.reduceMul, c_le, c_lt, c_eq, c_in, c_cl, c_add, c_rem, c_ofN, Int32.add_zero, Int32.zero_add, c_lt0, c_ge0, c_le0, c_gt0, c_e0, c_m1, c_m1', false_implies, true_implies, implies_true, not_false_eq_true, not_true_eq_false, Nat.not_lt_zero, up_s, up_1, up_m, ff10_play, bb10_play_0, bb10_play_18, bb10_play_29, bb10_play_53, bb10_play_71, bb10_play_72, cl_1, ca_1, cl_3, ca_3, cl_6, ca_6, mw_0, mw_1, mw_2, mw_3, mw_4, mw_5, mw_6, mw_7, mw_8, mu_0, mu_1, mu_2, mu_3, mu_4, mu_5, mu_6, mu_7, mu_8, vi_0, vi_1, vi_2, vi_3, vi_4, vi_5, vi_6, bd, bl]
        refine ⟨fun _ => ?_, fun hh => absurd (by omega) hlt⟩
        exact hQ _ (MU.mk' (U := (s_st S1 none, us_N U, pushT (us_T U) (us_S U), [])) (hf1.upSt (o := none)) hT' hN (fun j hj => absurd hj (Nat.not_lt_zero j))) mw_fr0
    have key : ∀ (n d : Nat) (S1 : AS) (rn cm su pl wy px : Int32) (f fu fc : Nat → Int32), n + d = l.length → SOK S1 → StF f 0 S1 → doP (l.drop d) S1 d = RES → G Γ m10_play Q (fun _ _ => False) 29 [some (.ref m), some (.int (nI d))] [] none (mw w m 0 (nI (pushT (us_T U) (us_S U)).length) (hsI (us_N U)) 0 (at') 1 (nI l.length) rn cm su pl wy px f fa (ft') fn fx (fr') fu fc) 0 0 := by
      intro n
      induction n with
      | zero =>
        intro d S1 rn cm su pl wy px f fu fc hd oS1 hf1 hg
        have bd : d < 2147483648 := by omega
        rw [List.drop_eq_nil_of_le (by omega)] at hg
        simp only [doP] at hg
        have hE := hend d false S1 rn cm su pl wy px f fu fc hf1 hg.symm (by omega) ⟨fun q => by omega, fun q => absurd q (by decide)⟩
        refine wp_ok (kd_cut 53 kd10_play) 400 29 bb10_play_29 _ _ _ _ _ _ oo10_play_29 ?_
        simp only [List.getElem?_cons_zero, List.getElem?_cons_succ, fv4, Nat.reduceAdd, Nat.reduceSub, wp, pst, stp, LG, lput, ls_tl, two, bc, EL, pad, popN, csum, Option.toList, List.cons_append, List.nil_append, List.set_cons_zero, List.set_cons_succ, List.length_cons, List.length_nil, true_and, and_true, Nat.reduceLT, Nat.reduceLeDiff, Nat.zero_le, Nat.le_refl, RI_i, RI_z0, RI_z1, Int32.reduceOfInt, Int8.reduceOfInt, Int16.reduceOfInt, Int64.reduceOfInt, Int8.toInt32_ofNat, Int16.toInt32_ofNat, Int.reduceNeg, Int32.ofInt_neg, Int8.ofInt_neg, Int16.ofInt_neg, Int32.toInt64_ofNat, Int32.reduceToNatClampNeg, Fin.isValue, Fin.val_one, Fin.val_zero, Fin.val_two, Int64.reduceOfNat, Int32.reduceOfNat, hdl, cutc, Nat.reduceEqDiff, reduceIte, FV, tyC, tyX0, tyX1, tyX2, tyX3, tyX4, tyX5, tyX6, tyX7, tyX8, tyX9, tyX10, Nat.reduceMul, c_le, c_lt, c_eq, c_in, c_cl, c_add, c_rem, c_ofN, Int32.add_zero, Int32.zero_add, c_lt0, c_ge0, c_le0, c_gt0, c_e0, c_m1, c_m1', false_implies, true_implies, implies_true, not_false_eq_true, not_true_eq_false, Nat.not_lt_zero, up_s, up_1, up_m, ff10_play, bb10_play_0, bb10_play_18, bb10_play_29, bb10_play_53, bb10_play_71, bb10_play_72, cl_1, ca_1, cl_3, ca_3, cl_6, ca_6, mw_0, mw_1, mw_2, mw_3, mw_4, mw_5, mw_6, mw_7, mw_8, mu_0, mu_1, mu_2, mu_3, mu_4, mu_5, mu_6, mu_7, mu_8, vi_0, vi_1, vi_2, vi_3, vi_4, vi_5, vi_6, bd, bl]
        exact ⟨fun _ => hE, fun hh => absurd hh (by omega)⟩
      | succ n ih =>
        intro d S1 rn cm su pl wy px f fu fc hd oS1 hf1 hg
        have hdl : d < l.length := by omega
        have bd : d < 2147483648 := by omega
        have b3 : 3 * d < 2147483648 := by omega
        rw [List.drop_eq_getElem_cons hdl] at hg
        simp only [doP] at hg
        have hPt := hPs d l[d] (List.getElem?_eq_getElem hdl)
        have hgd := hpts _ (List.getElem_mem hdl)
        refine wp_ok (kd_cut 53 kd10_play) 400 29 bb10_play_29 _ _ _ _ _ _ oo10_play_29 ?_
        simp only [List.getElem?_cons_zero, List.getElem?_cons_succ, fv4, Nat.reduceAdd, Nat.reduceSub, wp, pst, stp, LG, lput, ls_tl, two, bc, EL, pad, popN, csum, Option.toList, List.cons_append, List.nil_append, List.set_cons_zero, List.set_cons_succ, List.length_cons, List.length_nil, true_and, and_true, Nat.reduceLT, Nat.reduceLeDiff, Nat.zero_le, Nat.le_refl, RI_i, RI_z0, RI_z1, Int32.reduceOfInt, Int8.reduceOfInt, Int16.reduceOfInt, Int64.reduceOfInt, Int8.toInt32_ofNat, Int16.toInt32_ofNat, Int.reduceNeg, Int32.ofInt_neg, Int8.ofInt_neg, Int16.ofInt_neg, Int32.toInt64_ofNat, Int32.reduceToNatClampNeg, Fin.isValue, Fin.val_one, Fin.val_zero, Fin.val_two, Int64.reduceOfNat, Int32.reduceOfNat, hdl, cutc, Nat.reduceEqDiff, reduceIte, FV, tyC, tyX0, tyX1, tyX2, tyX3, tyX4, tyX5, tyX6, tyX7, tyX8, tyX9, tyX10, Nat.reduceMul, c_le, c_lt, c_eq, c_in, c_cl, c_add, c_rem, c_ofN, Int32.add_zero, Int32.zero_add, c_lt0, c_ge0, c_le0, c_gt0, c_e0, c_m1, c_m1', false_implies, true_implies, implies_true, not_false_eq_true, not_true_eq_false, Nat.not_lt_zero, up_s, up_1, up_m, ff10_play, bb10_play_0, bb10_play_18, bb10_play_29, bb10_play_53, bb10_play_71, bb10_play_72, cl_1, ca_1, cl_3, ca_3, cl_6, ca_6, mw_0, mw_1, mw_2, mw_3, mw_4, mw_5, mw_6, mw_7, mw_8, mu_0, mu_1, mu_2, mu_3, mu_4, mu_5, mu_6, mu_7, mu_8, vi_0, vi_1, vi_2, vi_3, vi_4, vi_5, vi_6, bd, bl, b3]
        refine ⟨fun hh => absurd hh (by omega), fun _ => ?_⟩
        refine sp10_does hf1 oS1 d (by omega) hPt hgd (fun S2 hS2 rn' cm' su' pl' wy' px' fs' fu' fc' hf2 => ?_) (fun hno => ?_)
        · rw [hS2] at hg
          dsimp only at hg
          have hr := ih (d + 1) S2 rn' cm' su' pl' wy' px' fs' fu' fc' (by omega) (prf_ok hgd oS1 hS2) hf2 hg
          unfold holdL
          simp only [List.getElem?_cons_zero, List.getElem?_cons_succ, fv4, Nat.reduceAdd, Nat.reduceSub, wp, pst, stp, LG, lput, ls_tl, two, bc, EL, pad, popN, csum, Option.toList, List.cons_append, List.nil_append, List.set_cons_zero, List.set_cons_succ, List.length_cons, List.length_nil, true_and, and_true, Nat.reduceLT, Nat.reduceLeDiff, Nat.zero_le, Nat.le_refl, RI_i, RI_z0, RI_z1, Int32.reduceOfInt, Int8.reduceOfInt, Int16.reduceOfInt, Int64.reduceOfInt, Int8.toInt32_ofNat, Int16.toInt32_ofNat, Int.reduceNeg, Int32.ofInt_neg, Int8.ofInt_neg, Int16.ofInt_neg, Int32.toInt64_ofNat, Int32.reduceToNatClampNeg, Fin.isValue, Fin.val_one, Fin.val_zero, Fin.val_two, Int64.reduceOfNat, Int32.reduceOfNat, hdl, cutc, Nat.reduceEqDiff, reduceIte, FV, tyC, tyX0, tyX1, tyX2, tyX3, tyX4, tyX5, tyX6, tyX7, tyX8, tyX9, tyX10, Nat.reduceMul, c_le, c_lt, c_eq, c_in, c_cl, c_add, c_rem, c_ofN, Int32.add_zero, Int32.zero_add, c_lt0, c_ge0, c_le0, c_gt0, c_e0, c_m1, c_m1', false_implies, true_implies, implies_true, not_false_eq_true, not_true_eq_false, Nat.not_lt_zero, up_s, up_1, up_m, ff10_play, bb10_play_0, bb10_play_18, bb10_play_29, bb10_play_53, bb10_play_71, bb10_play_72, cl_1, ca_1, cl_3, ca_3, cl_6, ca_6, mw_0, mw_1, mw_2, mw_3, mw_4, mw_5, mw_6, mw_7, mw_8, mu_0, mu_1, mu_2, mu_3, mu_4, mu_5, mu_6, mu_7, mu_8, vi_0, vi_1, vi_2, vi_3, vi_4, vi_5, vi_6, n10, bd]
          exact hr
        · rw [hno] at hg
          dsimp only at hg
          have hE := hend d true S1 rn cm su pl wy px f fu fc hf1 hg.symm (by omega) ⟨fun _ => rfl, fun _ => hdl⟩
          unfold holdL
          simp only [List.getElem?_cons_zero, List.getElem?_cons_succ, fv4, Nat.reduceAdd, Nat.reduceSub, wp, pst, stp, LG, lput, ls_tl, two, bc, EL, pad, popN, csum, Option.toList, List.cons_append, List.nil_append, List.set_cons_zero, List.set_cons_succ, List.length_cons, List.length_nil, true_and, and_true, Nat.reduceLT, Nat.reduceLeDiff, Nat.zero_le, Nat.le_refl, RI_i, RI_z0, RI_z1, Int32.reduceOfInt, Int8.reduceOfInt, Int16.reduceOfInt, Int64.reduceOfInt, Int8.toInt32_ofNat, Int16.toInt32_ofNat, Int.reduceNeg, Int32.ofInt_neg, Int8.ofInt_neg, Int16.ofInt_neg, Int32.toInt64_ofNat, Int32.reduceToNatClampNeg, Fin.isValue, Fin.val_one, Fin.val_zero, Fin.val_two, Int64.reduceOfNat, Int32.reduceOfNat, hdl, cutc, Nat.reduceEqDiff, reduceIte, FV, tyC, tyX0, tyX1, tyX2, tyX3, tyX4, tyX5, tyX6, tyX7, tyX8, tyX9, tyX10, Nat.reduceMul, c_le, c_lt, c_eq, c_in, c_cl, c_add, c_rem, c_ofN, Int32.add_zero, Int32.zero_add, c_lt0, c_ge0, c_le0, c_gt0, c_e0, c_m1, c_m1', false_implies, true_implies, implies_true, not_false_eq_true, not_true_eq_false, Nat.not_lt_zero, up_s, up_1, up_m, ff10_play, bb10_play_0, bb10_play_18, bb10_play_29, bb10_play_53, bb10_play_71, bb10_play_72, cl_1, ca_1, cl_3, ca_3, cl_6, ca_6, mw_0, mw_1, mw_2, mw_3, mw_4, mw_5, mw_6, mw_7, mw_8, mu_0, mu_1, mu_2, mu_3, mu_4, mu_5, mu_6, mu_7, mu_8, vi_0, vi_1, vi_2, vi_3, vi_4, vi_5, vi_6]
          exact hE
    exact key l.length 0 (us_S U) rn cm su pl wy px fs fu fc (by omega) hU.1 hS hRES
  · rw [if_neg (by rw [hf]; decide)] at hQ
    unfold holdL
    simp only [List.getElem?_cons_zero, List.getElem?_cons_succ, fv4, Nat.reduceAdd, Nat.reduceSub, wp, pst, stp, LG, lput, ls_tl, two, bc, EL, pad, popN, csum, Option.toList, List.cons_append, List.nil_append, List.set_cons_zero, List.set_cons_succ, List.length_cons, List.length_nil, true_and, and_true, Nat.reduceLT, Nat.reduceLeDiff, Nat.zero_le, Nat.le_refl, RI_i, RI_z0, RI_z1, Int32.reduceOfInt, Int8.reduceOfInt, Int16.reduceOfInt, Int64.reduceOfInt, Int8.toInt32_ofNat, Int16.toInt32_ofNat, Int.reduceNeg, Int32.ofInt_neg, Int8.ofInt_neg, Int16.ofInt_neg, Int32.toInt64_ofNat, Int32.reduceToNatClampNeg, Fin.isValue, Fin.val_one, Fin.val_zero, Fin.val_two, Int64.reduceOfNat, Int32.reduceOfNat, hdl, cutc, Nat.reduceEqDiff, reduceIte, FV, tyC, tyX0, tyX1, tyX2, tyX3, tyX4, tyX5, tyX6, tyX7, tyX8, tyX9, tyX10, Nat.reduceMul, c_le, c_lt, c_eq, c_in, c_cl, c_add, c_rem, c_ofN, Int32.add_zero, Int32.zero_add, c_lt0, c_ge0, c_le0, c_gt0, c_e0, c_m1, c_m1', false_implies, true_implies, implies_true, not_false_eq_true, not_true_eq_false, Nat.not_lt_zero, up_s, up_1, up_m, ff10_play, bb10_play_0, bb10_play_18, bb10_play_29, bb10_play_53, bb10_play_71, bb10_play_72, cl_1, ca_1, cl_3, ca_3, cl_6, ca_6, mw_0, mw_1, mw_2, mw_3, mw_4, mw_5, mw_6, mw_7, mw_8, mu_0, mu_1, mu_2, mu_3, mu_4, mu_5, mu_6, mu_7, mu_8, vi_0, vi_1, vi_2, vi_3, vi_4, vi_5, vi_6]
    refine sp10_fails 1 ?_
    unfold holdL
    simp only [List.getElem?_cons_zero, List.getElem?_cons_succ, fv4, Nat.reduceAdd, Nat.reduceSub, wp, pst, stp, LG, lput, ls_tl, two, bc, EL, pad, popN, csum, Option.toList, List.cons_append, List.nil_append, List.set_cons_zero, List.set_cons_succ, List.length_cons, List.length_nil, true_and, and_true, Nat.reduceLT, Nat.reduceLeDiff, Nat.zero_le, Nat.le_refl, RI_i, RI_z0, RI_z1, Int32.reduceOfInt, Int8.reduceOfInt, Int16.reduceOfInt, Int64.reduceOfInt, Int8.toInt32_ofNat, Int16.toInt32_ofNat, Int.reduceNeg, Int32.ofInt_neg, Int8.ofInt_neg, Int16.ofInt_neg, Int32.toInt64_ofNat, Int32.reduceToNatClampNeg, Fin.isValue, Fin.val_one, Fin.val_zero, Fin.val_two, Int64.reduceOfNat, Int32.reduceOfNat, hdl, cutc, Nat.reduceEqDiff, reduceIte, FV, tyC, tyX0, tyX1, tyX2, tyX3, tyX4, tyX5, tyX6, tyX7, tyX8, tyX9, tyX10, Nat.reduceMul, c_le, c_lt, c_eq, c_in, c_cl, c_add, c_rem, c_ofN, Int32.add_zero, Int32.zero_add, c_lt0, c_ge0, c_le0, c_gt0, c_e0, c_m1, c_m1', false_implies, true_implies, implies_true, not_false_eq_true, not_true_eq_false, Nat.not_lt_zero, up_s, up_1, up_m, ff10_play, bb10_play_0, bb10_play_18, bb10_play_29, bb10_play_53, bb10_play_71, bb10_play_72, cl_1, ca_1, cl_3, ca_3, cl_6, ca_6, mw_0, mw_1, mw_2, mw_3, mw_4, mw_5, mw_6, mw_7, mw_8, mu_0, mu_1, mu_2, mu_3, mu_4, mu_5, mu_6, mu_7, mu_8, vi_0, vi_1, vi_2, vi_3, vi_4, vi_5, vi_6]
    exact hQ _ (MU.mk' (U := (oNo 1 U).2.2) hS hT hN hB) mw_fr0
end MPLAY

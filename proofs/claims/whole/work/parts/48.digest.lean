/-! THE DIGEST -/
def hx (h : Int64) (v : Nat) : Int64 := 31 * h + lN v
def hl (h : Int64) (l : List Nat) : Int64 := l.foldl hx h
theorem hl_app (h : Int64) (a b : List Nat) : hl h (a ++ b) = hl (hl h a) b := List.foldl_append
theorem hl_nil (h : Int64) : hl h [] = h := rfl
theorem hl_cons (h : Int64) (a : Nat) (l : List Nat) : hl h (a :: l) = hl (hx h a) l := rfl
def pre (f : Nat → List Nat) : Nat → List Nat
  | 0 => []
  | n + 1 => pre f n ++ f n
def lineL (S : AS) (n : Nat) : List Nat :=
  [(a_L S).getD n 0, (runs (a_wd S) ((a_L S).getD n 0)).length, mxL (runs (a_wd S) ((a_L S).getD n 0)), modeS S n] ++ pre (fun m => [clen (a_wd S) (a_L S) n m, clen (a_wd S) (a_L S) n m, chk (a_wd S) (a_L S) n m]) 3
def recL (R : List (Option Nat)) (j : Nat) : List Nat := match R.getD j none with
  | some p => [1, p]
  | none => [0]
def errL (E : List (Nat × Nat)) (k : Nat) : List Nat := [(E.getD k (0, 0)).1, (E.getD k (0, 0)).2]
def stL (o : Option Nat) : List Nat := match o with
  | some k => [1, k]
  | none => [0]
/-- the coded share -/
def shr (S : AS) : UInt64 := if (a_L S).length = 0 then FP.dconst0 else FP.ddiv (FP.i2d (nI (4 * wsend S (a_L S).length))) (FP.i2d (nI (a_wd S * (a_L S).length)))
def dgL (U : US) : List Nat :=
  [a_wd (us_S U), (a_L (us_S U)).length, a_sy (us_S U), blk (a_L (us_S U)) (a_L (us_S U)).length, wsend (us_S U) (a_L (us_S U)).length, (a_s (us_S U)).length, mkn (a_s (us_S U)) 0 (a_s (us_S U)).length, cntR (a_R (us_S U)), alike (a_R (us_S U)) (a_L (us_S U)) (a_L (us_S U)).length, (a_E (us_S U)).length, wget (us_S U), wright (us_S U), (us_T U).length]
  ++ pre (lineL (us_S U)) (a_L (us_S U)).length ++ pre (fun k => [(a_s (us_S U)).getD k 0]) (a_s (us_S U)).length ++ pre (recL (a_R (us_S U))) 10 ++ pre (errL (a_E (us_S U))) (a_E (us_S U)).length
  ++ stL (a_st (us_S U)) ++ [(shr (us_S U)).toNat, (us_B U).length] ++ pre (fun k => [(us_B U).getD k 0]) (us_B U).length
def dig (U : US) : Int64 := hl (lN 4409) (dgL U)
theorem i2l_n {v : Nat} (h : v < 2147483648) : (nI v).toInt64 = lN v := by
  apply Int64.toInt_inj.mp
  rw [Int32.toInt_toInt64, show (nI v).toInt = (v : Int) from Int32.toInt_ofNat_of_lt h]
  exact (lg_ofNat_toInt (by omega)).symm
theorem wsend_ge (S : AS) : ∀ n, 5 * n ≤ wsend S n := by
  intro n
  induction n with
  | zero => simp [wsend]
  | succ n ih =>
    have : 5 ≤ clen (a_wd S) (a_L S) n (modeS S n) := by rw [clen_ker]; omega
    simp only [wsend]; omega
theorem shr_ok {S : AS} (h : SOK S) (h0 : 0 < (a_L S).length) : ∃ E T, shr S = dbl E T ∧ 900 ≤ E ∧ E ≤ 1200 ∧ T < 4503599627370496 := by
  obtain ⟨h1, h2, h3, h4, h5, -⟩ := h
  have w1 := wsend_ge S (a_L S).length
  have w2 := wsend_le S h2 (a_L S).length
  have hp1 : 8 * 1 ≤ a_wd S * (a_L S).length := Nat.mul_le_mul h1 h0
  have hp2 : a_wd S * (a_L S).length ≤ 32 * 10 := Nat.mul_le_mul h2 h5
  unfold shr
  rw [if_neg (by omega)]
  obtain ⟨a1, a2⟩ := i2d_ok (a := 4 * wsend S (a_L S).length) (by omega) (by omega)
  obtain ⟨b1, b2⟩ := i2d_ok (a := a_wd S * (a_L S).length) (by omega) (by omega)
  obtain ⟨l1, l2, l3⟩ := nj_ok (T := 4 * wsend S (a_L S).length) (by omega) (by omega)
  obtain ⟨m1, m2, m3⟩ := nj_ok (T := a_wd S * (a_L S).length) (by omega) (by omega)
  rw [a1, b1]
  have hj : ∀ a, nj a ≤ 52 := fun a => Nat.sub_le _ _
  have hj1 := hj (4 * wsend S (a_L S).length)
  have hj2 := hj (a_wd S * (a_L S).length)
  exact ddiv_ok (by omega) (by omega) (by omega) (by omega) (by omega) (by omega)
section DIG
variable {Γ : Amb} {w : PW} {Q : Option Value → Option Nat → PW → Prop} {QX : String → PW → Prop} {x : Nat} {U : US}
theorem sp9_mix (h : Int64) (v : Nat) (hQ : Q (some (.long (hx h v))) none w) : Sp Γ m9_mix [.long h, .long (lN v)] none w Q := by
  refine entry Γ m9_mix rfl _ (Nat.le_of_ble_eq_true rfl) _ _ _ ?_
  refine wp_ok kd9_mix 400 0 bb9_mix_0 _ _ _ _ _ _ oo9_mix_0 ?_
  simp only [List.getElem?_cons_zero, List.getElem?_cons_succ, fv4, Nat.reduceAdd, Nat.reduceSub, wp, pst, stp, LG, lput, ls_tl, two, bc, EL, pad, popN, csum, Option.toList, List.cons_append, List.nil_append, List.set_cons_zero, List.set_cons_succ, List.length_cons, List.length_nil, true_and, and_true, Nat.reduceLT, Nat.reduceLeDiff, Nat.zero_le, Nat.le_refl, RI_i, RI_z0, RI_z1, Int32.reduceOfInt, Int8.reduceOfInt, Int16.reduceOfInt, Int64.reduceOfInt, Int8.toInt32_ofNat, Int16.toInt32_ofNat, Int.reduceNeg, Int32.ofInt_neg, Int8.ofInt_neg, Int16.ofInt_neg, Int32.toInt64_ofNat, Int32.reduceToNatClampNeg, Fin.isValue, Fin.val_one, Fin.val_zero, Fin.val_two, Int64.reduceOfNat, Int32.reduceOfNat, hdl, cutc, Nat.reduceEqDiff, reduceIte, FV, tyC, tyX0, tyX1, tyX2, tyX3, tyX4, tyX5, tyX6, tyX7, tyX8, tyX9, tyX10, Nat.reduceMul, c_le, c_lt, c_eq, c_in, c_cl, c_add, c_rem, c_ofN, Int32.add_zero, Int32.zero_add, c_lt0, c_ge0, c_le0, c_gt0, c_e0, c_m1, c_m1', false_implies, true_implies, implies_true, not_false_eq_true, not_true_eq_false, Nat.not_lt_zero, up_s, up_1, up_m, ff9_mix, bb9_mix_0]
  exact hQ
theorem sp9_codedShare (h : XU w x U) (hU : UOK U) (hQ : Q (some (.double (shr (us_S U)))) none w) : Sp Γ m9_codedShare [.ref x] none w Q := by
  have h' := h
  unfold XU at h
  obtain ⟨k1, k2, k3, k4, k5, -⟩ := hU.1
  obtain ⟨e0, ⟨v', e1, -⟩, e2, e3, e4⟩ := h.cells
  have hp2 : a_wd (us_S U) * (a_L (us_S U)).length ≤ 32 * 10 := Nat.mul_le_mul k2 k5
  have b1 : a_wd (us_S U) * (a_L (us_S U)).length < 2147483648 := by omega
  refine entry Γ m9_codedShare rfl _ (Nat.le_of_ble_eq_true rfl) _ _ _ ?_
  refine wp_ok kd9_codedShare 400 0 bb9_codedShare_0 _ _ _ _ _ _ oo9_codedShare_0 ?_
  simp only [List.getElem?_cons_zero, List.getElem?_cons_succ, fv4, Nat.reduceAdd, Nat.reduceSub, wp, pst, stp, LG, lput, ls_tl, two, bc, EL, pad, popN, csum, Option.toList, List.cons_append, List.nil_append, List.set_cons_zero, List.set_cons_succ, List.length_cons, List.length_nil, true_and, and_true, Nat.reduceLT, Nat.reduceLeDiff, Nat.zero_le, Nat.le_refl, RI_i, RI_z0, RI_z1, Int32.reduceOfInt, Int8.reduceOfInt, Int16.reduceOfInt, Int64.reduceOfInt, Int8.toInt32_ofNat, Int16.toInt32_ofNat, Int.reduceNeg, Int32.ofInt_neg, Int8.ofInt_neg, Int16.ofInt_neg, Int32.toInt64_ofNat, Int32.reduceToNatClampNeg, Fin.isValue, Fin.val_one, Fin.val_zero, Fin.val_two, Int64.reduceOfNat, Int32.reduceOfNat, hdl, cutc, Nat.reduceEqDiff, reduceIte, FV, tyC, tyX0, tyX1, tyX2, tyX3, tyX4, tyX5, tyX6, tyX7, tyX8, tyX9, tyX10, Nat.reduceMul, c_le, c_lt, c_eq, c_in, c_cl, c_add, c_rem, c_ofN, Int32.add_zero, Int32.zero_add, c_lt0, c_ge0, c_le0, c_gt0, c_e0, c_m1, c_m1', false_implies, true_implies, implies_true, not_false_eq_true, not_true_eq_false, Nat.not_lt_zero, up_s, up_1, up_m, ff9_codedShare, bb9_codedShare_0, bb9_codedShare_28, cl_4, ca_4, e0, e1, e2, c_mul, b1]
  refine ⟨fun hp => ?_, fun hp => ?_⟩
  · have hl : 0 < (a_L (us_S U)).length := Nat.pos_of_ne_zero (fun q => by rw [q] at hp; omega)
    refine sp9_wouldSend h' hU ?_
    obtain ⟨E, T, hs, s1, s2, s3⟩ := shr_ok hU.1 hl
    have hn := dbl_n64 (E := E) (T := T) (by omega) s3
    rw [← hs] at hn
    unfold shr at hn hQ
    rw [if_neg (by omega)] at hn hQ
    unfold holdL
    simp only [List.getElem?_cons_zero, List.getElem?_cons_succ, fv4, Nat.reduceAdd, Nat.reduceSub, wp, pst, stp, LG, lput, ls_tl, two, bc, EL, pad, popN, csum, Option.toList, List.cons_append, List.nil_append, List.set_cons_zero, List.set_cons_succ, List.length_cons, List.length_nil, true_and, and_true, Nat.reduceLT, Nat.reduceLeDiff, Nat.zero_le, Nat.le_refl, RI_i, RI_z0, RI_z1, Int32.reduceOfInt, Int8.reduceOfInt, Int16.reduceOfInt, Int64.reduceOfInt, Int8.toInt32_ofNat, Int16.toInt32_ofNat, Int.reduceNeg, Int32.ofInt_neg, Int8.ofInt_neg, Int16.ofInt_neg, Int32.toInt64_ofNat, Int32.reduceToNatClampNeg, Fin.isValue, Fin.val_one, Fin.val_zero, Fin.val_two, Int64.reduceOfNat, Int32.reduceOfNat, hdl, cutc, Nat.reduceEqDiff, reduceIte, FV, tyC, tyX0, tyX1, tyX2, tyX3, tyX4, tyX5, tyX6, tyX7, tyX8, tyX9, tyX10, Nat.reduceMul, c_le, c_lt, c_eq, c_in, c_cl, c_add, c_rem, c_ofN, Int32.add_zero, Int32.zero_add, c_lt0, c_ge0, c_le0, c_gt0, c_e0, c_m1, c_m1', false_implies, true_implies, implies_true, not_false_eq_true, not_true_eq_false, Nat.not_lt_zero, up_s, up_1, up_m, ff9_codedShare, bb9_codedShare_0, bb9_codedShare_28, cl_4, ca_4]
    exact ⟨hn, hQ⟩
  · have hl : (a_L (us_S U)).length = 0 := by
      rcases Nat.eq_zero_or_pos (a_L (us_S U)).length with q | q
      · exact q
      · have : 8 * 1 ≤ a_wd (us_S U) * (a_L (us_S U)).length := Nat.mul_le_mul k1 q
        omega
    unfold shr at hQ
    rw [if_pos hl] at hQ
    exact hQ
theorem sp9_bitsOf_0 (hQ : Q (some (.long (lN 0))) none w) : Sp Γ m9_bitsOf [.double FP.dconst0] none w Q := by
  have e : Op.cmpValue (FP.dcmp FP.dconst0 FP.dconst0) .g = 0 := by decide +kernel
  refine entry Γ m9_bitsOf rfl _ (Nat.le_of_ble_eq_true rfl) _ _ _ ?_
  refine wp_ok kd9_bitsOf 400 0 bb9_bitsOf_0 _ _ _ _ _ _ oo9_bitsOf_0 ?_
  simp only [List.getElem?_cons_zero, List.getElem?_cons_succ, fv4, Nat.reduceAdd, Nat.reduceSub, wp, pst, stp, LG, lput, ls_tl, two, bc, EL, pad, popN, csum, Option.toList, List.cons_append, List.nil_append, List.set_cons_zero, List.set_cons_succ, List.length_cons, List.length_nil, true_and, and_true, Nat.reduceLT, Nat.reduceLeDiff, Nat.zero_le, Nat.le_refl, RI_i, RI_z0, RI_z1, Int32.reduceOfInt, Int8.reduceOfInt, Int16.reduceOfInt, Int64.reduceOfInt, Int8.toInt32_ofNat, Int16.toInt32_ofNat, Int.reduceNeg, Int32.ofInt_neg, Int8.ofInt_neg, Int16.ofInt_neg, Int32.toInt64_ofNat, Int32.reduceToNatClampNeg, Fin.isValue, Fin.val_one, Fin.val_zero, Fin.val_two, Int64.reduceOfNat, Int32.reduceOfNat, hdl, cutc, Nat.reduceEqDiff, reduceIte, FV, tyC, tyX0, tyX1, tyX2, tyX3, tyX4, tyX5, tyX6, tyX7, tyX8, tyX9, tyX10, Nat.reduceMul, c_le, c_lt, c_eq, c_in, c_cl, c_add, c_rem, c_ofN, Int32.add_zero, Int32.zero_add, c_lt0, c_ge0, c_le0, c_gt0, c_e0, c_m1, c_m1', false_implies, true_implies, implies_true, not_false_eq_true, not_true_eq_false, Nat.not_lt_zero, up_s, up_1, up_m, ff9_bitsOf, bb9_bitsOf_0, bb9_bitsOf_8, bb9_bitsOf_18, bb9_bitsOf_52, bb9_bitsOf_55, bb9_bitsOf_87, cl_1, ca_1, cl_52, ca_52, cl_1100, ca_1100, e]
  exact ⟨fun h => absurd h (by decide), fun _ => hQ⟩
theorem sp9_bitsOf (E T : Nat) (h1 : 900 ≤ E) (h2 : E ≤ 1200) (hT : T < 4503599627370496) (hQ : Q (some (.long (lN (dbl E T).toNat))) none w) : Sp Γ m9_bitsOf [.double (dbl E T)] none w Q := by
  have e : Op.cmpValue (FP.dcmp (dbl E T) FP.dconst0) .g = 1 := by rw [dcmp_z (by omega) (by omega) hT]; rfl
  obtain ⟨f1, f2, f3⟩ := dbl_frac hT
  -- the end
  have hend : ∀ (i : Int32) (j : Option Value), G Γ m9_bitsOf Q (fun _ _ => False) 87 [some (.double (dbl E T)), none, some (.double (dbl 1023 T)), none, some (.long (lN E)), none, some (.int i), j] [] none w 0 0 := by
    intro i j
    refine wp_ok kd9_bitsOf 400 87 bb9_bitsOf_87 _ _ _ _ _ _ oo9_bitsOf_87 ?_
    simp only [List.getElem?_cons_zero, List.getElem?_cons_succ, fv4, Nat.reduceAdd, Nat.reduceSub, wp, pst, stp, LG, lput, ls_tl, two, bc, EL, pad, popN, csum, Option.toList, List.cons_append, List.nil_append, List.set_cons_zero, List.set_cons_succ, List.length_cons, List.length_nil, true_and, and_true, Nat.reduceLT, Nat.reduceLeDiff, Nat.zero_le, Nat.le_refl, RI_i, RI_z0, RI_z1, Int32.reduceOfInt, Int8.reduceOfInt, Int16.reduceOfInt, Int64.reduceOfInt, Int8.toInt32_ofNat, Int16.toInt32_ofNat, Int.reduceNeg, Int32.ofInt_neg, Int8.ofInt_neg, Int16.ofInt_neg, Int32.toInt64_ofNat, Int32.reduceToNatClampNeg, Fin.isValue, Fin.val_one, Fin.val_zero, Fin.val_two, Int64.reduceOfNat, Int32.reduceOfNat, hdl, cutc, Nat.reduceEqDiff, reduceIte, FV, tyC, tyX0, tyX1, tyX2, tyX3, tyX4, tyX5, tyX6, tyX7, tyX8, tyX9, tyX10, Nat.reduceMul, c_le, c_lt, c_eq, c_in, c_cl, c_add, c_rem, c_ofN, Int32.add_zero, Int32.zero_add, c_lt0, c_ge0, c_le0, c_gt0, c_e0, c_m1, c_m1', false_implies, true_implies, implies_true, not_false_eq_true, not_true_eq_false, Nat.not_lt_zero, up_s, up_1, up_m, ff9_bitsOf, bb9_bitsOf_0, bb9_bitsOf_8, bb9_bitsOf_18, bb9_bitsOf_52, bb9_bitsOf_55, bb9_bitsOf_87, cl_1, ca_1, cl_52, ca_52, cl_1100, ca_1100, dbl_one, dbl_sc, f3]
    refine ⟨f1, f2, ?_⟩
    have hs : lN E <<< ((52 : Int32).toInt64 &&& 63) = lN (E * 4503599627370496) := wb_shl (k := 52) E (by decide)
    rw [dbl_nat (by omega) hT, ← lN_addN, ← hs] at hQ
    exact hQ
  have cvg : ∀ M F op, 1 ≤ F → F ≤ M → M ≤ 2046 → ∃ v : Int32, Op.cmpValue (FP.dcmp (dbl M T) (dbl F 0)) op = v ∧ ¬v < 0 ∧ 0 ≤ v := by
    intro M F op a1 a2 a3
    obtain ⟨o, ho, hne⟩ := dcmp_ge a1 a2 a3 hT
    rw [ho]
    cases o with
    | lt => exact absurd rfl hne
    | eq => exact ⟨0, rfl, by decide, by decide⟩
    | gt => exact ⟨1, rfl, by decide, by decide⟩
  have cvl : ∀ M F op, 1 ≤ M → M < F → F ≤ 2046 → Op.cmpValue (FP.dcmp (dbl M T) (dbl F 0)) op = -1 := by
    intro M F op a1 a2 a3
    rw [dcmp_lt a1 a2 a3 hT]
    rfl
  have lo : ∀ (n M i e : Nat) (j : Option Value), M + n = 1023 → 1 ≤ M → M + e = E + 1023 → i + n ≤ 1099 → G Γ m9_bitsOf Q (fun _ _ => False) 55 [some (.double (dbl E T)), none, some (.double (dbl M T)), none, some (.long (lN e)), none, some (.int (nI i)), j] [] none w 0 0 := by
    intro n
    induction n with
    | zero =>
      intro M i e j hM h1' he hi
      have hM2 : M = 1023 := by omega
      subst hM2
      have b1 : i < 2147483648 := by omega
      obtain ⟨v, v1, v2, v3⟩ := cvg 1023 1023 .g (by decide) (by decide) (by decide)
      have hE : e = E := by omega
      subst hE
      refine wp_ok (kd_cut 87 kd9_bitsOf) 400 55 bb9_bitsOf_55 _ _ _ _ _ _ oo9_bitsOf_55 ?_
      simp only [List.getElem?_cons_zero, List.getElem?_cons_succ, fv4, Nat.reduceAdd, Nat.reduceSub, wp, pst, stp, LG, lput, ls_tl, two, bc, EL, pad, popN, csum, Option.toList, List.cons_append, List.nil_append, List.set_cons_zero, List.set_cons_succ, List.length_cons, List.length_nil, true_and, and_true, Nat.reduceLT, Nat.reduceLeDiff, Nat.zero_le, Nat.le_refl, RI_i, RI_z0, RI_z1, Int32.reduceOfInt, Int8.reduceOfInt, Int16.reduceOfInt, Int64.reduceOfInt, Int8.toInt32_ofNat, Int16.toInt32_ofNat, Int.reduceNeg, Int32.ofInt_neg, Int8.ofInt_neg, Int16.ofInt_neg, Int32.toInt64_ofNat, Int32.reduceToNatClampNeg, Fin.isValue, Fin.val_one, Fin.val_zero, Fin.val_two, Int64.reduceOfNat, Int32.reduceOfNat, hdl, cutc, Nat.reduceEqDiff, reduceIte, FV, tyC, tyX0, tyX1, tyX2, tyX3, tyX4, tyX5, tyX6, tyX7, tyX8, tyX9, tyX10, Nat.reduceMul, c_le, c_lt, c_eq, c_in, c_cl, c_add, c_rem, c_ofN, Int32.add_zero, Int32.zero_add, c_lt0, c_ge0, c_le0, c_gt0, c_e0, c_m1, c_m1', false_implies, true_implies, implies_true, not_false_eq_true, not_true_eq_false, Nat.not_lt_zero, up_s, up_1, up_m, ff9_bitsOf, bb9_bitsOf_0, bb9_bitsOf_8, bb9_bitsOf_18, bb9_bitsOf_52, bb9_bitsOf_55, bb9_bitsOf_87, cl_1, ca_1, cl_52, ca_52, cl_1100, ca_1100, dbl_one, b1, v1, v2, v3]
      exact ⟨fun _ => hend _ _, fun _ => hend _ _⟩
    | succ n ih =>
      intro M i e j hM h1' he hi
      have b1 : i < 2147483648 := by omega
      have v1 := cvl M 1023 .g h1' (by omega) (by decide)
      have hm := dbl_twice (E := M) (T := T) h1' (by omega) hT
      have hn := dbl_n64 (E := M + 1) (T := T) (by omega) hT
      have hs : lN e - 1 = lN (e - 1) := lN_subN (b := 1) (by omega)
      refine wp_ok (kd_cut 87 kd9_bitsOf) 400 55 bb9_bitsOf_55 _ _ _ _ _ _ oo9_bitsOf_55 ?_
      simp only [List.getElem?_cons_zero, List.getElem?_cons_succ, fv4, Nat.reduceAdd, Nat.reduceSub, wp, pst, stp, LG, lput, ls_tl, two, bc, EL, pad, popN, csum, Option.toList, List.cons_append, List.nil_append, List.set_cons_zero, List.set_cons_succ, List.length_cons, List.length_nil, true_and, and_true, Nat.reduceLT, Nat.reduceLeDiff, Nat.zero_le, Nat.le_refl, RI_i, RI_z0, RI_z1, Int32.reduceOfInt, Int8.reduceOfInt, Int16.reduceOfInt, Int64.reduceOfInt, Int8.toInt32_ofNat, Int16.toInt32_ofNat, Int.reduceNeg, Int32.ofInt_neg, Int8.ofInt_neg, Int16.ofInt_neg, Int32.toInt64_ofNat, Int32.reduceToNatClampNeg, Fin.isValue, Fin.val_one, Fin.val_zero, Fin.val_two, Int64.reduceOfNat, Int32.reduceOfNat, hdl, cutc, Nat.reduceEqDiff, reduceIte, FV, tyC, tyX0, tyX1, tyX2, tyX3, tyX4, tyX5, tyX6, tyX7, tyX8, tyX9, tyX10, Nat.reduceMul, c_le, c_lt, c_eq, c_in, c_cl, c_add, c_rem, c_ofN, Int32.add_zero, Int32.zero_add, c_lt0, c_ge0, c_le0, c_gt0, c_e0, c_m1, c_m1', false_implies, true_implies, implies_true, not_false_eq_true, not_true_eq_false, Nat.not_lt_zero, up_s, up_1, up_m, ff9_bitsOf, bb9_bitsOf_0, bb9_bitsOf_8, bb9_bitsOf_18, bb9_bitsOf_52, bb9_bitsOf_55, bb9_bitsOf_87, cl_1, ca_1, cl_52, ca_52, cl_1100, ca_1100, dbl_one, dbl_two, b1, v1, hm, hs]
      refine ⟨fun hh => absurd hh (by omega), fun _ => ⟨fun hh => absurd hh (by decide), fun _ => ⟨hn, ?_⟩⟩⟩
      exact ih (M + 1) (i + 1) (e - 1) j (by omega) (by omega) (by omega) (by omega)
  have hi : ∀ (n M i e : Nat) (j : Option Value), M ≤ 1023 + n → n ≤ 200 → 800 ≤ M → M + e = E + 1023 → i + n ≤ 1099 → G Γ m9_bitsOf Q (fun _ _ => False) 18 [some (.double (dbl E T)), none, some (.double (dbl M T)), none, some (.long (lN e)), none, some (.int (nI i)), j] [] none w 0 0 := by
    intro n
    induction n with
    | zero =>
      intro M i e j hM hn2 h1' he hi
      have b1 : i < 2147483648 := by omega
      have v1 := cvl M 1024 .l (by omega) (by omega) (by decide)
      have hl := lo (1023 - M) M 0 e j (by omega) (by omega) he (by omega)
      refine wp_ok (kd_cut 55 kd9_bitsOf) 400 18 bb9_bitsOf_18 _ _ _ _ _ _ oo9_bitsOf_18 ?_
      simp only [List.getElem?_cons_zero, List.getElem?_cons_succ, fv4, Nat.reduceAdd, Nat.reduceSub, wp, pst, stp, LG, lput, ls_tl, two, bc, EL, pad, popN, csum, Option.toList, List.cons_append, List.nil_append, List.set_cons_zero, List.set_cons_succ, List.length_cons, List.length_nil, true_and, and_true, Nat.reduceLT, Nat.reduceLeDiff, Nat.zero_le, Nat.le_refl, RI_i, RI_z0, RI_z1, Int32.reduceOfInt, Int8.reduceOfInt, Int16.reduceOfInt, Int64.reduceOfInt, Int8.toInt32_ofNat, Int16.toInt32_ofNat, Int.reduceNeg, Int32.ofInt_neg, Int8.ofInt_neg, Int16.ofInt_neg, Int32.toInt64_ofNat, Int32.reduceToNatClampNeg, Fin.isValue, Fin.val_one, Fin.val_zero, Fin.val_two, Int64.reduceOfNat, Int32.reduceOfNat, hdl, cutc, Nat.reduceEqDiff, reduceIte, FV, tyC, tyX0, tyX1, tyX2, tyX3, tyX4, tyX5, tyX6, tyX7, tyX8, tyX9, tyX10, Nat.reduceMul, c_le, c_lt, c_eq, c_in, c_cl, c_add, c_rem, c_ofN, Int32.add_zero, Int32.zero_add, c_lt0, c_ge0, c_le0, c_gt0, c_e0, c_m1, c_m1', false_implies, true_implies, implies_true, not_false_eq_true, not_true_eq_false, Nat.not_lt_zero, up_s, up_1, up_m, ff9_bitsOf, bb9_bitsOf_0, bb9_bitsOf_8, bb9_bitsOf_18, bb9_bitsOf_52, bb9_bitsOf_55, bb9_bitsOf_87, cl_1, ca_1, cl_52, ca_52, cl_1100, ca_1100, dbl_two, b1, v1]
      exact ⟨fun hh => absurd hh (by omega), fun _ => ⟨fun _ => hl, fun hh => absurd (by decide) hh⟩⟩
    | succ n ih =>
      intro M i e j hM hn2 h1' he hi
      by_cases hc : M ≤ 1023 + n
      · exact ih M i e j hc (by omega) h1' he (by omega)
      have b1 : i < 2147483648 := by omega
      obtain ⟨v, v1, v2, v3⟩ := cvg M 1024 .l (by decide) (by omega) (by omega)
      have hm := dbl_half (E := M) (T := T) (by omega) (by omega) hT
      have hn := dbl_n64 (E := M - 1) (T := T) (by omega) hT
      have hs : lN e + 1 = lN (e + 1) := lN_addN e 1
      refine wp_ok (kd_cut 55 kd9_bitsOf) 400 18 bb9_bitsOf_18 _ _ _ _ _ _ oo9_bitsOf_18 ?_
      simp only [List.getElem?_cons_zero, List.getElem?_cons_succ, fv4, Nat.reduceAdd, Nat.reduceSub, wp, pst, stp, LG, lput, ls_tl, two, bc, EL, pad, popN, csum, Option.toList, List.cons_append, List.nil_append, List.set_cons_zero, List.set_cons_succ, List.length_cons, List.length_nil, true_and, and_true, Nat.reduceLT, Nat.reduceLeDiff, Nat.zero_le, Nat.le_refl, RI_i, RI_z0, RI_z1, Int32.reduceOfInt, Int8.reduceOfInt, Int16.reduceOfInt, Int64.reduceOfInt, Int8.toInt32_ofNat, Int16.toInt32_ofNat, Int.reduceNeg, Int32.ofInt_neg, Int8.ofInt_neg, Int16.ofInt_neg, Int32.toInt64_ofNat, Int32.reduceToNatClampNeg, Fin.isValue, Fin.val_one, Fin.val_zero, Fin.val_two, Int64.reduceOfNat, Int32.reduceOfNat, hdl, cutc, Nat.reduceEqDiff, reduceIte, FV, tyC, tyX0, tyX1, tyX2, tyX3, tyX4, tyX5, tyX6, tyX7, tyX8, tyX9, tyX10, Nat.reduceMul, c_le, c_lt, c_eq, c_in, c_cl, c_add, c_rem, c_ofN, Int32.add_zero, Int32.zero_add, c_lt0, c_ge0, c_le0, c_gt0, c_e0, c_m1, c_m1', false_implies, true_implies, implies_true, not_false_eq_true, not_true_eq_false, Nat.not_lt_zero, up_s, up_1, up_m, ff9_bitsOf, bb9_bitsOf_0, bb9_bitsOf_8, bb9_bitsOf_18, bb9_bitsOf_52, bb9_bitsOf_55, bb9_bitsOf_87, cl_1, ca_1, cl_52, ca_52, cl_1100, ca_1100, dbl_two, b1, v1, v2, v3, hm, hs]
      refine ⟨fun hh => absurd hh (by omega), fun _ => ⟨hn, ?_⟩⟩
      exact ih (M - 1) (i + 1) (e + 1) j (by omega) (by omega) (by omega) (by omega) (by omega)
  have hfin := hi 177 E 0 1023 none (by omega) (by decide) (by omega) (by omega) (by decide)
  refine entry Γ m9_bitsOf rfl _ (Nat.le_of_ble_eq_true rfl) _ _ _ ?_
  refine wp_ok (kd_cut 18 kd9_bitsOf) 400 0 bb9_bitsOf_0 _ _ _ _ _ _ oo9_bitsOf_0 ?_
  simp only [List.getElem?_cons_zero, List.getElem?_cons_succ, fv4, Nat.reduceAdd, Nat.reduceSub, wp, pst, stp, LG, lput, ls_tl, two, bc, EL, pad, popN, csum, Option.toList, List.cons_append, List.nil_append, List.set_cons_zero, List.set_cons_succ, List.length_cons, List.length_nil, true_and, and_true, Nat.reduceLT, Nat.reduceLeDiff, Nat.zero_le, Nat.le_refl, RI_i, RI_z0, RI_z1, Int32.reduceOfInt, Int8.reduceOfInt, Int16.reduceOfInt, Int64.reduceOfInt, Int8.toInt32_ofNat, Int16.toInt32_ofNat, Int.reduceNeg, Int32.ofInt_neg, Int8.ofInt_neg, Int16.ofInt_neg, Int32.toInt64_ofNat, Int32.reduceToNatClampNeg, Fin.isValue, Fin.val_one, Fin.val_zero, Fin.val_two, Int64.reduceOfNat, Int32.reduceOfNat, hdl, cutc, Nat.reduceEqDiff, reduceIte, FV, tyC, tyX0, tyX1, tyX2, tyX3, tyX4, tyX5, tyX6, tyX7, tyX8, tyX9, tyX10, Nat.reduceMul, c_le, c_lt, c_eq, c_in, c_cl, c_add, c_rem, c_ofN, Int32.add_zero, Int32.zero_add, c_lt0, c_ge0, c_le0, c_gt0, c_e0, c_m1, c_m1', false_implies, true_implies, implies_true, not_false_eq_true, not_true_eq_false, Nat.not_lt_zero, up_s, up_1, up_m, ff9_bitsOf, bb9_bitsOf_0, bb9_bitsOf_8, bb9_bitsOf_18, bb9_bitsOf_52, bb9_bitsOf_55, bb9_bitsOf_87, cl_1, ca_1, cl_52, ca_52, cl_1100, ca_1100, e]
  exact ⟨fun _ => hfin, fun hh => absurd (by decide) hh⟩
end DIG

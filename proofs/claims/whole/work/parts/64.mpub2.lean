/-! THE MODEL'S CALLS, more -/
section MPUB
variable {Γ : Amb} {w : PW} {Q : Option Value → Option Nat → PW → Prop} {m : Nat} {th : Int32} {U : US}
/-- room made for one: places i+1 .. n hold what lay one before -/
def shF (f : Nat → Int32) (i n : Nat) : Nat → Int32 := fun k => if 68 + i < k ∧ k ≤ 68 + n then f (k - 1) else f k
theorem shF_lo (f : Nat → Int32) (i n : Nat) {k : Nat} (h : k ≤ 68 + i) : shF f i n k = f k := if_neg (by omega)
theorem shF_hi (f : Nat → Int32) (i n : Nat) {k : Nat} (h : 68 + i < k) (h2 : k ≤ 68 + n) : shF f i n k = f (k - 1) := if_pos ⟨h, h2⟩
theorem shF_n (f : Nat → Int32) (n : Nat) : shF f n n = f := by
  funext k
  exact if_neg (by omega)
theorem shF_step (f : Nat → Int32) (i n : Nat) (h : 0 < i) (h2 : i ≤ n) : upd (shF f i n) (68 + i) (f (68 + (i - 1))) = shF f (i - 1) n := by
  funext k
  by_cases c : k = 68 + i
  · rw [c, upd_eq, shF_hi f (i - 1) n (by omega) (by omega), show 68 + i - 1 = 68 + (i - 1) by omega]
  · rw [upd_ne _ _ c]
    by_cases d : 68 + i < k
    · by_cases e : k ≤ 68 + n
      · rw [shF_hi f i n d e, shF_hi f (i - 1) n (by omega) e]
      · unfold shF
        rw [if_neg (by omega), if_neg (by omega)]
    · rw [shF_lo f i n (by omega), shF_lo f (i - 1) n (by omega)]
theorem shF_ins {f : Nat → Int32} {s : List Nat} (hS : StrF f 0 s) (j p : Nat) (hj : j ≤ s.length) : StrF (upd (upd (shF f j s.length) (68 + j) (nI p)) 3 (nI (s.length + 1))) 0 (s.insertIdx j p) := by
  have hlen : (s.insertIdx j p).length = s.length + 1 := List.length_insertIdx_of_le_length (by omega) _
  refine ⟨?_, fun k hk => ?_⟩
  · show upd _ 3 _ 3 = _
    rw [upd_eq, hlen]
  · rw [hlen] at hk
    rw [upd_ne _ _ (by omega), show 0 + 68 + k = 68 + k by omega, List.getD_eq_getElem?_getD, List.getElem?_insertIdx]
    by_cases c : k = j
    · rw [c, upd_eq, if_neg (by omega), if_pos rfl, if_pos (by omega)]; rfl
    · rw [upd_ne _ _ (by omega)]
      by_cases d : k < j
      · rw [if_pos d, ← List.getD_eq_getElem?_getD, shF_lo _ _ _ (by omega), ← hS.2 k (by omega), show 0 + 68 + k = 68 + k by omega]
      · rw [if_neg d, if_neg c, ← List.getD_eq_getElem?_getD, shF_hi _ _ _ (by omega) (by omega), ← hS.2 (k - 1) (by omega), show 68 + k - 1 = 0 + 68 + (k - 1) by omega]
theorem okL_app {K : MI} : ∀ (a b : List PI) (pc : Nat), okL K pc (a ++ b) → okL K pc a := by
  intro a
  induction a with
  | nil => intro b pc _; trivial
  | cons i is ih => intro b pc h; exact ⟨h.1, ih b _ h.2⟩
def bbG_67 : List PI := [(1, .iload_n 3, 0, 0, 0, 0, kZ), (1, .iload_n 1, 0, 0, 0, 0, kZ), (3, .if_icmp .le 29, 98, 0, 0, 0, kZ), (1, .aload_n 0, 0, 0, 0, 0, kZ), (3, .getfield 7, 10, 1, 0, 0, kZ), (2, .bipush 68, 0, 0, 0, 0, kZ), (1, .iload_n 3, 0, 0, 0, 0, kZ), (1, .iadd, 0, 0, 0, 0, kZ), (1, .aload_n 0, 0, 0, 0, 0, kZ), (3, .getfield 7, 10, 1, 0, 0, kZ), (2, .bipush 68, 0, 0, 0, 0, kZ), (1, .iload_n 3, 0, 0, 0, 0, kZ), (1, .iadd, 0, 0, 0, 0, kZ), (1, .iconst 1, 0, 0, 0, 0, kZ), (1, .isub, 0, 0, 0, 0, kZ), (1, .iaload, 0, 0, 0, 0, kZ), (1, .iastore, 0, 0, 0, 0, kZ)]
def bbG_92 : List PI := [(3, .iinc 3 (-1), 0, 0, 0, 0, kZ), (3, .goto (-28), 67, 0, 0, 0, kZ)]
theorem ooG_67 : okL m10_gain 67 bbG_67 := okL_app bbG_67 bbG_92 67 oo10_gain_67
theorem gl_a {th sm hs ln at_ iw rm rn cm su pl wy px : Int32} {fa ft fn fx fr fu fc : Nat → Int32} (j p : Nat) (y X Y : Int32) {f g : Nat → Int32} {v : Int32} (hy : (y ≤ nI j) = False) (hX : 68 + y = X) (hY : X - 1 = Y) (vX : vp_in X 568 = True) (vY : vp_in Y 568 = True) (ev : f Y.toNatClampNeg = v) (eu : upd f X.toNatClampNeg v = g) (hr : G Γ m10_gain Q (fun _ _ => False) 92 [some (.ref m), some (.int (nI j)), some (.int (nI p)), some (.int y)] [] none (mw w m th sm hs ln at_ iw rm rn cm su pl wy px g fa ft fn fx fr fu fc) 0 0) : G Γ m10_gain Q (fun _ _ => False) 67 [some (.ref m), some (.int (nI j)), some (.int (nI p)), some (.int y)] [] none (mw w m th sm hs ln at_ iw rm rn cm su pl wy px f fa ft fn fx fr fu fc) 0 0 := by
  refine wp_ok (kd_cut 98 (kd_cut 92 kd10_gain)) 400 67 bbG_67 _ _ _ _ _ _ ooG_67 ?_
  have c92 : cd10_gain 92 = none := rfl
  simp only [List.getElem?_cons_zero, List.getElem?_cons_succ, fv4, Nat.reduceAdd, Nat.reduceSub, wp, pst, stp, LG, lput, ls_tl, two, bc, EL, pad, popN, csum, Option.toList, List.cons_append, List.nil_append, List.set_cons_zero, List.set_cons_succ, List.length_cons, List.length_nil, true_and, and_true, Nat.reduceLT, Nat.reduceLeDiff, Nat.zero_le, Nat.le_refl, RI_i, RI_z0, RI_z1, Int32.reduceOfInt, Int8.reduceOfInt, Int16.reduceOfInt, Int64.reduceOfInt, Int8.toInt32_ofNat, Int16.toInt32_ofNat, Int.reduceNeg, Int32.ofInt_neg, Int8.ofInt_neg, Int16.ofInt_neg, Int32.toInt64_ofNat, Int32.reduceToNatClampNeg, Fin.isValue, Fin.val_one, Fin.val_zero, Fin.val_two, Int64.reduceOfNat, Int32.reduceOfNat, hdl, cutc, Nat.reduceEqDiff, reduceIte, FV, tyC, tyX0, tyX1, tyX2, tyX3, tyX4, tyX5, tyX6, tyX7, tyX8, tyX9, tyX10, Nat.reduceMul, c_le, c_lt, c_eq, c_in, c_cl, c_add, c_rem, c_ofN, Int32.add_zero, Int32.zero_add, c_lt0, c_ge0, c_le0, c_gt0, c_e0, c_m1, c_m1', false_implies, true_implies, implies_true, not_false_eq_true, not_true_eq_false, Nat.not_lt_zero, up_s, up_1, up_m, ff10_gain, bb10_gain_0, bb10_gain_25, bb10_gain_38, bb10_gain_56, bb10_gain_67, bb10_gain_98, cl_1, ca_1, cl_2, ca_2, cl_3, ca_3, cl_68, ca_68, cl_500, ca_500, mw_0, mw_1, mw_2, mw_3, mw_4, mw_5, mw_6, mw_7, mw_8, mu_0, mu_1, mu_2, mu_3, mu_4, mu_5, mu_6, mu_7, mu_8, vi_0, vi_1, vi_2, vi_3, vi_4, vi_5, vi_6, bbG_67, c92, hy, hX, hY, vX, vY, ev, eu]
  exact hr
theorem gl_b {w' : PW} (j p : Nat) (y y' : Int32) (hy' : y + Int32.ofInt (-1) = y') (hr : G Γ m10_gain Q (fun _ _ => False) 67 [some (.ref m), some (.int (nI j)), some (.int (nI p)), some (.int y')] [] none w' 0 0) : G Γ m10_gain Q (fun _ _ => False) 92 [some (.ref m), some (.int (nI j)), some (.int (nI p)), some (.int y)] [] none w' 0 0 := by
  have d1 : decode (mi_c m10_gain) 92 = .ok (.iinc 3 (-1), 3) := by decide +kernel
  have d2 : decode (mi_c m10_gain) (92 + 3) = .ok (.goto (-28), 3) := by decide +kernel
  refine g_pst d1 rfl rfl rfl ?_
  rw [hy']
  exact g_goto (tgt := 67) d2 (by decide) hr
theorem gl_m1 : Int32.ofInt (-1) = -1 := by decide
theorem gl_step {th sm hs ln at_ iw rm rn cm su pl wy px : Int32} {fa ft fn fx fr fu fc : Nat → Int32} (i j p : Nat) (hji : j < i) (h5 : i < 500) {f g : Nat → Int32} {v : Int32} (ev : f (68 + (i - 1)) = v) (eu : upd f (68 + i) v = g) (hr : G Γ m10_gain Q (fun _ _ => False) 67 [some (.ref m), some (.int (nI j)), some (.int (nI p)), some (.int (nI (i - 1)))] [] none (mw w m th sm hs ln at_ iw rm rn cm su pl wy px g fa ft fn fx fr fu fc) 0 0) : G Γ m10_gain Q (fun _ _ => False) 67 [some (.ref m), some (.int (nI j)), some (.int (nI p)), some (.int (nI i))] [] none (mw w m th sm hs ln at_ iw rm rn cm su pl wy px f fa ft fn fx fr fu fc) 0 0 := by
  have q1 : (nI i ≤ nI j) = False := by rw [c_le (by omega) (by omega)]; exact eq_false (by omega)
  have q2 : nI (68 + i) - 1 = nI (68 + (i - 1)) := by
    have := c_subr (a := 68 + i) (b := 1) (by omega)
    rw [show 68 + i - 1 = 68 + (i - 1) by omega] at this
    exact this
  have q3 : nI i + Int32.ofInt (-1) = nI (i - 1) := by rw [gl_m1]; exact sb_m1 (by omega)
  have q4 : vp_in (nI (68 + i)) 568 = True := by rw [c_in (by omega) (by omega)]; exact eq_true (by omega)
  have q5 : vp_in (nI (68 + (i - 1))) 568 = True := by rw [c_in (by omega) (by omega)]; exact eq_true (by omega)
  have q6 : f (nI (68 + (i - 1))).toNatClampNeg = v := by rw [c_cl (by omega)]; exact ev
  have q7 : upd f (nI (68 + i)).toNatClampNeg v = g := by rw [c_cl (by omega)]; exact eu
  exact gl_a j p (nI i) (nI (68 + i)) (nI (68 + (i - 1))) q1 (c_addl i 68) q2 q4 q5 q6 q7 (gl_b j p (nI i) (nI (i - 1)) q3 hr)
theorem gl_98 {th sm hs ln at_ iw rm rn cm su pl wy px : Int32} {fa ft fn fx fr fu fc : Nat → Int32} (i p : Nat) (h5 : i < 500) {f : Nat → Int32} (n : Nat) (bS : n < 2147483648) (h3 : f 3 = nI n) (hq : Q (some (.int (nI (n + 1)))) none (mw w m th sm hs ln at_ iw rm rn cm su pl wy px (upd (upd f (68 + i) (nI p)) 3 (nI (n + 1))) fa ft fn fx fr fu fc)) (l : Option Value) : G Γ m10_gain Q (fun _ _ => False) 98 [some (.ref m), some (.int (nI i)), some (.int (nI p)), l] [] none (mw w m th sm hs ln at_ iw rm rn cm su pl wy px f fa ft fn fx fr fu fc) 0 0 := by
  have c5 : 68 + i < 2147483648 := by omega
  have c6 : 68 + i < 568 := by omega
  have bi : i < 2147483648 := by omega
  have eq3 : upd f (68 + i) (nI p) 3 = nI n := (upd_ne _ _ (by omega)).trans h3
  refine wp_ok kd10_gain 400 98 bb10_gain_98 _ _ _ _ _ _ oo10_gain_98 ?_
  simp only [List.getElem?_cons_zero, List.getElem?_cons_succ, fv4, Nat.reduceAdd, Nat.reduceSub, wp, pst, stp, LG, lput, ls_tl, two, bc, EL, pad, popN, csum, Option.toList, List.cons_append, List.nil_append, List.set_cons_zero, List.set_cons_succ, List.length_cons, List.length_nil, true_and, and_true, Nat.reduceLT, Nat.reduceLeDiff, Nat.zero_le, Nat.le_refl, RI_i, RI_z0, RI_z1, Int32.reduceOfInt, Int8.reduceOfInt, Int16.reduceOfInt, Int64.reduceOfInt, Int8.toInt32_ofNat, Int16.toInt32_ofNat, Int.reduceNeg, Int32.ofInt_neg, Int8.ofInt_neg, Int16.ofInt_neg, Int32.toInt64_ofNat, Int32.reduceToNatClampNeg, Fin.isValue, Fin.val_one, Fin.val_zero, Fin.val_two, Int64.reduceOfNat, Int32.reduceOfNat, hdl, cutc, Nat.reduceEqDiff, reduceIte, FV, tyC, tyX0, tyX1, tyX2, tyX3, tyX4, tyX5, tyX6, tyX7, tyX8, tyX9, tyX10, Nat.reduceMul, c_le, c_lt, c_eq, c_in, c_cl, c_add, c_rem, c_ofN, Int32.add_zero, Int32.zero_add, c_lt0, c_ge0, c_le0, c_gt0, c_e0, c_m1, c_m1', false_implies, true_implies, implies_true, not_false_eq_true, not_true_eq_false, Nat.not_lt_zero, up_s, up_1, up_m, ff10_gain, bb10_gain_0, bb10_gain_25, bb10_gain_38, bb10_gain_56, bb10_gain_67, bb10_gain_98, cl_1, ca_1, cl_2, ca_2, cl_3, ca_3, cl_68, ca_68, cl_500, ca_500, mw_0, mw_1, mw_2, mw_3, mw_4, mw_5, mw_6, mw_7, mw_8, mu_0, mu_1, mu_2, mu_3, mu_4, mu_5, mu_6, mu_7, mu_8, vi_0, vi_1, vi_2, vi_3, vi_4, vi_5, vi_6, bi, bS, c5, c6, h3, eq3, upd_eq]
  exact hq
theorem gl_end {th sm hs ln at_ iw rm rn cm su pl wy px : Int32} {fa ft fn fx fr fu fc : Nat → Int32} (i p : Nat) (y : Int32) (hy : (y ≤ nI i) = True) {f : Nat → Int32} (h9 : G Γ m10_gain Q (fun _ _ => False) 98 [some (.ref m), some (.int (nI i)), some (.int (nI p)), some (.int y)] [] none (mw w m th sm hs ln at_ iw rm rn cm su pl wy px f fa ft fn fx fr fu fc) 0 0) : G Γ m10_gain Q (fun _ _ => False) 67 [some (.ref m), some (.int (nI i)), some (.int (nI p)), some (.int y)] [] none (mw w m th sm hs ln at_ iw rm rn cm su pl wy px f fa ft fn fx fr fu fc) 0 0 := by
  refine wp_ok (kd_cut 98 kd10_gain) 400 67 bb10_gain_67 _ _ _ _ _ _ oo10_gain_67 ?_
  simp only [List.getElem?_cons_zero, List.getElem?_cons_succ, fv4, Nat.reduceAdd, Nat.reduceSub, wp, pst, stp, LG, lput, ls_tl, two, bc, EL, pad, popN, csum, Option.toList, List.cons_append, List.nil_append, List.set_cons_zero, List.set_cons_succ, List.length_cons, List.length_nil, true_and, and_true, Nat.reduceLT, Nat.reduceLeDiff, Nat.zero_le, Nat.le_refl, RI_i, RI_z0, RI_z1, Int8.reduceOfInt, Int16.reduceOfInt, Int64.reduceOfInt, Int8.toInt32_ofNat, Int16.toInt32_ofNat, Int.reduceNeg, Int8.ofInt_neg, Int16.ofInt_neg, Int32.toInt64_ofNat, Int32.reduceToNatClampNeg, Fin.isValue, Fin.val_one, Fin.val_zero, Fin.val_two, Int64.reduceOfNat, Int32.reduceOfNat, hdl, cutc, Nat.reduceEqDiff, reduceIte, FV, tyC, tyX0, tyX1, tyX2, tyX3, tyX4, tyX5, tyX6, tyX7, tyX8, tyX9, tyX10, Nat.reduceMul, c_le, c_lt, c_eq, c_in, c_cl, c_add, c_rem, c_ofN, Int32.add_zero, Int32.zero_add, c_lt0, c_ge0, c_le0, c_gt0, c_e0, c_m1, c_m1', false_implies, true_implies, implies_true, not_false_eq_true, not_true_eq_false, Nat.not_lt_zero, up_s, up_1, up_m, ff10_gain, bb10_gain_0, bb10_gain_25, bb10_gain_38, bb10_gain_56, bb10_gain_67, bb10_gain_98, cl_1, ca_1, cl_2, ca_2, cl_3, ca_3, cl_68, ca_68, cl_500, ca_500, mw_0, mw_1, mw_2, mw_3, mw_4, mw_5, mw_6, mw_7, mw_8, mu_0, mu_1, mu_2, mu_3, mu_4, mu_5, mu_6, mu_7, mu_8, vi_0, vi_1, vi_2, vi_3, vi_4, vi_5, vi_6, hy]
  exact h9
theorem gain_loop {th sm hs ln at_ iw rm rn cm su pl wy px : Int32} {fs fa ft fn fx fr fu fc : Nat → Int32} {s : List Nat} (hS : StrF fs 0 s) (hl : s.length ≤ 500) (j p : Nat) (hj : j ≤ s.length) (h500 : s.length < 500) (hQ : ∀ fs', (∀ k, k ≠ 3 → k < 68 → fs' k = fs k) → StrF fs' 0 (s.insertIdx j p) → Q (some (.int (nI (s.length + 1)))) none (mw w m th sm hs ln at_ iw rm rn cm su pl wy px (fs') fa ft fn fx fr fu fc)) : G Γ m10_gain Q (fun _ _ => False) 67 [some (.ref m), some (.int (nI j)), some (.int (nI p)), some (.int (nI s.length))] [] none (mw w m th sm hs ln at_ iw rm rn cm su pl wy px fs fa ft fn fx fr fu fc) 0 0 := by
  have bS : s.length < 2147483648 := by omega
  have bj : j < 2147483648 := by omega
  have c5 : 68 + j < 2147483648 := by omega
  have c6 : 68 + j < 568 := by omega
  have e3 : fs 3 = nI s.length := hS.1
  have key : ∀ (n i : Nat), n + j = i → i ≤ s.length → G Γ m10_gain Q (fun _ _ => False) 67 [some (.ref m), some (.int (nI j)), some (.int (nI p)), some (.int (nI i))] [] none (mw w m th sm hs ln at_ iw rm rn cm su pl wy px (shF fs i s.length) fa ft fn fx fr fu fc) 0 0 := by
    intro n
    induction n with
    | zero =>
      intro i hi hil
      have hij : i = j := by omega
      subst hij
      have h3 : shF fs i s.length 3 = nI s.length := (shF_lo _ _ _ (by omega)).trans e3
      have hq := hQ (upd (upd (shF fs i s.length) (68 + i) (nI p)) 3 (nI (s.length + 1))) (fun k a b => by rw [upd_ne _ _ a, upd_ne _ _ (by omega)]; exact shF_lo _ _ _ (by omega)) (shF_ins hS i p hil)
      generalize shF fs i s.length = f at hq h3
      exact gl_end i p (nI i) (eq_true (by rw [c_le (by omega) (by omega)]; exact Nat.le_refl i)) (gl_98 i p (by omega) _ bS h3 hq _)
    | succ n ih =>
      intro i hi hil
      refine gl_step i j p (by omega) (by omega) (shF_lo _ _ _ (by omega)) (shF_step fs i s.length (by omega) hil) (ih (i - 1) (by omega) (by omega))
  have hk := key (s.length - j) s.length (by omega) (Nat.le_refl _)
  rw [shF_n] at hk
  exact hk
theorem sp10_gain (h : MU w m th U) (hU : UOK U) (l v : Int32) (hQ : ∀ w', MU w' m (nI (o_gain l v U).1) (o_gain l v U).2.2 → Fr w w' m 9 → Q (some (.int (nI (o_gain l v U).2.1))) none w') : Sp Γ m10_gain [.ref m, .int l, .int v] none w Q := by
  obtain ⟨at_, iw, rm, rn, cm, su, pl, wy, px, fs, fa, ft, fn, fx, fr, fu, fc, hw, hS, hT, hN, hB⟩ := h
  obtain ⟨k1, k2, k3, k4, k5, k6, k7, k8, k9, k10, k11, k12⟩ := id hU.1
  obtain ⟨z0, z1, zL, zS, zG, zE, z6⟩ := id hS
  have e0 : fs 0 = nI (a_wd (us_S U)) := z0
  have e1 : fs 1 = nI (a_sy (us_S U)) := z1
  have e2 : fs 2 = nI (a_L (us_S U)).length := zL.1
  have e3 : fs 3 = nI (a_s (us_S U)).length := zS.1
  have e5 : fs 5 = nI (a_E (us_S U)).length := zE.1
  have e6 : fs 6 = stN (a_st (us_S U)) := z6
  have bL : (a_L (us_S U)).length < 2147483648 := by omega
  have bS : (a_s (us_S U)).length < 2147483648 := by omega
  rw [hw]
  unfold o_gain at hQ
  have hbs : nI (a_s (us_S U)).length = nI ((a_s (us_S U)).length + 1) - 1 := by
    have := c_subr (a := (a_s (us_S U)).length + 1) (b := 1) (by omega)
    rw [Nat.add_sub_cancel] at this
    exact this.symm
  refine entry Γ m10_gain rfl _ (Nat.le_of_ble_eq_true rfl) _ _ _ ?_
  refine wp_ok kd10_gain 400 0 bb10_gain_0 _ _ _ _ _ _ oo10_gain_0 ?_
  simp only [List.getElem?_cons_zero, List.getElem?_cons_succ, fv4, Nat.reduceAdd, Nat.reduceSub, wp, pst, stp, LG, lput, ls_tl, two, bc, EL, pad, popN, csum, Option.toList, List.cons_append, List.nil_append, List.set_cons_zero, List.set_cons_succ, List.length_cons, List.length_nil, true_and, and_true, Nat.reduceLT, Nat.reduceLeDiff, Nat.zero_le, Nat.le_refl, RI_i, RI_z0, RI_z1, Int32.reduceOfInt, Int8.reduceOfInt, Int16.reduceOfInt, Int64.reduceOfInt, Int8.toInt32_ofNat, Int16.toInt32_ofNat, Int.reduceNeg, Int32.ofInt_neg, Int8.ofInt_neg, Int16.ofInt_neg, Int32.toInt64_ofNat, Int32.reduceToNatClampNeg, Fin.isValue, Fin.val_one, Fin.val_zero, Fin.val_two, Int64.reduceOfNat, Int32.reduceOfNat, hdl, cutc, Nat.reduceEqDiff, reduceIte, FV, tyC, tyX0, tyX1, tyX2, tyX3, tyX4, tyX5, tyX6, tyX7, tyX8, tyX9, tyX10, Nat.reduceMul, c_le, c_lt, c_eq, c_in, c_cl, c_add, c_rem, c_ofN, Int32.add_zero, Int32.zero_add, c_lt0, c_ge0, c_le0, c_gt0, c_e0, c_m1, c_m1', false_implies, true_implies, implies_true, not_false_eq_true, not_true_eq_false, Nat.not_lt_zero, up_s, up_1, up_m, ff10_gain, bb10_gain_0, bb10_gain_25, bb10_gain_38, bb10_gain_56, bb10_gain_67, bb10_gain_98, cl_1, ca_1, cl_2, ca_2, cl_3, ca_3, cl_68, ca_68, cl_500, ca_500, mw_0, mw_1, mw_2, mw_3, mw_4, mw_5, mw_6, mw_7, mw_8, mu_0, mu_1, mu_2, mu_3, mu_4, mu_5, mu_6, mu_7, mu_8, vi_0, vi_1, vi_2, vi_3, vi_4, vi_5, vi_6, e3]
  rcases ix_cases l ((a_s (us_S U)).length + 1) (by omega) with ⟨j, hj, rfl, ej⟩ | ⟨hnl, ej⟩
  · rw [ej] at hQ
    dsimp only at hQ
    have bj : j < 2147483648 := by omega
    refine sp10_inx _ 0 ((a_s (us_S U)).length + 1) _ hbs (by omega) (by omega) (fun _ _ _ _ => ?_) (fun hno => absurd rfl (hno j (Nat.zero_le _) hj)) (by decide)
    unfold holdL
    simp only [List.getElem?_cons_zero, List.getElem?_cons_succ, fv4, Nat.reduceAdd, Nat.reduceSub, wp, pst, stp, LG, lput, ls_tl, two, bc, EL, pad, popN, csum, Option.toList, List.cons_append, List.nil_append, List.set_cons_zero, List.set_cons_succ, List.length_cons, List.length_nil, true_and, and_true, Nat.reduceLT, Nat.reduceLeDiff, Nat.zero_le, Nat.le_refl, RI_i, RI_z0, RI_z1, Int32.reduceOfInt, Int8.reduceOfInt, Int16.reduceOfInt, Int64.reduceOfInt, Int8.toInt32_ofNat, Int16.toInt32_ofNat, Int.reduceNeg, Int32.ofInt_neg, Int8.ofInt_neg, Int16.ofInt_neg, Int32.toInt64_ofNat, Int32.reduceToNatClampNeg, Fin.isValue, Fin.val_one, Fin.val_zero, Fin.val_two, Int64.reduceOfNat, Int32.reduceOfNat, hdl, cutc, Nat.reduceEqDiff, reduceIte, FV, tyC, tyX0, tyX1, tyX2, tyX3, tyX4, tyX5, tyX6, tyX7, tyX8, tyX9, tyX10, Nat.reduceMul, c_le, c_lt, c_eq, c_in, c_cl, c_add, c_rem, c_ofN, Int32.add_zero, Int32.zero_add, c_lt0, c_ge0, c_le0, c_gt0, c_e0, c_m1, c_m1', false_implies, true_implies, implies_true, not_false_eq_true, not_true_eq_false, Nat.not_lt_zero, up_s, up_1, up_m, ff10_gain, bb10_gain_0, bb10_gain_25, bb10_gain_38, bb10_gain_56, bb10_gain_67, bb10_gain_98, cl_1, ca_1, cl_2, ca_2, cl_3, ca_3, cl_68, ca_68, cl_500, ca_500, mw_0, mw_1, mw_2, mw_3, mw_4, mw_5, mw_6, mw_7, mw_8, mu_0, mu_1, mu_2, mu_3, mu_4, mu_5, mu_6, mu_7, mu_8, vi_0, vi_1, vi_2, vi_3, vi_4, vi_5, vi_6, n10]
    rcases ix_cases v 16 (by decide) with ⟨p, hp, rfl, e⟩ | ⟨hn, e⟩
    · rw [e] at hQ
      dsimp only at hQ
      refine sp10_isNumber _ (fun _ _ _ => ?_) (fun hno => absurd rfl (hno p hp))
      unfold holdL
      simp only [List.getElem?_cons_zero, List.getElem?_cons_succ, fv4, Nat.reduceAdd, Nat.reduceSub, wp, pst, stp, LG, lput, ls_tl, two, bc, EL, pad, popN, csum, Option.toList, List.cons_append, List.nil_append, List.set_cons_zero, List.set_cons_succ, List.length_cons, List.length_nil, true_and, and_true, Nat.reduceLT, Nat.reduceLeDiff, Nat.zero_le, Nat.le_refl, RI_i, RI_z0, RI_z1, Int32.reduceOfInt, Int8.reduceOfInt, Int16.reduceOfInt, Int64.reduceOfInt, Int8.toInt32_ofNat, Int16.toInt32_ofNat, Int.reduceNeg, Int32.ofInt_neg, Int8.ofInt_neg, Int16.ofInt_neg, Int32.toInt64_ofNat, Int32.reduceToNatClampNeg, Fin.isValue, Fin.val_one, Fin.val_zero, Fin.val_two, Int64.reduceOfNat, Int32.reduceOfNat, hdl, cutc, Nat.reduceEqDiff, reduceIte, FV, tyC, tyX0, tyX1, tyX2, tyX3, tyX4, tyX5, tyX6, tyX7, tyX8, tyX9, tyX10, Nat.reduceMul, c_le, c_lt, c_eq, c_in, c_cl, c_add, c_rem, c_ofN, Int32.add_zero, Int32.zero_add, c_lt0, c_ge0, c_le0, c_gt0, c_e0, c_m1, c_m1', false_implies, true_implies, implies_true, not_false_eq_true, not_true_eq_false, Nat.not_lt_zero, up_s, up_1, up_m, ff10_gain, bb10_gain_0, bb10_gain_25, bb10_gain_38, bb10_gain_56, bb10_gain_67, bb10_gain_98, cl_1, ca_1, cl_2, ca_2, cl_3, ca_3, cl_68, ca_68, cl_500, ca_500, mw_0, mw_1, mw_2, mw_3, mw_4, mw_5, mw_6, mw_7, mw_8, mu_0, mu_1, mu_2, mu_3, mu_4, mu_5, mu_6, mu_7, mu_8, vi_0, vi_1, vi_2, vi_3, vi_4, vi_5, vi_6, n10, e3, bS]
      refine ⟨fun hlt => ?_, fun hlt => ?_⟩
      · rw [if_neg hlt] at hQ
        refine sp10_records hS hT hU.2.2.2.1 hU.1 hU.2.2.1 (fun ft' hT' => ?_)
        have c5 : 68 + j < 2147483648 := by omega
        have c6 : 68 + j < 568 := by omega
        have hr := gain_loop (Γ := Γ) (w := w) (m := m) zS k7 j p (by omega) (by omega) (fun fs' hf hl => hQ _ (MU.mk' (U := (oDo ((a_s (us_S U)).length + 1) (s_s (us_S U) ((a_s (us_S U)).insertIdx j p)) U).2.2) (at_ := at_) (iw := iw) (rm := rm) (rn := rn) (cm := cm) (su := su) (pl := pl) (wy := wy) (px := px) (fa := fa) (fr := fr) (fu := fu) (fc := fc) (hS.upS hU.1 hf hl) hT' hN hB) mw_fr0)
        unfold holdL
        simp only [List.getElem?_cons_zero, List.getElem?_cons_succ, fv4, Nat.reduceAdd, Nat.reduceSub, wp, pst, stp, LG, lput, ls_tl, two, bc, EL, pad, popN, csum, Option.toList, List.cons_append, List.nil_append, List.set_cons_zero, List.set_cons_succ, List.length_cons, List.length_nil, true_and, and_true, Nat.reduceLT, Nat.reduceLeDiff, Nat.zero_le, Nat.le_refl, RI_i, RI_z0, RI_z1, Int32.reduceOfInt, Int8.reduceOfInt, Int16.reduceOfInt, Int64.reduceOfInt, Int8.toInt32_ofNat, Int16.toInt32_ofNat, Int.reduceNeg, Int32.ofInt_neg, Int8.ofInt_neg, Int16.ofInt_neg, Int32.toInt64_ofNat, Int32.reduceToNatClampNeg, Fin.isValue, Fin.val_one, Fin.val_zero, Fin.val_two, Int64.reduceOfNat, Int32.reduceOfNat, hdl, cutc, Nat.reduceEqDiff, reduceIte, FV, tyC, tyX0, tyX1, tyX2, tyX3, tyX4, tyX5, tyX6, tyX7, tyX8, tyX9, tyX10, Nat.reduceMul, c_le, c_lt, c_eq, c_in, c_cl, c_add, c_rem, c_ofN, Int32.add_zero, Int32.zero_add, c_lt0, c_ge0, c_le0, c_gt0, c_e0, c_m1, c_m1', false_implies, true_implies, implies_true, not_false_eq_true, not_true_eq_false, Nat.not_lt_zero, up_s, up_1, up_m, ff10_gain, bb10_gain_0, bb10_gain_25, bb10_gain_38, bb10_gain_56, bb10_gain_67, bb10_gain_98, cl_1, ca_1, cl_2, ca_2, cl_3, ca_3, cl_68, ca_68, cl_500, ca_500, mw_0, mw_1, mw_2, mw_3, mw_4, mw_5, mw_6, mw_7, mw_8, mu_0, mu_1, mu_2, mu_3, mu_4, mu_5, mu_6, mu_7, mu_8, vi_0, vi_1, vi_2, vi_3, vi_4, vi_5, vi_6, e3]
        exact hr
      · rw [if_pos (Classical.not_not.mp hlt)] at hQ
        refine sp10_fails 3 ?_
        unfold holdL
        simp only [List.getElem?_cons_zero, List.getElem?_cons_succ, fv4, Nat.reduceAdd, Nat.reduceSub, wp, pst, stp, LG, lput, ls_tl, two, bc, EL, pad, popN, csum, Option.toList, List.cons_append, List.nil_append, List.set_cons_zero, List.set_cons_succ, List.length_cons, List.length_nil, true_and, and_true, Nat.reduceLT, Nat.reduceLeDiff, Nat.zero_le, Nat.le_refl, RI_i, RI_z0, RI_z1, Int32.reduceOfInt, Int8.reduceOfInt, Int16.reduceOfInt, Int64.reduceOfInt, Int8.toInt32_ofNat, Int16.toInt32_ofNat, Int.reduceNeg, Int32.ofInt_neg, Int8.ofInt_neg, Int16.ofInt_neg, Int32.toInt64_ofNat, Int32.reduceToNatClampNeg, Fin.isValue, Fin.val_one, Fin.val_zero, Fin.val_two, Int64.reduceOfNat, Int32.reduceOfNat, hdl, cutc, Nat.reduceEqDiff, reduceIte, FV, tyC, tyX0, tyX1, tyX2, tyX3, tyX4, tyX5, tyX6, tyX7, tyX8, tyX9, tyX10, Nat.reduceMul, c_le, c_lt, c_eq, c_in, c_cl, c_add, c_rem, c_ofN, Int32.add_zero, Int32.zero_add, c_lt0, c_ge0, c_le0, c_gt0, c_e0, c_m1, c_m1', false_implies, true_implies, implies_true, not_false_eq_true, not_true_eq_false, Nat.not_lt_zero, up_s, up_1, up_m, ff10_gain, bb10_gain_0, bb10_gain_25, bb10_gain_38, bb10_gain_56, bb10_gain_67, bb10_gain_98, cl_1, ca_1, cl_2, ca_2, cl_3, ca_3, cl_68, ca_68, cl_500, ca_500, mw_0, mw_1, mw_2, mw_3, mw_4, mw_5, mw_6, mw_7, mw_8, mu_0, mu_1, mu_2, mu_3, mu_4, mu_5, mu_6, mu_7, mu_8, vi_0, vi_1, vi_2, vi_3, vi_4, vi_5, vi_6]
        exact hQ _ (MU.mk' (U := (oNo 3 U).2.2) hS hT hN hB) mw_fr0
    · rw [e] at hQ
      refine sp10_isNumber _ (fun p hp hv => absurd hv (hn p hp)) (fun hno => ?_)
      unfold holdL
      simp only [List.getElem?_cons_zero, List.getElem?_cons_succ, fv4, Nat.reduceAdd, Nat.reduceSub, wp, pst, stp, LG, lput, ls_tl, two, bc, EL, pad, popN, csum, Option.toList, List.cons_append, List.nil_append, List.set_cons_zero, List.set_cons_succ, List.length_cons, List.length_nil, true_and, and_true, Nat.reduceLT, Nat.reduceLeDiff, Nat.zero_le, Nat.le_refl, RI_i, RI_z0, RI_z1, Int32.reduceOfInt, Int8.reduceOfInt, Int16.reduceOfInt, Int64.reduceOfInt, Int8.toInt32_ofNat, Int16.toInt32_ofNat, Int.reduceNeg, Int32.ofInt_neg, Int8.ofInt_neg, Int16.ofInt_neg, Int32.toInt64_ofNat, Int32.reduceToNatClampNeg, Fin.isValue, Fin.val_one, Fin.val_zero, Fin.val_two, Int64.reduceOfNat, Int32.reduceOfNat, hdl, cutc, Nat.reduceEqDiff, reduceIte, FV, tyC, tyX0, tyX1, tyX2, tyX3, tyX4, tyX5, tyX6, tyX7, tyX8, tyX9, tyX10, Nat.reduceMul, c_le, c_lt, c_eq, c_in, c_cl, c_add, c_rem, c_ofN, Int32.add_zero, Int32.zero_add, c_lt0, c_ge0, c_le0, c_gt0, c_e0, c_m1, c_m1', false_implies, true_implies, implies_true, not_false_eq_true, not_true_eq_false, Nat.not_lt_zero, up_s, up_1, up_m, ff10_gain, bb10_gain_0, bb10_gain_25, bb10_gain_38, bb10_gain_56, bb10_gain_67, bb10_gain_98, cl_1, ca_1, cl_2, ca_2, cl_3, ca_3, cl_68, ca_68, cl_500, ca_500, mw_0, mw_1, mw_2, mw_3, mw_4, mw_5, mw_6, mw_7, mw_8, mu_0, mu_1, mu_2, mu_3, mu_4, mu_5, mu_6, mu_7, mu_8, vi_0, vi_1, vi_2, vi_3, vi_4, vi_5, vi_6]
      refine sp10_fails 2 ?_
      unfold holdL
      simp only [List.getElem?_cons_zero, List.getElem?_cons_succ, fv4, Nat.reduceAdd, Nat.reduceSub, wp, pst, stp, LG, lput, ls_tl, two, bc, EL, pad, popN, csum, Option.toList, List.cons_append, List.nil_append, List.set_cons_zero, List.set_cons_succ, List.length_cons, List.length_nil, true_and, and_true, Nat.reduceLT, Nat.reduceLeDiff, Nat.zero_le, Nat.le_refl, RI_i, RI_z0, RI_z1, Int32.reduceOfInt, Int8.reduceOfInt, Int16.reduceOfInt, Int64.reduceOfInt, Int8.toInt32_ofNat, Int16.toInt32_ofNat, Int.reduceNeg, Int32.ofInt_neg, Int8.ofInt_neg, Int16.ofInt_neg, Int32.toInt64_ofNat, Int32.reduceToNatClampNeg, Fin.isValue, Fin.val_one, Fin.val_zero, Fin.val_two, Int64.reduceOfNat, Int32.reduceOfNat, hdl, cutc, Nat.reduceEqDiff, reduceIte, FV, tyC, tyX0, tyX1, tyX2, tyX3, tyX4, tyX5, tyX6, tyX7, tyX8, tyX9, tyX10, Nat.reduceMul, c_le, c_lt, c_eq, c_in, c_cl, c_add, c_rem, c_ofN, Int32.add_zero, Int32.zero_add, c_lt0, c_ge0, c_le0, c_gt0, c_e0, c_m1, c_m1', false_implies, true_implies, implies_true, not_false_eq_true, not_true_eq_false, Nat.not_lt_zero, up_s, up_1, up_m, ff10_gain, bb10_gain_0, bb10_gain_25, bb10_gain_38, bb10_gain_56, bb10_gain_67, bb10_gain_98, cl_1, ca_1, cl_2, ca_2, cl_3, ca_3, cl_68, ca_68, cl_500, ca_500, mw_0, mw_1, mw_2, mw_3, mw_4, mw_5, mw_6, mw_7, mw_8, mu_0, mu_1, mu_2, mu_3, mu_4, mu_5, mu_6, mu_7, mu_8, vi_0, vi_1, vi_2, vi_3, vi_4, vi_5, vi_6]
      exact hQ _ (MU.mk' (U := (oNo 2 U).2.2) hS hT hN hB) mw_fr0
  · rw [ej] at hQ
    refine sp10_inx _ 0 ((a_s (us_S U)).length + 1) _ hbs (by omega) (by omega) (fun j _ j2 hj => absurd hj (hnl j j2)) (fun hno => ?_) (by decide)
    unfold holdL
    simp only [List.getElem?_cons_zero, List.getElem?_cons_succ, fv4, Nat.reduceAdd, Nat.reduceSub, wp, pst, stp, LG, lput, ls_tl, two, bc, EL, pad, popN, csum, Option.toList, List.cons_append, List.nil_append, List.set_cons_zero, List.set_cons_succ, List.length_cons, List.length_nil, true_and, and_true, Nat.reduceLT, Nat.reduceLeDiff, Nat.zero_le, Nat.le_refl, RI_i, RI_z0, RI_z1, Int32.reduceOfInt, Int8.reduceOfInt, Int16.reduceOfInt, Int64.reduceOfInt, Int8.toInt32_ofNat, Int16.toInt32_ofNat, Int.reduceNeg, Int32.ofInt_neg, Int8.ofInt_neg, Int16.ofInt_neg, Int32.toInt64_ofNat, Int32.reduceToNatClampNeg, Fin.isValue, Fin.val_one, Fin.val_zero, Fin.val_two, Int64.reduceOfNat, Int32.reduceOfNat, hdl, cutc, Nat.reduceEqDiff, reduceIte, FV, tyC, tyX0, tyX1, tyX2, tyX3, tyX4, tyX5, tyX6, tyX7, tyX8, tyX9, tyX10, Nat.reduceMul, c_le, c_lt, c_eq, c_in, c_cl, c_add, c_rem, c_ofN, Int32.add_zero, Int32.zero_add, c_lt0, c_ge0, c_le0, c_gt0, c_e0, c_m1, c_m1', false_implies, true_implies, implies_true, not_false_eq_true, not_true_eq_false, Nat.not_lt_zero, up_s, up_1, up_m, ff10_gain, bb10_gain_0, bb10_gain_25, bb10_gain_38, bb10_gain_56, bb10_gain_67, bb10_gain_98, cl_1, ca_1, cl_2, ca_2, cl_3, ca_3, cl_68, ca_68, cl_500, ca_500, mw_0, mw_1, mw_2, mw_3, mw_4, mw_5, mw_6, mw_7, mw_8, mu_0, mu_1, mu_2, mu_3, mu_4, mu_5, mu_6, mu_7, mu_8, vi_0, vi_1, vi_2, vi_3, vi_4, vi_5, vi_6]
    refine sp10_fails 1 ?_
    unfold holdL
    simp only [List.getElem?_cons_zero, List.getElem?_cons_succ, fv4, Nat.reduceAdd, Nat.reduceSub, wp, pst, stp, LG, lput, ls_tl, two, bc, EL, pad, popN, csum, Option.toList, List.cons_append, List.nil_append, List.set_cons_zero, List.set_cons_succ, List.length_cons, List.length_nil, true_and, and_true, Nat.reduceLT, Nat.reduceLeDiff, Nat.zero_le, Nat.le_refl, RI_i, RI_z0, RI_z1, Int32.reduceOfInt, Int8.reduceOfInt, Int16.reduceOfInt, Int64.reduceOfInt, Int8.toInt32_ofNat, Int16.toInt32_ofNat, Int.reduceNeg, Int32.ofInt_neg, Int8.ofInt_neg, Int16.ofInt_neg, Int32.toInt64_ofNat, Int32.reduceToNatClampNeg, Fin.isValue, Fin.val_one, Fin.val_zero, Fin.val_two, Int64.reduceOfNat, Int32.reduceOfNat, hdl, cutc, Nat.reduceEqDiff, reduceIte, FV, tyC, tyX0, tyX1, tyX2, tyX3, tyX4, tyX5, tyX6, tyX7, tyX8, tyX9, tyX10, Nat.reduceMul, c_le, c_lt, c_eq, c_in, c_cl, c_add, c_rem, c_ofN, Int32.add_zero, Int32.zero_add, c_lt0, c_ge0, c_le0, c_gt0, c_e0, c_m1, c_m1', false_implies, true_implies, implies_true, not_false_eq_true, not_true_eq_false, Nat.not_lt_zero, up_s, up_1, up_m, ff10_gain, bb10_gain_0, bb10_gain_25, bb10_gain_38, bb10_gain_56, bb10_gain_67, bb10_gain_98, cl_1, ca_1, cl_2, ca_2, cl_3, ca_3, cl_68, ca_68, cl_500, ca_500, mw_0, mw_1, mw_2, mw_3, mw_4, mw_5, mw_6, mw_7, mw_8, mu_0, mu_1, mu_2, mu_3, mu_4, mu_5, mu_6, mu_7, mu_8, vi_0, vi_1, vi_2, vi_3, vi_4, vi_5, vi_6]
    exact hQ _ (MU.mk' (U := (oNo 1 U).2.2) hS hT hN hB) mw_fr0
theorem sp10_undo (h : MU w m th U) (hU : UOK U) (hQ : ∀ w', MU w' m (nI (o_undo U).1) (o_undo U).2.2 → Fr w w' m 9 → Q (some (.int (nI (o_undo U).2.1))) none w') : Sp Γ m10_undo [.ref m] none w Q := by
  obtain ⟨at_, iw, rm, rn, cm, su, pl, wy, px, fs, fa, ft, fn, fx, fr, fu, fc, hw, hS, hT, hN, hB⟩ := h
  obtain ⟨k1, k2, k3, k4, k5, k6, k7, k8, k9, k10, k11, k12⟩ := id hU.1
  obtain ⟨z0, z1, zL, zS, zG, zE, z6⟩ := id hS
  have e0 : fs 0 = nI (a_wd (us_S U)) := z0
  have e1 : fs 1 = nI (a_sy (us_S U)) := z1
  have e2 : fs 2 = nI (a_L (us_S U)).length := zL.1
  have e3 : fs 3 = nI (a_s (us_S U)).length := zS.1
  have e5 : fs 5 = nI (a_E (us_S U)).length := zE.1
  have e6 : fs 6 = stN (a_st (us_S U)) := z6
  have bL : (a_L (us_S U)).length < 2147483648 := by omega
  have bS : (a_s (us_S U)).length < 2147483648 := by omega
  rw [hw]
  have h5 := hU.2.2.2.1
  have bT : (us_T U).length < 2147483648 := by omega
  unfold o_undo at hQ
  refine entry Γ m10_undo rfl _ (Nat.le_of_ble_eq_true rfl) _ _ _ ?_
  refine wp_ok kd10_undo 400 0 bb10_undo_0 _ _ _ _ _ _ oo10_undo_0 ?_
  by_cases hne : us_T U ≠ []
  · rw [dif_pos hne] at hQ
    have hT0 : 0 < (us_T U).length := List.length_pos_iff.mpr hne
    have es : nI (us_T U).length - 1 = nI ((us_T U).length - 1) := c_subr (b := 1) (by omega)
    have hlast : (us_T U)[(us_T U).length - 1]? = some ((us_T U).getLast hne) := by rw [List.getLast_eq_getElem, List.getElem?_eq_getElem]
    have hSl := hT _ _ hlast
    have key : ∀ (n k : Nat), n + k = 568 → G Γ m10_undo Q (fun _ _ => False) 30 [some (.ref m), some (.int (nI k))] [] none (mw w m 0 (nI ((us_T U).length - 1)) (hsI (us_N U)) (nI (us_B U).length) at_ iw rm rn cm su pl wy px (fb_put fs (fun j => ft (568 * ((us_T U).length - 1) + j)) 0 k) fa ft fn fx fr fu fc) 0 0 := by
      intro n
      induction n with
      | zero =>
        intro k hk
        have hk2 : k = 568 := by omega
        subst hk2
        refine wp_ok kd10_undo 400 30 bb10_undo_30 _ _ _ _ _ _ oo10_undo_30 ?_
        simp only [List.getElem?_cons_zero, List.getElem?_cons_succ, fv4, Nat.reduceAdd, Nat.reduceSub, wp, pst, stp, LG, lput, ls_tl, two, bc, EL, pad, popN, csum, Option.toList, List.cons_append, List.nil_append, List.set_cons_zero, List.set_cons_succ, List.length_cons, List.length_nil, true_and, and_true, Nat.reduceLT, Nat.reduceLeDiff, Nat.zero_le, Nat.le_refl, RI_i, RI_z0, RI_z1, Int32.reduceOfInt, Int8.reduceOfInt, Int16.reduceOfInt, Int64.reduceOfInt, Int8.toInt32_ofNat, Int16.toInt32_ofNat, Int.reduceNeg, Int32.ofInt_neg, Int8.ofInt_neg, Int16.ofInt_neg, Int32.toInt64_ofNat, Int32.reduceToNatClampNeg, Fin.isValue, Fin.val_one, Fin.val_zero, Fin.val_two, Int64.reduceOfNat, Int32.reduceOfNat, hdl, cutc, Nat.reduceEqDiff, reduceIte, FV, tyC, tyX0, tyX1, tyX2, tyX3, tyX4, tyX5, tyX6, tyX7, tyX8, tyX9, tyX10, Nat.reduceMul, c_le, c_lt, c_eq, c_in, c_cl, c_add, c_rem, c_ofN, Int32.add_zero, Int32.zero_add, c_lt0, c_ge0, c_le0, c_gt0, c_e0, c_m1, c_m1', false_implies, true_implies, implies_true, not_false_eq_true, not_true_eq_false, Nat.not_lt_zero, up_s, up_1, up_m, ff10_undo, bb10_undo_0, bb10_undo_18, bb10_undo_30, bb10_undo_64, cl_1, ca_1, cl_568, ca_568, mw_0, mw_1, mw_2, mw_3, mw_4, mw_5, mw_6, mw_7, mw_8, mu_0, mu_1, mu_2, mu_3, mu_4, mu_5, mu_6, mu_7, mu_8, vi_0, vi_1, vi_2, vi_3, vi_4, vi_5, vi_6]
        rw [← List.length_dropLast]
        rw [← List.length_dropLast] at hQ
        exact hQ _ (MU.mk' (U := ((us_T U).getLast hne, us_N U, (us_T U).dropLast, us_B U)) (hSl.cp (hU.2.2.1 _ (List.getLast_mem hne)) (fun j hj => by rw [fb_put_in (a := 0) (n := 568) (by omega) (by omega)]; show ft _ = ft _; congr 1; simp only [List.length_dropLast]; omega)) (fun k t ht => by rw [List.getElem?_dropLast] at ht; split at ht; exact hT k t ht; exact absurd ht (by simp)) hN hB) mw_fr0
      | succ n ih =>
        intro k hk
        have b1 : k < 2147483648 := by omega
        have b2 : k < 568 := by omega
        have b3 : 568 * ((us_T U).length - 1) + k < 2147483648 := by omega
        have b4 : 568 * ((us_T U).length - 1) + k < 2840 := by omega
        have hr := ih (k + 1) (by omega)
        rw [← fb_put_succ, Nat.zero_add] at hr
        refine wp_ok kd10_undo 400 30 bb10_undo_30 _ _ _ _ _ _ oo10_undo_30 ?_
        simp only [List.getElem?_cons_zero, List.getElem?_cons_succ, fv4, Nat.reduceAdd, Nat.reduceSub, wp, pst, stp, LG, lput, ls_tl, two, bc, EL, pad, popN, csum, Option.toList, List.cons_append, List.nil_append, List.set_cons_zero, List.set_cons_succ, List.length_cons, List.length_nil, true_and, and_true, Nat.reduceLT, Nat.reduceLeDiff, Nat.zero_le, Nat.le_refl, RI_i, RI_z0, RI_z1, Int32.reduceOfInt, Int8.reduceOfInt, Int16.reduceOfInt, Int64.reduceOfInt, Int8.toInt32_ofNat, Int16.toInt32_ofNat, Int.reduceNeg, Int32.ofInt_neg, Int8.ofInt_neg, Int16.ofInt_neg, Int32.toInt64_ofNat, Int32.reduceToNatClampNeg, Fin.isValue, Fin.val_one, Fin.val_zero, Fin.val_two, Int64.reduceOfNat, Int32.reduceOfNat, hdl, cutc, Nat.reduceEqDiff, reduceIte, FV, tyC, tyX0, tyX1, tyX2, tyX3, tyX4, tyX5, tyX6, tyX7, tyX8, tyX9, tyX10, Nat.reduceMul, c_le, c_lt, c_eq, c_in, c_cl, c_add, c_rem, c_ofN, Int32.add_zero, Int32.zero_add, c_lt0, c_ge0, c_le0, c_gt0, c_e0, c_m1, c_m1', false_implies, true_implies, implies_true, not_false_eq_true, not_true_eq_false, Nat.not_lt_zero, up_s, up_1, up_m, ff10_undo, bb10_undo_0, bb10_undo_18, bb10_undo_30, bb10_undo_64, cl_1, ca_1, cl_568, ca_568, mw_0, mw_1, mw_2, mw_3, mw_4, mw_5, mw_6, mw_7, mw_8, mu_0, mu_1, mu_2, mu_3, mu_4, mu_5, mu_6, mu_7, mu_8, vi_0, vi_1, vi_2, vi_3, vi_4, vi_5, vi_6, b1, b2, b3, b4]
        exact ⟨fun hh => absurd hh (by omega), fun _ => hr⟩
    have hr := key 568 0 rfl
    rw [fb_put_0] at hr
    simp only [List.getElem?_cons_zero, List.getElem?_cons_succ, fv4, Nat.reduceAdd, Nat.reduceSub, wp, pst, stp, LG, lput, ls_tl, two, bc, EL, pad, popN, csum, Option.toList, List.cons_append, List.nil_append, List.set_cons_zero, List.set_cons_succ, List.length_cons, List.length_nil, true_and, and_true, Nat.reduceLT, Nat.reduceLeDiff, Nat.zero_le, Nat.le_refl, RI_i, RI_z0, RI_z1, Int32.reduceOfInt, Int8.reduceOfInt, Int16.reduceOfInt, Int64.reduceOfInt, Int8.toInt32_ofNat, Int16.toInt32_ofNat, Int.reduceNeg, Int32.ofInt_neg, Int8.ofInt_neg, Int16.ofInt_neg, Int32.toInt64_ofNat, Int32.reduceToNatClampNeg, Fin.isValue, Fin.val_one, Fin.val_zero, Fin.val_two, Int64.reduceOfNat, Int32.reduceOfNat, hdl, cutc, Nat.reduceEqDiff, reduceIte, FV, tyC, tyX0, tyX1, tyX2, tyX3, tyX4, tyX5, tyX6, tyX7, tyX8, tyX9, tyX10, Nat.reduceMul, c_le, c_lt, c_eq, c_in, c_cl, c_add, c_rem, c_ofN, Int32.add_zero, Int32.zero_add, c_lt0, c_ge0, c_le0, c_gt0, c_e0, c_m1, c_m1', false_implies, true_implies, implies_true, not_false_eq_true, not_true_eq_false, Nat.not_lt_zero, up_s, up_1, up_m, ff10_undo, bb10_undo_0, bb10_undo_18, bb10_undo_30, bb10_undo_64, cl_1, ca_1, cl_568, ca_568, mw_0, mw_1, mw_2, mw_3, mw_4, mw_5, mw_6, mw_7, mw_8, mu_0, mu_1, mu_2, mu_3, mu_4, mu_5, mu_6, mu_7, mu_8, vi_0, vi_1, vi_2, vi_3, vi_4, vi_5, vi_6, bT, es]
    exact ⟨fun _ => hr, fun hh => absurd (Classical.not_not.mp hh) (by omega)⟩
  · rw [dif_neg hne] at hQ
    have hT0 : (us_T U).length = 0 := by rw [Classical.not_not.mp hne]; rfl
    have hF : ∀ Q', Q' (some (.int 0)) none (mw w m 1 (nI (us_T U).length) (hsI (us_N U)) (nI (us_B U).length) at_ iw rm rn cm su pl wy px fs fa ft fn fx fr fu fc) → Sp Γ m10_fails [.ref m, .int 1] none (mw w m 0 (nI (us_T U).length) (hsI (us_N U)) (nI (us_B U).length) at_ iw rm rn cm su pl wy px fs fa ft fn fx fr fu fc) Q' := fun Q' hq' => sp10_fails 1 hq'
    simp only [List.getElem?_cons_zero, List.getElem?_cons_succ, fv4, Nat.reduceAdd, Nat.reduceSub, wp, pst, stp, LG, lput, ls_tl, two, bc, EL, pad, popN, csum, Option.toList, List.cons_append, List.nil_append, List.set_cons_zero, List.set_cons_succ, List.length_cons, List.length_nil, true_and, and_true, Nat.reduceLT, Nat.reduceLeDiff, Nat.zero_le, Nat.le_refl, RI_i, RI_z0, RI_z1, Int32.reduceOfInt, Int8.reduceOfInt, Int16.reduceOfInt, Int64.reduceOfInt, Int8.toInt32_ofNat, Int16.toInt32_ofNat, Int.reduceNeg, Int32.ofInt_neg, Int8.ofInt_neg, Int16.ofInt_neg, Int32.toInt64_ofNat, Int32.reduceToNatClampNeg, Fin.isValue, Fin.val_one, Fin.val_zero, Fin.val_two, Int64.reduceOfNat, Int32.reduceOfNat, hdl, cutc, Nat.reduceEqDiff, reduceIte, FV, tyC, tyX0, tyX1, tyX2, tyX3, tyX4, tyX5, tyX6, tyX7, tyX8, tyX9, tyX10, Nat.reduceMul, c_le, c_lt, c_eq, c_in, c_cl, c_add, c_rem, c_ofN, Int32.add_zero, Int32.zero_add, c_lt0, c_ge0, c_le0, c_gt0, c_e0, c_m1, c_m1', false_implies, true_implies, implies_true, not_false_eq_true, not_true_eq_false, Nat.not_lt_zero, up_s, up_1, up_m, ff10_undo, bb10_undo_0, bb10_undo_18, bb10_undo_30, bb10_undo_64, cl_1, ca_1, cl_568, ca_568, mw_0, mw_1, mw_2, mw_3, mw_4, mw_5, mw_6, mw_7, mw_8, mu_0, mu_1, mu_2, mu_3, mu_4, mu_5, mu_6, mu_7, mu_8, vi_0, vi_1, vi_2, vi_3, vi_4, vi_5, vi_6, bT]
    refine ⟨fun hh => absurd hT0 hh, fun _ => ?_⟩
    refine hF _ ?_
    unfold holdL
    simp only [List.getElem?_cons_zero, List.getElem?_cons_succ, fv4, Nat.reduceAdd, Nat.reduceSub, wp, pst, stp, LG, lput, ls_tl, two, bc, EL, pad, popN, csum, Option.toList, List.cons_append, List.nil_append, List.set_cons_zero, List.set_cons_succ, List.length_cons, List.length_nil, true_and, and_true, Nat.reduceLT, Nat.reduceLeDiff, Nat.zero_le, Nat.le_refl, RI_i, RI_z0, RI_z1, Int32.reduceOfInt, Int8.reduceOfInt, Int16.reduceOfInt, Int64.reduceOfInt, Int8.toInt32_ofNat, Int16.toInt32_ofNat, Int.reduceNeg, Int32.ofInt_neg, Int8.ofInt_neg, Int16.ofInt_neg, Int32.toInt64_ofNat, Int32.reduceToNatClampNeg, Fin.isValue, Fin.val_one, Fin.val_zero, Fin.val_two, Int64.reduceOfNat, Int32.reduceOfNat, hdl, cutc, Nat.reduceEqDiff, reduceIte, FV, tyC, tyX0, tyX1, tyX2, tyX3, tyX4, tyX5, tyX6, tyX7, tyX8, tyX9, tyX10, Nat.reduceMul, c_le, c_lt, c_eq, c_in, c_cl, c_add, c_rem, c_ofN, Int32.add_zero, Int32.zero_add, c_lt0, c_ge0, c_le0, c_gt0, c_e0, c_m1, c_m1', false_implies, true_implies, implies_true, not_false_eq_true, not_true_eq_false, Nat.not_lt_zero, up_s, up_1, up_m, ff10_undo, bb10_undo_0, bb10_undo_18, bb10_undo_30, bb10_undo_64, cl_1, ca_1, cl_568, ca_568, mw_0, mw_1, mw_2, mw_3, mw_4, mw_5, mw_6, mw_7, mw_8, mu_0, mu_1, mu_2, mu_3, mu_4, mu_5, mu_6, mu_7, mu_8, vi_0, vi_1, vi_2, vi_3, vi_4, vi_5, vi_6]
    exact hQ _ (MU.mk' (U := (oNo 1 U).2.2) hS hT hN hB) mw_fr0
theorem sp10_keep (h : MU w m th U) (hU : UOK U) (hQ : ∀ w', MU w' m (nI (o_keep U).1) (o_keep U).2.2 → Fr w w' m 9 → Q (some (.int (nI (o_keep U).2.1))) none w') : Sp Γ m10_keep [.ref m] none w Q := by
  obtain ⟨at_, iw, rm, rn, cm, su, pl, wy, px, fs, fa, ft, fn, fx, fr, fu, fc, hw, hS, hT, hN, hB⟩ := h
  obtain ⟨k1, k2, k3, k4, k5, k6, k7, k8, k9, k10, k11, k12⟩ := id hU.1
  obtain ⟨z0, z1, zL, zS, zG, zE, z6⟩ := id hS
  have e0 : fs 0 = nI (a_wd (us_S U)) := z0
  have e1 : fs 1 = nI (a_sy (us_S U)) := z1
  have e2 : fs 2 = nI (a_L (us_S U)).length := zL.1
  have e3 : fs 3 = nI (a_s (us_S U)).length := zS.1
  have e5 : fs 5 = nI (a_E (us_S U)).length := zE.1
  have e6 : fs 6 = stN (a_st (us_S U)) := z6
  have bL : (a_L (us_S U)).length < 2147483648 := by omega
  have bS : (a_s (us_S U)).length < 2147483648 := by omega
  rw [hw]
  have key : ∀ (n k : Nat), n + k = 568 → G Γ m10_keep Q (fun _ _ => False) 7 [some (.ref m), some (.int (nI k))] [] none (mw w m 0 (nI (us_T U).length) (hsI (us_N U)) (nI (us_B U).length) at_ iw rm rn cm su pl wy px fs fa ft (fb_put fn fs 0 k) fx fr fu fc) 0 0 := by
    intro n
    induction n with
    | zero =>
      intro k hk
      have hk2 : k = 568 := by omega
      subst hk2
      refine wp_ok kd10_keep 400 7 bb10_keep_7 _ _ _ _ _ _ oo10_keep_7 ?_
      simp only [List.getElem?_cons_zero, List.getElem?_cons_succ, fv4, Nat.reduceAdd, Nat.reduceSub, wp, pst, stp, LG, lput, ls_tl, two, bc, EL, pad, popN, csum, Option.toList, List.cons_append, List.nil_append, List.set_cons_zero, List.set_cons_succ, List.length_cons, List.length_nil, true_and, and_true, Nat.reduceLT, Nat.reduceLeDiff, Nat.zero_le, Nat.le_refl, RI_i, RI_z0, RI_z1, Int32.reduceOfInt, Int8.reduceOfInt, Int16.reduceOfInt, Int64.reduceOfInt, Int8.toInt32_ofNat, Int16.toInt32_ofNat, Int.reduceNeg, Int32.ofInt_neg, Int8.ofInt_neg, Int16.ofInt_neg, Int32.toInt64_ofNat, Int32.reduceToNatClampNeg, Fin.isValue, Fin.val_one, Fin.val_zero, Fin.val_two, Int64.reduceOfNat, Int32.reduceOfNat, hdl, cutc, Nat.reduceEqDiff, reduceIte, FV, tyC, tyX0, tyX1, tyX2, tyX3, tyX4, tyX5, tyX6, tyX7, tyX8, tyX9, tyX10, Nat.reduceMul, c_le, c_lt, c_eq, c_in, c_cl, c_add, c_rem, c_ofN, Int32.add_zero, Int32.zero_add, c_lt0, c_ge0, c_le0, c_gt0, c_e0, c_m1, c_m1', false_implies, true_implies, implies_true, not_false_eq_true, not_true_eq_false, Nat.not_lt_zero, up_s, up_1, up_m, ff10_keep, bb10_keep_0, bb10_keep_7, bb10_keep_32, cl_1, ca_1, cl_2, ca_2, cl_568, ca_568, mw_0, mw_1, mw_2, mw_3, mw_4, mw_5, mw_6, mw_7, mw_8, mu_0, mu_1, mu_2, mu_3, mu_4, mu_5, mu_6, mu_7, mu_8, vi_0, vi_1, vi_2, vi_3, vi_4, vi_5, vi_6, e2, n10, or_true]
      exact hQ _ (MU.mk' (U := (o_keep U).2.2) hS hT (fun n hn => by cases hn; exact hS.cp hU.1 (fun j hj => by rw [fb_put_in (by omega) (by omega)]; rfl)) hB) mw_fr0
    | succ n ih =>
      intro k hk
      have b1 : k < 2147483648 := by omega
      have b2 : k < 568 := by omega
      have hr := ih (k + 1) (by omega)
      rw [← fb_put_succ, Nat.zero_add] at hr
      refine wp_ok kd10_keep 400 7 bb10_keep_7 _ _ _ _ _ _ oo10_keep_7 ?_
      simp only [List.getElem?_cons_zero, List.getElem?_cons_succ, fv4, Nat.reduceAdd, Nat.reduceSub, wp, pst, stp, LG, lput, ls_tl, two, bc, EL, pad, popN, csum, Option.toList, List.cons_append, List.nil_append, List.set_cons_zero, List.set_cons_succ, List.length_cons, List.length_nil, true_and, and_true, Nat.reduceLT, Nat.reduceLeDiff, Nat.zero_le, Nat.le_refl, RI_i, RI_z0, RI_z1, Int32.reduceOfInt, Int8.reduceOfInt, Int16.reduceOfInt, Int64.reduceOfInt, Int8.toInt32_ofNat, Int16.toInt32_ofNat, Int.reduceNeg, Int32.ofInt_neg, Int8.ofInt_neg, Int16.ofInt_neg, Int32.toInt64_ofNat, Int32.reduceToNatClampNeg, Fin.isValue, Fin.val_one, Fin.val_zero, Fin.val_two, Int64.reduceOfNat, Int32.reduceOfNat, hdl, cutc, Nat.reduceEqDiff, reduceIte, FV, tyC, tyX0, tyX1, tyX2, tyX3, tyX4, tyX5, tyX6, tyX7, tyX8, tyX9, tyX10, Nat.reduceMul, c_le, c_lt, c_eq, c_in, c_cl, c_add, c_rem, c_ofN, Int32.add_zero, Int32.zero_add, c_lt0, c_ge0, c_le0, c_gt0, c_e0, c_m1, c_m1', false_implies, true_implies, implies_true, not_false_eq_true, not_true_eq_false, Nat.not_lt_zero, up_s, up_1, up_m, ff10_keep, bb10_keep_0, bb10_keep_7, bb10_keep_32, cl_1, ca_1, cl_2, ca_2, cl_568, ca_568, mw_0, mw_1, mw_2, mw_3, mw_4, mw_5, mw_6, mw_7, mw_8, mu_0, mu_1, mu_2, mu_3, mu_4, mu_5, mu_6, mu_7, mu_8, vi_0, vi_1, vi_2, vi_3, vi_4, vi_5, vi_6, b1, b2]
      exact ⟨fun hh => absurd hh (by omega), fun _ => hr⟩
  have hr := key 568 0 rfl
  rw [fb_put_0] at hr
  refine entry Γ m10_keep rfl _ (Nat.le_of_ble_eq_true rfl) _ _ _ ?_
  refine wp_ok kd10_keep 400 0 bb10_keep_0 _ _ _ _ _ _ oo10_keep_0 ?_
  simp only [List.getElem?_cons_zero, List.getElem?_cons_succ, fv4, Nat.reduceAdd, Nat.reduceSub, wp, pst, stp, LG, lput, ls_tl, two, bc, EL, pad, popN, csum, Option.toList, List.cons_append, List.nil_append, List.set_cons_zero, List.set_cons_succ, List.length_cons, List.length_nil, true_and, and_true, Nat.reduceLT, Nat.reduceLeDiff, Nat.zero_le, Nat.le_refl, RI_i, RI_z0, RI_z1, Int32.reduceOfInt, Int8.reduceOfInt, Int16.reduceOfInt, Int64.reduceOfInt, Int8.toInt32_ofNat, Int16.toInt32_ofNat, Int.reduceNeg, Int32.ofInt_neg, Int8.ofInt_neg, Int16.ofInt_neg, Int32.toInt64_ofNat, Int32.reduceToNatClampNeg, Fin.isValue, Fin.val_one, Fin.val_zero, Fin.val_two, Int64.reduceOfNat, Int32.reduceOfNat, hdl, cutc, Nat.reduceEqDiff, reduceIte, FV, tyC, tyX0, tyX1, tyX2, tyX3, tyX4, tyX5, tyX6, tyX7, tyX8, tyX9, tyX10, Nat.reduceMul, c_le, c_lt, c_eq, c_in, c_cl, c_add, c_rem, c_ofN, Int32.add_zero, Int32.zero_add, c_lt0, c_ge0, c_le0, c_gt0, c_e0, c_m1, c_m1', false_implies, true_implies, implies_true, not_false_eq_true, not_true_eq_false, Nat.not_lt_zero, up_s, up_1, up_m, ff10_keep, bb10_keep_0, bb10_keep_7, bb10_keep_32, cl_1, ca_1, cl_2, ca_2, cl_568, ca_568, mw_0, mw_1, mw_2, mw_3, mw_4, mw_5, mw_6, mw_7, mw_8, mu_0, mu_1, mu_2, mu_3, mu_4, mu_5, mu_6, mu_7, mu_8, vi_0, vi_1, vi_2, vi_3, vi_4, vi_5, vi_6]
  exact hr
theorem sp10_restore (h : MU w m th U) (hU : UOK U) (hQ : ∀ w', MU w' m (nI (o_restore U).1) (o_restore U).2.2 → Fr w w' m 9 → Q (some (.int (nI (o_restore U).2.1))) none w') : Sp Γ m10_restore [.ref m] none w Q := by
  obtain ⟨at_, iw, rm, rn, cm, su, pl, wy, px, fs, fa, ft, fn, fx, fr, fu, fc, hw, hS, hT, hN, hB⟩ := h
  obtain ⟨k1, k2, k3, k4, k5, k6, k7, k8, k9, k10, k11, k12⟩ := id hU.1
  obtain ⟨z0, z1, zL, zS, zG, zE, z6⟩ := id hS
  have e0 : fs 0 = nI (a_wd (us_S U)) := z0
  have e1 : fs 1 = nI (a_sy (us_S U)) := z1
  have e2 : fs 2 = nI (a_L (us_S U)).length := zL.1
  have e3 : fs 3 = nI (a_s (us_S U)).length := zS.1
  have e5 : fs 5 = nI (a_E (us_S U)).length := zE.1
  have e6 : fs 6 = stN (a_st (us_S U)) := z6
  have bL : (a_L (us_S U)).length < 2147483648 := by omega
  have bS : (a_s (us_S U)).length < 2147483648 := by omega
  rw [hw]
  unfold o_restore at hQ
  refine entry Γ m10_restore rfl _ (Nat.le_of_ble_eq_true rfl) _ _ _ ?_
  refine wp_ok kd10_restore 400 0 bb10_restore_0 _ _ _ _ _ _ oo10_restore_0 ?_
  cases hNN : us_N U with
  | none =>
    rw [hNN] at hQ
    dsimp only at hQ
    rw [← hNN]
    have hh0 : hsI (us_N U) = 0 := by rw [hNN]; rfl
    have hF : ∀ Q', Q' (some (.int 0)) none (mw w m 1 (nI (us_T U).length) (hsI (us_N U)) (nI (us_B U).length) at_ iw rm rn cm su pl wy px fs fa ft fn fx fr fu fc) → Sp Γ m10_fails [.ref m, .int 1] none (mw w m 0 (nI (us_T U).length) 0 (nI (us_B U).length) at_ iw rm rn cm su pl wy px fs fa ft fn fx fr fu fc) Q' := fun Q' hq' => by rw [hh0] at hq'; exact sp10_fails 1 hq'
    simp only [List.getElem?_cons_zero, List.getElem?_cons_succ, fv4, Nat.reduceAdd, Nat.reduceSub, wp, pst, stp, LG, lput, ls_tl, two, bc, EL, pad, popN, csum, Option.toList, List.cons_append, List.nil_append, List.set_cons_zero, List.set_cons_succ, List.length_cons, List.length_nil, true_and, and_true, Nat.reduceLT, Nat.reduceLeDiff, Nat.zero_le, Nat.le_refl, RI_i, RI_z0, RI_z1, Int32.reduceOfInt, Int8.reduceOfInt, Int16.reduceOfInt, Int64.reduceOfInt, Int8.toInt32_ofNat, Int16.toInt32_ofNat, Int.reduceNeg, Int32.ofInt_neg, Int8.ofInt_neg, Int16.ofInt_neg, Int32.toInt64_ofNat, Int32.reduceToNatClampNeg, Fin.isValue, Fin.val_one, Fin.val_zero, Fin.val_two, Int64.reduceOfNat, Int32.reduceOfNat, hdl, cutc, Nat.reduceEqDiff, reduceIte, FV, tyC, tyX0, tyX1, tyX2, tyX3, tyX4, tyX5, tyX6, tyX7, tyX8, tyX9, tyX10, Nat.reduceMul, c_le, c_lt, c_eq, c_in, c_cl, c_add, c_rem, c_ofN, Int32.add_zero, Int32.zero_add, c_lt0, c_ge0, c_le0, c_gt0, c_e0, c_m1, c_m1', false_implies, true_implies, implies_true, not_false_eq_true, not_true_eq_false, Nat.not_lt_zero, up_s, up_1, up_m, ff10_restore, bb10_restore_0, bb10_restore_18, bb10_restore_24, bb10_restore_49, cl_1, ca_1, cl_2, ca_2, cl_568, ca_568, mw_0, mw_1, mw_2, mw_3, mw_4, mw_5, mw_6, mw_7, mw_8, mu_0, mu_1, mu_2, mu_3, mu_4, mu_5, mu_6, mu_7, mu_8, vi_0, vi_1, vi_2, vi_3, vi_4, vi_5, vi_6, hh0]
    refine hF _ ?_
    unfold holdL
    simp only [List.getElem?_cons_zero, List.getElem?_cons_succ, fv4, Nat.reduceAdd, Nat.reduceSub, wp, pst, stp, LG, lput, ls_tl, two, bc, EL, pad, popN, csum, Option.toList, List.cons_append, List.nil_append, List.set_cons_zero, List.set_cons_succ, List.length_cons, List.length_nil, true_and, and_true, Nat.reduceLT, Nat.reduceLeDiff, Nat.zero_le, Nat.le_refl, RI_i, RI_z0, RI_z1, Int32.reduceOfInt, Int8.reduceOfInt, Int16.reduceOfInt, Int64.reduceOfInt, Int8.toInt32_ofNat, Int16.toInt32_ofNat, Int.reduceNeg, Int32.ofInt_neg, Int8.ofInt_neg, Int16.ofInt_neg, Int32.toInt64_ofNat, Int32.reduceToNatClampNeg, Fin.isValue, Fin.val_one, Fin.val_zero, Fin.val_two, Int64.reduceOfNat, Int32.reduceOfNat, hdl, cutc, Nat.reduceEqDiff, reduceIte, FV, tyC, tyX0, tyX1, tyX2, tyX3, tyX4, tyX5, tyX6, tyX7, tyX8, tyX9, tyX10, Nat.reduceMul, c_le, c_lt, c_eq, c_in, c_cl, c_add, c_rem, c_ofN, Int32.add_zero, Int32.zero_add, c_lt0, c_ge0, c_le0, c_gt0, c_e0, c_m1, c_m1', false_implies, true_implies, implies_true, not_false_eq_true, not_true_eq_false, Nat.not_lt_zero, up_s, up_1, up_m, ff10_restore, bb10_restore_0, bb10_restore_18, bb10_restore_24, bb10_restore_49, cl_1, ca_1, cl_2, ca_2, cl_568, ca_568, mw_0, mw_1, mw_2, mw_3, mw_4, mw_5, mw_6, mw_7, mw_8, mu_0, mu_1, mu_2, mu_3, mu_4, mu_5, mu_6, mu_7, mu_8, vi_0, vi_1, vi_2, vi_3, vi_4, vi_5, vi_6]
    exact hQ _ (MU.mk' (U := (oNo 1 U).2.2) hS hT hN hB) mw_fr0
  | some n =>
    rw [hNN] at hQ
    dsimp only at hQ
    have hh1 : hsI (some n) = 1 := rfl
    have oN := hU.2.1 n hNN
    have hSn := hN n hNN
    have f2 : fn 2 = nI (a_L n).length := hSn.2.2.1.1
    simp only [List.getElem?_cons_zero, List.getElem?_cons_succ, fv4, Nat.reduceAdd, Nat.reduceSub, wp, pst, stp, LG, lput, ls_tl, two, bc, EL, pad, popN, csum, Option.toList, List.cons_append, List.nil_append, List.set_cons_zero, List.set_cons_succ, List.length_cons, List.length_nil, true_and, and_true, Nat.reduceLT, Nat.reduceLeDiff, Nat.zero_le, Nat.le_refl, RI_i, RI_z0, RI_z1, Int32.reduceOfInt, Int8.reduceOfInt, Int16.reduceOfInt, Int64.reduceOfInt, Int8.toInt32_ofNat, Int16.toInt32_ofNat, Int.reduceNeg, Int32.ofInt_neg, Int8.ofInt_neg, Int16.ofInt_neg, Int32.toInt64_ofNat, Int32.reduceToNatClampNeg, Fin.isValue, Fin.val_one, Fin.val_zero, Fin.val_two, Int64.reduceOfNat, Int32.reduceOfNat, hdl, cutc, Nat.reduceEqDiff, reduceIte, FV, tyC, tyX0, tyX1, tyX2, tyX3, tyX4, tyX5, tyX6, tyX7, tyX8, tyX9, tyX10, Nat.reduceMul, c_le, c_lt, c_eq, c_in, c_cl, c_add, c_rem, c_ofN, Int32.add_zero, Int32.zero_add, c_lt0, c_ge0, c_le0, c_gt0, c_e0, c_m1, c_m1', false_implies, true_implies, implies_true, not_false_eq_true, not_true_eq_false, Nat.not_lt_zero, up_s, up_1, up_m, ff10_restore, bb10_restore_0, bb10_restore_18, bb10_restore_24, bb10_restore_49, cl_1, ca_1, cl_2, ca_2, cl_568, ca_568, mw_0, mw_1, mw_2, mw_3, mw_4, mw_5, mw_6, mw_7, mw_8, mu_0, mu_1, mu_2, mu_3, mu_4, mu_5, mu_6, mu_7, mu_8, vi_0, vi_1, vi_2, vi_3, vi_4, vi_5, vi_6, hh1, n10]
    rw [← hh1]
    refine sp10_records hS hT hU.2.2.2.1 hU.1 hU.2.2.1 (fun ft' hT' => ?_)
    have key : ∀ (u k : Nat), u + k = 568 → G Γ m10_restore Q (fun _ _ => False) 24 [some (.ref m), some (.int (nI k))] [] none (mw w m 0 (nI (pushT (us_T U) (us_S U)).length) (hsI (some n)) (nI (us_B U).length) at_ iw rm rn cm su pl wy px (fb_put fs fn 0 k) fa ft' fn fx fr fu fc) 0 0 := by
      intro u
      induction u with
      | zero =>
        intro k hk
        have hk2 : k = 568 := by omega
        subst hk2
        have f2' : fb_put fs fn 0 568 2 = nI (a_L n).length := by rw [fb_put_in (by omega) (by omega)]; exact f2
        refine wp_ok kd10_restore 400 24 bb10_restore_24 _ _ _ _ _ _ oo10_restore_24 ?_
        simp only [List.getElem?_cons_zero, List.getElem?_cons_succ, fv4, Nat.reduceAdd, Nat.reduceSub, wp, pst, stp, LG, lput, ls_tl, two, bc, EL, pad, popN, csum, Option.toList, List.cons_append, List.nil_append, List.set_cons_zero, List.set_cons_succ, List.length_cons, List.length_nil, true_and, and_true, Nat.reduceLT, Nat.reduceLeDiff, Nat.zero_le, Nat.le_refl, RI_i, RI_z0, RI_z1, Int32.reduceOfInt, Int8.reduceOfInt, Int16.reduceOfInt, Int64.reduceOfInt, Int8.toInt32_ofNat, Int16.toInt32_ofNat, Int.reduceNeg, Int32.ofInt_neg, Int8.ofInt_neg, Int16.ofInt_neg, Int32.toInt64_ofNat, Int32.reduceToNatClampNeg, Fin.isValue, Fin.val_one, Fin.val_zero, Fin.val_two, Int64.reduceOfNat, Int32.reduceOfNat, hdl, cutc, Nat.reduceEqDiff, reduceIte, FV, tyC, tyX0, tyX1, tyX2, tyX3, tyX4, tyX5, tyX6, tyX7, tyX8, tyX9, tyX10, Nat.reduceMul, c_le, c_lt, c_eq, c_in, c_cl, c_add, c_rem, c_ofN, Int32.add_zero, Int32.zero_add, c_lt0, c_ge0, c_le0, c_gt0, c_e0, c_m1, c_m1', false_implies, true_implies, implies_true, not_false_eq_true, not_true_eq_false, Nat.not_lt_zero, up_s, up_1, up_m, ff10_restore, bb10_restore_0, bb10_restore_18, bb10_restore_24, bb10_restore_49, cl_1, ca_1, cl_2, ca_2, cl_568, ca_568, mw_0, mw_1, mw_2, mw_3, mw_4, mw_5, mw_6, mw_7, mw_8, mu_0, mu_1, mu_2, mu_3, mu_4, mu_5, mu_6, mu_7, mu_8, vi_0, vi_1, vi_2, vi_3, vi_4, vi_5, vi_6, f2']
        rw [← hNN]
        exact hQ _ (MU.mk' (U := (oDo (a_L n).length n U).2.2) (hSn.cp oN (fun j hj => by rw [fb_put_in (by omega) (by omega)]; rfl)) hT' hN hB) mw_fr0
      | succ u ih =>
        intro k hk
        have b1 : k < 2147483648 := by omega
        have b2 : k < 568 := by omega
        have hr := ih (k + 1) (by omega)
        rw [← fb_put_succ, Nat.zero_add] at hr
        refine wp_ok kd10_restore 400 24 bb10_restore_24 _ _ _ _ _ _ oo10_restore_24 ?_
        simp only [List.getElem?_cons_zero, List.getElem?_cons_succ, fv4, Nat.reduceAdd, Nat.reduceSub, wp, pst, stp, LG, lput, ls_tl, two, bc, EL, pad, popN, csum, Option.toList, List.cons_append, List.nil_append, List.set_cons_zero, List.set_cons_succ, List.length_cons, List.length_nil, true_and, and_true, Nat.reduceLT, Nat.reduceLeDiff, Nat.zero_le, Nat.le_refl, RI_i, RI_z0, RI_z1, Int32.reduceOfInt, Int8.reduceOfInt, Int16.reduceOfInt, Int64.reduceOfInt, Int8.toInt32_ofNat, Int16.toInt32_ofNat, Int.reduceNeg, Int32.ofInt_neg, Int8.ofInt_neg, Int16.ofInt_neg, Int32.toInt64_ofNat, Int32.reduceToNatClampNeg, Fin.isValue, Fin.val_one, Fin.val_zero, Fin.val_two, Int64.reduceOfNat, Int32.reduceOfNat, hdl, cutc, Nat.reduceEqDiff, reduceIte, FV, tyC, tyX0, tyX1, tyX2, tyX3, tyX4, tyX5, tyX6, tyX7, tyX8, tyX9, tyX10, Nat.reduceMul, c_le, c_lt, c_eq, c_in, c_cl, c_add, c_rem, c_ofN, Int32.add_zero, Int32.zero_add, c_lt0, c_ge0, c_le0, c_gt0, c_e0, c_m1, c_m1', false_implies, true_implies, implies_true, not_false_eq_true, not_true_eq_false, Nat.not_lt_zero, up_s, up_1, up_m, ff10_restore, bb10_restore_0, bb10_restore_18, bb10_restore_24, bb10_restore_49, cl_1, ca_1, cl_2, ca_2, cl_568, ca_568, mw_0, mw_1, mw_2, mw_3, mw_4, mw_5, mw_6, mw_7, mw_8, mu_0, mu_1, mu_2, mu_3, mu_4, mu_5, mu_6, mu_7, mu_8, vi_0, vi_1, vi_2, vi_3, vi_4, vi_5, vi_6, b1, b2]
        exact ⟨fun hh => absurd hh (by omega), fun _ => hr⟩
    have hr := key 568 0 rfl
    rw [fb_put_0] at hr
    unfold holdL
    simp only [List.getElem?_cons_zero, List.getElem?_cons_succ, fv4, Nat.reduceAdd, Nat.reduceSub, wp, pst, stp, LG, lput, ls_tl, two, bc, EL, pad, popN, csum, Option.toList, List.cons_append, List.nil_append, List.set_cons_zero, List.set_cons_succ, List.length_cons, List.length_nil, true_and, and_true, Nat.reduceLT, Nat.reduceLeDiff, Nat.zero_le, Nat.le_refl, RI_i, RI_z0, RI_z1, Int32.reduceOfInt, Int8.reduceOfInt, Int16.reduceOfInt, Int64.reduceOfInt, Int8.toInt32_ofNat, Int16.toInt32_ofNat, Int.reduceNeg, Int32.ofInt_neg, Int8.ofInt_neg, Int16.ofInt_neg, Int32.toInt64_ofNat, Int32.reduceToNatClampNeg, Fin.isValue, Fin.val_one, Fin.val_zero, Fin.val_two, Int64.reduceOfNat, Int32.reduceOfNat, hdl, cutc, Nat.reduceEqDiff, reduceIte, FV, tyC, tyX0, tyX1, tyX2, tyX3, tyX4, tyX5, tyX6, tyX7, tyX8, tyX9, tyX10, Nat.reduceMul, c_le, c_lt, c_eq, c_in, c_cl, c_add, c_rem, c_ofN, Int32.add_zero, Int32.zero_add, c_lt0, c_ge0, c_le0, c_gt0, c_e0, c_m1, c_m1', false_implies, true_implies, implies_true, not_false_eq_true, not_true_eq_false, Nat.not_lt_zero, up_s, up_1, up_m, ff10_restore, bb10_restore_0, bb10_restore_18, bb10_restore_24, bb10_restore_49, cl_1, ca_1, cl_2, ca_2, cl_568, ca_568, mw_0, mw_1, mw_2, mw_3, mw_4, mw_5, mw_6, mw_7, mw_8, mu_0, mu_1, mu_2, mu_3, mu_4, mu_5, mu_6, mu_7, mu_8, vi_0, vi_1, vi_2, vi_3, vi_4, vi_5, vi_6]
    exact hr
end MPUB

/-! THE MODEL READS TEXTS -/
/-- to the end of a part -/
def pend (T : List Nat) : Nat → Nat → PS → Nat × PS
  | 0, i, P => (i, P)
  | n + 1, i, P => if T.getD i 0 = 59 then (i, P) else
    match pstp P (T.getD i 0) with
    | none => (i, P)
    | some P' => pend T n (i + 1) P'
/-- digits, as far as they go -/
def dgr (T : List Nat) (m : Nat) : Nat → Nat → Nat → Nat → Nat × Nat × Nat
  | 0, i, dg, v => (i, dg, v)
  | n + 1, i, dg, v => if dgb dg v (T.getD i 0) m = true then dgr T m n (i + 1) (dg + 1) (10 * v + (T.getD i 0 - 48)) else (i, dg, v)
/-- pixels, as far as they go -/
def pxr (T : List Nat) : Nat → Nat → Nat → Nat → Nat × Nat × Nat
  | 0, i, cnt, px => (i, cnt, px)
  | n + 1, i, cnt, px => if cnt < 32 ∧ (T.getD i 0 = 46 ∨ T.getD i 0 = 35) then pxr T n (i + 1) (cnt + 1) (if T.getD i 0 = 35 then px ||| 2 ^ cnt else px) else (i, cnt, px)
theorem pend_1 (T : List Nat) (ki : Nat) (r : Nat × Nat × Nat) : ∀ n i cnt px, pend T n i (1, ki, cnt, px, r) = ((pxr T n i cnt px).1, (1, ki, (pxr T n i cnt px).2.1, (pxr T n i cnt px).2.2, r)) := by
  intro n
  induction n with
  | zero => intro i cnt px; rfl
  | succ n ih =>
    intro i cnt px
    simp only [pend, pxr]
    by_cases h : cnt < 32 ∧ (T.getD i 0 = 46 ∨ T.getD i 0 = 35)
    · have hs : pstp (1, ki, cnt, px, r) (T.getD i 0) = some (1, ki, cnt + 1, (if T.getD i 0 = 35 then px ||| 2 ^ cnt else px), r) := by
        unfold pstp
        dsimp only
        rw [if_neg (by omega), if_neg (by decide), if_pos rfl, if_pos h]
      rw [if_neg (by omega), hs, if_pos h]
      exact ih _ _ _
    · rw [if_neg h]
      by_cases h59 : T.getD i 0 = 59
      · rw [if_pos h59]
      · have hs : pstp (1, ki, cnt, px, r) (T.getD i 0) = none := by
          unfold pstp
          dsimp only
          rw [if_neg h59, if_neg (by decide), if_pos rfl, if_neg h]
        rw [if_neg h59, hs]
theorem dgb_rng {dg v c m : Nat} (h : dgb dg v c m = true) : 48 ≤ c ∧ c ≤ 57 ∧ 10 * v + (c - 48) ≤ m ∧ ¬(0 < dg ∧ v = 0) := by
  unfold dgb at h
  simp only [Bool.and_eq_true, decide_eq_true_eq, Bool.not_eq_true', Bool.and_eq_false_iff, decide_eq_false_iff_not] at h
  omega
theorem pend_3 (T : List Nat) (ki pc px pl : Nat) : ∀ n i dg nu, pend T n i (3, ki, pc, px, dg, pl, nu) = ((dgr T 15 n i dg nu).1, (3, ki, pc, px, (dgr T 15 n i dg nu).2.1, pl, (dgr T 15 n i dg nu).2.2)) := by
  intro n
  induction n with
  | zero => intro i dg nu; rfl
  | succ n ih =>
    intro i dg nu
    simp only [pend, dgr]
    by_cases h : dgb dg nu (T.getD i 0) 15 = true
    · have hr := dgb_rng h
      have hs : pstp (3, ki, pc, px, dg, pl, nu) (T.getD i 0) = some (3, ki, pc, px, dg + 1, pl, 10 * nu + (T.getD i 0 - 48)) := by
        unfold pstp
        dsimp only
        rw [if_neg (by omega), if_neg (by decide), if_neg (by decide), if_neg (by decide), if_pos rfl, if_pos h]
      rw [if_neg (by omega), hs, if_pos h]
      exact ih _ _ _
    · rw [if_neg h]
      by_cases h59 : T.getD i 0 = 59
      · rw [if_pos h59]
      · have hs : pstp (3, ki, pc, px, dg, pl, nu) (T.getD i 0) = none := by
          unfold pstp
          dsimp only
          rw [if_neg h59, if_neg (by decide), if_neg (by decide), if_neg (by decide), if_pos rfl, if_neg h]
        rw [if_neg h59, hs]
theorem dgr_i (T : List Nat) (m : Nat) : ∀ n i dg v, i ≤ (dgr T m n i dg v).1 ∧ (dgr T m n i dg v).1 ≤ i + n ∧ dg ≤ (dgr T m n i dg v).2.1 ∧ (v ≤ m → (dgr T m n i dg v).2.2 ≤ m) := by
  intro n
  induction n with
  | zero => intro i dg v; simp only [dgr]; omega
  | succ n ih =>
    intro i dg v
    simp only [dgr]
    split
    · rename_i h
      have hr := dgb_rng h
      have := ih (i + 1) (dg + 1) (10 * v + (T.getD i 0 - 48))
      omega
    · dsimp only; omega
theorem pend_2 (T : List Nat) (ki pc px nu : Nat) : ∀ n i dg pl i' dg' v', n + i = T.length → dgr T 499 n i dg pl = (i', dg', v') → pend T n i (2, ki, pc, px, dg, pl, nu) = if i' < T.length ∧ T.getD i' 0 = 61 ∧ 0 < dg' then pend T (T.length - i' - 1) (i' + 1) (3, ki, pc, px, 0, v', nu) else (i', (2, ki, pc, px, dg', v', nu)) := by
  intro n
  induction n with
  | zero =>
    intro i dg pl i' dg' v' hi hz
    simp only [dgr, Prod.mk.injEq] at hz
    obtain ⟨rfl, rfl, rfl⟩ := hz
    rw [if_neg (by omega)]
    rfl
  | succ n ih =>
    intro i dg pl i' dg' v' hi hz
    simp only [dgr] at hz
    simp only [pend]
    by_cases h : dgb dg pl (T.getD i 0) 499 = true
    · have hr := dgb_rng h
      have hs : pstp (2, ki, pc, px, dg, pl, nu) (T.getD i 0) = some (2, ki, pc, px, dg + 1, 10 * pl + (T.getD i 0 - 48), nu) := by
        unfold pstp
        dsimp only
        rw [if_neg (by omega), if_neg (by decide), if_neg (by decide), if_pos rfl, if_neg (by omega), if_pos h]
      rw [if_pos h] at hz
      rw [if_neg (by omega), hs]
      exact ih _ _ _ _ _ _ (by omega) hz
    · rw [if_neg h] at hz
      simp only [Prod.mk.injEq] at hz
      obtain ⟨rfl, rfl, rfl⟩ := hz
      by_cases h61 : T.getD i 0 = 61 ∧ 0 < dg
      · have hs : pstp (2, ki, pc, px, dg, pl, nu) (T.getD i 0) = some (3, ki, pc, px, 0, pl, nu) := by
          unfold pstp
          dsimp only
          rw [if_neg (by omega), if_neg (by decide), if_neg (by decide), if_pos rfl, if_pos h61]
        rw [if_neg (by omega), hs, if_pos ⟨by omega, h61⟩, show T.length - i - 1 = n by omega]
      · rw [if_neg (show ¬(i < T.length ∧ T.getD i 0 = 61 ∧ 0 < dg) from fun q => h61 q.2)]
        by_cases h59 : T.getD i 0 = 59
        · rw [if_pos h59]
        · have hs : pstp (2, ki, pc, px, dg, pl, nu) (T.getD i 0) = none := by
            unfold pstp
            dsimp only
            rw [if_neg h59, if_neg (by decide), if_neg (by decide), if_pos rfl, if_neg h61, if_neg h]
          rw [if_neg h59, hs]
theorem pend_4 (T : List Nat) (P : PS) (h4 : P.1 = 4) : ∀ n i, pend T n i P = (i, P) := by
  intro n i
  cases n with
  | zero => rfl
  | succ n =>
    simp only [pend]
    by_cases h59 : T.getD i 0 = 59
    · rw [if_pos h59]
    · have hs : pstp P (T.getD i 0) = none := by
        unfold pstp
        rw [if_neg h59, if_neg (by omega), if_neg (by omega), if_neg (by omega), if_neg (by omega)]
      rw [if_neg h59, hs]
/-- the sign at p -/
def sgn (B : List Nat) (p : Nat) : Nat := B.getD p 0
section MTEXT
variable {Γ : Amb} {w : PW} {Q : Option Value → Option Nat → PW → Prop} {m : Nat} {th sm hs ln at_ iw rm rn cm su pl wy px : Int32} {fs fa ft fn fx fr fu fc : Nat → Int32} {B : List Nat}
theorem sgn_end {p : Nat} (h : B.length ≤ p) : sgn B p = 0 := by unfold sgn; rw [List.getD_eq_getElem?_getD, List.getElem?_eq_none h]; rfl
theorem sgn_lt (hv : ∀ c ∈ B, 33 ≤ c ∧ c ≤ 126) (p : Nat) : sgn B p ≤ 126 ∧ (p < B.length → 33 ≤ sgn B p) := by
  by_cases h : p < B.length
  · have := hv _ (List.mem_of_getElem? (getD_some h))
    exact ⟨this.2, fun _ => this.1⟩
  · rw [sgn_end (by omega)]; exact ⟨by decide, fun q => absurd q h⟩
theorem sp10_sign (hB : IA fx B) (h60 : B.length ≤ 60) (p : Nat) (hp : p ≤ B.length) (hQ : Q (some (.int (nI (sgn B p)))) none (mw w m th sm hs (nI B.length) (nI p) iw rm rn cm su pl wy px fs fa ft fn fx fr fu fc)) : Sp Γ m10_sign [.ref m] none (mw w m th sm hs (nI B.length) (nI p) iw rm rn cm su pl wy px fs fa ft fn fx fr fu fc) Q := by
  have bl : B.length < 2147483648 := by omega
  have bp : p < 2147483648 := by omega
  refine entry Γ m10_sign rfl _ (Nat.le_of_ble_eq_true rfl) _ _ _ ?_
  refine wp_ok kd10_sign 400 0 bb10_sign_0 _ _ _ _ _ _ oo10_sign_0 ?_
  by_cases h : p < B.length
  · have ev := hB p h
    have b60 : p < 60 := by omega
    simp only [List.getElem?_cons_zero, List.getElem?_cons_succ, fv4, Nat.reduceAdd, Nat.reduceSub, wp, pst, stp, LG, lput, ls_tl, two, bc, EL, pad, popN, csum, Option.toList, List.cons_append, List.nil_append, List.set_cons_zero, List.set_cons_succ, List.length_cons, List.length_nil, true_and, and_true, Nat.reduceLT, Nat.reduceLeDiff, Nat.zero_le, Nat.le_refl, RI_i, RI_z0, RI_z1, Int32.reduceOfInt, Int8.reduceOfInt, Int16.reduceOfInt, Int64.reduceOfInt, Int8.toInt32_ofNat, Int16.toInt32_ofNat, Int.reduceNeg, Int32.ofInt_neg, Int8.ofInt_neg, Int16.ofInt_neg, Int32.toInt64_ofNat, Int32.reduceToNatClampNeg, Fin.isValue, Fin.val_one, Fin.val_zero, Fin.val_two, Int64.reduceOfNat, Int32.reduceOfNat, hdl, cutc, Nat.reduceEqDiff, reduceIte, FV, tyC, tyX0, tyX1, tyX2, tyX3, tyX4, tyX5, tyX6, tyX7, tyX8, tyX9, tyX10, Nat.reduceMul, c_le, c_lt, c_eq, c_in, c_cl, c_add, c_rem, c_ofN, Int32.add_zero, Int32.zero_add, c_lt0, c_ge0, c_le0, c_gt0, c_e0, c_m1, c_m1', false_implies, true_implies, implies_true, not_false_eq_true, not_true_eq_false, Nat.not_lt_zero, up_s, up_1, up_m, ff10_sign, bb10_sign_0, bb10_sign_23, bb10_sign_24, mw_0, mw_1, mw_2, mw_3, mw_4, mw_5, mw_6, mw_7, mw_8, mu_0, mu_1, mu_2, mu_3, mu_4, mu_5, mu_6, mu_7, mu_8, vi_0, vi_1, vi_2, vi_3, vi_4, vi_5, vi_6, bl, bp, ev, b60]
    exact ⟨fun hh => absurd h (by omega), fun _ => hQ⟩
  · rw [sgn_end (by omega)] at hQ
    have hpe : p = B.length := by omega
    subst hpe
    simp only [List.getElem?_cons_zero, List.getElem?_cons_succ, fv4, Nat.reduceAdd, Nat.reduceSub, wp, pst, stp, LG, lput, ls_tl, two, bc, EL, pad, popN, csum, Option.toList, List.cons_append, List.nil_append, List.set_cons_zero, List.set_cons_succ, List.length_cons, List.length_nil, true_and, and_true, Nat.reduceLT, Nat.reduceLeDiff, Nat.zero_le, Nat.le_refl, RI_i, RI_z0, RI_z1, Int32.reduceOfInt, Int8.reduceOfInt, Int16.reduceOfInt, Int64.reduceOfInt, Int8.toInt32_ofNat, Int16.toInt32_ofNat, Int.reduceNeg, Int32.ofInt_neg, Int8.ofInt_neg, Int16.ofInt_neg, Int32.toInt64_ofNat, Int32.reduceToNatClampNeg, Fin.isValue, Fin.val_one, Fin.val_zero, Fin.val_two, Int64.reduceOfNat, Int32.reduceOfNat, hdl, cutc, Nat.reduceEqDiff, reduceIte, FV, tyC, tyX0, tyX1, tyX2, tyX3, tyX4, tyX5, tyX6, tyX7, tyX8, tyX9, tyX10, Nat.reduceMul, c_le, c_lt, c_eq, c_in, c_cl, c_add, c_rem, c_ofN, Int32.add_zero, Int32.zero_add, c_lt0, c_ge0, c_le0, c_gt0, c_e0, c_m1, c_m1', false_implies, true_implies, implies_true, not_false_eq_true, not_true_eq_false, Nat.not_lt_zero, up_s, up_1, up_m, ff10_sign, bb10_sign_0, bb10_sign_23, bb10_sign_24, mw_0, mw_1, mw_2, mw_3, mw_4, mw_5, mw_6, mw_7, mw_8, mu_0, mu_1, mu_2, mu_3, mu_4, mu_5, mu_6, mu_7, mu_8, vi_0, vi_1, vi_2, vi_3, vi_4, vi_5, vi_6, bl]
    exact hQ
theorem sp10_reads (hB : IA fx B) (h60 : B.length ≤ 60) (hv : ∀ c ∈ B, 33 ≤ c ∧ c ≤ 126) (p lo hi : Nat) (hp : p ≤ B.length) (hlo : lo < 1000) (hhi : hi < 1000) (h1 : lo ≤ sgn B p → sgn B p ≤ hi → Q (some (.int (nI (sgn B p) - 48))) none (mw w m th sm hs (nI B.length) (nI (p + 1)) 1 rm rn cm su pl wy px fs fa ft fn fx fr fu fc)) (h0 : ¬(lo ≤ sgn B p ∧ sgn B p ≤ hi) → Q (some (.int (nI (sgn B p) - 48))) none (mw w m th sm hs (nI B.length) (nI p) 0 rm rn cm su pl wy px fs fa ft fn fx fr fu fc)) : Sp Γ m10_reads [.ref m, .int (nI lo), .int (nI hi)] none (mw w m th sm hs (nI B.length) (nI p) 1 rm rn cm su pl wy px fs fa ft fn fx fr fu fc) Q := by
  have bp : p < 2147483648 := by omega
  have hs := (sgn_lt hv p).1
  refine entry Γ m10_reads rfl _ (Nat.le_of_ble_eq_true rfl) _ _ _ ?_
  refine wp_ok kd10_reads 400 0 bb10_reads_0 _ _ _ _ _ _ oo10_reads_0 ?_
  simp only [List.getElem?_cons_zero, List.getElem?_cons_succ, fv4, Nat.reduceAdd, Nat.reduceSub, wp, pst, stp, LG, lput, ls_tl, two, bc, EL, pad, popN, csum, Option.toList, List.cons_append, List.nil_append, List.set_cons_zero, List.set_cons_succ, List.length_cons, List.length_nil, true_and, and_true, Nat.reduceLT, Nat.reduceLeDiff, Nat.zero_le, Nat.le_refl, RI_i, RI_z0, RI_z1, Int32.reduceOfInt, Int8.reduceOfInt, Int16.reduceOfInt, Int64.reduceOfInt, Int8.toInt32_ofNat, Int16.toInt32_ofNat, Int.reduceNeg, Int32.ofInt_neg, Int8.ofInt_neg, Int16.ofInt_neg, Int32.toInt64_ofNat, Int32.reduceToNatClampNeg, Fin.isValue, Fin.val_one, Fin.val_zero, Fin.val_two, Int64.reduceOfNat, Int32.reduceOfNat, hdl, cutc, Nat.reduceEqDiff, reduceIte, FV, tyC, tyX0, tyX1, tyX2, tyX3, tyX4, tyX5, tyX6, tyX7, tyX8, tyX9, tyX10, Nat.reduceMul, c_le, c_lt, c_eq, c_in, c_cl, c_add, c_rem, c_ofN, Int32.add_zero, Int32.zero_add, c_lt0, c_ge0, c_le0, c_gt0, c_e0, c_m1, c_m1', false_implies, true_implies, implies_true, not_false_eq_true, not_true_eq_false, Nat.not_lt_zero, up_s, up_1, up_m, ff10_reads, bb10_reads_0, bb10_reads_24, bb10_reads_25, bb10_reads_52, bb10_reads_53, cl_1, ca_1, cl_48, ca_48, mw_0, mw_1, mw_2, mw_3, mw_4, mw_5, mw_6, mw_7, mw_8, mu_0, mu_1, mu_2, mu_3, mu_4, mu_5, mu_6, mu_7, mu_8, vi_0, vi_1, vi_2, vi_3, vi_4, vi_5, vi_6, n10]
  refine sp10_sign hB h60 p hp ?_
  unfold holdL
  simp only [List.getElem?_cons_zero, List.getElem?_cons_succ, fv4, Nat.reduceAdd, Nat.reduceSub, wp, pst, stp, LG, lput, ls_tl, two, bc, EL, pad, popN, csum, Option.toList, List.cons_append, List.nil_append, List.set_cons_zero, List.set_cons_succ, List.length_cons, List.length_nil, true_and, and_true, Nat.reduceLT, Nat.reduceLeDiff, Nat.zero_le, Nat.le_refl, RI_i, RI_z0, RI_z1, Int32.reduceOfInt, Int8.reduceOfInt, Int16.reduceOfInt, Int64.reduceOfInt, Int8.toInt32_ofNat, Int16.toInt32_ofNat, Int.reduceNeg, Int32.ofInt_neg, Int8.ofInt_neg, Int16.ofInt_neg, Int32.toInt64_ofNat, Int32.reduceToNatClampNeg, Fin.isValue, Fin.val_one, Fin.val_zero, Fin.val_two, Int64.reduceOfNat, Int32.reduceOfNat, hdl, cutc, Nat.reduceEqDiff, reduceIte, FV, tyC, tyX0, tyX1, tyX2, tyX3, tyX4, tyX5, tyX6, tyX7, tyX8, tyX9, tyX10, Nat.reduceMul, c_le, c_lt, c_eq, c_in, c_cl, c_add, c_rem, c_ofN, Int32.add_zero, Int32.zero_add, c_lt0, c_ge0, c_le0, c_gt0, c_e0, c_m1, c_m1', false_implies, true_implies, implies_true, not_false_eq_true, not_true_eq_false, Nat.not_lt_zero, up_s, up_1, up_m, ff10_reads, bb10_reads_0, bb10_reads_24, bb10_reads_25, bb10_reads_52, bb10_reads_53, cl_1, ca_1, cl_48, ca_48, mw_0, mw_1, mw_2, mw_3, mw_4, mw_5, mw_6, mw_7, mw_8, mu_0, mu_1, mu_2, mu_3, mu_4, mu_5, mu_6, mu_7, mu_8, vi_0, vi_1, vi_2, vi_3, vi_4, vi_5, vi_6]
  refine sp10_in _ _ _ (fun a b => ?_) (fun a => ?_)
  · rw [c_lt (by omega) (by omega)] at a b
    unfold holdL
    simp only [List.getElem?_cons_zero, List.getElem?_cons_succ, fv4, Nat.reduceAdd, Nat.reduceSub, wp, pst, stp, LG, lput, ls_tl, two, bc, EL, pad, popN, csum, Option.toList, List.cons_append, List.nil_append, List.set_cons_zero, List.set_cons_succ, List.length_cons, List.length_nil, true_and, and_true, Nat.reduceLT, Nat.reduceLeDiff, Nat.zero_le, Nat.le_refl, RI_i, RI_z0, RI_z1, Int32.reduceOfInt, Int8.reduceOfInt, Int16.reduceOfInt, Int64.reduceOfInt, Int8.toInt32_ofNat, Int16.toInt32_ofNat, Int.reduceNeg, Int32.ofInt_neg, Int8.ofInt_neg, Int16.ofInt_neg, Int32.toInt64_ofNat, Int32.reduceToNatClampNeg, Fin.isValue, Fin.val_one, Fin.val_zero, Fin.val_two, Int64.reduceOfNat, Int32.reduceOfNat, hdl, cutc, Nat.reduceEqDiff, reduceIte, FV, tyC, tyX0, tyX1, tyX2, tyX3, tyX4, tyX5, tyX6, tyX7, tyX8, tyX9, tyX10, Nat.reduceMul, c_le, c_lt, c_eq, c_in, c_cl, c_add, c_rem, c_ofN, Int32.add_zero, Int32.zero_add, c_lt0, c_ge0, c_le0, c_gt0, c_e0, c_m1, c_m1', false_implies, true_implies, implies_true, not_false_eq_true, not_true_eq_false, Nat.not_lt_zero, up_s, up_1, up_m, ff10_reads, bb10_reads_0, bb10_reads_24, bb10_reads_25, bb10_reads_52, bb10_reads_53, cl_1, ca_1, cl_48, ca_48, mw_0, mw_1, mw_2, mw_3, mw_4, mw_5, mw_6, mw_7, mw_8, mu_0, mu_1, mu_2, mu_3, mu_4, mu_5, mu_6, mu_7, mu_8, vi_0, vi_1, vi_2, vi_3, vi_4, vi_5, vi_6, n10, or_true]
    refine sp10_sign hB h60 p hp ?_
    unfold holdL
    simp only [List.getElem?_cons_zero, List.getElem?_cons_succ, fv4, Nat.reduceAdd, Nat.reduceSub, wp, pst, stp, LG, lput, ls_tl, two, bc, EL, pad, popN, csum, Option.toList, List.cons_append, List.nil_append, List.set_cons_zero, List.set_cons_succ, List.length_cons, List.length_nil, true_and, and_true, Nat.reduceLT, Nat.reduceLeDiff, Nat.zero_le, Nat.le_refl, RI_i, RI_z0, RI_z1, Int32.reduceOfInt, Int8.reduceOfInt, Int16.reduceOfInt, Int64.reduceOfInt, Int8.toInt32_ofNat, Int16.toInt32_ofNat, Int.reduceNeg, Int32.ofInt_neg, Int8.ofInt_neg, Int16.ofInt_neg, Int32.toInt64_ofNat, Int32.reduceToNatClampNeg, Fin.isValue, Fin.val_one, Fin.val_zero, Fin.val_two, Int64.reduceOfNat, Int32.reduceOfNat, hdl, cutc, Nat.reduceEqDiff, reduceIte, FV, tyC, tyX0, tyX1, tyX2, tyX3, tyX4, tyX5, tyX6, tyX7, tyX8, tyX9, tyX10, Nat.reduceMul, c_le, c_lt, c_eq, c_in, c_cl, c_add, c_rem, c_ofN, Int32.add_zero, Int32.zero_add, c_lt0, c_ge0, c_le0, c_gt0, c_e0, c_m1, c_m1', false_implies, true_implies, implies_true, not_false_eq_true, not_true_eq_false, Nat.not_lt_zero, up_s, up_1, up_m, ff10_reads, bb10_reads_0, bb10_reads_24, bb10_reads_25, bb10_reads_52, bb10_reads_53, cl_1, ca_1, cl_48, ca_48, mw_0, mw_1, mw_2, mw_3, mw_4, mw_5, mw_6, mw_7, mw_8, mu_0, mu_1, mu_2, mu_3, mu_4, mu_5, mu_6, mu_7, mu_8, vi_0, vi_1, vi_2, vi_3, vi_4, vi_5, vi_6, n10, bp]
    exact h1 (by omega) (by omega)
  · rw [c_lt (by omega) (by omega), c_lt (by omega) (by omega)] at a
    unfold holdL
    simp only [List.getElem?_cons_zero, List.getElem?_cons_succ, fv4, Nat.reduceAdd, Nat.reduceSub, wp, pst, stp, LG, lput, ls_tl, two, bc, EL, pad, popN, csum, Option.toList, List.cons_append, List.nil_append, List.set_cons_zero, List.set_cons_succ, List.length_cons, List.length_nil, true_and, and_true, Nat.reduceLT, Nat.reduceLeDiff, Nat.zero_le, Nat.le_refl, RI_i, RI_z0, RI_z1, Int32.reduceOfInt, Int8.reduceOfInt, Int16.reduceOfInt, Int64.reduceOfInt, Int8.toInt32_ofNat, Int16.toInt32_ofNat, Int.reduceNeg, Int32.ofInt_neg, Int8.ofInt_neg, Int16.ofInt_neg, Int32.toInt64_ofNat, Int32.reduceToNatClampNeg, Fin.isValue, Fin.val_one, Fin.val_zero, Fin.val_two, Int64.reduceOfNat, Int32.reduceOfNat, hdl, cutc, Nat.reduceEqDiff, reduceIte, FV, tyC, tyX0, tyX1, tyX2, tyX3, tyX4, tyX5, tyX6, tyX7, tyX8, tyX9, tyX10, Nat.reduceMul, c_le, c_lt, c_eq, c_in, c_cl, c_add, c_rem, c_ofN, Int32.add_zero, Int32.zero_add, c_lt0, c_ge0, c_le0, c_gt0, c_e0, c_m1, c_m1', false_implies, true_implies, implies_true, not_false_eq_true, not_true_eq_false, Nat.not_lt_zero, up_s, up_1, up_m, ff10_reads, bb10_reads_0, bb10_reads_24, bb10_reads_25, bb10_reads_52, bb10_reads_53, cl_1, ca_1, cl_48, ca_48, mw_0, mw_1, mw_2, mw_3, mw_4, mw_5, mw_6, mw_7, mw_8, mu_0, mu_1, mu_2, mu_3, mu_4, mu_5, mu_6, mu_7, mu_8, vi_0, vi_1, vi_2, vi_3, vi_4, vi_5, vi_6, true_or]
    refine sp10_sign hB h60 p hp ?_
    unfold holdL
    simp only [List.getElem?_cons_zero, List.getElem?_cons_succ, fv4, Nat.reduceAdd, Nat.reduceSub, wp, pst, stp, LG, lput, ls_tl, two, bc, EL, pad, popN, csum, Option.toList, List.cons_append, List.nil_append, List.set_cons_zero, List.set_cons_succ, List.length_cons, List.length_nil, true_and, and_true, Nat.reduceLT, Nat.reduceLeDiff, Nat.zero_le, Nat.le_refl, RI_i, RI_z0, RI_z1, Int32.reduceOfInt, Int8.reduceOfInt, Int16.reduceOfInt, Int64.reduceOfInt, Int8.toInt32_ofNat, Int16.toInt32_ofNat, Int.reduceNeg, Int32.ofInt_neg, Int8.ofInt_neg, Int16.ofInt_neg, Int32.toInt64_ofNat, Int32.reduceToNatClampNeg, Fin.isValue, Fin.val_one, Fin.val_zero, Fin.val_two, Int64.reduceOfNat, Int32.reduceOfNat, hdl, cutc, Nat.reduceEqDiff, reduceIte, FV, tyC, tyX0, tyX1, tyX2, tyX3, tyX4, tyX5, tyX6, tyX7, tyX8, tyX9, tyX10, Nat.reduceMul, c_le, c_lt, c_eq, c_in, c_cl, c_add, c_rem, c_ofN, Int32.add_zero, Int32.zero_add, c_lt0, c_ge0, c_le0, c_gt0, c_e0, c_m1, c_m1', false_implies, true_implies, implies_true, not_false_eq_true, not_true_eq_false, Nat.not_lt_zero, up_s, up_1, up_m, ff10_reads, bb10_reads_0, bb10_reads_24, bb10_reads_25, bb10_reads_52, bb10_reads_53, cl_1, ca_1, cl_48, ca_48, mw_0, mw_1, mw_2, mw_3, mw_4, mw_5, mw_6, mw_7, mw_8, mu_0, mu_1, mu_2, mu_3, mu_4, mu_5, mu_6, mu_7, mu_8, vi_0, vi_1, vi_2, vi_3, vi_4, vi_5, vi_6, bp]
    exact h0 (by omega)
theorem sp10_reads0 (hB : IA fx B) (h60 : B.length ≤ 60) (p : Nat) (lo hi : Int32) (hp : p ≤ B.length) (hQ : ∀ r, Q (some (.int r)) none (mw w m th sm hs (nI B.length) (nI p) 0 rm rn cm su pl wy px fs fa ft fn fx fr fu fc)) : Sp Γ m10_reads [.ref m, .int lo, .int hi] none (mw w m th sm hs (nI B.length) (nI p) 0 rm rn cm su pl wy px fs fa ft fn fx fr fu fc) Q := by
  have bp : p < 2147483648 := by omega
  refine entry Γ m10_reads rfl _ (Nat.le_of_ble_eq_true rfl) _ _ _ ?_
  refine wp_ok kd10_reads 400 0 bb10_reads_0 _ _ _ _ _ _ oo10_reads_0 ?_
  simp only [List.getElem?_cons_zero, List.getElem?_cons_succ, fv4, Nat.reduceAdd, Nat.reduceSub, wp, pst, stp, LG, lput, ls_tl, two, bc, EL, pad, popN, csum, Option.toList, List.cons_append, List.nil_append, List.set_cons_zero, List.set_cons_succ, List.length_cons, List.length_nil, true_and, and_true, Nat.reduceLT, Nat.reduceLeDiff, Nat.zero_le, Nat.le_refl, RI_i, RI_z0, RI_z1, Int32.reduceOfInt, Int8.reduceOfInt, Int16.reduceOfInt, Int64.reduceOfInt, Int8.toInt32_ofNat, Int16.toInt32_ofNat, Int.reduceNeg, Int32.ofInt_neg, Int8.ofInt_neg, Int16.ofInt_neg, Int32.toInt64_ofNat, Int32.reduceToNatClampNeg, Fin.isValue, Fin.val_one, Fin.val_zero, Fin.val_two, Int64.reduceOfNat, Int32.reduceOfNat, hdl, cutc, Nat.reduceEqDiff, reduceIte, FV, tyC, tyX0, tyX1, tyX2, tyX3, tyX4, tyX5, tyX6, tyX7, tyX8, tyX9, tyX10, Nat.reduceMul, c_le, c_lt, c_eq, c_in, c_cl, c_add, c_rem, c_ofN, Int32.add_zero, Int32.zero_add, c_lt0, c_ge0, c_le0, c_gt0, c_e0, c_m1, c_m1', false_implies, true_implies, implies_true, not_false_eq_true, not_true_eq_false, Nat.not_lt_zero, up_s, up_1, up_m, ff10_reads, bb10_reads_0, bb10_reads_24, bb10_reads_25, bb10_reads_52, bb10_reads_53, cl_1, ca_1, cl_48, ca_48, mw_0, mw_1, mw_2, mw_3, mw_4, mw_5, mw_6, mw_7, mw_8, mu_0, mu_1, mu_2, mu_3, mu_4, mu_5, mu_6, mu_7, mu_8, vi_0, vi_1, vi_2, vi_3, vi_4, vi_5, vi_6, true_or]
  refine sp10_sign hB h60 p hp ?_
  unfold holdL
  simp only [List.getElem?_cons_zero, List.getElem?_cons_succ, fv4, Nat.reduceAdd, Nat.reduceSub, wp, pst, stp, LG, lput, ls_tl, two, bc, EL, pad, popN, csum, Option.toList, List.cons_append, List.nil_append, List.set_cons_zero, List.set_cons_succ, List.length_cons, List.length_nil, true_and, and_true, Nat.reduceLT, Nat.reduceLeDiff, Nat.zero_le, Nat.le_refl, RI_i, RI_z0, RI_z1, Int32.reduceOfInt, Int8.reduceOfInt, Int16.reduceOfInt, Int64.reduceOfInt, Int8.toInt32_ofNat, Int16.toInt32_ofNat, Int.reduceNeg, Int32.ofInt_neg, Int8.ofInt_neg, Int16.ofInt_neg, Int32.toInt64_ofNat, Int32.reduceToNatClampNeg, Fin.isValue, Fin.val_one, Fin.val_zero, Fin.val_two, Int64.reduceOfNat, Int32.reduceOfNat, hdl, cutc, Nat.reduceEqDiff, reduceIte, FV, tyC, tyX0, tyX1, tyX2, tyX3, tyX4, tyX5, tyX6, tyX7, tyX8, tyX9, tyX10, Nat.reduceMul, c_le, c_lt, c_eq, c_in, c_cl, c_add, c_rem, c_ofN, Int32.add_zero, Int32.zero_add, c_lt0, c_ge0, c_le0, c_gt0, c_e0, c_m1, c_m1', false_implies, true_implies, implies_true, not_false_eq_true, not_true_eq_false, Nat.not_lt_zero, up_s, up_1, up_m, ff10_reads, bb10_reads_0, bb10_reads_24, bb10_reads_25, bb10_reads_52, bb10_reads_53, cl_1, ca_1, cl_48, ca_48, mw_0, mw_1, mw_2, mw_3, mw_4, mw_5, mw_6, mw_7, mw_8, mu_0, mu_1, mu_2, mu_3, mu_4, mu_5, mu_6, mu_7, mu_8, vi_0, vi_1, vi_2, vi_3, vi_4, vi_5, vi_6, bp]
  exact hQ _
end MTEXT

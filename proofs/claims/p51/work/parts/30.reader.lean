/-! READER -/
abbrev rdc (p s e : Int32) : va_E := .inr (5, [.int p, .int s, .int e])
/-- the next number of a kernel: what is wrong, or the number and the place behind it -/
def kn (s : List Nat) (p : Nat) : Nat ⊕ (Nat × Nat) :=
  match s[p]? with
  | none => .inl 1
  | some v => if v = 15 then
      match s[p + 1]? with
      | none => .inl 1
      | some b => if b = 0 then .inl 4 else if b = 1 then .inr (15, p + 2) else .inl 5
    else .inr (v, p + 1)
theorem getD_some {s : List Nat} {p : Nat} (h : p < s.length) : s[p]? = some (s.getD p 0) := by
  rw [List.getD_eq_getElem?_getD, List.getElem?_eq_getElem h]; rfl
theorem getD_none {s : List Nat} {p : Nat} (h : s.length ≤ p) : s[p]? = none := List.getElem?_eq_none h
theorem getD_lt {s : List Nat} (hv : ∀ v ∈ s, v < 16) (p : Nat) : s.getD p 0 < 16 := by
  by_cases h : p < s.length
  · have h1 := List.mem_of_getElem? (getD_some h)
    exact hv _ h1
  · rw [List.getD_eq_getElem?_getD, getD_none (by omega)]; decide
theorem kn_inr {s : List Nat} (hv : ∀ v ∈ s, v < 16) {p v q : Nat} (h : kn s p = .inr (v, q)) : v < 16 ∧ p < q ∧ q ≤ s.length := by
  unfold kn at h
  by_cases hp : p < s.length
  · rw [getD_some hp] at h
    have h2 := getD_lt hv p
    dsimp only at h
    split at h
    · by_cases hp1 : p + 1 < s.length
      · rw [getD_some hp1] at h
        dsimp only at h
        split at h
        · exact absurd h (by simp)
        · split at h
          · simp only [Sum.inr.injEq, Prod.mk.injEq] at h; omega
          · exact absurd h (by simp)
      · rw [getD_none (by omega)] at h; exact absurd h (by simp)
    · simp only [Sum.inr.injEq, Prod.mk.injEq] at h; omega
  · rw [getD_none (by omega)] at h; exact absurd h (by simp)
theorem kn_inl {s : List Nat} {p e : Nat} (h : kn s p = .inl e) : 1 ≤ e ∧ e ≤ 5 := by
  unfold kn at h
  split at h
  · cases h; decide
  · split at h
    · split at h
      · cases h; decide
      · split at h
        · cases h; decide
        · split at h
          · exact absurd h (by simp)
          · cases h; decide
    · exact absurd h (by simp)
def fbt (v wd f : Nat) : Nat → Nat → Nat → Option Nat
  | 0, _, x => some x
  | n + 1, i, x => if v.testBit (3 - i) then (if wd ≤ f + i then none else fbt v wd f n (i + 1) (x ||| 2 ^ (f + i))) else fbt v wd f n (i + 1) x
/-- a kernel of fours: what is wrong, or the pixels, the place behind, the sum -/
def fos (s : List Nat) (wd : Nat) : Nat → Nat → Nat → Nat → Nat → Nat ⊕ (Nat × Nat × Nat)
  | 0, _, x, p, sm => .inr (x, p, sm)
  | n + 1, f, x, p, sm => if wd ≤ f then .inr (x, p, sm) else
      match kn s p with
      | .inl e => .inl e
      | .inr (v, q) =>
        match fbt v wd f 4 0 x with
        | none => .inl 6
        | some y => fos s wd n (f + 4) y q (sm + v)
/-- one run: what is wrong, or its length, the place behind, what the sum grows by -/
def rn (s : List Nat) (p : Nat) : Nat ⊕ (Nat × Nat × Nat) :=
  match kn s p with
  | .inl e => .inl e
  | .inr (v, q) => if v = 15 then .inl 6 else if v = 14 then
      match kn s q with
      | .inl e => .inl e
      | .inr (h, q2) =>
        match kn s q2 with
        | .inl e => .inl e
        | .inr (l, q3) => .inr (16 * h + l, q3, 14 + h + l)
    else .inr (v, q, v)
/-- a kernel of runs -/
def rns (s : List Nat) (wd : Nat) : Nat → Nat → Bool → Nat → Nat → Nat → Nat ⊕ (Nat × Nat × Nat)
  | 0, _, _, x, p, sm => .inr (x, p, sm)
  | n + 1, t, b, x, p, sm => if wd ≤ t then .inr (x, p, sm) else
      match rn s p with
      | .inl e => .inl e
      | .inr (l, q, d) => if wd - t < l then .inl 6 else rns s wd n (t + l) (!b) (if b then x ||| (2 ^ l - 1) * 2 ^ t else x) q (sm + d)
theorem mask1 {k : Nat} (h : k ≤ 32) : (1 : Int64) <<< ((nI k).toInt64 &&& 63) - 1 = lN (2 ^ k - 1) := by
  rw [show (1 : Int64) = lN 1 from rfl, wb_shl 1 (show k < 64 by omega), Nat.one_mul]
  have : ∀ k : Fin 33, lN (2 ^ k.val) - lN 1 = lN (2 ^ k.val - 1) := by decide +kernel
  exact this ⟨k, by omega⟩
theorem rn_inr {s : List Nat} (hv : ∀ v ∈ s, v < 16) {p l q d : Nat} (h : rn s p = .inr (l, q, d)) : l ≤ 255 ∧ p < q ∧ q ≤ s.length ∧ d + 15 * p ≤ 15 * q := by
  unfold rn at h
  cases h1 : kn s p with
  | inl e => rw [h1] at h; exact absurd h (by simp)
  | inr z =>
    obtain ⟨v, q1⟩ := z
    rw [h1] at h
    dsimp only at h
    obtain ⟨a1, a2, a3⟩ := kn_inr hv h1
    split at h
    · exact absurd h (by simp)
    · split at h
      · cases h2 : kn s q1 with
        | inl e => rw [h2] at h; exact absurd h (by simp)
        | inr z =>
          obtain ⟨v2, q2⟩ := z
          rw [h2] at h
          dsimp only at h
          obtain ⟨c1, c2, c3⟩ := kn_inr hv h2
          cases h3 : kn s q2 with
          | inl e => rw [h3] at h; exact absurd h (by simp)
          | inr z =>
            obtain ⟨v3, q3⟩ := z
            rw [h3] at h
            dsimp only at h
            obtain ⟨d1, d2, d3⟩ := kn_inr hv h3
            simp only [Sum.inr.injEq, Prod.mk.injEq] at h
            omega
      · simp only [Sum.inr.injEq, Prod.mk.injEq] at h
        omega
section READER
variable {Γ : Amb} {w : PW} {Q : Option Value → Option Nat → PW → Prop} {a r : Nat} {s : List Nat}
theorem sp5_next (hS : SmR w a s) (hv : ∀ v ∈ s, v < 16) (sm re : Int32) (p : Nat) (hr : w r = some (rdc (nI p) sm re)) (hp : p < 2147483000) (h1 : p < s.length → ∀ w', w' r = some (rdc (nI (p + 1)) sm re) → Fr w w' r 1 → Q (some (.int (nI (s.getD p 0)))) none w') (h0 : s.length ≤ p → ∀ w', w' r = some (rdc (nI (p + 1)) sm 1) → Fr w w' r 1 → Q (some (.int (-1))) none w') : Sp Γ m5_next [.ref r, .ref a] none w Q := by
  obtain ⟨f, e1, e2, e3, e4⟩ := id hS
  have b1 : p < 2147483648 := by omega
  have f0 : ∀ (w : PW) e, Fr w (up w r e) r 1 := fun w e => Fr.wr (by omega) (by omega)
  unfold rdc at hr
  refine entry Γ m5_next rfl _ (Nat.le_of_ble_eq_true rfl) _ _ _ ?_
  refine wp_ok kd5_next 400 0 bb5_next_0 _ _ _ _ _ _ oo5_next_0 ?_
  simp only [List.getElem?_cons_zero, List.getElem?_cons_succ, fv4, Nat.reduceAdd, Nat.reduceSub, wp, pst, stp, LG, lput, ls_tl, two, bc, EL, pad, popN, csum, Option.toList, List.cons_append, List.nil_append, List.set_cons_zero, List.set_cons_succ, List.length_cons, List.length_nil, true_and, and_true, Nat.reduceLT, Nat.reduceLeDiff, Nat.zero_le, Nat.le_refl, RI_i, RI_z0, RI_z1, Int32.reduceOfInt, Int8.reduceOfInt, Int16.reduceOfInt, Int64.reduceOfInt, Int8.toInt32_ofNat, Int16.toInt32_ofNat, Int.reduceNeg, Int32.ofInt_neg, Int8.ofInt_neg, Int16.ofInt_neg, Int32.toInt64_ofNat, Int32.reduceToNatClampNeg, Fin.isValue, Fin.val_one, Fin.val_zero, Fin.val_two, Int64.reduceOfNat, Int32.reduceOfNat, hdl, cutc, Nat.reduceEqDiff, reduceIte, FV, tyC, tyX0, tyX1, tyX2, tyX3, tyX4, tyX5, tyX6, tyX7, tyX8, tyX9, tyX10, Nat.reduceMul, c_le, c_lt, c_eq, c_in, c_cl, c_add, c_rem, c_ofN, Int32.add_zero, Int32.zero_add, c_lt0, c_ge0, c_le0, c_gt0, c_e0, c_m1, c_m1', false_implies, true_implies, implies_true, not_false_eq_true, not_true_eq_false, Nat.not_lt_zero, up_s, up_1, up_m, ff5_next, bb5_next_0, bb5_next_19, cl_1, ca_1, hr, e1]
  refine sp8_at hS p b1 (fun h => ?_) (fun h => ?_)
  · have hlt := getD_lt hv p
    unfold holdL
    simp only [List.getElem?_cons_zero, List.getElem?_cons_succ, fv4, Nat.reduceAdd, Nat.reduceSub, wp, pst, stp, LG, lput, ls_tl, two, bc, EL, pad, popN, csum, Option.toList, List.cons_append, List.nil_append, List.set_cons_zero, List.set_cons_succ, List.length_cons, List.length_nil, true_and, and_true, Nat.reduceLT, Nat.reduceLeDiff, Nat.zero_le, Nat.le_refl, RI_i, RI_z0, RI_z1, Int32.reduceOfInt, Int8.reduceOfInt, Int16.reduceOfInt, Int64.reduceOfInt, Int8.toInt32_ofNat, Int16.toInt32_ofNat, Int.reduceNeg, Int32.ofInt_neg, Int8.ofInt_neg, Int16.ofInt_neg, Int32.toInt64_ofNat, Int32.reduceToNatClampNeg, Fin.isValue, Fin.val_one, Fin.val_zero, Fin.val_two, Int64.reduceOfNat, Int32.reduceOfNat, hdl, cutc, Nat.reduceEqDiff, reduceIte, FV, tyC, tyX0, tyX1, tyX2, tyX3, tyX4, tyX5, tyX6, tyX7, tyX8, tyX9, tyX10, Nat.reduceMul, c_le, c_lt, c_eq, c_in, c_cl, c_add, c_rem, c_ofN, Int32.add_zero, Int32.zero_add, c_lt0, c_ge0, c_le0, c_gt0, c_e0, c_m1, c_m1', false_implies, true_implies, implies_true, not_false_eq_true, not_true_eq_false, Nat.not_lt_zero, up_s, up_1, up_m, ff5_next, bb5_next_0, bb5_next_19, cl_1, ca_1, hr, e1, b1]
    exact ⟨fun _ => h1 h _ (up_s _ _ _) (f0 _ _), fun h2 => absurd (Classical.not_not.mp h2).symm (neg_ne (show (-1 : Int32) < 0 by decide) _ (by omega))⟩
  · unfold holdL
    simp only [List.getElem?_cons_zero, List.getElem?_cons_succ, fv4, Nat.reduceAdd, Nat.reduceSub, wp, pst, stp, LG, lput, ls_tl, two, bc, EL, pad, popN, csum, Option.toList, List.cons_append, List.nil_append, List.set_cons_zero, List.set_cons_succ, List.length_cons, List.length_nil, true_and, and_true, Nat.reduceLT, Nat.reduceLeDiff, Nat.zero_le, Nat.le_refl, RI_i, RI_z0, RI_z1, Int32.reduceOfInt, Int8.reduceOfInt, Int16.reduceOfInt, Int64.reduceOfInt, Int8.toInt32_ofNat, Int16.toInt32_ofNat, Int.reduceNeg, Int32.ofInt_neg, Int8.ofInt_neg, Int16.ofInt_neg, Int32.toInt64_ofNat, Int32.reduceToNatClampNeg, Fin.isValue, Fin.val_one, Fin.val_zero, Fin.val_two, Int64.reduceOfNat, Int32.reduceOfNat, hdl, cutc, Nat.reduceEqDiff, reduceIte, FV, tyC, tyX0, tyX1, tyX2, tyX3, tyX4, tyX5, tyX6, tyX7, tyX8, tyX9, tyX10, Nat.reduceMul, c_le, c_lt, c_eq, c_in, c_cl, c_add, c_rem, c_ofN, Int32.add_zero, Int32.zero_add, c_lt0, c_ge0, c_le0, c_gt0, c_e0, c_m1, c_m1', false_implies, true_implies, implies_true, not_false_eq_true, not_true_eq_false, Nat.not_lt_zero, up_s, up_1, up_m, ff5_next, bb5_next_0, bb5_next_19, cl_1, ca_1, hr, e1, b1]
    exact h0 h _ (up_s _ _ _) ((f0 _ _).tr (f0 _ _))
theorem sp5_nextOfKernel (hS : SmR w a s) (hv : ∀ v ∈ s, v < 16) (sm p : Nat) (hr : w r = some (rdc (nI p) (nI sm) 0)) (hp : p < 2147480000) (hsm : sm < 2147480000) (hd : r < a ∨ a + 2 ≤ r) (h1 : ∀ v q, kn s p = .inr (v, q) → ∀ w', w' r = some (rdc (nI q) (nI (sm + v)) 0) → Fr w w' r 1 → Q (some (.int (nI v))) none w') (h0 : ∀ e, kn s p = .inl e → ∀ w' p' s', w' r = some (rdc p' s' (nI e)) → Fr w w' r 1 → Q (some (.int (-1))) none w') : Sp Γ m5_nextOfKernel [.ref r, .ref a] none w Q := by
  have b1 : p < 2147483648 := by omega
  have b2 : sm < 2147483648 := by omega
  have f0 : ∀ (w : PW) e, Fr w (up w r e) r 1 := fun w e => Fr.wr (by omega) (by omega)
  unfold kn at h1 h0
  have hr' := hr
  unfold rdc at hr'
  refine entry Γ m5_nextOfKernel rfl _ (Nat.le_of_ble_eq_true rfl) _ _ _ ?_
  refine wp_ok kd5_nextOfKernel 400 0 bb5_nextOfKernel_0 _ _ _ _ _ _ oo5_nextOfKernel_0 ?_
  simp only [List.getElem?_cons_zero, List.getElem?_cons_succ, fv4, Nat.reduceAdd, Nat.reduceSub, wp, pst, stp, LG, lput, ls_tl, two, bc, EL, pad, popN, csum, Option.toList, List.cons_append, List.nil_append, List.set_cons_zero, List.set_cons_succ, List.length_cons, List.length_nil, true_and, and_true, Nat.reduceLT, Nat.reduceLeDiff, Nat.zero_le, Nat.le_refl, RI_i, RI_z0, RI_z1, Int32.reduceOfInt, Int8.reduceOfInt, Int16.reduceOfInt, Int64.reduceOfInt, Int8.toInt32_ofNat, Int16.toInt32_ofNat, Int.reduceNeg, Int32.ofInt_neg, Int8.ofInt_neg, Int16.ofInt_neg, Int32.toInt64_ofNat, Int32.reduceToNatClampNeg, Fin.isValue, Fin.val_one, Fin.val_zero, Fin.val_two, Int64.reduceOfNat, Int32.reduceOfNat, hdl, cutc, Nat.reduceEqDiff, reduceIte, FV, tyC, tyX0, tyX1, tyX2, tyX3, tyX4, tyX5, tyX6, tyX7, tyX8, tyX9, tyX10, Nat.reduceMul, c_le, c_lt, c_eq, c_in, c_cl, c_add, c_rem, c_ofN, Int32.add_zero, Int32.zero_add, c_lt0, c_ge0, c_le0, c_gt0, c_e0, c_m1, c_m1', false_implies, true_implies, implies_true, not_false_eq_true, not_true_eq_false, Nat.not_lt_zero, up_s, up_1, up_m, ff5_nextOfKernel, bb5_nextOfKernel_0, bb5_nextOfKernel_30, bb5_nextOfKernel_45, bb5_nextOfKernel_66, bb5_nextOfKernel_67, cl_1, ca_1, cl_4, ca_4, cl_5, ca_5, cl_15, ca_15, hr']
  refine sp5_next hS hv _ _ p hr (by omega) (fun h w1 r1 f1 => ?_) (fun h w1 r1 f1 => ?_)
  · have hlt := getD_lt hv p
    rw [getD_some h] at h1 h0
    dsimp only at h1 h0
    have b3 : s.getD p 0 < 2147483648 := by omega
    have r1' := r1
    unfold rdc at r1'
    unfold holdL
    simp only [List.getElem?_cons_zero, List.getElem?_cons_succ, fv4, Nat.reduceAdd, Nat.reduceSub, wp, pst, stp, LG, lput, ls_tl, two, bc, EL, pad, popN, csum, Option.toList, List.cons_append, List.nil_append, List.set_cons_zero, List.set_cons_succ, List.length_cons, List.length_nil, true_and, and_true, Nat.reduceLT, Nat.reduceLeDiff, Nat.zero_le, Nat.le_refl, RI_i, RI_z0, RI_z1, Int32.reduceOfInt, Int8.reduceOfInt, Int16.reduceOfInt, Int64.reduceOfInt, Int8.toInt32_ofNat, Int16.toInt32_ofNat, Int.reduceNeg, Int32.ofInt_neg, Int8.ofInt_neg, Int16.ofInt_neg, Int32.toInt64_ofNat, Int32.reduceToNatClampNeg, Fin.isValue, Fin.val_one, Fin.val_zero, Fin.val_two, Int64.reduceOfNat, Int32.reduceOfNat, hdl, cutc, Nat.reduceEqDiff, reduceIte, FV, tyC, tyX0, tyX1, tyX2, tyX3, tyX4, tyX5, tyX6, tyX7, tyX8, tyX9, tyX10, Nat.reduceMul, c_le, c_lt, c_eq, c_in, c_cl, c_add, c_rem, c_ofN, Int32.add_zero, Int32.zero_add, c_lt0, c_ge0, c_le0, c_gt0, c_e0, c_m1, c_m1', false_implies, true_implies, implies_true, not_false_eq_true, not_true_eq_false, Nat.not_lt_zero, up_s, up_1, up_m, ff5_nextOfKernel, bb5_nextOfKernel_0, bb5_nextOfKernel_30, bb5_nextOfKernel_45, bb5_nextOfKernel_66, bb5_nextOfKernel_67, cl_1, ca_1, cl_4, ca_4, cl_5, ca_5, cl_15, ca_15, r1', b2, b3]
    refine ⟨fun h2 => ?_, fun h2 => ?_⟩
    · rw [if_neg h2] at h1 h0
      exact h1 _ _ rfl _ (up_s _ _ _) (f1.tr (f0 _ _))
    · rw [if_pos (Classical.not_not.mp h2)] at h1 h0
      refine sp5_next (hS.fr f1 (by omega)) hv _ _ (p + 1) r1 (by omega) (fun h3 w2 r2 f2 => ?_) (fun h3 w2 r2 f2 => ?_)
      · have hlt2 := getD_lt hv (p + 1)
        rw [getD_some h3] at h1 h0
        dsimp only at h1 h0
        have b4 : s.getD (p + 1) 0 < 2147483648 := by omega
        have r2' := r2
        unfold rdc at r2'
        unfold holdL
        simp only [List.getElem?_cons_zero, List.getElem?_cons_succ, fv4, Nat.reduceAdd, Nat.reduceSub, wp, pst, stp, LG, lput, ls_tl, two, bc, EL, pad, popN, csum, Option.toList, List.cons_append, List.nil_append, List.set_cons_zero, List.set_cons_succ, List.length_cons, List.length_nil, true_and, and_true, Nat.reduceLT, Nat.reduceLeDiff, Nat.zero_le, Nat.le_refl, RI_i, RI_z0, RI_z1, Int32.reduceOfInt, Int8.reduceOfInt, Int16.reduceOfInt, Int64.reduceOfInt, Int8.toInt32_ofNat, Int16.toInt32_ofNat, Int.reduceNeg, Int32.ofInt_neg, Int8.ofInt_neg, Int16.ofInt_neg, Int32.toInt64_ofNat, Int32.reduceToNatClampNeg, Fin.isValue, Fin.val_one, Fin.val_zero, Fin.val_two, Int64.reduceOfNat, Int32.reduceOfNat, hdl, cutc, Nat.reduceEqDiff, reduceIte, FV, tyC, tyX0, tyX1, tyX2, tyX3, tyX4, tyX5, tyX6, tyX7, tyX8, tyX9, tyX10, Nat.reduceMul, c_le, c_lt, c_eq, c_in, c_cl, c_add, c_rem, c_ofN, Int32.add_zero, Int32.zero_add, c_lt0, c_ge0, c_le0, c_gt0, c_e0, c_m1, c_m1', false_implies, true_implies, implies_true, not_false_eq_true, not_true_eq_false, Nat.not_lt_zero, up_s, up_1, up_m, ff5_nextOfKernel, bb5_nextOfKernel_0, bb5_nextOfKernel_30, bb5_nextOfKernel_45, bb5_nextOfKernel_66, bb5_nextOfKernel_67, cl_1, ca_1, cl_4, ca_4, cl_5, ca_5, cl_15, ca_15, r2', b2, b3, b4]
        have e15 := Classical.not_not.mp h2
        have f3 := f1.tr f2
        refine ⟨fun c0 => ⟨fun c1 => ?_, fun c1 => ⟨fun _ => ?_, fun c => absurd c (by decide)⟩⟩, fun c0 => ⟨fun _ => ?_, fun c => absurd c (by decide)⟩⟩
        · rw [if_neg c0, if_pos c1] at h1
          rw [e15]
          exact h1 _ _ rfl _ (up_s _ _ _) (f3.tr (f0 _ _))
        · rw [if_neg c0, if_neg c1] at h0
          exact h0 _ rfl _ _ _ (up_s _ _ _) ((f3.tr (f0 _ _)).tr (f0 _ _))
        · rw [if_pos (Classical.not_not.mp c0)] at h0
          exact h0 _ rfl _ _ _ (up_s _ _ _) ((f3.tr (f0 _ _)).tr (f0 _ _))
      · rw [getD_none h3] at h1 h0
        dsimp only at h1 h0
        have r2' := r2
        unfold rdc at r2'
        unfold holdL
        simp only [List.getElem?_cons_zero, List.getElem?_cons_succ, fv4, Nat.reduceAdd, Nat.reduceSub, wp, pst, stp, LG, lput, ls_tl, two, bc, EL, pad, popN, csum, Option.toList, List.cons_append, List.nil_append, List.set_cons_zero, List.set_cons_succ, List.length_cons, List.length_nil, true_and, and_true, Nat.reduceLT, Nat.reduceLeDiff, Nat.zero_le, Nat.le_refl, RI_i, RI_z0, RI_z1, Int32.reduceOfInt, Int8.reduceOfInt, Int16.reduceOfInt, Int64.reduceOfInt, Int8.toInt32_ofNat, Int16.toInt32_ofNat, Int.reduceNeg, Int32.ofInt_neg, Int8.ofInt_neg, Int16.ofInt_neg, Int32.toInt64_ofNat, Int32.reduceToNatClampNeg, Fin.isValue, Fin.val_one, Fin.val_zero, Fin.val_two, Int64.reduceOfNat, Int32.reduceOfNat, hdl, cutc, Nat.reduceEqDiff, reduceIte, FV, tyC, tyX0, tyX1, tyX2, tyX3, tyX4, tyX5, tyX6, tyX7, tyX8, tyX9, tyX10, Nat.reduceMul, c_le, c_lt, c_eq, c_in, c_cl, c_add, c_rem, c_ofN, Int32.add_zero, Int32.zero_add, c_lt0, c_ge0, c_le0, c_gt0, c_e0, c_m1, c_m1', false_implies, true_implies, implies_true, not_false_eq_true, not_true_eq_false, Nat.not_lt_zero, up_s, up_1, up_m, ff5_nextOfKernel, bb5_nextOfKernel_0, bb5_nextOfKernel_30, bb5_nextOfKernel_45, bb5_nextOfKernel_66, bb5_nextOfKernel_67, cl_1, ca_1, cl_4, ca_4, cl_5, ca_5, cl_15, ca_15, r2', b2, b3]
        have f3 := f1.tr f2
        refine ⟨fun _ => ⟨fun c => absurd c (by decide), fun _ => ⟨fun _ => ?_, fun c => absurd c (by decide)⟩⟩, fun c => absurd c (by decide)⟩
        exact h0 _ rfl _ _ _ (up_s _ _ _) (f3.tr (f0 _ _))
  · rw [getD_none h] at h1 h0
    have r1' := r1
    unfold rdc at r1'
    unfold holdL
    simp only [List.getElem?_cons_zero, List.getElem?_cons_succ, fv4, Nat.reduceAdd, Nat.reduceSub, wp, pst, stp, LG, lput, ls_tl, two, bc, EL, pad, popN, csum, Option.toList, List.cons_append, List.nil_append, List.set_cons_zero, List.set_cons_succ, List.length_cons, List.length_nil, true_and, and_true, Nat.reduceLT, Nat.reduceLeDiff, Nat.zero_le, Nat.le_refl, RI_i, RI_z0, RI_z1, Int32.reduceOfInt, Int8.reduceOfInt, Int16.reduceOfInt, Int64.reduceOfInt, Int8.toInt32_ofNat, Int16.toInt32_ofNat, Int.reduceNeg, Int32.ofInt_neg, Int8.ofInt_neg, Int16.ofInt_neg, Int32.toInt64_ofNat, Int32.reduceToNatClampNeg, Fin.isValue, Fin.val_one, Fin.val_zero, Fin.val_two, Int64.reduceOfNat, Int32.reduceOfNat, hdl, cutc, Nat.reduceEqDiff, reduceIte, FV, tyC, tyX0, tyX1, tyX2, tyX3, tyX4, tyX5, tyX6, tyX7, tyX8, tyX9, tyX10, Nat.reduceMul, c_le, c_lt, c_eq, c_in, c_cl, c_add, c_rem, c_ofN, Int32.add_zero, Int32.zero_add, c_lt0, c_ge0, c_le0, c_gt0, c_e0, c_m1, c_m1', false_implies, true_implies, implies_true, not_false_eq_true, not_true_eq_false, Nat.not_lt_zero, up_s, up_1, up_m, ff5_nextOfKernel, bb5_nextOfKernel_0, bb5_nextOfKernel_30, bb5_nextOfKernel_45, bb5_nextOfKernel_66, bb5_nextOfKernel_67, cl_1, ca_1, cl_4, ca_4, cl_5, ca_5, cl_15, ca_15, r1', b2]
    refine ⟨fun _ => ⟨fun _ => ?_, fun c => absurd c (by decide)⟩, fun c => absurd c (by decide)⟩
    exact h0 _ rfl _ _ _ (up_s _ _ _) (f1.tr (f0 _ _))
theorem sp5_pixelsByFours (hS : SmR w a s) (hv : ∀ v ∈ s, v < 16) (wd sm p : Nat) (hw : wd ≤ 32) (hr : w r = some (rdc (nI p) (nI sm) 0)) (hp : p ≤ s.length) (hsm : sm ≤ 15 * p) (hd : r < a ∨ a + 2 ≤ r) (h1 : ∀ x q sm', fos s wd 9 0 0 p sm = .inr (x, q, sm') → q ≤ s.length → sm' ≤ 15 * q → p ≤ q → ∀ w', w' r = some (rdc (nI q) (nI sm') 0) → Fr w w' r 1 → Q (some (.long (lN x))) none w') (h0 : ∀ e, fos s wd 9 0 0 p sm = .inl e → 1 ≤ e → e ≤ 8 → ∀ w' p' s' x, w' r = some (rdc p' s' (nI e)) → Fr w w' r 1 → Q (some (.long x)) none w') : Sp Γ m5_pixelsByFours [.ref r, .ref a, .int (nI wd)] none w Q := by
  have b2 : wd < 2147483648 := by omega
  obtain ⟨sf, s1, s2, s3, s4⟩ := id hS
  have f0 : ∀ (w : PW) e, Fr w (up w r e) r 1 := fun w e => Fr.wr (by omega) (by omega)
  have hbad : ∀ (e f : Nat) (w1 : PW) (p' s' : Int32) (x : Int64) (j6 j7 j8 : Option Value), fos s wd 9 0 0 p sm = .inl e → 1 ≤ e → e ≤ 8 → f < 1000 → w1 r = some (rdc p' s' (nI e)) → Fr w w1 r 1 → G Γ m5_pixelsByFours Q (fun _ _ => False) 5 [some (.ref r), some (.ref a), some (.int (nI wd)), some (.long x), none, some (.int (nI f)), j6, j7, j8] [] none w1 0 0 := by
    intro e f w1 p' s' x j6 j7 j8 he e1 e2 hf hr1 hF
    have b1 : f < 2147483648 := by omega
    have b3 : e < 2147483648 := by omega
    have hq := h0 e he e1 e2 w1 p' s' x hr1 hF
    have hr1' := hr1
    unfold rdc at hr1'
    refine wp_ok kd5_pixelsByFours 400 5 bb5_pixelsByFours_5 _ _ _ _ _ _ oo5_pixelsByFours_5 ?_
    simp only [List.getElem?_cons_zero, List.getElem?_cons_succ, fv4, Nat.reduceAdd, Nat.reduceSub, wp, pst, stp, LG, lput, ls_tl, two, bc, EL, pad, popN, csum, Option.toList, List.cons_append, List.nil_append, List.set_cons_zero, List.set_cons_succ, List.length_cons, List.length_nil, true_and, and_true, Nat.reduceLT, Nat.reduceLeDiff, Nat.zero_le, Nat.le_refl, RI_i, RI_z0, RI_z1, Int32.reduceOfInt, Int8.reduceOfInt, Int16.reduceOfInt, Int64.reduceOfInt, Int8.toInt32_ofNat, Int16.toInt32_ofNat, Int.reduceNeg, Int32.ofInt_neg, Int8.ofInt_neg, Int16.ofInt_neg, Int32.toInt64_ofNat, Int32.reduceToNatClampNeg, Fin.isValue, Fin.val_one, Fin.val_zero, Fin.val_two, Int64.reduceOfNat, Int32.reduceOfNat, hdl, cutc, Nat.reduceEqDiff, reduceIte, FV, tyC, tyX0, tyX1, tyX2, tyX3, tyX4, tyX5, tyX6, tyX7, tyX8, tyX9, tyX10, Nat.reduceMul, c_le, c_lt, c_eq, c_in, c_cl, c_add, c_rem, c_ofN, Int32.add_zero, Int32.zero_add, c_lt0, c_ge0, c_le0, c_gt0, c_e0, c_m1, c_m1', false_implies, true_implies, implies_true, not_false_eq_true, not_true_eq_false, Nat.not_lt_zero, up_s, up_1, up_m, ff5_pixelsByFours, bb5_pixelsByFours_0, bb5_pixelsByFours_5, bb5_pixelsByFours_28, bb5_pixelsByFours_57, bb5_pixelsByFours_58, bb5_pixelsByFours_83, bb5_pixelsByFours_98, bb5_pixelsByFours_104, bb5_pixelsByFours_110, cl_1, ca_1, cl_3, ca_3, cl_4, ca_4, cl_6, ca_6, hr1', b1, b2, b3]
    exact ⟨fun _ => hq, fun _ => ⟨fun _ => hq, fun h => absurd (Classical.not_not.mp h) (by omega)⟩⟩
  have hbad2 : ∀ (e f i : Nat) (w1 : PW) (p' s' : Int32) (x : Int64) (v : Int32) (j8 : Option Value), fos s wd 9 0 0 p sm = .inl e → 1 ≤ e → e ≤ 8 → f < 900 → i ≤ 4 → w1 r = some (rdc p' s' (nI e)) → Fr w w1 r 1 → G Γ m5_pixelsByFours Q (fun _ _ => False) 28 [some (.ref r), some (.ref a), some (.int (nI wd)), some (.long x), none, some (.int (nI f)), some (.int v), some (.int (nI i)), j8] [] none w1 0 0 := by
    intro e f i w1 p' s' x v j8 he e1 e2 hf hi hr1 hF
    have b1 : f < 2147483648 := by omega
    have b3 : e < 2147483648 := by omega
    have b4 : i < 2147483648 := by omega
    have hg : ∀ j7, G Γ m5_pixelsByFours Q (fun _ _ => False) 5 [some (.ref r), some (.ref a), some (.int (nI wd)), some (.long x), none, some (.int (nI (f + 4))), some (.int v), j7, j8] [] none w1 0 0 := fun j7 => hbad e (f + 4) w1 p' s' x _ _ _ he e1 e2 (by omega) hr1 hF
    have hr1' := hr1
    unfold rdc at hr1'
    refine wp_ok kd5_pixelsByFours 400 28 bb5_pixelsByFours_28 _ _ _ _ _ _ oo5_pixelsByFours_28 ?_
    simp only [List.getElem?_cons_zero, List.getElem?_cons_succ, fv4, Nat.reduceAdd, Nat.reduceSub, wp, pst, stp, LG, lput, ls_tl, two, bc, EL, pad, popN, csum, Option.toList, List.cons_append, List.nil_append, List.set_cons_zero, List.set_cons_succ, List.length_cons, List.length_nil, true_and, and_true, Nat.reduceLT, Nat.reduceLeDiff, Nat.zero_le, Nat.le_refl, RI_i, RI_z0, RI_z1, Int32.reduceOfInt, Int8.reduceOfInt, Int16.reduceOfInt, Int64.reduceOfInt, Int8.toInt32_ofNat, Int16.toInt32_ofNat, Int.reduceNeg, Int32.ofInt_neg, Int8.ofInt_neg, Int16.ofInt_neg, Int32.toInt64_ofNat, Int32.reduceToNatClampNeg, Fin.isValue, Fin.val_one, Fin.val_zero, Fin.val_two, Int64.reduceOfNat, Int32.reduceOfNat, hdl, cutc, Nat.reduceEqDiff, reduceIte, FV, tyC, tyX0, tyX1, tyX2, tyX3, tyX4, tyX5, tyX6, tyX7, tyX8, tyX9, tyX10, Nat.reduceMul, c_le, c_lt, c_eq, c_in, c_cl, c_add, c_rem, c_ofN, Int32.add_zero, Int32.zero_add, c_lt0, c_ge0, c_le0, c_gt0, c_e0, c_m1, c_m1', false_implies, true_implies, implies_true, not_false_eq_true, not_true_eq_false, Nat.not_lt_zero, up_s, up_1, up_m, ff5_pixelsByFours, bb5_pixelsByFours_0, bb5_pixelsByFours_5, bb5_pixelsByFours_28, bb5_pixelsByFours_57, bb5_pixelsByFours_58, bb5_pixelsByFours_83, bb5_pixelsByFours_98, bb5_pixelsByFours_104, bb5_pixelsByFours_110, cl_1, ca_1, cl_3, ca_3, cl_4, ca_4, cl_6, ca_6, hr1', b1, b2, b3, b4]
    exact ⟨fun _ => hg _, fun _ => ⟨fun _ => hg _, fun h => absurd (Classical.not_not.mp h) (by omega)⟩⟩
  have key : ∀ (n k x p1 sm1 : Nat) (w1 : PW) (j6 j7 j8 : Option Value), n + k = 9 → p1 ≤ s.length → sm1 ≤ 15 * p1 → p ≤ p1 → fos s wd n (4 * k) x p1 sm1 = fos s wd 9 0 0 p sm → w1 r = some (rdc (nI p1) (nI sm1) 0) → Fr w w1 r 1 → G Γ m5_pixelsByFours Q (fun _ _ => False) 5 [some (.ref r), some (.ref a), some (.int (nI wd)), some (.long (lN x)), none, some (.int (nI (4 * k))), j6, j7, j8] [] none w1 0 0 := by
    intro n
    induction n with
    | zero =>
      intro k x p1 sm1 w1 j6 j7 j8 hk hp1 hs1 hpp hfo hr1 hF
      have b1 : 4 * k < 2147483648 := by omega
      have hq := h1 x p1 sm1 hfo.symm hp1 hs1 hpp w1 hr1 hF
      have hr1' := hr1
      unfold rdc at hr1'
      refine wp_ok kd5_pixelsByFours 400 5 bb5_pixelsByFours_5 _ _ _ _ _ _ oo5_pixelsByFours_5 ?_
      simp only [List.getElem?_cons_zero, List.getElem?_cons_succ, fv4, Nat.reduceAdd, Nat.reduceSub, wp, pst, stp, LG, lput, ls_tl, two, bc, EL, pad, popN, csum, Option.toList, List.cons_append, List.nil_append, List.set_cons_zero, List.set_cons_succ, List.length_cons, List.length_nil, true_and, and_true, Nat.reduceLT, Nat.reduceLeDiff, Nat.zero_le, Nat.le_refl, RI_i, RI_z0, RI_z1, Int32.reduceOfInt, Int8.reduceOfInt, Int16.reduceOfInt, Int64.reduceOfInt, Int8.toInt32_ofNat, Int16.toInt32_ofNat, Int.reduceNeg, Int32.ofInt_neg, Int8.ofInt_neg, Int16.ofInt_neg, Int32.toInt64_ofNat, Int32.reduceToNatClampNeg, Fin.isValue, Fin.val_one, Fin.val_zero, Fin.val_two, Int64.reduceOfNat, Int32.reduceOfNat, hdl, cutc, Nat.reduceEqDiff, reduceIte, FV, tyC, tyX0, tyX1, tyX2, tyX3, tyX4, tyX5, tyX6, tyX7, tyX8, tyX9, tyX10, Nat.reduceMul, c_le, c_lt, c_eq, c_in, c_cl, c_add, c_rem, c_ofN, Int32.add_zero, Int32.zero_add, c_lt0, c_ge0, c_le0, c_gt0, c_e0, c_m1, c_m1', false_implies, true_implies, implies_true, not_false_eq_true, not_true_eq_false, Nat.not_lt_zero, up_s, up_1, up_m, ff5_pixelsByFours, bb5_pixelsByFours_0, bb5_pixelsByFours_5, bb5_pixelsByFours_28, bb5_pixelsByFours_57, bb5_pixelsByFours_58, bb5_pixelsByFours_83, bb5_pixelsByFours_98, bb5_pixelsByFours_104, bb5_pixelsByFours_110, cl_1, ca_1, cl_3, ca_3, cl_4, ca_4, cl_6, ca_6, hr1', b1, b2]
      exact ⟨fun _ => hq, fun h => absurd h (by omega)⟩
    | succ n ih =>
      intro k x p1 sm1 w1 j6 j7 j8 hk hp1 hs1 hpp hfo hr1 hF
      have b1 : 4 * k < 2147483648 := by omega
      simp only [fos] at hfo
      have hr1' := hr1
      unfold rdc at hr1'
      refine wp_ok kd5_pixelsByFours 400 5 bb5_pixelsByFours_5 _ _ _ _ _ _ oo5_pixelsByFours_5 ?_
      simp only [List.getElem?_cons_zero, List.getElem?_cons_succ, fv4, Nat.reduceAdd, Nat.reduceSub, wp, pst, stp, LG, lput, ls_tl, two, bc, EL, pad, popN, csum, Option.toList, List.cons_append, List.nil_append, List.set_cons_zero, List.set_cons_succ, List.length_cons, List.length_nil, true_and, and_true, Nat.reduceLT, Nat.reduceLeDiff, Nat.zero_le, Nat.le_refl, RI_i, RI_z0, RI_z1, Int32.reduceOfInt, Int8.reduceOfInt, Int16.reduceOfInt, Int64.reduceOfInt, Int8.toInt32_ofNat, Int16.toInt32_ofNat, Int.reduceNeg, Int32.ofInt_neg, Int8.ofInt_neg, Int16.ofInt_neg, Int32.toInt64_ofNat, Int32.reduceToNatClampNeg, Fin.isValue, Fin.val_one, Fin.val_zero, Fin.val_two, Int64.reduceOfNat, Int32.reduceOfNat, hdl, cutc, Nat.reduceEqDiff, reduceIte, FV, tyC, tyX0, tyX1, tyX2, tyX3, tyX4, tyX5, tyX6, tyX7, tyX8, tyX9, tyX10, Nat.reduceMul, c_le, c_lt, c_eq, c_in, c_cl, c_add, c_rem, c_ofN, Int32.add_zero, Int32.zero_add, c_lt0, c_ge0, c_le0, c_gt0, c_e0, c_m1, c_m1', false_implies, true_implies, implies_true, not_false_eq_true, not_true_eq_false, Nat.not_lt_zero, up_s, up_1, up_m, ff5_pixelsByFours, bb5_pixelsByFours_0, bb5_pixelsByFours_5, bb5_pixelsByFours_28, bb5_pixelsByFours_57, bb5_pixelsByFours_58, bb5_pixelsByFours_83, bb5_pixelsByFours_98, bb5_pixelsByFours_104, bb5_pixelsByFours_110, cl_1, ca_1, cl_3, ca_3, cl_4, ca_4, cl_6, ca_6, hr1', b1, b2]
      refine ⟨fun h => ?_, fun h => ?_⟩
      · rw [if_pos h] at hfo
        exact h1 x p1 sm1 hfo.symm hp1 hs1 hpp w1 hr1 hF
      rw [if_neg h] at hfo
      refine sp5_nextOfKernel (hS.fr hF (by omega)) hv sm1 p1 hr1 (by omega) (by omega) hd (fun v q hk1 w2 r2 f2 => ?_) (fun e hk1 w2 p' s' r2 f2 => ?_)
      · rw [hk1] at hfo
        dsimp only at hfo
        obtain ⟨k1, k2, k3⟩ := kn_inr hv hk1
        have hF2 := hF.tr f2
        have inner : ∀ (u i y : Nat) (w3 : PW) (j8 : Option Value), u + i = 4 → (match fbt v wd (4 * k) u i y with
            | none => .inl 6
            | some y => fos s wd n (4 * k + 4) y q (sm1 + v)) = fos s wd 9 0 0 p sm → w3 r = some (rdc (nI q) (nI (sm1 + v)) 0) → Fr w w3 r 1 → G Γ m5_pixelsByFours Q (fun _ _ => False) 28 [some (.ref r), some (.ref a), some (.int (nI wd)), some (.long (lN y)), none, some (.int (nI (4 * k))), some (.int (nI v)), some (.int (nI i)), j8] [] none w3 0 0 := by
          intro u
          induction u with
          | zero =>
            intro i y w3 j8 hi hfo3 hr3 hF3
            have hi4 : i = 4 := by omega
            subst hi4
            have hr3' := hr3
            unfold rdc at hr3'
            simp only [fbt] at hfo3
            have hg := ih (k + 1) y q (sm1 + v) w3 (some (.int (nI v))) (some (.int (nI 4))) j8 (by omega) (by omega) (by omega) (by omega) hfo3 hr3 hF3
            refine wp_ok kd5_pixelsByFours 400 28 bb5_pixelsByFours_28 _ _ _ _ _ _ oo5_pixelsByFours_28 ?_
            simp only [List.getElem?_cons_zero, List.getElem?_cons_succ, fv4, Nat.reduceAdd, Nat.reduceSub, wp, pst, stp, LG, lput, ls_tl, two, bc, EL, pad, popN, csum, Option.toList, List.cons_append, List.nil_append, List.set_cons_zero, List.set_cons_succ, List.length_cons, List.length_nil, true_and, and_true, Nat.reduceLT, Nat.reduceLeDiff, Nat.zero_le, Nat.le_refl, RI_i, RI_z0, RI_z1, Int32.reduceOfInt, Int8.reduceOfInt, Int16.reduceOfInt, Int64.reduceOfInt, Int8.toInt32_ofNat, Int16.toInt32_ofNat, Int.reduceNeg, Int32.ofInt_neg, Int8.ofInt_neg, Int16.ofInt_neg, Int32.toInt64_ofNat, Int32.reduceToNatClampNeg, Fin.isValue, Fin.val_one, Fin.val_zero, Fin.val_two, Int64.reduceOfNat, Int32.reduceOfNat, hdl, cutc, Nat.reduceEqDiff, reduceIte, FV, tyC, tyX0, tyX1, tyX2, tyX3, tyX4, tyX5, tyX6, tyX7, tyX8, tyX9, tyX10, Nat.reduceMul, c_le, c_lt, c_eq, c_in, c_cl, c_add, c_rem, c_ofN, Int32.add_zero, Int32.zero_add, c_lt0, c_ge0, c_le0, c_gt0, c_e0, c_m1, c_m1', false_implies, true_implies, implies_true, not_false_eq_true, not_true_eq_false, Nat.not_lt_zero, up_s, up_1, up_m, ff5_pixelsByFours, bb5_pixelsByFours_0, bb5_pixelsByFours_5, bb5_pixelsByFours_28, bb5_pixelsByFours_57, bb5_pixelsByFours_58, bb5_pixelsByFours_83, bb5_pixelsByFours_98, bb5_pixelsByFours_104, bb5_pixelsByFours_110, cl_1, ca_1, cl_3, ca_3, cl_4, ca_4, cl_6, ca_6, hr3', b1, b2]
            exact hg
          | succ u ihu =>
            intro i y w3 j8 hi hfo3 hr3 hF3
            have b4 : i < 2147483648 := by omega
            have hr3' := hr3
            unfold rdc at hr3'
            have e3 : (3 : Int32) - nI i = nI (3 - i) := by
              have : ∀ j : Fin 4, (3 : Int32) - nI j.val = nI (3 - j.val) := by decide +kernel
              exact this ⟨i, by omega⟩
            have hbit := nx_bit (k := v) (j := 3 - i) (by omega) (by omega)
            simp only [fbt] at hfo3
            have hgood := fun y' j8 h => ihu (i + 1) y' w3 j8 (by omega) h hr3 hF3
            refine wp_ok kd5_pixelsByFours 400 28 bb5_pixelsByFours_28 _ _ _ _ _ _ oo5_pixelsByFours_28 ?_
            have b5 : 4 * k + i < 2147483648 := by omega
            have hor : lN y ||| (1 : Int64) <<< ((nI (4 * k + i)).toInt64 &&& 63) = lN (y ||| 2 ^ (4 * k + i)) := by
              rw [show (1 : Int64) = lN 1 from rfl, wb_shl 1 (show 4 * k + i < 64 by omega), Nat.one_mul, fb_orL]
            simp only [List.getElem?_cons_zero, List.getElem?_cons_succ, fv4, Nat.reduceAdd, Nat.reduceSub, wp, pst, stp, LG, lput, ls_tl, two, bc, EL, pad, popN, csum, Option.toList, List.cons_append, List.nil_append, List.set_cons_zero, List.set_cons_succ, List.length_cons, List.length_nil, true_and, and_true, Nat.reduceLT, Nat.reduceLeDiff, Nat.zero_le, Nat.le_refl, RI_i, RI_z0, RI_z1, Int32.reduceOfInt, Int8.reduceOfInt, Int16.reduceOfInt, Int64.reduceOfInt, Int8.toInt32_ofNat, Int16.toInt32_ofNat, Int.reduceNeg, Int32.ofInt_neg, Int8.ofInt_neg, Int16.ofInt_neg, Int32.toInt64_ofNat, Int32.reduceToNatClampNeg, Fin.isValue, Fin.val_one, Fin.val_zero, Fin.val_two, Int64.reduceOfNat, Int32.reduceOfNat, hdl, cutc, Nat.reduceEqDiff, reduceIte, FV, tyC, tyX0, tyX1, tyX2, tyX3, tyX4, tyX5, tyX6, tyX7, tyX8, tyX9, tyX10, Nat.reduceMul, c_le, c_lt, c_eq, c_in, c_cl, c_add, c_rem, c_ofN, Int32.add_zero, Int32.zero_add, c_lt0, c_ge0, c_le0, c_gt0, c_e0, c_m1, c_m1', false_implies, true_implies, implies_true, not_false_eq_true, not_true_eq_false, Nat.not_lt_zero, up_s, up_1, up_m, ff5_pixelsByFours, bb5_pixelsByFours_0, bb5_pixelsByFours_5, bb5_pixelsByFours_28, bb5_pixelsByFours_57, bb5_pixelsByFours_58, bb5_pixelsByFours_83, bb5_pixelsByFours_98, bb5_pixelsByFours_104, bb5_pixelsByFours_110, cl_1, ca_1, cl_3, ca_3, cl_4, ca_4, cl_6, ca_6, hr3', b1, b2, b4, b5, e3, hbit, hor]
            refine ⟨fun h => absurd h (by omega), fun _ => ⟨fun hb => ?_, fun hb => ⟨fun h => absurd h (by decide), fun _ => ⟨fun hlt => ⟨fun h => absurd h (by decide), fun _ => ?_⟩, fun hlt => ?_⟩⟩⟩⟩
            · rw [hb, if_neg (by decide)] at hfo3
              exact hgood y _ hfo3
            · rw [if_pos (by simpa using hb), if_neg (by omega)] at hfo3
              exact hgood _ _ hfo3
            · rw [if_pos (by simpa using hb), if_pos (by omega)] at hfo3
              exact hbad2 6 (4 * k) (i + 1) _ _ _ _ _ _ hfo3.symm (by decide) (by decide) (by omega) (by omega) (up_s _ _ _) (hF3.tr (f0 _ _))
        unfold holdL
        simp only [List.getElem?_cons_zero, List.getElem?_cons_succ, fv4, Nat.reduceAdd, Nat.reduceSub, wp, pst, stp, LG, lput, ls_tl, two, bc, EL, pad, popN, csum, Option.toList, List.cons_append, List.nil_append, List.set_cons_zero, List.set_cons_succ, List.length_cons, List.length_nil, true_and, and_true, Nat.reduceLT, Nat.reduceLeDiff, Nat.zero_le, Nat.le_refl, RI_i, RI_z0, RI_z1, Int32.reduceOfInt, Int8.reduceOfInt, Int16.reduceOfInt, Int64.reduceOfInt, Int8.toInt32_ofNat, Int16.toInt32_ofNat, Int.reduceNeg, Int32.ofInt_neg, Int8.ofInt_neg, Int16.ofInt_neg, Int32.toInt64_ofNat, Int32.reduceToNatClampNeg, Fin.isValue, Fin.val_one, Fin.val_zero, Fin.val_two, Int64.reduceOfNat, Int32.reduceOfNat, hdl, cutc, Nat.reduceEqDiff, reduceIte, FV, tyC, tyX0, tyX1, tyX2, tyX3, tyX4, tyX5, tyX6, tyX7, tyX8, tyX9, tyX10, Nat.reduceMul, c_le, c_lt, c_eq, c_in, c_cl, c_add, c_rem, c_ofN, Int32.add_zero, Int32.zero_add, c_lt0, c_ge0, c_le0, c_gt0, c_e0, c_m1, c_m1', false_implies, true_implies, implies_true, not_false_eq_true, not_true_eq_false, Nat.not_lt_zero, up_s, up_1, up_m, ff5_pixelsByFours, bb5_pixelsByFours_0, bb5_pixelsByFours_5, bb5_pixelsByFours_28, bb5_pixelsByFours_57, bb5_pixelsByFours_58, bb5_pixelsByFours_83, bb5_pixelsByFours_98, bb5_pixelsByFours_104, bb5_pixelsByFours_110, cl_1, ca_1, cl_3, ca_3, cl_4, ca_4, cl_6, ca_6]
        exact inner 4 0 x w2 j8 rfl hfo r2 hF2
      · rw [hk1] at hfo
        dsimp only at hfo
        obtain ⟨k1, k2⟩ := kn_inl hk1
        have hF2 := hF.tr f2
        have b3 : e < 2147483648 := by omega
        have r2' := r2
        unfold rdc at r2'
        unfold holdL
        simp only [List.getElem?_cons_zero, List.getElem?_cons_succ, fv4, Nat.reduceAdd, Nat.reduceSub, wp, pst, stp, LG, lput, ls_tl, two, bc, EL, pad, popN, csum, Option.toList, List.cons_append, List.nil_append, List.set_cons_zero, List.set_cons_succ, List.length_cons, List.length_nil, true_and, and_true, Nat.reduceLT, Nat.reduceLeDiff, Nat.zero_le, Nat.le_refl, RI_i, RI_z0, RI_z1, Int32.reduceOfInt, Int8.reduceOfInt, Int16.reduceOfInt, Int64.reduceOfInt, Int8.toInt32_ofNat, Int16.toInt32_ofNat, Int.reduceNeg, Int32.ofInt_neg, Int8.ofInt_neg, Int16.ofInt_neg, Int32.toInt64_ofNat, Int32.reduceToNatClampNeg, Fin.isValue, Fin.val_one, Fin.val_zero, Fin.val_two, Int64.reduceOfNat, Int32.reduceOfNat, hdl, cutc, Nat.reduceEqDiff, reduceIte, FV, tyC, tyX0, tyX1, tyX2, tyX3, tyX4, tyX5, tyX6, tyX7, tyX8, tyX9, tyX10, Nat.reduceMul, c_le, c_lt, c_eq, c_in, c_cl, c_add, c_rem, c_ofN, Int32.add_zero, Int32.zero_add, c_lt0, c_ge0, c_le0, c_gt0, c_e0, c_m1, c_m1', false_implies, true_implies, implies_true, not_false_eq_true, not_true_eq_false, Nat.not_lt_zero, up_s, up_1, up_m, ff5_pixelsByFours, bb5_pixelsByFours_0, bb5_pixelsByFours_5, bb5_pixelsByFours_28, bb5_pixelsByFours_57, bb5_pixelsByFours_58, bb5_pixelsByFours_83, bb5_pixelsByFours_98, bb5_pixelsByFours_104, bb5_pixelsByFours_110, cl_1, ca_1, cl_3, ca_3, cl_4, ca_4, cl_6, ca_6]
        exact hbad2 e (4 * k) 0 w2 p' s' _ _ _ hfo.symm k1 (by omega) (by omega) (by decide) r2 hF2
  refine entry Γ m5_pixelsByFours rfl _ (Nat.le_of_ble_eq_true rfl) _ _ _ ?_
  refine wp_ok kd5_pixelsByFours 400 0 bb5_pixelsByFours_0 _ _ _ _ _ _ oo5_pixelsByFours_0 ?_
  simp only [List.getElem?_cons_zero, List.getElem?_cons_succ, fv4, Nat.reduceAdd, Nat.reduceSub, wp, pst, stp, LG, lput, ls_tl, two, bc, EL, pad, popN, csum, Option.toList, List.cons_append, List.nil_append, List.set_cons_zero, List.set_cons_succ, List.length_cons, List.length_nil, true_and, and_true, Nat.reduceLT, Nat.reduceLeDiff, Nat.zero_le, Nat.le_refl, RI_i, RI_z0, RI_z1, Int32.reduceOfInt, Int8.reduceOfInt, Int16.reduceOfInt, Int64.reduceOfInt, Int8.toInt32_ofNat, Int16.toInt32_ofNat, Int.reduceNeg, Int32.ofInt_neg, Int8.ofInt_neg, Int16.ofInt_neg, Int32.toInt64_ofNat, Int32.reduceToNatClampNeg, Fin.isValue, Fin.val_one, Fin.val_zero, Fin.val_two, Int64.reduceOfNat, Int32.reduceOfNat, hdl, cutc, Nat.reduceEqDiff, reduceIte, FV, tyC, tyX0, tyX1, tyX2, tyX3, tyX4, tyX5, tyX6, tyX7, tyX8, tyX9, tyX10, Nat.reduceMul, c_le, c_lt, c_eq, c_in, c_cl, c_add, c_rem, c_ofN, Int32.add_zero, Int32.zero_add, c_lt0, c_ge0, c_le0, c_gt0, c_e0, c_m1, c_m1', false_implies, true_implies, implies_true, not_false_eq_true, not_true_eq_false, Nat.not_lt_zero, up_s, up_1, up_m, ff5_pixelsByFours, bb5_pixelsByFours_0, bb5_pixelsByFours_5, bb5_pixelsByFours_28, bb5_pixelsByFours_57, bb5_pixelsByFours_58, bb5_pixelsByFours_83, bb5_pixelsByFours_98, bb5_pixelsByFours_104, bb5_pixelsByFours_110, cl_1, ca_1, cl_3, ca_3, cl_4, ca_4, cl_6, ca_6]
  exact key 9 0 0 p sm w none none none rfl hp hsm (Nat.le_refl _) rfl hr Fr.rf
theorem sp5_pixelsByRuns (hS : SmR w a s) (hv : ∀ v ∈ s, v < 16) (wd sm p : Nat) (hw : wd ≤ 32) (hr : w r = some (rdc (nI p) (nI sm) 0)) (hp0 : 1 ≤ p) (hp : p ≤ s.length) (hsm : sm ≤ 15 * p) (hd : r < a ∨ a + 2 ≤ r) (h1 : ∀ x q sm', rns s wd 501 0 false 0 p sm = .inr (x, q, sm') → q ≤ s.length → sm' ≤ 15 * q → p ≤ q → ∀ w', w' r = some (rdc (nI q) (nI sm') 0) → Fr w w' r 1 → Q (some (.long (lN x))) none w') (h0 : ∀ e, rns s wd 501 0 false 0 p sm = .inl e → 1 ≤ e → e ≤ 8 → ∀ w' p' s' x, w' r = some (rdc p' s' (nI e)) → Fr w w' r 1 → Q (some (.long x)) none w') : Sp Γ m5_pixelsByRuns [.ref r, .ref a, .int (nI wd)] none w Q := by
  generalize hRES : rns s wd 501 0 false 0 p sm = RES at h1 h0
  have b2 : wd < 2147483648 := by omega
  obtain ⟨sf, s1, s2, s3, s4⟩ := id hS
  have f0 : ∀ (w : PW) e, Fr w (up w r e) r 1 := fun w e => Fr.wr (by omega) (by omega)
  have hbad : ∀ (e : Nat) (w1 : PW) (p' s' : Int32) (x : Int64) (bl t : Int32) (j : Nat) (j8 j9 j10 : Option Value), RES = .inl e → 1 ≤ e → e ≤ 8 → j < 1000 → w1 r = some (rdc p' s' (nI e)) → Fr w w1 r 1 → G Γ m5_pixelsByRuns Q (fun _ _ => False) 11 [some (.ref r), some (.ref a), some (.int (nI wd)), some (.long x), none, some (.int bl), some (.int t), some (.int (nI j)), j8, j9, j10] [] none w1 0 0 := by
    intro e w1 p' s' x bl t j j8 j9 j10 he e1 e2 hj hr1 hF
    have b1 : j < 2147483648 := by omega
    have b3 : e < 2147483648 := by omega
    have hq := h0 e he e1 e2 w1 p' s' x hr1 hF
    have hr1' := hr1
    unfold rdc at hr1'
    refine wp_ok (kd_cut 97 kd5_pixelsByRuns) 400 11 bb5_pixelsByRuns_11 _ _ _ _ _ _ oo5_pixelsByRuns_11 ?_
    simp only [List.getElem?_cons_zero, List.getElem?_cons_succ, fv4, Nat.reduceAdd, Nat.reduceSub, wp, pst, stp, LG, lput, ls_tl, two, bc, EL, pad, popN, csum, Option.toList, List.cons_append, List.nil_append, List.set_cons_zero, List.set_cons_succ, List.length_cons, List.length_nil, true_and, and_true, Nat.reduceLT, Nat.reduceLeDiff, Nat.zero_le, Nat.le_refl, RI_i, RI_z0, RI_z1, Int32.reduceOfInt, Int8.reduceOfInt, Int16.reduceOfInt, Int64.reduceOfInt, Int8.toInt32_ofNat, Int16.toInt32_ofNat, Int.reduceNeg, Int32.ofInt_neg, Int8.ofInt_neg, Int16.ofInt_neg, Int32.toInt64_ofNat, Int32.reduceToNatClampNeg, Fin.isValue, Fin.val_one, Fin.val_zero, Fin.val_two, Int64.reduceOfNat, Int32.reduceOfNat, hdl, cutc, Nat.reduceEqDiff, reduceIte, FV, tyC, tyX0, tyX1, tyX2, tyX3, tyX4, tyX5, tyX6, tyX7, tyX8, tyX9, tyX10, Nat.reduceMul, c_le, c_lt, c_eq, c_in, c_cl, c_add, c_rem, c_ofN, Int32.add_zero, Int32.zero_add, c_lt0, c_ge0, c_le0, c_gt0, c_e0, c_m1, c_m1', false_implies, true_implies, implies_true, not_false_eq_true, not_true_eq_false, Nat.not_lt_zero, up_s, up_1, up_m, ff5_pixelsByRuns, bb5_pixelsByRuns_0, bb5_pixelsByRuns_11, bb5_pixelsByRuns_55, bb5_pixelsByRuns_84, bb5_pixelsByRuns_85, bb5_pixelsByRuns_97, bb5_pixelsByRuns_119, bb5_pixelsByRuns_143, bb5_pixelsByRuns_159, bb5_pixelsByRuns_160, bb5_pixelsByRuns_168, cl_1, ca_1, cl_6, ca_6, cl_14, ca_14, cl_15, ca_15, cl_16, ca_16, cl_500, ca_500, hr1', b1, b2, b3]
    refine ⟨fun _ => hq, fun _ => ⟨fun _ => hq, fun _ => ⟨fun _ => hq, fun h => absurd (Classical.not_not.mp h) (by omega)⟩⟩⟩
  have hbad2 : ∀ (e : Nat) (w1 : PW) (p' s' : Int32) (x : Int64) (bl t l : Int32) (j : Nat) (j9 j10 : Option Value), RES = .inl e → 1 ≤ e → e ≤ 8 → j < 900 → w1 r = some (rdc p' s' (nI e)) → Fr w w1 r 1 → G Γ m5_pixelsByRuns Q (fun _ _ => False) 97 [some (.ref r), some (.ref a), some (.int (nI wd)), some (.long x), none, some (.int bl), some (.int t), some (.int (nI j)), some (.int l), j9, j10] [] none w1 0 0 := by
    intro e w1 p' s' x bl t l j j9 j10 he e1 e2 hj hr1 hF
    have b1 : j < 2147483648 := by omega
    have b3 : e < 2147483648 := by omega
    have hg := fun bl' t' => hbad e w1 p' s' x bl' t' (j + 1) (some (.int l)) j9 j10 he e1 e2 (by omega) hr1 hF
    have hr1' := hr1
    unfold rdc at hr1'
    have hne : ¬e = 0 := by omega
    refine wp_ok kd5_pixelsByRuns 400 97 bb5_pixelsByRuns_97 _ _ _ _ _ _ oo5_pixelsByRuns_97 ?_
    simp only [List.getElem?_cons_zero, List.getElem?_cons_succ, fv4, Nat.reduceAdd, Nat.reduceSub, wp, pst, stp, LG, lput, ls_tl, two, bc, EL, pad, popN, csum, Option.toList, List.cons_append, List.nil_append, List.set_cons_zero, List.set_cons_succ, List.length_cons, List.length_nil, true_and, and_true, Nat.reduceLT, Nat.reduceLeDiff, Nat.zero_le, Nat.le_refl, RI_i, RI_z0, RI_z1, Int32.reduceOfInt, Int8.reduceOfInt, Int16.reduceOfInt, Int64.reduceOfInt, Int8.toInt32_ofNat, Int16.toInt32_ofNat, Int.reduceNeg, Int32.ofInt_neg, Int8.ofInt_neg, Int16.ofInt_neg, Int32.toInt64_ofNat, Int32.reduceToNatClampNeg, Fin.isValue, Fin.val_one, Fin.val_zero, Fin.val_two, Int64.reduceOfNat, Int32.reduceOfNat, hdl, cutc, Nat.reduceEqDiff, reduceIte, FV, tyC, tyX0, tyX1, tyX2, tyX3, tyX4, tyX5, tyX6, tyX7, tyX8, tyX9, tyX10, Nat.reduceMul, c_le, c_lt, c_eq, c_in, c_cl, c_add, c_rem, c_ofN, Int32.add_zero, Int32.zero_add, c_lt0, c_ge0, c_le0, c_gt0, c_e0, c_m1, c_m1', false_implies, true_implies, implies_true, not_false_eq_true, not_true_eq_false, Nat.not_lt_zero, up_s, up_1, up_m, ff5_pixelsByRuns, bb5_pixelsByRuns_0, bb5_pixelsByRuns_11, bb5_pixelsByRuns_55, bb5_pixelsByRuns_84, bb5_pixelsByRuns_85, bb5_pixelsByRuns_97, bb5_pixelsByRuns_119, bb5_pixelsByRuns_143, bb5_pixelsByRuns_159, bb5_pixelsByRuns_160, bb5_pixelsByRuns_168, cl_1, ca_1, cl_6, ca_6, cl_14, ca_14, cl_15, ca_15, cl_16, ca_16, cl_500, ca_500, hr1', b1, b2, b3, hne]
    exact ⟨fun _ => hg _ _, fun _ => hg _ _⟩
  have key : ∀ (n t x p1 sm1 j : Nat) (b : Bool) (w1 : PW) (j8 j9 j10 : Option Value), s.length < p1 + n → t ≤ 300 → p1 ≤ s.length → j + 1 ≤ p1 → sm1 ≤ 15 * p1 → p ≤ p1 → rns s wd n t b x p1 sm1 = RES → w1 r = some (rdc (nI p1) (nI sm1) 0) → Fr w w1 r 1 → G Γ m5_pixelsByRuns Q (fun _ _ => False) 11 [some (.ref r), some (.ref a), some (.int (nI wd)), some (.long (lN x)), none, some (.int (bz b)), some (.int (nI t)), some (.int (nI j)), j8, j9, j10] [] none w1 0 0 := by
    intro n
    induction n with
    | zero => intro t x p1 sm1 j b w1 j8 j9 j10 hn ht hp1; omega
    | succ n ih =>
      intro t x p1 sm1 j b w1 j8 j9 j10 hn ht hp1 hj hs1 hpp hfo hr1 hF
      have b1 : t < 2147483648 := by omega
      have b4 : j < 2147483648 := by omega
      simp only [rns] at hfo
      have hr1' := hr1
      unfold rdc at hr1'
      refine wp_ok (kd_cut 97 kd5_pixelsByRuns) 400 11 bb5_pixelsByRuns_11 _ _ _ _ _ _ oo5_pixelsByRuns_11 ?_
      simp only [List.getElem?_cons_zero, List.getElem?_cons_succ, fv4, Nat.reduceAdd, Nat.reduceSub, wp, pst, stp, LG, lput, ls_tl, two, bc, EL, pad, popN, csum, Option.toList, List.cons_append, List.nil_append, List.set_cons_zero, List.set_cons_succ, List.length_cons, List.length_nil, true_and, and_true, Nat.reduceLT, Nat.reduceLeDiff, Nat.zero_le, Nat.le_refl, RI_i, RI_z0, RI_z1, Int32.reduceOfInt, Int8.reduceOfInt, Int16.reduceOfInt, Int64.reduceOfInt, Int8.toInt32_ofNat, Int16.toInt32_ofNat, Int.reduceNeg, Int32.ofInt_neg, Int8.ofInt_neg, Int16.ofInt_neg, Int32.toInt64_ofNat, Int32.reduceToNatClampNeg, Fin.isValue, Fin.val_one, Fin.val_zero, Fin.val_two, Int64.reduceOfNat, Int32.reduceOfNat, hdl, cutc, Nat.reduceEqDiff, reduceIte, FV, tyC, tyX0, tyX1, tyX2, tyX3, tyX4, tyX5, tyX6, tyX7, tyX8, tyX9, tyX10, Nat.reduceMul, c_le, c_lt, c_eq, c_in, c_cl, c_add, c_rem, c_ofN, Int32.add_zero, Int32.zero_add, c_lt0, c_ge0, c_le0, c_gt0, c_e0, c_m1, c_m1', false_implies, true_implies, implies_true, not_false_eq_true, not_true_eq_false, Nat.not_lt_zero, up_s, up_1, up_m, ff5_pixelsByRuns, bb5_pixelsByRuns_0, bb5_pixelsByRuns_11, bb5_pixelsByRuns_55, bb5_pixelsByRuns_84, bb5_pixelsByRuns_85, bb5_pixelsByRuns_97, bb5_pixelsByRuns_119, bb5_pixelsByRuns_143, bb5_pixelsByRuns_159, bb5_pixelsByRuns_160, bb5_pixelsByRuns_168, cl_1, ca_1, cl_6, ca_6, cl_14, ca_14, cl_15, ca_15, cl_16, ca_16, cl_500, ca_500, hr1', b1, b2, b4]
      refine ⟨fun h => absurd h (by omega), fun _ => ⟨fun h => ?_, fun h => ?_⟩⟩
      · rw [if_pos h] at hfo
        exact h1 x p1 sm1 hfo.symm hp1 hs1 hpp w1 hr1 hF
      rw [if_neg h] at hfo
      have hgood : ∀ (l q d : Nat) (w2 : PW) (j9 j10 : Option Value), rn s p1 = .inr (l, q, d) → w2 r = some (rdc (nI q) (nI (sm1 + d)) 0) → Fr w w2 r 1 → G Γ m5_pixelsByRuns Q (fun _ _ => False) 97 [some (.ref r), some (.ref a), some (.int (nI wd)), some (.long (lN x)), none, some (.int (bz b)), some (.int (nI t)), some (.int (nI j)), some (.int (nI l)), j9, j10] [] none w2 0 0 := by
        intro l q d w2 j9 j10 hrn hr2 hF2
        obtain ⟨c1, c2, c3, c4⟩ := rn_inr hv hrn
        rw [hrn] at hfo
        dsimp only at hfo
        have b5 : l < 2147483648 := by omega
        have b6 : wd - t < 2147483648 := by omega
        have e7 : nI wd - nI t = nI (wd - t) := c_subr (by omega)
        have hr2' := hr2
        unfold rdc at hr2'
        refine wp_ok kd5_pixelsByRuns 400 97 bb5_pixelsByRuns_97 _ _ _ _ _ _ oo5_pixelsByRuns_97 ?_
        simp only [List.getElem?_cons_zero, List.getElem?_cons_succ, fv4, Nat.reduceAdd, Nat.reduceSub, wp, pst, stp, LG, lput, ls_tl, two, bc, EL, pad, popN, csum, Option.toList, List.cons_append, List.nil_append, List.set_cons_zero, List.set_cons_succ, List.length_cons, List.length_nil, true_and, and_true, Nat.reduceLT, Nat.reduceLeDiff, Nat.zero_le, Nat.le_refl, RI_i, RI_z0, RI_z1, Int32.reduceOfInt, Int8.reduceOfInt, Int16.reduceOfInt, Int64.reduceOfInt, Int8.toInt32_ofNat, Int16.toInt32_ofNat, Int.reduceNeg, Int32.ofInt_neg, Int8.ofInt_neg, Int16.ofInt_neg, Int32.toInt64_ofNat, Int32.reduceToNatClampNeg, Fin.isValue, Fin.val_one, Fin.val_zero, Fin.val_two, Int64.reduceOfNat, Int32.reduceOfNat, hdl, cutc, Nat.reduceEqDiff, reduceIte, FV, tyC, tyX0, tyX1, tyX2, tyX3, tyX4, tyX5, tyX6, tyX7, tyX8, tyX9, tyX10, Nat.reduceMul, c_le, c_lt, c_eq, c_in, c_cl, c_add, c_rem, c_ofN, Int32.add_zero, Int32.zero_add, c_lt0, c_ge0, c_le0, c_gt0, c_e0, c_m1, c_m1', false_implies, true_implies, implies_true, not_false_eq_true, not_true_eq_false, Nat.not_lt_zero, up_s, up_1, up_m, ff5_pixelsByRuns, bb5_pixelsByRuns_0, bb5_pixelsByRuns_11, bb5_pixelsByRuns_55, bb5_pixelsByRuns_84, bb5_pixelsByRuns_85, bb5_pixelsByRuns_97, bb5_pixelsByRuns_119, bb5_pixelsByRuns_143, bb5_pixelsByRuns_159, bb5_pixelsByRuns_160, bb5_pixelsByRuns_168, cl_1, ca_1, cl_6, ca_6, cl_14, ca_14, cl_15, ca_15, cl_16, ca_16, cl_500, ca_500, hr2', b1, b2, b4, b5, b6, e7]
        refine ⟨fun hl => ?_, fun hl => ⟨fun _ => ?_, fun h => absurd h (by decide)⟩⟩
        · rw [if_neg (by omega)] at hfo
          have e8 : lN x ||| ((1 : Int64) <<< ((nI l).toInt64 &&& 63) - 1) <<< ((nI t).toInt64 &&& 63) = lN (x ||| (2 ^ l - 1) * 2 ^ t) := by
            rw [mask1 (by omega), wb_shl _ (show t < 64 by omega), fb_orL]
          rw [e8]
          cases b with
          | false => exact ⟨fun _ => ⟨fun h => absurd rfl h, fun _ => ih (t + l) x q (sm1 + d) (j + 1) true w2 _ _ _ (by omega) (by omega) c3 (by omega) (by omega) (by omega) hfo hr2 hF2⟩, fun h => absurd rfl h⟩
          | true => exact ⟨fun h => absurd h (by decide), fun _ => ⟨fun _ => ih (t + l) _ q (sm1 + d) (j + 1) false w2 _ _ _ (by omega) (by omega) c3 (by omega) (by omega) (by omega) hfo hr2 hF2, fun h => absurd h (by decide)⟩⟩
        · rw [if_pos (by omega)] at hfo
          have hg := fun bl' => hbad 6 _ _ _ (lN x) bl' (nI (t + l)) (j + 1) (some (.int (nI l))) j9 j10 hfo.symm (by decide) (by decide) (by omega) (up_s w2 r (rdc (nI q) (nI (sm1 + d)) 6)) (hF2.tr (f0 _ _))
          exact ⟨fun _ => hg _, fun _ => hg _⟩
      unfold rn at hfo hgood
      refine sp5_nextOfKernel (hS.fr hF (by omega)) hv sm1 p1 hr1 (by omega) (by omega) hd (fun v q hk1 w2 r2 f2 => ?_) (fun e hk1 w2 p' s' r2 f2 => ?_)
      · rw [hk1] at hfo hgood
        dsimp only at hfo hgood
        obtain ⟨k1, k2, k3⟩ := kn_inr hv hk1
        have hF2 := hF.tr f2
        have b5 : v < 2147483648 := by omega
        have r2' := r2
        unfold rdc at r2'
        unfold holdL
        simp only [List.getElem?_cons_zero, List.getElem?_cons_succ, fv4, Nat.reduceAdd, Nat.reduceSub, wp, pst, stp, LG, lput, ls_tl, two, bc, EL, pad, popN, csum, Option.toList, List.cons_append, List.nil_append, List.set_cons_zero, List.set_cons_succ, List.length_cons, List.length_nil, true_and, and_true, Nat.reduceLT, Nat.reduceLeDiff, Nat.zero_le, Nat.le_refl, RI_i, RI_z0, RI_z1, Int32.reduceOfInt, Int8.reduceOfInt, Int16.reduceOfInt, Int64.reduceOfInt, Int8.toInt32_ofNat, Int16.toInt32_ofNat, Int.reduceNeg, Int32.ofInt_neg, Int8.ofInt_neg, Int16.ofInt_neg, Int32.toInt64_ofNat, Int32.reduceToNatClampNeg, Fin.isValue, Fin.val_one, Fin.val_zero, Fin.val_two, Int64.reduceOfNat, Int32.reduceOfNat, hdl, cutc, Nat.reduceEqDiff, reduceIte, FV, tyC, tyX0, tyX1, tyX2, tyX3, tyX4, tyX5, tyX6, tyX7, tyX8, tyX9, tyX10, Nat.reduceMul, c_le, c_lt, c_eq, c_in, c_cl, c_add, c_rem, c_ofN, Int32.add_zero, Int32.zero_add, c_lt0, c_ge0, c_le0, c_gt0, c_e0, c_m1, c_m1', false_implies, true_implies, implies_true, not_false_eq_true, not_true_eq_false, Nat.not_lt_zero, up_s, up_1, up_m, ff5_pixelsByRuns, bb5_pixelsByRuns_0, bb5_pixelsByRuns_11, bb5_pixelsByRuns_55, bb5_pixelsByRuns_84, bb5_pixelsByRuns_85, bb5_pixelsByRuns_97, bb5_pixelsByRuns_119, bb5_pixelsByRuns_143, bb5_pixelsByRuns_159, bb5_pixelsByRuns_160, bb5_pixelsByRuns_168, cl_1, ca_1, cl_6, ca_6, cl_14, ca_14, cl_15, ca_15, cl_16, ca_16, cl_500, ca_500, r2', b5]
        refine ⟨fun n15 => ⟨fun n14 => ?_, fun n14 => ?_⟩, fun n15 => ?_⟩
        · rw [if_neg n15, if_neg n14] at hgood
          exact hgood v q v w2 j9 j10 rfl r2 hF2
        · rw [if_neg n15, if_pos (Classical.not_not.mp n14)] at hgood hfo
          refine sp5_nextOfKernel ((hS.fr hF (by omega)).fr f2 (by omega)) hv (sm1 + v) q r2 (by omega) (by omega) hd (fun v2 q2 hk2 w3 r3 f3 => ?_) (fun e hk2 w3 p' s' r3 f3 => ?_)
          · rw [hk2] at hfo hgood
            dsimp only at hfo hgood
            obtain ⟨g1, g2, g3⟩ := kn_inr hv hk2
            have hF3 := hF2.tr f3
            have b6 : v2 < 2147483648 := by omega
            have r3' := r3
            unfold rdc at r3'
            unfold holdL
            simp only [List.getElem?_cons_zero, List.getElem?_cons_succ, fv4, Nat.reduceAdd, Nat.reduceSub, wp, pst, stp, LG, lput, ls_tl, two, bc, EL, pad, popN, csum, Option.toList, List.cons_append, List.nil_append, List.set_cons_zero, List.set_cons_succ, List.length_cons, List.length_nil, true_and, and_true, Nat.reduceLT, Nat.reduceLeDiff, Nat.zero_le, Nat.le_refl, RI_i, RI_z0, RI_z1, Int32.reduceOfInt, Int8.reduceOfInt, Int16.reduceOfInt, Int64.reduceOfInt, Int8.toInt32_ofNat, Int16.toInt32_ofNat, Int.reduceNeg, Int32.ofInt_neg, Int8.ofInt_neg, Int16.ofInt_neg, Int32.toInt64_ofNat, Int32.reduceToNatClampNeg, Fin.isValue, Fin.val_one, Fin.val_zero, Fin.val_two, Int64.reduceOfNat, Int32.reduceOfNat, hdl, cutc, Nat.reduceEqDiff, reduceIte, FV, tyC, tyX0, tyX1, tyX2, tyX3, tyX4, tyX5, tyX6, tyX7, tyX8, tyX9, tyX10, Nat.reduceMul, c_le, c_lt, c_eq, c_in, c_cl, c_add, c_rem, c_ofN, Int32.add_zero, Int32.zero_add, c_lt0, c_ge0, c_le0, c_gt0, c_e0, c_m1, c_m1', false_implies, true_implies, implies_true, not_false_eq_true, not_true_eq_false, Nat.not_lt_zero, up_s, up_1, up_m, ff5_pixelsByRuns, bb5_pixelsByRuns_0, bb5_pixelsByRuns_11, bb5_pixelsByRuns_55, bb5_pixelsByRuns_84, bb5_pixelsByRuns_85, bb5_pixelsByRuns_97, bb5_pixelsByRuns_119, bb5_pixelsByRuns_143, bb5_pixelsByRuns_159, bb5_pixelsByRuns_160, bb5_pixelsByRuns_168, cl_1, ca_1, cl_6, ca_6, cl_14, ca_14, cl_15, ca_15, cl_16, ca_16, cl_500, ca_500, r3', b6]
            refine sp5_nextOfKernel (hS.fr hF3 (by omega)) hv (sm1 + v + v2) q2 r3 (by omega) (by omega) hd (fun v3 q3 hk3 w4 r4 f4 => ?_) (fun e hk3 w4 p' s' r4 f4 => ?_)
            · rw [hk3] at hgood
              dsimp only at hgood
              have hF4 := hF3.tr f4
              unfold holdL
              simp only [List.getElem?_cons_zero, List.getElem?_cons_succ, fv4, Nat.reduceAdd, Nat.reduceSub, wp, pst, stp, LG, lput, ls_tl, two, bc, EL, pad, popN, csum, Option.toList, List.cons_append, List.nil_append, List.set_cons_zero, List.set_cons_succ, List.length_cons, List.length_nil, true_and, and_true, Nat.reduceLT, Nat.reduceLeDiff, Nat.zero_le, Nat.le_refl, RI_i, RI_z0, RI_z1, Int32.reduceOfInt, Int8.reduceOfInt, Int16.reduceOfInt, Int64.reduceOfInt, Int8.toInt32_ofNat, Int16.toInt32_ofNat, Int.reduceNeg, Int32.ofInt_neg, Int8.ofInt_neg, Int16.ofInt_neg, Int32.toInt64_ofNat, Int32.reduceToNatClampNeg, Fin.isValue, Fin.val_one, Fin.val_zero, Fin.val_two, Int64.reduceOfNat, Int32.reduceOfNat, hdl, cutc, Nat.reduceEqDiff, reduceIte, FV, tyC, tyX0, tyX1, tyX2, tyX3, tyX4, tyX5, tyX6, tyX7, tyX8, tyX9, tyX10, Nat.reduceMul, c_le, c_lt, c_eq, c_in, c_cl, c_add, c_rem, c_ofN, Int32.add_zero, Int32.zero_add, c_lt0, c_ge0, c_le0, c_gt0, c_e0, c_m1, c_m1', false_implies, true_implies, implies_true, not_false_eq_true, not_true_eq_false, Nat.not_lt_zero, up_s, up_1, up_m, ff5_pixelsByRuns, bb5_pixelsByRuns_0, bb5_pixelsByRuns_11, bb5_pixelsByRuns_55, bb5_pixelsByRuns_84, bb5_pixelsByRuns_85, bb5_pixelsByRuns_97, bb5_pixelsByRuns_119, bb5_pixelsByRuns_143, bb5_pixelsByRuns_159, bb5_pixelsByRuns_160, bb5_pixelsByRuns_168, cl_1, ca_1, cl_6, ca_6, cl_14, ca_14, cl_15, ca_15, cl_16, ca_16, cl_500, ca_500]
              exact hgood _ q3 (14 + v2 + v3) w4 _ _ rfl (by rw [show sm1 + (14 + v2 + v3) = sm1 + v + v2 + v3 by omega]; exact r4) hF4
            · rw [hk3] at hfo
              dsimp only at hfo
              obtain ⟨k1, k2⟩ := kn_inl hk3
              unfold holdL
              simp only [List.getElem?_cons_zero, List.getElem?_cons_succ, fv4, Nat.reduceAdd, Nat.reduceSub, wp, pst, stp, LG, lput, ls_tl, two, bc, EL, pad, popN, csum, Option.toList, List.cons_append, List.nil_append, List.set_cons_zero, List.set_cons_succ, List.length_cons, List.length_nil, true_and, and_true, Nat.reduceLT, Nat.reduceLeDiff, Nat.zero_le, Nat.le_refl, RI_i, RI_z0, RI_z1, Int32.reduceOfInt, Int8.reduceOfInt, Int16.reduceOfInt, Int64.reduceOfInt, Int8.toInt32_ofNat, Int16.toInt32_ofNat, Int.reduceNeg, Int32.ofInt_neg, Int8.ofInt_neg, Int16.ofInt_neg, Int32.toInt64_ofNat, Int32.reduceToNatClampNeg, Fin.isValue, Fin.val_one, Fin.val_zero, Fin.val_two, Int64.reduceOfNat, Int32.reduceOfNat, hdl, cutc, Nat.reduceEqDiff, reduceIte, FV, tyC, tyX0, tyX1, tyX2, tyX3, tyX4, tyX5, tyX6, tyX7, tyX8, tyX9, tyX10, Nat.reduceMul, c_le, c_lt, c_eq, c_in, c_cl, c_add, c_rem, c_ofN, Int32.add_zero, Int32.zero_add, c_lt0, c_ge0, c_le0, c_gt0, c_e0, c_m1, c_m1', false_implies, true_implies, implies_true, not_false_eq_true, not_true_eq_false, Nat.not_lt_zero, up_s, up_1, up_m, ff5_pixelsByRuns, bb5_pixelsByRuns_0, bb5_pixelsByRuns_11, bb5_pixelsByRuns_55, bb5_pixelsByRuns_84, bb5_pixelsByRuns_85, bb5_pixelsByRuns_97, bb5_pixelsByRuns_119, bb5_pixelsByRuns_143, bb5_pixelsByRuns_159, bb5_pixelsByRuns_160, bb5_pixelsByRuns_168, cl_1, ca_1, cl_6, ca_6, cl_14, ca_14, cl_15, ca_15, cl_16, ca_16, cl_500, ca_500]
              exact hbad2 e w4 p' s' _ _ _ _ _ _ _ hfo.symm k1 (by omega) (by omega) r4 (hF3.tr f4)
          · rw [hk2] at hfo
            dsimp only at hfo
            obtain ⟨k1, k2⟩ := kn_inl hk2
            have b3 : e < 2147483648 := by omega
            have r3' := r3
            unfold rdc at r3'
            unfold holdL
            simp only [List.getElem?_cons_zero, List.getElem?_cons_succ, fv4, Nat.reduceAdd, Nat.reduceSub, wp, pst, stp, LG, lput, ls_tl, two, bc, EL, pad, popN, csum, Option.toList, List.cons_append, List.nil_append, List.set_cons_zero, List.set_cons_succ, List.length_cons, List.length_nil, true_and, and_true, Nat.reduceLT, Nat.reduceLeDiff, Nat.zero_le, Nat.le_refl, RI_i, RI_z0, RI_z1, Int32.reduceOfInt, Int8.reduceOfInt, Int16.reduceOfInt, Int64.reduceOfInt, Int8.toInt32_ofNat, Int16.toInt32_ofNat, Int.reduceNeg, Int32.ofInt_neg, Int8.ofInt_neg, Int16.ofInt_neg, Int32.toInt64_ofNat, Int32.reduceToNatClampNeg, Fin.isValue, Fin.val_one, Fin.val_zero, Fin.val_two, Int64.reduceOfNat, Int32.reduceOfNat, hdl, cutc, Nat.reduceEqDiff, reduceIte, FV, tyC, tyX0, tyX1, tyX2, tyX3, tyX4, tyX5, tyX6, tyX7, tyX8, tyX9, tyX10, Nat.reduceMul, c_le, c_lt, c_eq, c_in, c_cl, c_add, c_rem, c_ofN, Int32.add_zero, Int32.zero_add, c_lt0, c_ge0, c_le0, c_gt0, c_e0, c_m1, c_m1', false_implies, true_implies, implies_true, not_false_eq_true, not_true_eq_false, Nat.not_lt_zero, up_s, up_1, up_m, ff5_pixelsByRuns, bb5_pixelsByRuns_0, bb5_pixelsByRuns_11, bb5_pixelsByRuns_55, bb5_pixelsByRuns_84, bb5_pixelsByRuns_85, bb5_pixelsByRuns_97, bb5_pixelsByRuns_119, bb5_pixelsByRuns_143, bb5_pixelsByRuns_159, bb5_pixelsByRuns_160, bb5_pixelsByRuns_168, cl_1, ca_1, cl_6, ca_6, cl_14, ca_14, cl_15, ca_15, cl_16, ca_16, cl_500, ca_500, r3', b3]
            exact ⟨fun _ => hbad2 e w3 p' s' _ _ _ _ _ _ _ hfo.symm k1 (by omega) (by omega) r3 (hF2.tr f3), fun h => absurd (Classical.not_not.mp h) (by omega)⟩
        · rw [if_pos (Classical.not_not.mp n15)] at hfo
          exact hbad2 6 _ _ _ _ _ _ _ _ _ _ hfo.symm (by decide) (by decide) (by omega) (up_s _ _ _) (hF2.tr (f0 _ _))
      · rw [hk1] at hfo hgood
        dsimp only at hfo hgood
        obtain ⟨k1, k2⟩ := kn_inl hk1
        have hF2 := hF.tr f2
        have b3 : e < 2147483648 := by omega
        have r2' := r2
        unfold rdc at r2'
        unfold holdL
        simp only [List.getElem?_cons_zero, List.getElem?_cons_succ, fv4, Nat.reduceAdd, Nat.reduceSub, wp, pst, stp, LG, lput, ls_tl, two, bc, EL, pad, popN, csum, Option.toList, List.cons_append, List.nil_append, List.set_cons_zero, List.set_cons_succ, List.length_cons, List.length_nil, true_and, and_true, Nat.reduceLT, Nat.reduceLeDiff, Nat.zero_le, Nat.le_refl, RI_i, RI_z0, RI_z1, Int32.reduceOfInt, Int8.reduceOfInt, Int16.reduceOfInt, Int64.reduceOfInt, Int8.toInt32_ofNat, Int16.toInt32_ofNat, Int.reduceNeg, Int32.ofInt_neg, Int8.ofInt_neg, Int16.ofInt_neg, Int32.toInt64_ofNat, Int32.reduceToNatClampNeg, Fin.isValue, Fin.val_one, Fin.val_zero, Fin.val_two, Int64.reduceOfNat, Int32.reduceOfNat, hdl, cutc, Nat.reduceEqDiff, reduceIte, FV, tyC, tyX0, tyX1, tyX2, tyX3, tyX4, tyX5, tyX6, tyX7, tyX8, tyX9, tyX10, Nat.reduceMul, c_le, c_lt, c_eq, c_in, c_cl, c_add, c_rem, c_ofN, Int32.add_zero, Int32.zero_add, c_lt0, c_ge0, c_le0, c_gt0, c_e0, c_m1, c_m1', false_implies, true_implies, implies_true, not_false_eq_true, not_true_eq_false, Nat.not_lt_zero, up_s, up_1, up_m, ff5_pixelsByRuns, bb5_pixelsByRuns_0, bb5_pixelsByRuns_11, bb5_pixelsByRuns_55, bb5_pixelsByRuns_84, bb5_pixelsByRuns_85, bb5_pixelsByRuns_97, bb5_pixelsByRuns_119, bb5_pixelsByRuns_143, bb5_pixelsByRuns_159, bb5_pixelsByRuns_160, bb5_pixelsByRuns_168, cl_1, ca_1, cl_6, ca_6, cl_14, ca_14, cl_15, ca_15, cl_16, ca_16, cl_500, ca_500, r2', b3]
        exact ⟨fun _ => ⟨fun _ => hbad2 e w2 p' s' _ _ _ _ _ _ _ hfo.symm k1 (by omega) (by omega) r2 hF2, fun h => absurd h (by decide)⟩, fun h => absurd h (by decide)⟩
  refine entry Γ m5_pixelsByRuns rfl _ (Nat.le_of_ble_eq_true rfl) _ _ _ ?_
  refine wp_ok kd5_pixelsByRuns 400 0 bb5_pixelsByRuns_0 _ _ _ _ _ _ oo5_pixelsByRuns_0 ?_
  simp only [List.getElem?_cons_zero, List.getElem?_cons_succ, fv4, Nat.reduceAdd, Nat.reduceSub, wp, pst, stp, LG, lput, ls_tl, two, bc, EL, pad, popN, csum, Option.toList, List.cons_append, List.nil_append, List.set_cons_zero, List.set_cons_succ, List.length_cons, List.length_nil, true_and, and_true, Nat.reduceLT, Nat.reduceLeDiff, Nat.zero_le, Nat.le_refl, RI_i, RI_z0, RI_z1, Int32.reduceOfInt, Int8.reduceOfInt, Int16.reduceOfInt, Int64.reduceOfInt, Int8.toInt32_ofNat, Int16.toInt32_ofNat, Int.reduceNeg, Int32.ofInt_neg, Int8.ofInt_neg, Int16.ofInt_neg, Int32.toInt64_ofNat, Int32.reduceToNatClampNeg, Fin.isValue, Fin.val_one, Fin.val_zero, Fin.val_two, Int64.reduceOfNat, Int32.reduceOfNat, hdl, cutc, Nat.reduceEqDiff, reduceIte, FV, tyC, tyX0, tyX1, tyX2, tyX3, tyX4, tyX5, tyX6, tyX7, tyX8, tyX9, tyX10, Nat.reduceMul, c_le, c_lt, c_eq, c_in, c_cl, c_add, c_rem, c_ofN, Int32.add_zero, Int32.zero_add, c_lt0, c_ge0, c_le0, c_gt0, c_e0, c_m1, c_m1', false_implies, true_implies, implies_true, not_false_eq_true, not_true_eq_false, Nat.not_lt_zero, up_s, up_1, up_m, ff5_pixelsByRuns, bb5_pixelsByRuns_0, bb5_pixelsByRuns_11, bb5_pixelsByRuns_55, bb5_pixelsByRuns_84, bb5_pixelsByRuns_85, bb5_pixelsByRuns_97, bb5_pixelsByRuns_119, bb5_pixelsByRuns_143, bb5_pixelsByRuns_159, bb5_pixelsByRuns_160, bb5_pixelsByRuns_168, cl_1, ca_1, cl_6, ca_6, cl_14, ca_14, cl_15, ca_15, cl_16, ca_16, cl_500, ca_500]
  exact key 501 0 0 p sm 0 false w none none none (by omega) (by decide) hp (by omega) hsm (Nat.le_refl _) hRES hr Fr.rf
end READER

/-! THE MODEL'S CONSTRUCTOR -/
theorem dfl_10 : dfl 10 = [.int 0, .null, .null, .null, .int 0, .null, .int 0, .null, .int 0, .int 0, .int 0, .null, .int 0, .null, .int 0, .null, .int 0, .int 0, .int 0, .int 0, .int 0] := rfl
theorem mw_of {w' : PW} {m : Nat} {th sm hs ln at_ iw rm rn cm su pl wy px : Int32} {fs fa ft fn fx fr fu fc : Nat → Int32}
    (e0 : w' m = some (.inr (10, [.int th, .ref (m + 1), .ref (m + 2), .ref (m + 3), .int sm, .ref (m + 4), .int hs, .ref (m + 5), .int ln, .int at_, .int iw, .ref (m + 6), .int rm, .ref (m + 7), .int rn, .ref (m + 8), .int cm, .int su, .int pl, .int wy, .int px])))
    (e1 : w' (m + 1) = some (.inl (0, 568, .inl fs))) (e2 : w' (m + 2) = some (.inl (0, 568, .inl fa))) (e3 : w' (m + 3) = some (.inl (0, 2840, .inl ft))) (e4 : w' (m + 4) = some (.inl (0, 568, .inl fn))) (e5 : w' (m + 5) = some (.inl (0, 60, .inl fx))) (e6 : w' (m + 6) = some (.inl (0, 96, .inl fr))) (e7 : w' (m + 7) = some (.inl (0, 34, .inl fu))) (e8 : w' (m + 8) = some (.inl (0, 128, .inl fc))) :
    w' = (mw w' m th sm hs ln at_ iw rm rn cm su pl wy px fs fa ft fn fx fr fu fc) := by
  funext b
  by_cases h : b < m ∨ m + 9 ≤ b
  · rw [mw_out _ _ _ _ _ _ _ _ _ _ _ _ _ _ _ _ _ _ _ _ _ _ _ h]
  · rcases (show b = m ∨ b = m + 1 ∨ b = m + 2 ∨ b = m + 3 ∨ b = m + 4 ∨ b = m + 5 ∨ b = m + 6 ∨ b = m + 7 ∨ b = m + 8 by omega) with rfl | rfl | rfl | rfl | rfl | rfl | rfl | rfl | rfl
    · rw [mw_0, e0]
    · rw [mw_1, e1]
    · rw [mw_2, e2]
    · rw [mw_3, e3]
    · rw [mw_4, e4]
    · rw [mw_5, e5]
    · rw [mw_6, e6]
    · rw [mw_7, e7]
    · rw [mw_8, e8]
theorem sp10_init {Γ : Amb} {w : PW} {Q : Option Value → Option Nat → PW → Prop} {m : Nat} (h1 : w m = some (.inr (10, dfl 10))) (hQ : ∀ w', MU w' m 0 U0 → Fr w w' m 9 → Q none (some (m + 9)) w') : Sp Γ m10_init [.ref m] (some (m + 1)) w Q := by
  rw [dfl_10] at h1
  have q2 : ∀ (w : PW) (e : va_E), up w (m + 2) e m = w m := fun w e => up_n _ _ _ _ (by omega)
  have q3 : ∀ (w : PW) (e : va_E), up w (m + 3) e m = w m := fun w e => up_n _ _ _ _ (by omega)
  have q4 : ∀ (w : PW) (e : va_E), up w (m + 4) e m = w m := fun w e => up_n _ _ _ _ (by omega)
  have q5 : ∀ (w : PW) (e : va_E), up w (m + 5) e m = w m := fun w e => up_n _ _ _ _ (by omega)
  have q6 : ∀ (w : PW) (e : va_E), up w (m + 6) e m = w m := fun w e => up_n _ _ _ _ (by omega)
  have q7 : ∀ (w : PW) (e : va_E), up w (m + 7) e m = w m := fun w e => up_n _ _ _ _ (by omega)
  have q8 : ∀ (w : PW) (e : va_E), up w (m + 8) e m = w m := fun w e => up_n _ _ _ _ (by omega)
  have r2 : ∀ (w : PW) (e : va_E), up w (m + 2) e (m + 1) = w (m + 1) := fun w e => up_n _ _ _ _ (by omega)
  have r3 : ∀ (w : PW) (e : va_E), up w (m + 3) e (m + 1) = w (m + 1) := fun w e => up_n _ _ _ _ (by omega)
  have r4 : ∀ (w : PW) (e : va_E), up w (m + 4) e (m + 1) = w (m + 1) := fun w e => up_n _ _ _ _ (by omega)
  have r5 : ∀ (w : PW) (e : va_E), up w (m + 5) e (m + 1) = w (m + 1) := fun w e => up_n _ _ _ _ (by omega)
  have r6 : ∀ (w : PW) (e : va_E), up w (m + 6) e (m + 1) = w (m + 1) := fun w e => up_n _ _ _ _ (by omega)
  have r7 : ∀ (w : PW) (e : va_E), up w (m + 7) e (m + 1) = w (m + 1) := fun w e => up_n _ _ _ _ (by omega)
  have r8 : ∀ (w : PW) (e : va_E), up w (m + 8) e (m + 1) = w (m + 1) := fun w e => up_n _ _ _ _ (by omega)
  refine entry Γ m10_init rfl _ (Nat.le_of_ble_eq_true rfl) _ _ _ ?_
  refine wp_ok kd10_init 400 0 bb10_init_0 _ _ _ _ _ _ oo10_init_0 ?_
  simp only [List.getElem?_cons_zero, List.getElem?_cons_succ, fv4, Nat.reduceAdd, Nat.reduceSub, wp, pst, stp, LG, lput, ls_tl, two, bc, EL, pad, popN, csum, Option.toList, List.cons_append, List.nil_append, List.set_cons_zero, List.set_cons_succ, List.length_cons, List.length_nil, true_and, and_true, Nat.reduceLT, Nat.reduceLeDiff, Nat.zero_le, Nat.le_refl, RI_i, RI_z0, RI_z1, Int32.reduceOfInt, Int8.reduceOfInt, Int16.reduceOfInt, Int64.reduceOfInt, Int8.toInt32_ofNat, Int16.toInt32_ofNat, Int.reduceNeg, Int32.ofInt_neg, Int8.ofInt_neg, Int16.ofInt_neg, Int32.toInt64_ofNat, Int32.reduceToNatClampNeg, Fin.isValue, Fin.val_one, Fin.val_zero, Fin.val_two, Int64.reduceOfNat, Int32.reduceOfNat, hdl, cutc, Nat.reduceEqDiff, reduceIte, FV, tyC, tyX0, tyX1, tyX2, tyX3, tyX4, tyX5, tyX6, tyX7, tyX8, tyX9, tyX10, Nat.reduceMul, c_le, c_lt, c_eq, c_in, c_cl, c_add, c_rem, c_ofN, Int32.add_zero, Int32.zero_add, c_lt0, c_ge0, c_le0, c_gt0, c_e0, c_m1, c_m1', false_implies, true_implies, implies_true, not_false_eq_true, not_true_eq_false, Nat.not_lt_zero, up_s, up_1, up_m, ff10_init, bb10_init_0, cl_1, ca_1, cl_3, ca_3, cl_6, ca_6, cl_24, ca_24, cl_34, ca_34, cl_60, ca_60, cl_96, ca_96, cl_128, ca_128, cl_568, ca_568, cl_2840, ca_2840, mw_0, mw_1, mw_2, mw_3, mw_4, mw_5, mw_6, mw_7, mw_8, mu_0, mu_1, mu_2, mu_3, mu_4, mu_5, mu_6, mu_7, mu_8, vi_0, vi_1, vi_2, vi_3, vi_4, vi_5, vi_6, h1, nar_0, up_u, Int32.reduceLT, Nat.add_assoc, q2, q3, q4, q5, q6, q7, q8, r2, r3, r4, r5, r6, r7, r8]
  refine hQ _ ?_ (fun b hb => ?_)
  · refine ⟨0, 0, 0, 0, 0, 0, 0, 0, 0, upd (upd (upd (fun _ => 0) 0 24) 1 3) 6 (-1), fun _ => 0, fun _ => 0, fun _ => 0, fun _ => 0, fun _ => 0, fun _ => 0, fun _ => 0, mw_of ?_ ?_ ?_ ?_ ?_ ?_ ?_ ?_ ?_, ?_, (fun k t hk => nomatch hk), (fun n hn => nomatch hn), IA_nil _⟩
    all_goals try (simp [up]; try decide)
    exact ⟨rfl, rfl, ⟨rfl, fun j hj => absurd hj (Nat.not_lt_zero j)⟩, ⟨rfl, fun j hj => absurd hj (Nat.not_lt_zero j)⟩, ⟨⟨0, rfl, by decide, fun j _ => by rw [R0_get]; simp⟩, fun j p _ h => by rw [R0_get] at h; exact absurd h (by simp)⟩, ⟨rfl, fun k hk => absurd hk (Nat.not_lt_zero k)⟩, rfl⟩
  · have n0 : b ≠ m := by omega
    have n1 : b ≠ m + 1 := by omega
    have n2 : b ≠ m + 2 := by omega
    have n3 : b ≠ m + 3 := by omega
    have n4 : b ≠ m + 4 := by omega
    have n5 : b ≠ m + 5 := by omega
    have n6 : b ≠ m + 6 := by omega
    have n7 : b ≠ m + 7 := by omega
    have n8 : b ≠ m + 8 := by omega
    simp [up, n0, n1, n2, n3, n4, n5, n6, n7, n8]

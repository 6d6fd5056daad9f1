/-! THE MODEL READS A STREAM -/
theorem mfr_skip {s : List Nat} {p : Nat} (h : ¬mkr s p) : mfr s s.length p = mfr s s.length (p + 1) := by
  by_cases he : ∃ i, i < s.length ∧ (p + 1 ≤ i ∧ mkr s i)
  · obtain ⟨i, h1, ⟨h2, h3⟩, h4⟩ := @fb_first (fun i => p + 1 ≤ i ∧ mkr s i) (fun _ => Classical.propDecidable _) s.length he
    have hno : ∀ q, p + 1 ≤ q → q < i → ¬mkr s q := fun q a b c => h4 q b ⟨a, c⟩
    rw [mfr_some s s.length (p + 1) i h2 (by omega) h3 hno, mfr_some s s.length p i (by omega) (by omega) h3 (fun q a b => by
      by_cases hq : q = p
      · rw [hq]; exact h
      · exact hno q (by omega) b)]
  · have hno : ∀ q, p + 1 ≤ q → ¬mkr s q := by
      intro q a c
      by_cases hq : q < s.length
      · exact he ⟨q, hq, a, c⟩
      · have := c.1
        rw [getD_none (by omega)] at this
        exact absurd this (by simp)
    rw [mfr_none s _ _ hno, mfr_none s _ _ (fun q a => by
      by_cases hq : q = p
      · rw [hq]; exact h
      · exact hno q (by omega))]
theorem rdg_end {s : List Nat} {wd n p : Nat} {R : List (Option Nat)} {E : List (Nat × Nat)} (hp : s.length ≤ p) : rdg s wd n p R E = (R, E) := by
  cases n with
  | zero => rfl
  | succ n =>
    simp only [rdg]
    rw [mfr_none s _ _ (fun q a c => by
      have := c.1
      rw [getD_none (by omega)] at this
      exact absurd this (by simp))]
theorem rns_mono (s : List Nat) (hv : ∀ v ∈ s, v < 16) (wd : Nat) : ∀ n t b x p sm y q sm', rns s wd n t b x p sm = .inr (y, q, sm') → p ≤ q := by
  intro n
  induction n with
  | zero => intro t b x p sm y q sm' h; simp only [rns, Sum.inr.injEq, Prod.mk.injEq] at h; omega
  | succ n ih =>
    intro t b x p sm y q sm' h
    simp only [rns] at h
    split at h
    · simp only [Sum.inr.injEq, Prod.mk.injEq] at h; omega
    · split at h
      · exact absurd h (by simp)
      · rename_i l q2 d hr
        split at h
        · exact absurd h (by simp)
        · obtain ⟨a1, a2, a3, a4⟩ := rn_inr hv hr
          have := ih _ _ _ _ _ _ _ _ h
          omega
theorem fos_mono (s : List Nat) (hv : ∀ v ∈ s, v < 16) (wd : Nat) : ∀ n f x p sm y q sm', fos s wd n f x p sm = .inr (y, q, sm') → p ≤ q := by
  intro n
  induction n with
  | zero => intro f x p sm y q sm' h; simp only [fos, Sum.inr.injEq, Prod.mk.injEq] at h; omega
  | succ n ih =>
    intro f x p sm y q sm' h
    simp only [fos] at h
    split at h
    · simp only [Sum.inr.injEq, Prod.mk.injEq] at h; omega
    · split at h
      · exact absurd h (by simp)
      · rename_i v q2 hk
        split at h
        · exact absurd h (by simp)
        · obtain ⟨a1, a2, a3⟩ := kn_inr hv hk
          have := ih _ _ _ _ _ _ _ h
          omega
theorem rcd_q {s : List Nat} (hv : ∀ v ∈ s, v < 16) {wd p : Nat} {R : List (Option Nat)} {n x q : Nat} (h : rcd s wd R p = .inr (n, x, q)) (hp : p ≤ s.length) : n < 10 ∧ p < q ∧ q ≤ s.length := by
  unfold rcd at h
  cases hs1 : s[p]? with
  | none => rw [hs1] at h; exact absurd h (by simp)
  | some a =>
    have hp1 : p < s.length := by
      by_cases c : p < s.length
      · exact c
      · rw [getD_none (by omega)] at hs1; exact absurd hs1 (by simp)
    rw [hs1] at h
    dsimp only at h
    split at h
    · exact absurd h (by simp)
    · rename_i h10
      cases hs2 : s[p + 1]? with
      | none => rw [hs2] at h; exact absurd h (by simp)
      | some b =>
        have hp2 : p + 1 < s.length := by
          by_cases c : p + 1 < s.length
          · exact c
          · rw [getD_none (by omega)] at hs2; exact absurd hs2 (by simp)
        rw [hs2] at h
        dsimp only at h
        split at h
        · exact absurd h (by simp)
        · split at h
          · exact absurd h (by simp)
          · unfold rend at h
            split at h
            · exact absurd h (by simp)
            · rename_i y q' sm hz
              have hq' : p + 2 ≤ q' ∧ q' ≤ s.length := by
                split at hz
                · have := fos_inr s hv wd _ _ _ _ _ _ _ _ hz (by omega)
                  have h3 := fos_mono s hv wd _ _ _ _ _ _ _ _ hz
                  omega
                · have := rns_inr s hv wd _ _ _ _ _ _ _ _ _ hz (by omega)
                  have h3 := rns_mono s hv wd _ _ _ _ _ _ _ _ _ hz
                  omega
              cases hs3 : s[q']? with
              | none => rw [hs3] at h; exact absurd h (by simp)
              | some c =>
                have hp3 : q' < s.length := by
                  by_cases c : q' < s.length
                  · exact c
                  · rw [getD_none (by omega)] at hs3; exact absurd hs3 (by simp)
                rw [hs3] at h
                dsimp only at h
                split at h
                · simp only [Sum.inr.injEq, Prod.mk.injEq] at h
                  omega
                · exact absurd h (by simp)
section MREAD
variable {Γ : Amb} {w : PW} {Q : Option Value → Option Nat → PW → Prop} {m : Nat} {th sm hs ln at_ iw rm rn cm su pl wy px : Int32} {fs fa ft fn fx fr fu fc : Nat → Int32}
theorem sp10_readsStream {S : AS} (hS : StF fs 0 S) (oS : SOK S) (hQ : ∀ fs' su' pl' wy' px', RF fs fs' → GotF fs' 0 (readA (a_s S) (a_wd S)).1 → ErrF fs' 0 (readA (a_s S) (a_wd S)).2 → Q (some (.int (nI (cntR (readA (a_s S) (a_wd S)).1)))) none (mw w m th sm hs ln at_ iw rm rn cm (su') (pl') (wy') (px') (fs') fa ft fn fx fr fu fc)) : Sp Γ m10_readsStream [.ref m] none (mw w m th sm hs ln at_ iw rm rn cm su pl wy px fs fa ft fn fx fr fu fc) Q := by
  obtain ⟨hW, -, -, hSt, -⟩ := hS
  obtain ⟨k1, k2, k3, k4, k5, k6, k7, -⟩ := id oS
  generalize hsq : a_s S = s at *
  generalize hwd : a_wd S = wd at *
  have hW : fs 0 = nI wd := hW
  generalize hRES : readA s wd = RES at hQ
  have bs : s.length < 2147483648 := by omega
  have key : ∀ (u n p : Nat) (f : Nat → Int32) (R : List (Option Nat)) (E : List (Nat × Nat)) (j2 : Option Value) (su pl wy px : Int32), s.length ≤ u + p → p ≤ s.length → 1000 ≤ 2 * n + p → RF fs f → GotF f 0 R → ErrF f 0 E → R.length = 10 → E.length ≤ 20 → RcOK R → rdg s wd n p R E = RES → G Γ m10_readsStream Q (fun _ _ => False) 6 [some (.ref m), some (.int (nI p)), j2] [] none (mw w m th sm hs ln at_ iw rm rn cm su pl wy px f fa ft fn fx fr fu fc) 0 0 := by
    intro u
    induction u with
    | zero =>
      intro n p f R E j2 su pl wy px hu hp hn hf hG hE hR hE2 oR hg
      have bp : p < 2147483648 := by omega
      have e3 : f 3 = nI s.length := (hf.str hSt).1
      rw [rdg_end (by omega)] at hg
      refine wp_ok kd10_readsStream 400 6 bb10_readsStream_6 _ _ _ _ _ _ oo10_readsStream_6 ?_
      simp only [List.getElem?_cons_zero, List.getElem?_cons_succ, fv4, Nat.reduceAdd, Nat.reduceSub, wp, pst, stp, LG, lput, ls_tl, two, bc, EL, pad, popN, csum, Option.toList, List.cons_append, List.nil_append, List.set_cons_zero, List.set_cons_succ, List.length_cons, List.length_nil, true_and, and_true, Nat.reduceLT, Nat.reduceLeDiff, Nat.zero_le, Nat.le_refl, RI_i, RI_z0, RI_z1, Int32.reduceOfInt, Int8.reduceOfInt, Int16.reduceOfInt, Int64.reduceOfInt, Int8.toInt32_ofNat, Int16.toInt32_ofNat, Int.reduceNeg, Int32.ofInt_neg, Int8.ofInt_neg, Int16.ofInt_neg, Int32.toInt64_ofNat, Int32.reduceToNatClampNeg, Fin.isValue, Fin.val_one, Fin.val_zero, Fin.val_two, Int64.reduceOfNat, Int32.reduceOfNat, hdl, cutc, Nat.reduceEqDiff, reduceIte, FV, tyC, tyX0, tyX1, tyX2, tyX3, tyX4, tyX5, tyX6, tyX7, tyX8, tyX9, tyX10, Nat.reduceMul, c_le, c_lt, c_eq, c_in, c_cl, c_add, c_rem, c_ofN, Int32.add_zero, Int32.zero_add, c_lt0, c_ge0, c_le0, c_gt0, c_e0, c_m1, c_m1', false_implies, true_implies, implies_true, not_false_eq_true, not_true_eq_false, Nat.not_lt_zero, up_s, up_1, up_m, ff10_readsStream, bb10_readsStream_0, bb10_readsStream_6, bb10_readsStream_52, bb10_readsStream_57, bb10_readsStream_60, bb10_readsStream_66, cl_1, ca_1, cl_2, ca_2, cl_3, ca_3, mw_0, mw_1, mw_2, mw_3, mw_4, mw_5, mw_6, mw_7, mw_8, mu_0, mu_1, mu_2, mu_3, mu_4, mu_5, mu_6, mu_7, mu_8, vi_0, vi_1, vi_2, vi_3, vi_4, vi_5, vi_6, e3, bp, bs]
      refine ⟨fun _ => ?_, fun hh => absurd hh (by omega)⟩
      refine sp10_gotMany hG ?_
      unfold holdL
      simp only [List.getElem?_cons_zero, List.getElem?_cons_succ, fv4, Nat.reduceAdd, Nat.reduceSub, wp, pst, stp, LG, lput, ls_tl, two, bc, EL, pad, popN, csum, Option.toList, List.cons_append, List.nil_append, List.set_cons_zero, List.set_cons_succ, List.length_cons, List.length_nil, true_and, and_true, Nat.reduceLT, Nat.reduceLeDiff, Nat.zero_le, Nat.le_refl, RI_i, RI_z0, RI_z1, Int32.reduceOfInt, Int8.reduceOfInt, Int16.reduceOfInt, Int64.reduceOfInt, Int8.toInt32_ofNat, Int16.toInt32_ofNat, Int.reduceNeg, Int32.ofInt_neg, Int8.ofInt_neg, Int16.ofInt_neg, Int32.toInt64_ofNat, Int32.reduceToNatClampNeg, Fin.isValue, Fin.val_one, Fin.val_zero, Fin.val_two, Int64.reduceOfNat, Int32.reduceOfNat, hdl, cutc, Nat.reduceEqDiff, reduceIte, FV, tyC, tyX0, tyX1, tyX2, tyX3, tyX4, tyX5, tyX6, tyX7, tyX8, tyX9, tyX10, Nat.reduceMul, c_le, c_lt, c_eq, c_in, c_cl, c_add, c_rem, c_ofN, Int32.add_zero, Int32.zero_add, c_lt0, c_ge0, c_le0, c_gt0, c_e0, c_m1, c_m1', false_implies, true_implies, implies_true, not_false_eq_true, not_true_eq_false, Nat.not_lt_zero, up_s, up_1, up_m, ff10_readsStream, bb10_readsStream_0, bb10_readsStream_6, bb10_readsStream_52, bb10_readsStream_57, bb10_readsStream_60, bb10_readsStream_66, cl_1, ca_1, cl_2, ca_2, cl_3, ca_3, mw_0, mw_1, mw_2, mw_3, mw_4, mw_5, mw_6, mw_7, mw_8, mu_0, mu_1, mu_2, mu_3, mu_4, mu_5, mu_6, mu_7, mu_8, vi_0, vi_1, vi_2, vi_3, vi_4, vi_5, vi_6]
      rw [← hg] at hQ
      exact hQ f su pl wy px hf hG hE
    | succ u ih =>
      intro n p f R E j2 su pl wy px hu hp hn hf hG hE hR hE2 oR hg
      by_cases hpl : s.length ≤ p
      · exact ih n p f R E j2 su pl wy px (by omega) hp hn hf hG hE hR hE2 oR hg
      have bp : p < 2147483648 := by omega
      have hst := hf.str hSt
      have e3 : f 3 = nI s.length := hst.1
      have e0 : f 0 = nI wd := (hf 0 (by decide) (by decide) (by decide)).trans hW
      obtain ⟨n', rfl⟩ : ∃ n', n = n' + 1 := ⟨n - 1, by omega⟩
      refine wp_ok kd10_readsStream 400 6 bb10_readsStream_6 _ _ _ _ _ _ oo10_readsStream_6 ?_
      simp only [List.getElem?_cons_zero, List.getElem?_cons_succ, fv4, Nat.reduceAdd, Nat.reduceSub, wp, pst, stp, LG, lput, ls_tl, two, bc, EL, pad, popN, csum, Option.toList, List.cons_append, List.nil_append, List.set_cons_zero, List.set_cons_succ, List.length_cons, List.length_nil, true_and, and_true, Nat.reduceLT, Nat.reduceLeDiff, Nat.zero_le, Nat.le_refl, RI_i, RI_z0, RI_z1, Int32.reduceOfInt, Int8.reduceOfInt, Int16.reduceOfInt, Int64.reduceOfInt, Int8.toInt32_ofNat, Int16.toInt32_ofNat, Int.reduceNeg, Int32.ofInt_neg, Int8.ofInt_neg, Int16.ofInt_neg, Int32.toInt64_ofNat, Int32.reduceToNatClampNeg, Fin.isValue, Fin.val_one, Fin.val_zero, Fin.val_two, Int64.reduceOfNat, Int32.reduceOfNat, hdl, cutc, Nat.reduceEqDiff, reduceIte, FV, tyC, tyX0, tyX1, tyX2, tyX3, tyX4, tyX5, tyX6, tyX7, tyX8, tyX9, tyX10, Nat.reduceMul, c_le, c_lt, c_eq, c_in, c_cl, c_add, c_rem, c_ofN, Int32.add_zero, Int32.zero_add, c_lt0, c_ge0, c_le0, c_gt0, c_e0, c_m1, c_m1', false_implies, true_implies, implies_true, not_false_eq_true, not_true_eq_false, Nat.not_lt_zero, up_s, up_1, up_m, ff10_readsStream, bb10_readsStream_0, bb10_readsStream_6, bb10_readsStream_52, bb10_readsStream_57, bb10_readsStream_60, bb10_readsStream_66, cl_1, ca_1, cl_2, ca_2, cl_3, ca_3, mw_0, mw_1, mw_2, mw_3, mw_4, mw_5, mw_6, mw_7, mw_8, mu_0, mu_1, mu_2, mu_3, mu_4, mu_5, mu_6, mu_7, mu_8, vi_0, vi_1, vi_2, vi_3, vi_4, vi_5, vi_6, e3, bp, bs]
      refine ⟨fun hh => absurd hh (by omega), fun _ => ?_⟩
      refine sp10_isMarker hst k7 k6 p (by omega) (fun hm => ?_) (fun hm => ?_)
      · have hp1 : p + 1 < s.length := by
          by_cases c : p + 1 < s.length
          · exact c
          · have := hm.2; rw [getD_none (by omega)] at this; exact absurd this (by simp)
        simp only [rdg] at hg
        rw [mfr_some s s.length p p (Nat.le_refl _) (by omega) hm (fun q a b => absurd b (by omega))] at hg
        dsimp only at hg
        unfold holdL
        simp only [List.getElem?_cons_zero, List.getElem?_cons_succ, fv4, Nat.reduceAdd, Nat.reduceSub, wp, pst, stp, LG, lput, ls_tl, two, bc, EL, pad, popN, csum, Option.toList, List.cons_append, List.nil_append, List.set_cons_zero, List.set_cons_succ, List.length_cons, List.length_nil, true_and, and_true, Nat.reduceLT, Nat.reduceLeDiff, Nat.zero_le, Nat.le_refl, RI_i, RI_z0, RI_z1, Int32.reduceOfInt, Int8.reduceOfInt, Int16.reduceOfInt, Int64.reduceOfInt, Int8.toInt32_ofNat, Int16.toInt32_ofNat, Int.reduceNeg, Int32.ofInt_neg, Int8.ofInt_neg, Int16.ofInt_neg, Int32.toInt64_ofNat, Int32.reduceToNatClampNeg, Fin.isValue, Fin.val_one, Fin.val_zero, Fin.val_two, Int64.reduceOfNat, Int32.reduceOfNat, hdl, cutc, Nat.reduceEqDiff, reduceIte, FV, tyC, tyX0, tyX1, tyX2, tyX3, tyX4, tyX5, tyX6, tyX7, tyX8, tyX9, tyX10, Nat.reduceMul, c_le, c_lt, c_eq, c_in, c_cl, c_add, c_rem, c_ofN, Int32.add_zero, Int32.zero_add, c_lt0, c_ge0, c_le0, c_gt0, c_e0, c_m1, c_m1', false_implies, true_implies, implies_true, not_false_eq_true, not_true_eq_false, Nat.not_lt_zero, up_s, up_1, up_m, ff10_readsStream, bb10_readsStream_0, bb10_readsStream_6, bb10_readsStream_52, bb10_readsStream_57, bb10_readsStream_60, bb10_readsStream_66, cl_1, ca_1, cl_2, ca_2, cl_3, ca_3, mw_0, mw_1, mw_2, mw_3, mw_4, mw_5, mw_6, mw_7, mw_8, mu_0, mu_1, mu_2, mu_3, mu_4, mu_5, mu_6, mu_7, mu_8, vi_0, vi_1, vi_2, vi_3, vi_4, vi_5, vi_6, n10, bp]
        refine sp10_takesCode hst k7 k6 wd (p + 2) e0 (by omega) k2 (by omega) hG hR (fun l x q hr fs' su' px' hgf hgot => ?_) (fun e hr su' pl' px' => ?_)
        · obtain ⟨q1, q2, q3⟩ := rcd_q k6 hr (by omega)
          obtain ⟨-, r2⟩ := rcd_ok (s := s) (p := p + 2) k2 oR
          rw [hr] at hg
          dsimp only at hg
          have hr2 := fun j2 => ih n' q fs' (R.set l (some x)) E j2 su' (nI q) 0 px' (by omega) q3 (by omega) (hf.tr hgf.rf) hgot (hgf.err hE) (by rw [List.length_set]; exact hR) hE2 (fun j y hy => by
            rw [oset_getD (by omega)] at hy
            split at hy
            · cases hy; exact (r2 _ _ _ hr).2
            · exact oR j y hy) hg
          unfold holdL
          simp only [List.getElem?_cons_zero, List.getElem?_cons_succ, fv4, Nat.reduceAdd, Nat.reduceSub, wp, pst, stp, LG, lput, ls_tl, two, bc, EL, pad, popN, csum, Option.toList, List.cons_append, List.nil_append, List.set_cons_zero, List.set_cons_succ, List.length_cons, List.length_nil, true_and, and_true, Nat.reduceLT, Nat.reduceLeDiff, Nat.zero_le, Nat.le_refl, RI_i, RI_z0, RI_z1, Int32.reduceOfInt, Int8.reduceOfInt, Int16.reduceOfInt, Int64.reduceOfInt, Int8.toInt32_ofNat, Int16.toInt32_ofNat, Int.reduceNeg, Int32.ofInt_neg, Int8.ofInt_neg, Int16.ofInt_neg, Int32.toInt64_ofNat, Int32.reduceToNatClampNeg, Fin.isValue, Fin.val_one, Fin.val_zero, Fin.val_two, Int64.reduceOfNat, Int32.reduceOfNat, hdl, cutc, Nat.reduceEqDiff, reduceIte, FV, tyC, tyX0, tyX1, tyX2, tyX3, tyX4, tyX5, tyX6, tyX7, tyX8, tyX9, tyX10, Nat.reduceMul, c_le, c_lt, c_eq, c_in, c_cl, c_add, c_rem, c_ofN, Int32.add_zero, Int32.zero_add, c_lt0, c_ge0, c_le0, c_gt0, c_e0, c_m1, c_m1', false_implies, true_implies, implies_true, not_false_eq_true, not_true_eq_false, Nat.not_lt_zero, up_s, up_1, up_m, ff10_readsStream, bb10_readsStream_0, bb10_readsStream_6, bb10_readsStream_52, bb10_readsStream_57, bb10_readsStream_60, bb10_readsStream_66, cl_1, ca_1, cl_2, ca_2, cl_3, ca_3, mw_0, mw_1, mw_2, mw_3, mw_4, mw_5, mw_6, mw_7, mw_8, mu_0, mu_1, mu_2, mu_3, mu_4, mu_5, mu_6, mu_7, mu_8, vi_0, vi_1, vi_2, vi_3, vi_4, vi_5, vi_6, bp]
          exact ⟨fun _ => hr2 _, fun hh => absurd (by decide) hh⟩
        · obtain ⟨r1, -⟩ := rcd_ok (s := s) (p := p + 2) k2 oR
          obtain ⟨e1, e2⟩ := r1 e hr
          have be : e < 2147483648 := by omega
          have hne : ¬e = 0 := by omega
          rw [hr] at hg
          dsimp only at hg
          unfold holdL
          simp only [List.getElem?_cons_zero, List.getElem?_cons_succ, fv4, Nat.reduceAdd, Nat.reduceSub, wp, pst, stp, LG, lput, ls_tl, two, bc, EL, pad, popN, csum, Option.toList, List.cons_append, List.nil_append, List.set_cons_zero, List.set_cons_succ, List.length_cons, List.length_nil, true_and, and_true, Nat.reduceLT, Nat.reduceLeDiff, Nat.zero_le, Nat.le_refl, RI_i, RI_z0, RI_z1, Int32.reduceOfInt, Int8.reduceOfInt, Int16.reduceOfInt, Int64.reduceOfInt, Int8.toInt32_ofNat, Int16.toInt32_ofNat, Int.reduceNeg, Int32.ofInt_neg, Int8.ofInt_neg, Int16.ofInt_neg, Int32.toInt64_ofNat, Int32.reduceToNatClampNeg, Fin.isValue, Fin.val_one, Fin.val_zero, Fin.val_two, Int64.reduceOfNat, Int32.reduceOfNat, hdl, cutc, Nat.reduceEqDiff, reduceIte, FV, tyC, tyX0, tyX1, tyX2, tyX3, tyX4, tyX5, tyX6, tyX7, tyX8, tyX9, tyX10, Nat.reduceMul, c_le, c_lt, c_eq, c_in, c_cl, c_add, c_rem, c_ofN, Int32.add_zero, Int32.zero_add, c_lt0, c_ge0, c_le0, c_gt0, c_e0, c_m1, c_m1', false_implies, true_implies, implies_true, not_false_eq_true, not_true_eq_false, Nat.not_lt_zero, up_s, up_1, up_m, ff10_readsStream, bb10_readsStream_0, bb10_readsStream_6, bb10_readsStream_52, bb10_readsStream_57, bb10_readsStream_60, bb10_readsStream_66, cl_1, ca_1, cl_2, ca_2, cl_3, ca_3, mw_0, mw_1, mw_2, mw_3, mw_4, mw_5, mw_6, mw_7, mw_8, mu_0, mu_1, mu_2, mu_3, mu_4, mu_5, mu_6, mu_7, mu_8, vi_0, vi_1, vi_2, vi_3, vi_4, vi_5, vi_6, bp, be]
          refine ⟨fun hh => absurd hh (by omega), fun _ => ?_⟩
          refine sp10_notes hE hE2 p e (fun fs' hef herr => ?_)
          unfold holdL
          simp only [List.getElem?_cons_zero, List.getElem?_cons_succ, fv4, Nat.reduceAdd, Nat.reduceSub, wp, pst, stp, LG, lput, ls_tl, two, bc, EL, pad, popN, csum, Option.toList, List.cons_append, List.nil_append, List.set_cons_zero, List.set_cons_succ, List.length_cons, List.length_nil, true_and, and_true, Nat.reduceLT, Nat.reduceLeDiff, Nat.zero_le, Nat.le_refl, RI_i, RI_z0, RI_z1, Int32.reduceOfInt, Int8.reduceOfInt, Int16.reduceOfInt, Int64.reduceOfInt, Int8.toInt32_ofNat, Int16.toInt32_ofNat, Int.reduceNeg, Int32.ofInt_neg, Int8.ofInt_neg, Int16.ofInt_neg, Int32.toInt64_ofNat, Int32.reduceToNatClampNeg, Fin.isValue, Fin.val_one, Fin.val_zero, Fin.val_two, Int64.reduceOfNat, Int32.reduceOfNat, hdl, cutc, Nat.reduceEqDiff, reduceIte, FV, tyC, tyX0, tyX1, tyX2, tyX3, tyX4, tyX5, tyX6, tyX7, tyX8, tyX9, tyX10, Nat.reduceMul, c_le, c_lt, c_eq, c_in, c_cl, c_add, c_rem, c_ofN, Int32.add_zero, Int32.zero_add, c_lt0, c_ge0, c_le0, c_gt0, c_e0, c_m1, c_m1', false_implies, true_implies, implies_true, not_false_eq_true, not_true_eq_false, Nat.not_lt_zero, up_s, up_1, up_m, ff10_readsStream, bb10_readsStream_0, bb10_readsStream_6, bb10_readsStream_52, bb10_readsStream_57, bb10_readsStream_60, bb10_readsStream_66, cl_1, ca_1, cl_2, ca_2, cl_3, ca_3, mw_0, mw_1, mw_2, mw_3, mw_4, mw_5, mw_6, mw_7, mw_8, mu_0, mu_1, mu_2, mu_3, mu_4, mu_5, mu_6, mu_7, mu_8, vi_0, vi_1, vi_2, vi_3, vi_4, vi_5, vi_6, bp]
          exact ih n' (p + 2) fs' R (noteE E p e) _ su' pl' (nI e) px' (by omega) (by omega) (by omega) (hf.tr hef.rf) (hef.got hG) herr hR (by unfold noteE; split <;> (try rw [List.length_append]) <;> (try simp only [List.length_cons, List.length_nil]) <;> omega) oR hg
      · have hg2 : rdg s wd (n' + 1) (p + 1) R E = RES := by
          rw [← hg]
          simp only [rdg]
          rw [mfr_skip hm]
        unfold holdL
        simp only [List.getElem?_cons_zero, List.getElem?_cons_succ, fv4, Nat.reduceAdd, Nat.reduceSub, wp, pst, stp, LG, lput, ls_tl, two, bc, EL, pad, popN, csum, Option.toList, List.cons_append, List.nil_append, List.set_cons_zero, List.set_cons_succ, List.length_cons, List.length_nil, true_and, and_true, Nat.reduceLT, Nat.reduceLeDiff, Nat.zero_le, Nat.le_refl, RI_i, RI_z0, RI_z1, Int32.reduceOfInt, Int8.reduceOfInt, Int16.reduceOfInt, Int64.reduceOfInt, Int8.toInt32_ofNat, Int16.toInt32_ofNat, Int.reduceNeg, Int32.ofInt_neg, Int8.ofInt_neg, Int16.ofInt_neg, Int32.toInt64_ofNat, Int32.reduceToNatClampNeg, Fin.isValue, Fin.val_one, Fin.val_zero, Fin.val_two, Int64.reduceOfNat, Int32.reduceOfNat, hdl, cutc, Nat.reduceEqDiff, reduceIte, FV, tyC, tyX0, tyX1, tyX2, tyX3, tyX4, tyX5, tyX6, tyX7, tyX8, tyX9, tyX10, Nat.reduceMul, c_le, c_lt, c_eq, c_in, c_cl, c_add, c_rem, c_ofN, Int32.add_zero, Int32.zero_add, c_lt0, c_ge0, c_le0, c_gt0, c_e0, c_m1, c_m1', false_implies, true_implies, implies_true, not_false_eq_true, not_true_eq_false, Nat.not_lt_zero, up_s, up_1, up_m, ff10_readsStream, bb10_readsStream_0, bb10_readsStream_6, bb10_readsStream_52, bb10_readsStream_57, bb10_readsStream_60, bb10_readsStream_66, cl_1, ca_1, cl_2, ca_2, cl_3, ca_3, mw_0, mw_1, mw_2, mw_3, mw_4, mw_5, mw_6, mw_7, mw_8, mu_0, mu_1, mu_2, mu_3, mu_4, mu_5, mu_6, mu_7, mu_8, vi_0, vi_1, vi_2, vi_3, vi_4, vi_5, vi_6, bp]
        exact ih (n' + 1) (p + 1) f R E _ su pl wy px (by omega) (by omega) (by omega) hf hG hE hR hE2 oR hg2
  refine entry Γ m10_readsStream rfl _ (Nat.le_of_ble_eq_true rfl) _ _ _ ?_
  refine wp_ok kd10_readsStream 400 0 bb10_readsStream_0 _ _ _ _ _ _ oo10_readsStream_0 ?_
  simp only [List.getElem?_cons_zero, List.getElem?_cons_succ, fv4, Nat.reduceAdd, Nat.reduceSub, wp, pst, stp, LG, lput, ls_tl, two, bc, EL, pad, popN, csum, Option.toList, List.cons_append, List.nil_append, List.set_cons_zero, List.set_cons_succ, List.length_cons, List.length_nil, true_and, and_true, Nat.reduceLT, Nat.reduceLeDiff, Nat.zero_le, Nat.le_refl, RI_i, RI_z0, RI_z1, Int32.reduceOfInt, Int8.reduceOfInt, Int16.reduceOfInt, Int64.reduceOfInt, Int8.toInt32_ofNat, Int16.toInt32_ofNat, Int.reduceNeg, Int32.ofInt_neg, Int8.ofInt_neg, Int16.ofInt_neg, Int32.toInt64_ofNat, Int32.reduceToNatClampNeg, Fin.isValue, Fin.val_one, Fin.val_zero, Fin.val_two, Int64.reduceOfNat, Int32.reduceOfNat, hdl, cutc, Nat.reduceEqDiff, reduceIte, FV, tyC, tyX0, tyX1, tyX2, tyX3, tyX4, tyX5, tyX6, tyX7, tyX8, tyX9, tyX10, Nat.reduceMul, c_le, c_lt, c_eq, c_in, c_cl, c_add, c_rem, c_ofN, Int32.add_zero, Int32.zero_add, c_lt0, c_ge0, c_le0, c_gt0, c_e0, c_m1, c_m1', false_implies, true_implies, implies_true, not_false_eq_true, not_true_eq_false, Nat.not_lt_zero, up_s, up_1, up_m, ff10_readsStream, bb10_readsStream_0, bb10_readsStream_6, bb10_readsStream_52, bb10_readsStream_57, bb10_readsStream_60, bb10_readsStream_66, cl_1, ca_1, cl_2, ca_2, cl_3, ca_3, mw_0, mw_1, mw_2, mw_3, mw_4, mw_5, mw_6, mw_7, mw_8, mu_0, mu_1, mu_2, mu_3, mu_4, mu_5, mu_6, mu_7, mu_8, vi_0, vi_1, vi_2, vi_3, vi_4, vi_5, vi_6]
  refine sp10_forgets (fun fs' hrf hgot herr => ?_)
  unfold holdL
  simp only [List.getElem?_cons_zero, List.getElem?_cons_succ, fv4, Nat.reduceAdd, Nat.reduceSub, wp, pst, stp, LG, lput, ls_tl, two, bc, EL, pad, popN, csum, Option.toList, List.cons_append, List.nil_append, List.set_cons_zero, List.set_cons_succ, List.length_cons, List.length_nil, true_and, and_true, Nat.reduceLT, Nat.reduceLeDiff, Nat.zero_le, Nat.le_refl, RI_i, RI_z0, RI_z1, Int32.reduceOfInt, Int8.reduceOfInt, Int16.reduceOfInt, Int64.reduceOfInt, Int8.toInt32_ofNat, Int16.toInt32_ofNat, Int.reduceNeg, Int32.ofInt_neg, Int8.ofInt_neg, Int16.ofInt_neg, Int32.toInt64_ofNat, Int32.reduceToNatClampNeg, Fin.isValue, Fin.val_one, Fin.val_zero, Fin.val_two, Int64.reduceOfNat, Int32.reduceOfNat, hdl, cutc, Nat.reduceEqDiff, reduceIte, FV, tyC, tyX0, tyX1, tyX2, tyX3, tyX4, tyX5, tyX6, tyX7, tyX8, tyX9, tyX10, Nat.reduceMul, c_le, c_lt, c_eq, c_in, c_cl, c_add, c_rem, c_ofN, Int32.add_zero, Int32.zero_add, c_lt0, c_ge0, c_le0, c_gt0, c_e0, c_m1, c_m1', false_implies, true_implies, implies_true, not_false_eq_true, not_true_eq_false, Nat.not_lt_zero, up_s, up_1, up_m, ff10_readsStream, bb10_readsStream_0, bb10_readsStream_6, bb10_readsStream_52, bb10_readsStream_57, bb10_readsStream_60, bb10_readsStream_66, cl_1, ca_1, cl_2, ca_2, cl_3, ca_3, mw_0, mw_1, mw_2, mw_3, mw_4, mw_5, mw_6, mw_7, mw_8, mu_0, mu_1, mu_2, mu_3, mu_4, mu_5, mu_6, mu_7, mu_8, vi_0, vi_1, vi_2, vi_3, vi_4, vi_5, vi_6]
  obtain ⟨z1, z2, z3, z4⟩ := R0_ok
  exact key s.length 500 0 fs' R0 [] none su pl wy px (by omega) (Nat.zero_le _) (by omega) hrf hgot herr z2 z3 z1 hRES
end MREAD

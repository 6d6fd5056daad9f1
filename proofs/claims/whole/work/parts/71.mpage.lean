/-! THE MODEL READS A PAGE -/
theorem pend_stop (T : List Nat) : ∀ n i P e P', n + i = T.length → pend T n i P = (e, P') → e = T.length ∨ T.getD e 0 = 59 ∨ pstp P' (T.getD e 0) = none := by
  intro n
  induction n with
  | zero => intro i P e P' hi h; simp only [pend, Prod.mk.injEq] at h; omega
  | succ n ih =>
    intro i P e P' hi h
    simp only [pend] at h
    split at h
    · rename_i h59
      simp only [Prod.mk.injEq] at h
      obtain ⟨rfl, rfl⟩ := h
      exact Or.inr (Or.inl h59)
    · split at h
      · rename_i hs
        simp only [Prod.mk.injEq] at h
        obtain ⟨rfl, rfl⟩ := h
        exact Or.inr (Or.inr hs)
      · exact ih _ _ _ _ (by omega) h
theorem pend_scan (T : List Nat) : ∀ n i P e P', n + i = T.length → pend T n i P = (e, P') → pscan T n i P = pscan T (T.length - e) e P' := by
  intro n
  induction n with
  | zero =>
    intro i P e P' hi h
    simp only [pend, Prod.mk.injEq] at h
    obtain ⟨rfl, rfl⟩ := h
    rw [show T.length - i = 0 by omega]
  | succ n ih =>
    intro i P e P' hi h
    simp only [pend] at h
    split at h
    · simp only [Prod.mk.injEq] at h
      obtain ⟨rfl, rfl⟩ := h
      rw [show T.length - i = n + 1 by omega]
    · split at h
      · simp only [Prod.mk.injEq] at h
        obtain ⟨rfl, rfl⟩ := h
        rw [show T.length - i = n + 1 by omega]
      · rename_i P2 hs
        rw [← ih _ _ _ _ (by omega) h]
        simp only [pscan]
        rw [hs]
theorem pend_pts (T : List Nat) : ∀ n i P e P', n + i = T.length → pend T n i P = (e, P') → i < e → (e = T.length ∨ T.getD e 0 = 59) → pts T n i P = P' :: pts T (T.length - e) e P' := by
  intro n
  induction n with
  | zero => intro i P e P' hi h hie; simp only [pend, Prod.mk.injEq] at h; omega
  | succ n ih =>
    intro i P e P' hi h hie hst
    simp only [pend] at h
    split at h
    · simp only [Prod.mk.injEq] at h; omega
    · split at h
      · simp only [Prod.mk.injEq] at h; omega
      · rename_i h59 P2 hs
        simp only [pts]
        rw [hs]
        dsimp only
        have hle := (pend_n T n (i + 1) P2).2
        rw [h] at hle
        dsimp only at hle
        by_cases he : i + 1 = e
        · subst he
          have hPP : P' = P2 := by
            cases n with
            | zero => simp only [pend, Prod.mk.injEq] at h; exact h.2.symm
            | succ n =>
              simp only [pend] at h
              rcases hst with hst | hst
              · omega
              · rw [if_pos hst] at h
                simp only [Prod.mk.injEq] at h
                exact h.2.symm
          subst hPP
          rw [if_pos (by omega), show T.length - (i + 1) = n by omega]
        · have hr := ih _ _ _ _ (by omega) h (by omega) hst
          have hn59 : ¬(i + 1 = T.length ∨ T.getD (i + 1) 0 = 59) := by
            intro q
            cases n with
            | zero => simp only [pend, Prod.mk.injEq] at h; omega
            | succ n =>
              simp only [pend] at h
              rcases q with q | q
              · omega
              · rw [if_pos q] at h
                simp only [Prod.mk.injEq] at h
                omega
          rw [if_neg hn59]
          exact hr
theorem pd0 : ¬pdone PS0 = true := by decide
/-- what a stop at e says of the whole text -/
theorem stop_bad {B : List Nat} {e : Nat} {P : PS} (he : e ≤ B.length) (hs : pscan B B.length 0 PS0 = pscan B (B.length - e) e P) (hst : e = B.length ∨ B.getD e 0 = 59 ∨ pstp P (B.getD e 0) = none) (hb : ¬pdone P = true ∨ (e < B.length ∧ B.getD e 0 ≠ 59)) : pfull B = false ∧ (pscan B B.length 0 PS0).1 = e := by
  unfold pfull
  rw [hs]
  by_cases hel : e = B.length
  · rcases hb with hb | hb
    · rw [show B.length - e = 0 by omega]
      simp only [pscan]
      exact ⟨by revert hb; cases pdone P <;> simp, trivial⟩
    · omega
  · have hn : pstp P (B.getD e 0) = none := by
      rcases hst with h | h | h
      · exact absurd h hel
      · rcases hb with hb | hb
        · cases hq : pstp P (B.getD e 0) with
          | none => rfl
          | some P2 => rw [h] at hq; exact absurd (pstp_59 hq) hb
        · exact absurd h hb.2
      · exact h
    rw [show B.length - e = (B.length - e - 1) + 1 by omega]
    simp only [pscan]
    rw [hn]
    exact ⟨rfl, rfl⟩
section MPAGE
variable {Γ : Amb} {w : PW} {Q : Option Value → Option Nat → PW → Prop} {m : Nat} {th sm hs ln at_ iw rm rn cm su pl wy px : Int32} {fs fa ft fn fx fr fu fc : Nat → Int32} {B : List Nat}
/-- the parts, in the row f -/
def PsF (f : Nat → Int32) (l : List PS) : Prop := ∀ k X, l[k]? = some X → PtF f (3 * k) X
theorem sp10_readsPage (hB : IA fx B) (h60 : B.length ≤ 60) (hv : ∀ c ∈ B, 33 ≤ c ∧ c ≤ 126) (hQ1 : pfull B = true → ∀ at' fr', PsF fr' (pts B B.length 0 PS0) → Q (some (.int 1)) none (mw w m th sm hs (nI B.length) (at') 1 (nI (pts B B.length 0 PS0).length) rn cm su pl wy px fs fa ft fn fx (fr') fu fc)) (hQ0 : pfull B = false → ∀ rm' fr', Q (some (.int 0)) none (mw w m th sm hs (nI B.length) (nI (pscan B B.length 0 PS0).1) 0 (rm') rn cm su pl wy px fs fa ft fn fx (fr') fu fc)) : Sp Γ m10_readsPage [.ref m] none (mw w m th sm hs (nI B.length) at_ iw rm rn cm su pl wy px fs fa ft fn fx fr fu fc) Q := by
  have bl : B.length < 2147483648 := by omega
  have hbad : ∀ (e : Nat) (P : PS) (rm : Int32) (f : Nat → Int32), e ≤ B.length → pscan B B.length 0 PS0 = pscan B (B.length - e) e P → (e = B.length ∨ B.getD e 0 = 59 ∨ pstp P (B.getD e 0) = none) → (¬pdone P = true ∨ (e < B.length ∧ B.getD e 0 ≠ 59)) → G Γ m10_readsPage Q (fun _ _ => False) 14 [some (.ref m)] [] none (mw w m th sm hs (nI B.length) (nI e) 0 rm rn cm su pl wy px fs fa ft fn fx f fu fc) 0 0 := by
    intro e P rm f he hs hst hb
    obtain ⟨h1, h2⟩ := stop_bad he hs hst hb
    have hq := hQ0 h1 rm f
    rw [h2] at hq
    refine wp_ok kd10_readsPage 400 14 bb10_readsPage_14 _ _ _ _ _ _ oo10_readsPage_14 ?_
    simp only [List.getElem?_cons_zero, List.getElem?_cons_succ, fv4, Nat.reduceAdd, Nat.reduceSub, wp, pst, stp, LG, lput, ls_tl, two, bc, EL, pad, popN, csum, Option.toList, List.cons_append, List.nil_append, List.set_cons_zero, List.set_cons_succ, List.length_cons, List.length_nil, true_and, and_true, Nat.reduceLT, Nat.reduceLeDiff, Nat.zero_le, Nat.le_refl, RI_i, RI_z0, RI_z1, Int32.reduceOfInt, Int8.reduceOfInt, Int16.reduceOfInt, Int64.reduceOfInt, Int8.toInt32_ofNat, Int16.toInt32_ofNat, Int.reduceNeg, Int32.ofInt_neg, Int8.ofInt_neg, Int16.ofInt_neg, Int32.toInt64_ofNat, Int32.reduceToNatClampNeg, Fin.isValue, Fin.val_one, Fin.val_zero, Fin.val_two, Int64.reduceOfNat, Int32.reduceOfNat, hdl, cutc, Nat.reduceEqDiff, reduceIte, FV, tyC, tyX0, tyX1, tyX2, tyX3, tyX4, tyX5, tyX6, tyX7, tyX8, tyX9, tyX10, Nat.reduceMul, c_le, c_lt, c_eq, c_in, c_cl, c_add, c_rem, c_ofN, Int32.add_zero, Int32.zero_add, c_lt0, c_ge0, c_le0, c_gt0, c_e0, c_m1, c_m1', false_implies, true_implies, implies_true, not_false_eq_true, not_true_eq_false, Nat.not_lt_zero, up_s, up_1, up_m, ff10_readsPage, bb10_readsPage_0, bb10_readsPage_14, bb10_readsPage_55, cl_59, ca_59, mw_0, mw_1, mw_2, mw_3, mw_4, mw_5, mw_6, mw_7, mw_8, mu_0, mu_1, mu_2, mu_3, mu_4, mu_5, mu_6, mu_7, mu_8, vi_0, vi_1, vi_2, vi_3, vi_4, vi_5, vi_6]
    exact hq
  have key : ∀ (u e : Nat) (P : PS) (l : List PS) (f : Nat → Int32), B.length ≤ u + e → e ≤ B.length → pscan B B.length 0 PS0 = pscan B (B.length - e) e P → (pfull B = true → l ++ pts B (B.length - e) e P = pts B B.length 0 PS0) → (e = B.length ∨ B.getD e 0 = 59 ∨ pstp P (B.getD e 0) = none) → 2 * l.length ≤ e + 1 → PsF f l → G Γ m10_readsPage Q (fun _ _ => False) 14 [some (.ref m)] [] none (mw w m th sm hs (nI B.length) (nI e) ((if pdone P = true then 1 else 0)) (nI l.length) rn cm su pl wy px fs fa ft fn fx f fu fc) 0 0 := by
    intro u
    induction u with
    | zero =>
      intro e P l f hu he hs hp hst hl2 hf
      have hel : e = B.length := by omega
      by_cases hd : pdone P = true
      · rw [if_pos hd]
        have hfull : pfull B = true := by
          unfold pfull
          rw [hs, show B.length - e = 0 by omega]
          exact hd
        have hp2 := hp hfull
        rw [show B.length - e = 0 by omega] at hp2
        simp only [pts, List.append_nil] at hp2
        rw [← hp2] at hQ1
        have hq := hQ1 hfull (nI e) f hf
        subst hel
        refine wp_ok kd10_readsPage 400 14 bb10_readsPage_14 _ _ _ _ _ _ oo10_readsPage_14 ?_
        simp only [List.getElem?_cons_zero, List.getElem?_cons_succ, fv4, Nat.reduceAdd, Nat.reduceSub, wp, pst, stp, LG, lput, ls_tl, two, bc, EL, pad, popN, csum, Option.toList, List.cons_append, List.nil_append, List.set_cons_zero, List.set_cons_succ, List.length_cons, List.length_nil, true_and, and_true, Nat.reduceLT, Nat.reduceLeDiff, Nat.zero_le, Nat.le_refl, RI_i, RI_z0, RI_z1, Int32.reduceOfInt, Int8.reduceOfInt, Int16.reduceOfInt, Int64.reduceOfInt, Int8.toInt32_ofNat, Int16.toInt32_ofNat, Int.reduceNeg, Int32.ofInt_neg, Int8.ofInt_neg, Int16.ofInt_neg, Int32.toInt64_ofNat, Int32.reduceToNatClampNeg, Fin.isValue, Fin.val_one, Fin.val_zero, Fin.val_two, Int64.reduceOfNat, Int32.reduceOfNat, hdl, cutc, Nat.reduceEqDiff, reduceIte, FV, tyC, tyX0, tyX1, tyX2, tyX3, tyX4, tyX5, tyX6, tyX7, tyX8, tyX9, tyX10, Nat.reduceMul, c_le, c_lt, c_eq, c_in, c_cl, c_add, c_rem, c_ofN, Int32.add_zero, Int32.zero_add, c_lt0, c_ge0, c_le0, c_gt0, c_e0, c_m1, c_m1', false_implies, true_implies, implies_true, not_false_eq_true, not_true_eq_false, Nat.not_lt_zero, up_s, up_1, up_m, ff10_readsPage, bb10_readsPage_0, bb10_readsPage_14, bb10_readsPage_55, cl_59, ca_59, mw_0, mw_1, mw_2, mw_3, mw_4, mw_5, mw_6, mw_7, mw_8, mu_0, mu_1, mu_2, mu_3, mu_4, mu_5, mu_6, mu_7, mu_8, vi_0, vi_1, vi_2, vi_3, vi_4, vi_5, vi_6, n10, bl]
        exact hq
      · rw [if_neg hd]
        exact hbad e P (nI l.length) f he hs hst (Or.inl hd)
    | succ u ih =>
      intro e P l f hu he hs hp hst hl2 hf
      by_cases hel : e = B.length
      · exact ih e P l f (by omega) he hs hp hst hl2 hf
      by_cases hd : pdone P = true
      · have be : e < 2147483648 := by omega
        rw [if_pos hd]
        refine wp_ok kd10_readsPage 400 14 bb10_readsPage_14 _ _ _ _ _ _ oo10_readsPage_14 ?_
        simp only [List.getElem?_cons_zero, List.getElem?_cons_succ, fv4, Nat.reduceAdd, Nat.reduceSub, wp, pst, stp, LG, lput, ls_tl, two, bc, EL, pad, popN, csum, Option.toList, List.cons_append, List.nil_append, List.set_cons_zero, List.set_cons_succ, List.length_cons, List.length_nil, true_and, and_true, Nat.reduceLT, Nat.reduceLeDiff, Nat.zero_le, Nat.le_refl, RI_i, RI_z0, RI_z1, Int32.reduceOfInt, Int8.reduceOfInt, Int16.reduceOfInt, Int64.reduceOfInt, Int8.toInt32_ofNat, Int16.toInt32_ofNat, Int.reduceNeg, Int32.ofInt_neg, Int8.ofInt_neg, Int16.ofInt_neg, Int32.toInt64_ofNat, Int32.reduceToNatClampNeg, Fin.isValue, Fin.val_one, Fin.val_zero, Fin.val_two, Int64.reduceOfNat, Int32.reduceOfNat, hdl, cutc, Nat.reduceEqDiff, reduceIte, FV, tyC, tyX0, tyX1, tyX2, tyX3, tyX4, tyX5, tyX6, tyX7, tyX8, tyX9, tyX10, Nat.reduceMul, c_le, c_lt, c_eq, c_in, c_cl, c_add, c_rem, c_ofN, Int32.add_zero, Int32.zero_add, c_lt0, c_ge0, c_le0, c_gt0, c_e0, c_m1, c_m1', false_implies, true_implies, implies_true, not_false_eq_true, not_true_eq_false, Nat.not_lt_zero, up_s, up_1, up_m, ff10_readsPage, bb10_readsPage_0, bb10_readsPage_14, bb10_readsPage_55, cl_59, ca_59, mw_0, mw_1, mw_2, mw_3, mw_4, mw_5, mw_6, mw_7, mw_8, mu_0, mu_1, mu_2, mu_3, mu_4, mu_5, mu_6, mu_7, mu_8, vi_0, vi_1, vi_2, vi_3, vi_4, vi_5, vi_6, n10, bl, be]
        refine ⟨fun hh => absurd hh (by omega), fun _ => ?_⟩
        refine sp10_reads hB h60 hv e 59 59 he (by decide) (by decide) (fun a b => ?_) (fun a => ?_)
        · have h59 : B.getD e 0 = 59 := by unfold sgn at a b; omega
          have hst59 : pstp P 59 = some PS0 := by
            unfold pstp
            rw [if_pos rfl, if_pos hd]
          unfold holdL
          simp only [List.getElem?_cons_zero, List.getElem?_cons_succ, fv4, Nat.reduceAdd, Nat.reduceSub, wp, pst, stp, LG, lput, ls_tl, two, bc, EL, pad, popN, csum, Option.toList, List.cons_append, List.nil_append, List.set_cons_zero, List.set_cons_succ, List.length_cons, List.length_nil, true_and, and_true, Nat.reduceLT, Nat.reduceLeDiff, Nat.zero_le, Nat.le_refl, RI_i, RI_z0, RI_z1, Int32.reduceOfInt, Int8.reduceOfInt, Int16.reduceOfInt, Int64.reduceOfInt, Int8.toInt32_ofNat, Int16.toInt32_ofNat, Int.reduceNeg, Int32.ofInt_neg, Int8.ofInt_neg, Int16.ofInt_neg, Int32.toInt64_ofNat, Int32.reduceToNatClampNeg, Fin.isValue, Fin.val_one, Fin.val_zero, Fin.val_two, Int64.reduceOfNat, Int32.reduceOfNat, hdl, cutc, Nat.reduceEqDiff, reduceIte, FV, tyC, tyX0, tyX1, tyX2, tyX3, tyX4, tyX5, tyX6, tyX7, tyX8, tyX9, tyX10, Nat.reduceMul, c_le, c_lt, c_eq, c_in, c_cl, c_add, c_rem, c_ofN, Int32.add_zero, Int32.zero_add, c_lt0, c_ge0, c_le0, c_gt0, c_e0, c_m1, c_m1', false_implies, true_implies, implies_true, not_false_eq_true, not_true_eq_false, Nat.not_lt_zero, up_s, up_1, up_m, ff10_readsPage, bb10_readsPage_0, bb10_readsPage_14, bb10_readsPage_55, cl_59, ca_59, mw_0, mw_1, mw_2, mw_3, mw_4, mw_5, mw_6, mw_7, mw_8, mu_0, mu_1, mu_2, mu_3, mu_4, mu_5, mu_6, mu_7, mu_8, vi_0, vi_1, vi_2, vi_3, vi_4, vi_5, vi_6, n10]
          generalize hz : pend B (B.length - (e + 1)) (e + 1) PS0 = Z
          obtain ⟨e2, P2⟩ := Z
          have hle := pend_n B (B.length - (e + 1)) (e + 1) PS0
          rw [hz] at hle
          dsimp only at hle
          refine sp10_readsPart hB h60 hv (e + 1) l.length (by omega) (by omega) e2 P2 hz (fun fr' h1 h2 => ?_)
          have hs2 : pscan B B.length 0 PS0 = pscan B (B.length - e2) e2 P2 := by
            rw [hs, show B.length - e = (B.length - (e + 1)) + 1 by omega]
            simp only [pscan]
            rw [h59, hst59]
            dsimp only
            exact pend_scan B _ _ _ _ _ (by omega) hz
          have hst2 := pend_stop B _ _ _ _ _ (by omega) hz
          by_cases hd2 : pdone P2 = true
          · have hlt : e + 1 < e2 := by
              rcases Nat.lt_or_ge (e + 1) e2 with q | q
              · exact q
              · exfalso
                have h0 : ∀ n, pend B n (e + 1) PS0 = (e2, P2) → e2 = e + 1 → P2 = PS0 := by
                  intro n hn he2
                  cases n with
                  | zero => simp only [pend, Prod.mk.injEq] at hn; exact hn.2.symm
                  | succ n =>
                    simp only [pend] at hn
                    split at hn
                    · simp only [Prod.mk.injEq] at hn; exact hn.2.symm
                    · split at hn
                      · simp only [Prod.mk.injEq] at hn; exact hn.2.symm
                      · rename_i P3 _
                        have := (pend_n B n (e + 1 + 1) P3).2
                        rw [hn] at this
                        dsimp only at this
                        omega
                have := h0 _ hz (by omega)
                rw [this] at hd2
                exact pd0 hd2
            unfold holdL
            simp only [List.getElem?_cons_zero, List.getElem?_cons_succ, fv4, Nat.reduceAdd, Nat.reduceSub, wp, pst, stp, LG, lput, ls_tl, two, bc, EL, pad, popN, csum, Option.toList, List.cons_append, List.nil_append, List.set_cons_zero, List.set_cons_succ, List.length_cons, List.length_nil, true_and, and_true, Nat.reduceLT, Nat.reduceLeDiff, Nat.zero_le, Nat.le_refl, RI_i, RI_z0, RI_z1, Int32.reduceOfInt, Int8.reduceOfInt, Int16.reduceOfInt, Int64.reduceOfInt, Int8.toInt32_ofNat, Int16.toInt32_ofNat, Int.reduceNeg, Int32.ofInt_neg, Int8.ofInt_neg, Int16.ofInt_neg, Int32.toInt64_ofNat, Int32.reduceToNatClampNeg, Fin.isValue, Fin.val_one, Fin.val_zero, Fin.val_two, Int64.reduceOfNat, Int32.reduceOfNat, hdl, cutc, Nat.reduceEqDiff, reduceIte, FV, tyC, tyX0, tyX1, tyX2, tyX3, tyX4, tyX5, tyX6, tyX7, tyX8, tyX9, tyX10, Nat.reduceMul, c_le, c_lt, c_eq, c_in, c_cl, c_add, c_rem, c_ofN, Int32.add_zero, Int32.zero_add, c_lt0, c_ge0, c_le0, c_gt0, c_e0, c_m1, c_m1', false_implies, true_implies, implies_true, not_false_eq_true, not_true_eq_false, Nat.not_lt_zero, up_s, up_1, up_m, ff10_readsPage, bb10_readsPage_0, bb10_readsPage_14, bb10_readsPage_55, cl_59, ca_59, mw_0, mw_1, mw_2, mw_3, mw_4, mw_5, mw_6, mw_7, mw_8, mu_0, mu_1, mu_2, mu_3, mu_4, mu_5, mu_6, mu_7, mu_8, vi_0, vi_1, vi_2, vi_3, vi_4, vi_5, vi_6]
            have hr := ih e2 P2 (l ++ [P2]) fr' (by omega) (by omega) hs2 (fun hfull => ?_) hst2 (by rw [List.length_append]; simp only [List.length_cons, List.length_nil]; omega) (fun k X hk => ?_)
            · rw [if_pos hd2, List.length_append] at hr
              rw [if_pos hd2, if_pos hd2]
              exact hr
            · rw [← hp hfull, List.append_assoc]
              congr 1
              have hc : e2 = B.length ∨ B.getD e2 0 = 59 := by
                by_cases q : e2 < B.length ∧ B.getD e2 0 ≠ 59
                · have := (stop_bad (by omega) hs2 hst2 (Or.inr q)).1
                  rw [this] at hfull
                  exact absurd hfull (by decide)
                · omega
              have hpp := pend_pts B _ _ _ _ _ (by omega) hz hlt hc
              rw [show B.length - e = (B.length - (e + 1)) + 1 by omega]
              simp only [pts]
              rw [h59, hst59]
              dsimp only
              have hne : ¬(e + 1 = B.length ∨ B.getD (e + 1) 0 = 59) := by
                intro q
                rcases q with q | q
                · omega
                · rw [show B.length - (e + 1) = (B.length - (e + 1) - 1) + 1 by omega] at hz
                  simp only [pend] at hz
                  rw [if_pos q] at hz
                  simp only [Prod.mk.injEq] at hz
                  omega
              rw [if_neg hne, hpp]
              rfl
            · by_cases hkl : k < l.length
              · rw [List.getElem?_append_left hkl] at hk
                have hx := hf k X hk
                unfold PtF at hx ⊢
                rw [h1 _ (by omega), h1 _ (by omega), h1 _ (by omega)]
                exact hx
              · rw [List.getElem?_append_right (by omega)] at hk
                have hk0 : k - l.length = 0 := by
                  rcases Nat.eq_zero_or_pos (k - l.length) with h | h
                  · exact h
                  · rw [List.getElem?_eq_none (by simp only [List.length_cons, List.length_nil]; omega)] at hk; exact absurd hk (by simp)
                rw [hk0] at hk
                simp only [List.getElem?_cons_zero, Option.some.injEq] at hk
                subst hk
                rw [show k = l.length by omega]
                exact h2 hd2
          · unfold holdL
            simp only [List.getElem?_cons_zero, List.getElem?_cons_succ, fv4, Nat.reduceAdd, Nat.reduceSub, wp, pst, stp, LG, lput, ls_tl, two, bc, EL, pad, popN, csum, Option.toList, List.cons_append, List.nil_append, List.set_cons_zero, List.set_cons_succ, List.length_cons, List.length_nil, true_and, and_true, Nat.reduceLT, Nat.reduceLeDiff, Nat.zero_le, Nat.le_refl, RI_i, RI_z0, RI_z1, Int32.reduceOfInt, Int8.reduceOfInt, Int16.reduceOfInt, Int64.reduceOfInt, Int8.toInt32_ofNat, Int16.toInt32_ofNat, Int.reduceNeg, Int32.ofInt_neg, Int8.ofInt_neg, Int16.ofInt_neg, Int32.toInt64_ofNat, Int32.reduceToNatClampNeg, Fin.isValue, Fin.val_one, Fin.val_zero, Fin.val_two, Int64.reduceOfNat, Int32.reduceOfNat, hdl, cutc, Nat.reduceEqDiff, reduceIte, FV, tyC, tyX0, tyX1, tyX2, tyX3, tyX4, tyX5, tyX6, tyX7, tyX8, tyX9, tyX10, Nat.reduceMul, c_le, c_lt, c_eq, c_in, c_cl, c_add, c_rem, c_ofN, Int32.add_zero, Int32.zero_add, c_lt0, c_ge0, c_le0, c_gt0, c_e0, c_m1, c_m1', false_implies, true_implies, implies_true, not_false_eq_true, not_true_eq_false, Nat.not_lt_zero, up_s, up_1, up_m, ff10_readsPage, bb10_readsPage_0, bb10_readsPage_14, bb10_readsPage_55, cl_59, ca_59, mw_0, mw_1, mw_2, mw_3, mw_4, mw_5, mw_6, mw_7, mw_8, mu_0, mu_1, mu_2, mu_3, mu_4, mu_5, mu_6, mu_7, mu_8, vi_0, vi_1, vi_2, vi_3, vi_4, vi_5, vi_6]
            rw [if_neg hd2, if_neg hd2]
            exact hbad e2 P2 (nI l.length) fr' (by omega) hs2 hst2 (Or.inl hd2)
        · have hn59 : B.getD e 0 ≠ 59 := by unfold sgn at a; omega
          unfold holdL
          simp only [List.getElem?_cons_zero, List.getElem?_cons_succ, fv4, Nat.reduceAdd, Nat.reduceSub, wp, pst, stp, LG, lput, ls_tl, two, bc, EL, pad, popN, csum, Option.toList, List.cons_append, List.nil_append, List.set_cons_zero, List.set_cons_succ, List.length_cons, List.length_nil, true_and, and_true, Nat.reduceLT, Nat.reduceLeDiff, Nat.zero_le, Nat.le_refl, RI_i, RI_z0, RI_z1, Int32.reduceOfInt, Int8.reduceOfInt, Int16.reduceOfInt, Int64.reduceOfInt, Int8.toInt32_ofNat, Int16.toInt32_ofNat, Int.reduceNeg, Int32.ofInt_neg, Int8.ofInt_neg, Int16.ofInt_neg, Int32.toInt64_ofNat, Int32.reduceToNatClampNeg, Fin.isValue, Fin.val_one, Fin.val_zero, Fin.val_two, Int64.reduceOfNat, Int32.reduceOfNat, hdl, cutc, Nat.reduceEqDiff, reduceIte, FV, tyC, tyX0, tyX1, tyX2, tyX3, tyX4, tyX5, tyX6, tyX7, tyX8, tyX9, tyX10, Nat.reduceMul, c_le, c_lt, c_eq, c_in, c_cl, c_add, c_rem, c_ofN, Int32.add_zero, Int32.zero_add, c_lt0, c_ge0, c_le0, c_gt0, c_e0, c_m1, c_m1', false_implies, true_implies, implies_true, not_false_eq_true, not_true_eq_false, Nat.not_lt_zero, up_s, up_1, up_m, ff10_readsPage, bb10_readsPage_0, bb10_readsPage_14, bb10_readsPage_55, cl_59, ca_59, mw_0, mw_1, mw_2, mw_3, mw_4, mw_5, mw_6, mw_7, mw_8, mu_0, mu_1, mu_2, mu_3, mu_4, mu_5, mu_6, mu_7, mu_8, vi_0, vi_1, vi_2, vi_3, vi_4, vi_5, vi_6]
          exact hbad e P (nI l.length) f he hs hst (Or.inr ⟨by omega, hn59⟩)
      · rw [if_neg hd]
        exact hbad e P (nI l.length) f he hs hst (Or.inl hd)
  generalize hz : pend B B.length 0 PS0 = Z
  obtain ⟨e, P⟩ := Z
  have hle := pend_n B B.length 0 PS0
  rw [hz] at hle
  dsimp only at hle
  have hs : pscan B B.length 0 PS0 = pscan B (B.length - e) e P := pend_scan B _ _ _ _ _ rfl hz
  have hst := pend_stop B _ _ _ _ _ rfl hz
  refine entry Γ m10_readsPage rfl _ (Nat.le_of_ble_eq_true rfl) _ _ _ ?_
  refine wp_ok kd10_readsPage 400 0 bb10_readsPage_0 _ _ _ _ _ _ oo10_readsPage_0 ?_
  simp only [List.getElem?_cons_zero, List.getElem?_cons_succ, fv4, Nat.reduceAdd, Nat.reduceSub, wp, pst, stp, LG, lput, ls_tl, two, bc, EL, pad, popN, csum, Option.toList, List.cons_append, List.nil_append, List.set_cons_zero, List.set_cons_succ, List.length_cons, List.length_nil, true_and, and_true, Nat.reduceLT, Nat.reduceLeDiff, Nat.zero_le, Nat.le_refl, RI_i, RI_z0, RI_z1, Int32.reduceOfInt, Int8.reduceOfInt, Int16.reduceOfInt, Int64.reduceOfInt, Int8.toInt32_ofNat, Int16.toInt32_ofNat, Int.reduceNeg, Int32.ofInt_neg, Int8.ofInt_neg, Int16.ofInt_neg, Int32.toInt64_ofNat, Int32.reduceToNatClampNeg, Fin.isValue, Fin.val_one, Fin.val_zero, Fin.val_two, Int64.reduceOfNat, Int32.reduceOfNat, hdl, cutc, Nat.reduceEqDiff, reduceIte, FV, tyC, tyX0, tyX1, tyX2, tyX3, tyX4, tyX5, tyX6, tyX7, tyX8, tyX9, tyX10, Nat.reduceMul, c_le, c_lt, c_eq, c_in, c_cl, c_add, c_rem, c_ofN, Int32.add_zero, Int32.zero_add, c_lt0, c_ge0, c_le0, c_gt0, c_e0, c_m1, c_m1', false_implies, true_implies, implies_true, not_false_eq_true, not_true_eq_false, Nat.not_lt_zero, up_s, up_1, up_m, ff10_readsPage, bb10_readsPage_0, bb10_readsPage_14, bb10_readsPage_55, cl_59, ca_59, mw_0, mw_1, mw_2, mw_3, mw_4, mw_5, mw_6, mw_7, mw_8, mu_0, mu_1, mu_2, mu_3, mu_4, mu_5, mu_6, mu_7, mu_8, vi_0, vi_1, vi_2, vi_3, vi_4, vi_5, vi_6]
  refine sp10_readsPart hB h60 hv 0 0 (Nat.zero_le _) (by decide) e P hz (fun fr' h1 h2 => ?_)
  unfold holdL
  simp only [List.getElem?_cons_zero, List.getElem?_cons_succ, fv4, Nat.reduceAdd, Nat.reduceSub, wp, pst, stp, LG, lput, ls_tl, two, bc, EL, pad, popN, csum, Option.toList, List.cons_append, List.nil_append, List.set_cons_zero, List.set_cons_succ, List.length_cons, List.length_nil, true_and, and_true, Nat.reduceLT, Nat.reduceLeDiff, Nat.zero_le, Nat.le_refl, RI_i, RI_z0, RI_z1, Int32.reduceOfInt, Int8.reduceOfInt, Int16.reduceOfInt, Int64.reduceOfInt, Int8.toInt32_ofNat, Int16.toInt32_ofNat, Int.reduceNeg, Int32.ofInt_neg, Int8.ofInt_neg, Int16.ofInt_neg, Int32.toInt64_ofNat, Int32.reduceToNatClampNeg, Fin.isValue, Fin.val_one, Fin.val_zero, Fin.val_two, Int64.reduceOfNat, Int32.reduceOfNat, hdl, cutc, Nat.reduceEqDiff, reduceIte, FV, tyC, tyX0, tyX1, tyX2, tyX3, tyX4, tyX5, tyX6, tyX7, tyX8, tyX9, tyX10, Nat.reduceMul, c_le, c_lt, c_eq, c_in, c_cl, c_add, c_rem, c_ofN, Int32.add_zero, Int32.zero_add, c_lt0, c_ge0, c_le0, c_gt0, c_e0, c_m1, c_m1', false_implies, true_implies, implies_true, not_false_eq_true, not_true_eq_false, Nat.not_lt_zero, up_s, up_1, up_m, ff10_readsPage, bb10_readsPage_0, bb10_readsPage_14, bb10_readsPage_55, cl_59, ca_59, mw_0, mw_1, mw_2, mw_3, mw_4, mw_5, mw_6, mw_7, mw_8, mu_0, mu_1, mu_2, mu_3, mu_4, mu_5, mu_6, mu_7, mu_8, vi_0, vi_1, vi_2, vi_3, vi_4, vi_5, vi_6]
  by_cases hd : pdone P = true
  · have he0 : 0 < e := by
      rcases Nat.eq_zero_or_pos e with q | q
      · exfalso
        have h0 : P = PS0 := by
          cases hn : B.length with
          | zero => rw [hn] at hz; simp only [pend, Prod.mk.injEq] at hz; exact hz.2.symm
          | succ n =>
            rw [hn] at hz
            simp only [pend] at hz
            split at hz
            · simp only [Prod.mk.injEq] at hz; exact hz.2.symm
            · split at hz
              · simp only [Prod.mk.injEq] at hz; exact hz.2.symm
              · rename_i P3 _
                have := (pend_n B n (0 + 1) P3).2
                rw [hz] at this
                dsimp only at this
                omega
        rw [h0] at hd
        exact pd0 hd
      · exact q
    have hr := key B.length e P [P] fr' (by omega) (by omega) hs (fun hfull => ?_) hst (by simp only [List.length_cons, List.length_nil]; omega) (fun k X hk => ?_)
    · rw [if_pos hd, if_pos hd]
      rw [if_pos hd] at hr
      exact hr
    · have hc : e = B.length ∨ B.getD e 0 = 59 := by
        by_cases q : e < B.length ∧ B.getD e 0 ≠ 59
        · have := (stop_bad (by omega) hs hst (Or.inr q)).1
          rw [this] at hfull
          exact absurd hfull (by decide)
        · omega
      exact (pend_pts B _ _ _ _ _ rfl hz he0 hc).symm
    · cases k with
      | zero => simp only [List.getElem?_cons_zero, Option.some.injEq] at hk; subst hk; exact h2 hd
      | succ k => exact absurd hk (by simp)
  · rw [if_neg hd, if_neg hd]
    exact hbad e P (nI 0) fr' (by omega) hs hst (Or.inl hd)
end MPAGE

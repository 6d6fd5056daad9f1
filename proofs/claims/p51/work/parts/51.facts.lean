/-! WHAT HOLDS OF CODES, RUNS AND COUNTS -/
theorem esc_pos (v : Nat) : 1 ≤ (esc v).length := by unfold esc; split <;> simp
theorem nums_pos {k : List Nat} (h : k ≠ []) : 1 ≤ nums k := by
  cases k with
  | nil => exact absurd rfl h
  | cons a t => have := esc_pos a; rw [nums_cons]; omega
theorem enc_ne (r : Nat) : enc r ≠ [] := by unfold enc; split <;> simp
theorem rl_ne (p : Nat) : ∀ n i b r, rl p n i b r ≠ [] := by
  intro n
  induction n with
  | zero => intro i b r; simp [rl]
  | succ n ih => intro i b r; simp only [rl]; split <;> simp [ih]
theorem ker_ne (wd p m : Nat) (hw : 1 ≤ wd) : ker wd p m ≠ [] := by
  unfold ker
  split
  · intro h
    have := fours_len p ((wd + 3) / 4) 0
    rw [h] at this
    simp only [List.length_nil] at this
    omega
  · unfold runs
    cases h : rl p wd 0 false 0 with
    | nil => exact absurd h (rl_ne _ _ _ _ _)
    | cons a t =>
      rw [List.flatMap_cons]
      intro q
      exact enc_ne a (List.append_eq_nil_iff.mp q).1
theorem clen_ge (wd : Nat) (L : List Nat) (n m : Nat) (hw : 1 ≤ wd) : 6 ≤ clen wd L n m := by
  rw [clen_ker]
  have := nums_pos (ker_ne wd (kpx L n m) m hw)
  omega
theorem best_le (wd : Nat) (L : List Nat) (n k : Nat) (hk : k < 3) : clen wd L n (bestM wd L n) ≤ clen wd L n k := by
  unfold bestM
  rcases (show k = 0 ∨ k = 1 ∨ k = 2 by omega) with rfl | rfl | rfl
  all_goals (split <;> (try split) <;> omega)
theorem chk_le (wd : Nat) (L : List Nat) (n m : Nat) : chk wd L n m ≤ 14 := by
  have : chk wd L n m < 15 := Nat.mod_lt _ (by decide)
  omega
theorem rl_len2 (p : Nat) : ∀ n i b r, 1 ≤ (rl p n i b r).length ∧ (rl p n i b r).length ≤ n + 1 := by
  intro n
  induction n with
  | zero => intro i b r; simp [rl]
  | succ n ih =>
    intro i b r
    simp only [rl]
    split
    · have := ih (i + 1) b (r + 1); omega
    · have := ih (i + 1) (!b) 1; simp only [List.length_cons]; omega
theorem runs_cn2 (wd p : Nat) : 1 ≤ (runs wd p).length ∧ (runs wd p).length ≤ wd + 1 := rl_len2 p wd 0 false 0
theorem mxL_le {l : List Nat} {B : Nat} (h : ∀ x ∈ l, x ≤ B) : mxL l ≤ B := by
  induction l with
  | nil => exact Nat.zero_le _
  | cons a t ih =>
    simp only [mxL]
    have h1 := h a List.mem_cons_self
    have h2 := ih (fun x hx => h x (List.mem_cons_of_mem _ hx))
    omega
theorem runs_mx (wd p : Nat) (hw : 1 ≤ wd) : 1 ≤ mxL (runs wd p) ∧ mxL (runs wd p) ≤ wd := by
  refine ⟨?_, mxL_le (runs_le wd p hw)⟩
  unfold runs
  obtain ⟨n, rfl⟩ : ∃ k, wd = k + 1 := ⟨wd - 1, by omega⟩
  simp only [rl]
  split
  · have := rl_mx p n (0 + 1) false (0 + 1); omega
  · have := rl_mx p n (0 + 1) (!false) 1
    simp only [mxL]
    omega
theorem fb_hi (q : Nat → Bool) (wd : Nat) (h : ∀ j, wd ≤ j → q j = false) : ∀ d, fb_ct q (wd + d) = fb_ct q wd := by
  intro d
  induction d with
  | zero => rfl
  | succ d ih =>
    rw [show wd + (d + 1) = wd + d + 1 from rfl, fb_ct_succ, ih, h (wd + d) (by omega)]
    rfl
theorem blk_ct {p wd : Nat} (hp : p < 2 ^ wd) (hw : wd ≤ 32) : fb_ct p.testBit 32 = fb_ct p.testBit wd := by
  have := fb_hi p.testBit wd (fun j hj => tb_hi hp hj) (32 - wd)
  rw [show wd + (32 - wd) = 32 by omega] at this
  exact this
theorem alike_ct (R : List (Option Nat)) (L : List Nat) : ∀ n, alike R L n ≤ fb_ct (fun j => (R.getD j none).isSome) n := by
  intro n
  induction n with
  | zero => exact Nat.le_refl 0
  | succ n ih =>
    simp only [alike, fb_ct_succ]
    by_cases h : R.getD n none = some (L.getD n 0)
    · rw [if_pos h, h]
      have : (if (some (L.getD n 0)).isSome = true then 1 else 0) = 1 := rfl
      omega
    · rw [if_neg h]
      omega
theorem alike_cnt (R : List (Option Nat)) (L : List Nat) {n : Nat} (hn : n ≤ 10) : alike R L n ≤ cntR R := Nat.le_trans (alike_ct R L n) (fb_ct_mono _ hn)
/-- how many of the first k lines are received -/
def gotK (R : List (Option Nat)) (k : Nat) : Nat := fb_ct (fun j => (R.getD j none).isSome) k
theorem gotK_succ (R : List (Option Nat)) (k : Nat) : gotK R (k + 1) = gotK R k + gotN R k := by
  unfold gotK gotN
  rw [fb_ct_succ]
  cases h : R.getD k none <;> simp
theorem gotK_10 (R : List (Option Nat)) : gotK R 10 = cntR R := rfl
theorem gotK_le (R : List (Option Nat)) (k : Nat) : gotK R k ≤ k := fb_ct_le _ _
/-- behind sending and reading all is right -/
theorem Rk_alike {S : AS} {k : Nat} (hk : k ≤ 10) : ∀ n, n ≤ k → alike (Rk S k) (a_L S) n = n := by
  intro n
  induction n with
  | zero => intro _; rfl
  | succ n ih =>
    intro h
    simp only [alike]
    rw [ih (by omega), if_pos (by rw [Rk_get (by omega), if_pos (by omega)])]
theorem Rk_cnt {S : AS} {k : Nat} (hk : k ≤ 10) : cntR (Rk S k) = k := by
  have h : ∀ n, n ≤ 10 → fb_ct (fun j => ((Rk S k).getD j none).isSome) n = min n k := by
    intro n
    induction n with
    | zero => intro _; simp [fb_ct]
    | succ n ih =>
      intro hn
      rw [fb_ct_succ, ih (by omega), Rk_get (by omega)]
      by_cases h : n < k
      · rw [if_pos h]; simp; omega
      · rw [if_neg h]; simp; omega
  have := h 10 (Nat.le_refl _)
  unfold cntR
  rw [this]
  omega
/-! PLACES OF ERRORS GROW -/
def EI (E : List (Nat × Nat)) (p : Nat) : Prop := (∀ q ∈ E, q.1 < p) ∧ ∀ k, k + 1 < E.length → (E.getD k (0, 0)).1 < (E.getD (k + 1) (0, 0)).1
theorem EI.up {E : List (Nat × Nat)} {p q : Nat} (h : EI E p) (hq : p ≤ q) : EI E q := ⟨fun x hx => Nat.lt_of_lt_of_le (h.1 x hx) hq, h.2⟩
theorem EI.note {E : List (Nat × Nat)} {p k : Nat} (h : EI E p) (hk : p ≤ k) (e : Nat) : EI (noteE E k e) (k + 2) := by
  unfold noteE
  split
  · refine ⟨fun x hx => ?_, fun j hj => ?_⟩
    · rcases List.mem_append.mp hx with hx | hx
      · have := h.1 x hx; omega
      · simp only [List.mem_cons, List.not_mem_nil, or_false] at hx; subst hx; dsimp only; omega
    · rw [List.length_append] at hj
      simp only [List.length_cons, List.length_nil] at hj
      rcases Nat.lt_or_ge (j + 1) E.length with q | q
      · have := h.2 j q
        rw [List.getD_eq_getElem?_getD, List.getD_eq_getElem?_getD] at this ⊢
        rw [List.getElem?_append_left (by omega), List.getElem?_append_left q]
        exact this
      · have hj2 : j + 1 = E.length := by omega
        rw [List.getD_eq_getElem?_getD, List.getD_eq_getElem?_getD, List.getElem?_append_left (by omega), List.getElem?_append_right (by omega), hj2, Nat.sub_self, List.getElem?_eq_getElem (show j < E.length by omega)]
        have := h.1 _ (List.getElem_mem (show j < E.length by omega))
        show E[j].1 < k
        omega
  · exact h.up (by omega)
theorem mfr_ge (s : List Nat) : ∀ n p k, mfr s n p = some k → p ≤ k := by
  intro n
  induction n with
  | zero => intro p k h; simp [mfr] at h
  | succ n ih =>
    intro p k h
    simp only [mfr] at h
    split at h
    · cases h; exact Nat.le_refl _
    · have := ih _ _ h; omega
theorem kn_ge {s : List Nat} {p v q : Nat} (h : kn s p = .inr (v, q)) : p ≤ q := by
  unfold kn at h
  split at h
  · exact absurd h (by simp)
  · split at h
    · split at h
      · exact absurd h (by simp)
      · split at h
        · exact absurd h (by simp)
        · split at h
          · simp only [Sum.inr.injEq, Prod.mk.injEq] at h; omega
          · exact absurd h (by simp)
    · simp only [Sum.inr.injEq, Prod.mk.injEq] at h; omega
theorem rn_ge {s : List Nat} {p l q d : Nat} (h : rn s p = .inr (l, q, d)) : p ≤ q := by
  unfold rn at h
  split at h
  · exact absurd h (by simp)
  · rename_i v q1 h1
    have a1 := kn_ge h1
    split at h
    · exact absurd h (by simp)
    · split at h
      · split at h
        · exact absurd h (by simp)
        · rename_i v2 q2 h2
          have a2 := kn_ge h2
          split at h
          · exact absurd h (by simp)
          · rename_i v3 q3 h3
            have a3 := kn_ge h3
            simp only [Sum.inr.injEq, Prod.mk.injEq] at h
            omega
      · simp only [Sum.inr.injEq, Prod.mk.injEq] at h
        omega
theorem fos_ge (s : List Nat) (wd : Nat) : ∀ n f x p sm y q sm', fos s wd n f x p sm = .inr (y, q, sm') → p ≤ q := by
  intro n
  induction n with
  | zero => intro f x p sm y q sm' h; simp only [fos, Sum.inr.injEq, Prod.mk.injEq] at h; omega
  | succ n ih =>
    intro f x p sm y q sm' h
    simp only [fos] at h
    split at h
    · simp only [Sum.inr.injEq, Prod.mk.injEq] at h; omega
    · split at h
      · exact absurd h (by simp)
      · rename_i v q1 h1
        have a1 := kn_ge h1
        split at h
        · exact absurd h (by simp)
        · have := ih _ _ _ _ _ _ _ h; omega
theorem rns_ge (s : List Nat) (wd : Nat) : ∀ n t b x p sm y q sm', rns s wd n t b x p sm = .inr (y, q, sm') → p ≤ q := by
  intro n
  induction n with
  | zero => intro t b x p sm y q sm' h; simp only [rns, Sum.inr.injEq, Prod.mk.injEq] at h; omega
  | succ n ih =>
    intro t b x p sm y q sm' h
    simp only [rns] at h
    split at h
    · simp only [Sum.inr.injEq, Prod.mk.injEq] at h; omega
    · split at h
      · exact absurd h (by simp)
      · rename_i v q1 d h1
        have a1 := rn_ge h1
        split at h
        · exact absurd h (by simp)
        · have := ih _ _ _ _ _ _ _ _ h; omega
theorem rend_ge {s : List Nat} {R : List (Option Nat)} {n m p : Nat} {z : Nat ⊕ (Nat × Nat × Nat)} (hz : ∀ x q sm, z = .inr (x, q, sm) → p ≤ q) {n' x q : Nat} (h : rend s R n m z = .inr (n', x, q)) : p ≤ q := by
  unfold rend at h
  split at h
  · exact absurd h (by simp)
  · rename_i x1 q1 sm1
    have a1 := hz _ _ _ rfl
    split at h
    · exact absurd h (by simp)
    · split at h
      · simp only [Sum.inr.injEq, Prod.mk.injEq] at h; omega
      · exact absurd h (by simp)
theorem rcd_ge {s : List Nat} {wd : Nat} {R : List (Option Nat)} {p n x q : Nat} (h : rcd s wd R p = .inr (n, x, q)) : p ≤ q := by
  unfold rcd at h
  split at h
  · exact absurd h (by simp)
  · split at h
    · exact absurd h (by simp)
    · split at h
      · exact absurd h (by simp)
      · split at h
        · exact absurd h (by simp)
        · split at h
          · exact absurd h (by simp)
          · refine rend_ge (p := p) (fun x q sm hz => ?_) h
            split at hz
            · have := fos_ge _ _ _ _ _ _ _ _ _ _ hz; omega
            · have := rns_ge _ _ _ _ _ _ _ _ _ _ _ hz; omega
theorem rdg_ei (s : List Nat) (wd : Nat) : ∀ n p R E, EI E p → ∃ q, EI (rdg s wd n p R E).2 q := by
  intro n
  induction n with
  | zero => intro p R E h; exact ⟨p, h⟩
  | succ n ih =>
    intro p R E h
    simp only [rdg]
    split
    · exact ⟨p, h⟩
    · rename_i k hk
      have hk2 := mfr_ge _ _ _ _ hk
      split
      · rename_i e _
        exact ih _ _ _ (h.note hk2 e)
      · rename_i l x q hq
        have := rcd_ge hq
        exact ih _ _ _ (h.up (by omega))
def EG (S : AS) : Prop := ∀ k, k + 1 < (a_E S).length → ((a_E S).getD k (0, 0)).1 < ((a_E S).getD (k + 1) (0, 0)).1
theorem readA_eg (s : List Nat) (wd : Nat) : ∀ k, k + 1 < (readA s wd).2.length → ((readA s wd).2.getD k (0, 0)).1 < ((readA s wd).2.getD (k + 1) (0, 0)).1 := by
  obtain ⟨q, hq⟩ := rdg_ei s wd 500 0 R0 [] ⟨fun x hx => (List.not_mem_nil hx).elim, fun k hk => absurd hk (by simp)⟩
  exact hq.2
/-- an object as the law's turns leave it -/
def VOK (U : US) : Prop := UOK U ∧ EG (us_S U) ∧ ∀ t ∈ us_T U, EG t
theorem VOK.push {U : US} (h : VOK U) {S : AS} (hS : UOK (oDo 0 S U).2.2) (hE : EG S) : VOK (S, us_N U, pushT (us_T U) (us_S U), us_B U) := by
  refine ⟨hS, hE, fun t ht => ?_⟩
  have ht : t ∈ pushT (us_T U) (us_S U) := ht
  unfold pushT at ht
  split at ht
  · rcases List.mem_append.mp ht with ht | ht
    · exact h.2.2 t (List.mem_of_mem_tail ht)
    · simp only [List.mem_cons, List.not_mem_nil, or_false] at ht; subst ht; exact h.2.1
  · rcases List.mem_append.mp ht with ht | ht
    · exact h.2.2 t ht
    · simp only [List.mem_cons, List.not_mem_nil, or_false] at ht; subst ht; exact h.2.1
/-- the object behind a change of its state -/
abbrev uD (S : AS) (U : US) : US := (S, us_N U, pushT (us_T U) (us_S U), us_B U)
/-- and behind the undo of one -/
def uU (U : US) : US := (o_undo U).2.2
theorem pushT_ne (T : List AS) (S : AS) : pushT T S ≠ [] := by unfold pushT; split <;> simp
theorem pushT_last (T : List AS) (S : AS) (h : pushT T S ≠ []) : (pushT T S).getLast h = S := by
  unfold pushT at *
  split at * <;> simp
theorem pushT_len {T : List AS} (S : AS) (h : T.length ≤ 5) : (pushT T S).length = if T.length < 5 then T.length + 1 else 5 := by
  unfold pushT
  split
  · rw [if_neg (by omega), List.length_append, List.length_tail]; simp; omega
  · rw [if_pos (by omega), List.length_append]; simp
theorem pushT_drop (T : List AS) (S : AS) : (pushT T S).dropLast = if T.length = 5 then T.tail else T := by
  unfold pushT
  split <;> simp
theorem undo_uD (S : AS) (U : US) : o_undo (uD S U) = (0, (pushT (us_T U) (us_S U)).length - 1, us_S U, us_N U, (pushT (us_T U) (us_S U)).dropLast, us_B U) := by
  unfold o_undo
  rw [dif_pos (show us_T (uD S U) ≠ [] from pushT_ne _ _)]
  have := pushT_last (us_T U) (us_S U) (pushT_ne _ _)
  show (0, (pushT (us_T U) (us_S U)).length - 1, (pushT (us_T U) (us_S U)).getLast _, us_N U, (pushT (us_T U) (us_S U)).dropLast, us_B U) = _
  rw [this]
theorem undo_ok {U : US} (h : VOK U) : VOK (o_undo U).2.2 := by
  refine ⟨ok_undo h.1, ?_⟩
  unfold o_undo
  split
  · rename_i hne
    exact ⟨h.2.2 _ (List.getLast_mem hne), fun t ht => h.2.2 t (List.dropLast_subset _ ht)⟩
  · exact h.2

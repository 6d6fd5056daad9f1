/-! PLAYING A TEXT -/
/-- a part is done: what is then, if its method wouldn't throw -/
def prf (P : PS) (S : AS) : Option AS :=
  if P.2.1 = 43 then (if P.2.2.1 ≤ a_wd S ∧ (a_L S).length < 10 then some (s_L S (a_L S ++ [P.2.2.2.1])) else none)
  else if P.2.1 = 45 then (if 0 < (a_L S).length then some (s_L S (a_L S).dropLast) else none)
  else if P.2.1 = 114 then some (s_rd S (readA (a_s S) (a_wd S)))
  else if P.2.1 = 115 then some (s_s S (sentA S))
  else (if P.2.2.2.2.2.1 < (a_s S).length then some (s_s S ((a_s S).set P.2.2.2.2.2.1 P.2.2.2.2.2.2)) else none)
/-- a part as it may be -/
def PGd (P : PS) : Prop := (P.2.1 = 43 ∧ P.2.2.2.1 < 2 ^ P.2.2.1 ∧ P.2.2.1 ≤ 32) ∨ P.2.1 = 45 ∨ P.2.1 = 114 ∨ P.2.1 = 115 ∨ (P.2.1 = 120 ∧ P.2.2.2.2.2.1 < 500 ∧ P.2.2.2.2.2.2 < 16)
theorem prf_ok {P : PS} {S S' : AS} (hP : PGd P) (hS : SOK S) (h : prf P S = some S') : SOK S' := by
  unfold prf at h
  split at h
  · rename_i hk
    split at h
    · rename_i hc
      cases h
      refine hS.setL (fun q hq => ?_) (by rw [List.length_append]; simp only [List.length_cons, List.length_nil]; omega)
      rcases List.mem_append.mp hq with hq | hq
      · exact hS.2.2.2.1 q hq
      · simp only [List.mem_cons, List.not_mem_nil, or_false] at hq
        subst hq
        rcases hP with ⟨-, h1, h2⟩ | h1 | h1 | h1 | ⟨h1, -⟩
        · exact Nat.lt_of_lt_of_le h1 (Nat.pow_le_pow_right (by decide) hc.1)
        all_goals omega
    · exact absurd h (by simp)
  · split at h
    · split at h
      · cases h
        exact hS.setL (fun q hq => hS.2.2.2.1 q (List.dropLast_subset _ hq)) (by have := hS.2.2.2.2.1; rw [List.length_dropLast]; omega)
      · exact absurd h (by simp)
    · split at h
      · cases h
        exact hS.setR (readA_ok _ _ hS.2.1 hS.2.2.2.2.2.2.1)
      · split at h
        · cases h
          exact hS.setS hS.snt.1 (by have := hS.snt.2; omega)
        · split at h
          · cases h
            refine hS.setS (mem_set_lt hS.2.2.2.2.2.1 ?_) (by rw [List.length_set]; exact hS.2.2.2.2.2.2.1)
            rcases hP with ⟨h1, -⟩ | h1 | h1 | h1 | ⟨-, -, h1⟩
            · omega
            · omega
            · omega
            · omega
            · exact h1
          · exact absurd h (by simp)
/-- the parts of a text, from i on -/
def pts (T : List Nat) : Nat → Nat → PS → List PS
  | 0, _, _ => []
  | n + 1, i, P =>
    match pstp P (T.getD i 0) with
    | none => []
    | some P' => if i + 1 = T.length ∨ T.getD (i + 1) 0 = 59 then P' :: pts T n (i + 1) P' else pts T n (i + 1) P'
/-- parts done in turn: how many, whether it stopped, what is then -/
def doP : List PS → AS → Nat → Nat × Bool × AS
  | [], S, d => (d, false, S)
  | P :: t, S, d =>
    match prf P S with
    | none => (d, true, S)
    | some S' => doP t S' (d + 1)
def playA (B : List Nat) (S : AS) : Nat × Bool × AS := doP (pts B B.length 0 PS0) S 0
def o_play (U : US) : OC := if pfull (us_B U) = true then (0, (playA (us_B U) (us_S U)).1, s_st (playA (us_B U) (us_S U)).2.2 (if (playA (us_B U) (us_S U)).2.1 = true then some (playA (us_B U) (us_S U)).1 else none), us_N U, pushT (us_T U) (us_S U), []) else oNo 1 U
/-- a scanner as it may be -/
def PSI (P : PS) : Prop := P.1 = 0 ∨ (P.1 = 1 ∧ P.2.1 = 43 ∧ P.2.2.2.1 < 2 ^ P.2.2.1 ∧ P.2.2.1 ≤ 32) ∨ (P.1 = 2 ∧ P.2.1 = 120 ∧ P.2.2.2.2.2.1 < 500 ∧ P.2.2.2.2.2.2 < 16) ∨ (P.1 = 3 ∧ P.2.1 = 120 ∧ P.2.2.2.2.2.1 < 500 ∧ P.2.2.2.2.2.2 < 16) ∨ (P.1 = 4 ∧ (P.2.1 = 45 ∨ P.2.1 = 114 ∨ P.2.1 = 115))
def PSZ (P : PS) : Prop := PSI P ∧ (P.1 = 0 → P = PS0)
theorem PSZ0 : PSZ PS0 := ⟨Or.inl rfl, fun _ => rfl⟩
theorem pstp_I {P P' : PS} {k : Nat} (h : pstp P k = some P') (hP : PSZ P) : PSZ P' := by
  obtain ⟨hI, h0⟩ := hP
  have hE : ∀ A : PS, some A = some P' → PSZ A → PSZ P' := fun A e x => by cases e; exact x
  unfold pstp at h
  split at h
  · split at h
    · exact hE _ h PSZ0
    · exact absurd h (by simp)
  · split at h
    · rename_i hp
      have hp0 := h0 hp
      subst hp0
      split at h
      · exact hE _ h ⟨Or.inr (Or.inl ⟨rfl, by assumption, (by decide : (0:Nat) < 2 ^ 0), (by decide : (0:Nat) ≤ 32)⟩), fun q => absurd q (show ¬(1:Nat) = 0 by decide)⟩
      · split at h
        · exact hE _ h ⟨Or.inr (Or.inr (Or.inl ⟨rfl, by assumption, (by decide : (0:Nat) < 500), (by decide : (0:Nat) < 16)⟩)), fun q => absurd q (show ¬(2:Nat) = 0 by decide)⟩
        · split at h
          · exact hE _ h ⟨Or.inr (Or.inr (Or.inr (Or.inr ⟨rfl, by assumption⟩))), fun q => absurd q (show ¬(4:Nat) = 0 by decide)⟩
          · exact absurd h (by simp)
    · split at h
      · rename_i hp
        split at h
        · rename_i hc
          rcases hI with h1 | ⟨h1, h2, h3, h4⟩ | ⟨h1, -⟩ | ⟨h1, -⟩ | ⟨h1, -⟩
          · omega
          · refine hE _ h ⟨Or.inr (Or.inl ⟨hp, h2, ?_, ?_⟩), fun q => absurd (show P.1 = 0 from q) (by omega)⟩
            · have h5 : P.2.2.2.1 < 2 ^ (P.2.2.1 + 1) := Nat.lt_trans h3 (Nat.pow_lt_pow_right (by decide) (by omega))
              show (if k = 35 then P.2.2.2.1 ||| 2 ^ P.2.2.1 else P.2.2.2.1) < 2 ^ (P.2.2.1 + 1)
              split
              · exact or_lt h5 (Nat.pow_lt_pow_right (by decide) (by omega))
              · exact h5
            · show P.2.2.1 + 1 ≤ 32
              omega
          all_goals omega
        · exact absurd h (by simp)
      · split at h
        · rename_i hp
          have h2 : P.2.1 = 120 ∧ P.2.2.2.2.2.1 < 500 ∧ P.2.2.2.2.2.2 < 16 := by
            rcases hI with h1 | ⟨h1, -⟩ | ⟨-, h2⟩ | ⟨h1, -⟩ | ⟨h1, -⟩
            · omega
            · omega
            · exact h2
            · omega
            · omega
          split at h
          · exact hE _ h ⟨Or.inr (Or.inr (Or.inr (Or.inl ⟨rfl, h2⟩))), fun q => absurd q (show ¬(3:Nat) = 0 by decide)⟩
          · split at h
            · rename_i hd
              unfold dgb at hd
              simp only [Bool.and_eq_true, decide_eq_true_eq] at hd
              exact hE _ h ⟨Or.inr (Or.inr (Or.inl ⟨hp, h2.1, (show 10 * P.2.2.2.2.2.1 + (k - 48) < 500 by omega), h2.2.2⟩)), fun q => absurd (show P.1 = 0 from q) (by omega)⟩
            · exact absurd h (by simp)
        · split at h
          · rename_i hp
            have h2 : P.2.1 = 120 ∧ P.2.2.2.2.2.1 < 500 ∧ P.2.2.2.2.2.2 < 16 := by
              rcases hI with h1 | ⟨h1, -⟩ | ⟨h1, -⟩ | ⟨-, h2⟩ | ⟨h1, -⟩
              · omega
              · omega
              · omega
              · exact h2
              · omega
            split at h
            · rename_i hd
              unfold dgb at hd
              simp only [Bool.and_eq_true, decide_eq_true_eq] at hd
              exact hE _ h ⟨Or.inr (Or.inr (Or.inr (Or.inl ⟨hp, h2.1, h2.2.1, (show 10 * P.2.2.2.2.2.2 + (k - 48) < 16 by omega)⟩))), fun q => absurd (show P.1 = 0 from q) (by omega)⟩
            · exact absurd h (by simp)
          · exact absurd h (by simp)
theorem PSI.done {P : PS} (h : PSI P) (hd : pdone P = true) : PGd P := by
  unfold pdone at hd
  simp only [Bool.or_eq_true, Bool.and_eq_true, decide_eq_true_eq] at hd
  rcases h with h | ⟨h1, h2⟩ | ⟨h1, h2⟩ | ⟨h1, h2⟩ | ⟨h1, h2 | h2 | h2⟩
  · omega
  · exact Or.inl h2
  · omega
  · exact Or.inr (Or.inr (Or.inr (Or.inr h2)))
  · exact Or.inr (Or.inl h2)
  · exact Or.inr (Or.inr (Or.inl h2))
  · exact Or.inr (Or.inr (Or.inr (Or.inl h2)))
theorem pstp_59 {P P' : PS} (h : pstp P 59 = some P') : pdone P = true := by
  unfold pstp at h
  rw [if_pos rfl] at h
  split at h
  · assumption
  · exact absurd h (by simp)
/-- at each end of a part the scanner holds a whole part -/
theorem pts_ok (T : List Nat) (Pf : PS) (hf : pdone Pf = true) : ∀ n i P, n + i = T.length → PSZ P → (pscan T n i P).2 = some Pf → ∀ X ∈ pts T n i P, PGd X := by
  intro n
  induction n with
  | zero => intro i P _ _ _ X hX; simp [pts] at hX
  | succ n ih =>
    intro i P hi hP hs X hX
    simp only [pscan, pts] at hs hX
    cases hp : pstp P (T.getD i 0) with
    | none => rw [hp] at hX; simp at hX
    | some P' =>
      rw [hp] at hs hX
      dsimp only at hs hX
      have hP' := pstp_I hp hP
      have hrec := ih (i + 1) P' (by omega) hP' hs
      split at hX
      · rename_i he
        rcases List.mem_cons.mp hX with rfl | hX
        · refine hP'.1.done ?_
          cases n with
          | zero => simp only [pscan, Option.some.injEq] at hs; rw [hs]; exact hf
          | succ n =>
            simp only [pscan] at hs
            rcases he with he | he
            · omega
            · rw [he] at hs
              cases hq : pstp X 59 with
              | none => rw [hq] at hs; exact absurd hs (by simp)
              | some P2 => exact pstp_59 hq
        · exact hrec X hX
      · exact hrec X hX
theorem pfull_some {T : List Nat} (h : pfull T = true) : ∃ Pf, (pscan T T.length 0 PS0).2 = some Pf ∧ pdone Pf = true := by
  unfold pfull at h
  split at h
  · exact absurd h (by simp)
  · rename_i P hP; exact ⟨P, hP, h⟩
theorem doP_ok : ∀ (l : List PS), (∀ X ∈ l, PGd X) → ∀ S d, SOK S → SOK (doP l S d).2.2 ∧ (doP l S d).1 ≤ d + l.length := by
  intro l
  induction l with
  | nil => intro _ S d h; exact ⟨h, Nat.le_refl _⟩
  | cons P t ih =>
    intro hl S d h
    simp only [doP]
    split
    · exact ⟨h, Nat.le_add_right _ _⟩
    · rename_i S' hS'
      obtain ⟨h1, h2⟩ := ih (fun X hX => hl X (List.mem_cons_of_mem _ hX)) S' (d + 1) (prf_ok (hl P List.mem_cons_self) h hS')
      exact ⟨h1, by rw [List.length_cons]; omega⟩
theorem pts_len (T : List Nat) : ∀ n i P, (pts T n i P).length ≤ n := by
  intro n
  induction n with
  | zero => intro i P; simp [pts]
  | succ n ih =>
    intro i P
    simp only [pts]
    split
    · simp
    · split
      · have := ih (i + 1) ‹_›; rw [List.length_cons]; omega
      · have := ih (i + 1) ‹_›; omega
theorem ok_play {U : US} (h : UOK U) : UOK (o_play U).2.2 := by
  unfold o_play
  split
  · rename_i hp
    obtain ⟨Pf, h1, h2⟩ := pfull_some hp
    have hp := pts_ok (us_B U) Pf h2 _ 0 PS0 rfl PSZ0 h1
    obtain ⟨d1, d2⟩ := doP_ok _ hp (us_S U) 0 h.1
    have hl := pts_len (us_B U) (us_B U).length 0 PS0
    have h6 := h.2.2.2.2.2
    have hk := h.push (S := s_st (playA (us_B U) (us_S U)).2.2 (if (playA (us_B U) (us_S U)).2.1 = true then some (playA (us_B U) (us_S U)).1 else none)) (SOK.setSt d1 (fun k hk => ?_)) 0
    · exact ⟨hk.1, hk.2.1, hk.2.2.1, hk.2.2.2.1, fun c hc => (List.not_mem_nil hc).elim, Nat.zero_le 60⟩
    · split at hk
      · cases hk; unfold playA; omega
      · exact absurd hk (by simp)
  · exact h

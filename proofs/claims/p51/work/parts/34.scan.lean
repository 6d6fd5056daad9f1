/-! SCANNING A TEXT -/
def PSW (P : PS) (i : Nat) : Prop := P.1 ≤ 4 ∧ P.2.2.1 ≤ 32 ∧ P.2.2.2.2.1 ≤ i ∧ P.2.2.2.2.2.1 < 1000 ∧ P.2.2.2.2.2.2 < 1000
theorem PSW0 : PSW PS0 0 := ⟨by decide, by decide, by decide, by decide, by decide⟩
theorem pstp_w {P P' : PS} {k i : Nat} (h : pstp P k = some P') (hw : PSW P i) : PSW P' (i + 1) := by
  obtain ⟨ph, ki, pc, px, dg, pl, nu⟩ := P
  obtain ⟨w1, w2, w3, w4, w5⟩ := hw
  dsimp only at w1 w2 w3 w4 w5
  unfold pstp at h
  dsimp only at h
  have hE : ∀ A : PS, some A = some P' → PSW A (i + 1) → PSW P' (i + 1) := fun A e x => by cases e; exact x
  split at h
  · split at h
    · exact hE _ h ⟨by decide, by decide, Nat.zero_le _, by decide, by decide⟩
    · exact absurd h (by simp)
  · split at h
    · split at h
      · exact hE _ h ⟨by dsimp only; omega, w2, by dsimp only; omega, w4, w5⟩
      · split at h
        · exact hE _ h ⟨by dsimp only; omega, w2, by dsimp only; omega, w4, w5⟩
        · split at h
          · exact hE _ h ⟨by dsimp only; omega, w2, by dsimp only; omega, w4, w5⟩
          · exact absurd h (by simp)
    · split at h
      · split at h
        · exact hE _ h ⟨w1, by dsimp only; omega, by dsimp only; omega, w4, w5⟩
        · exact absurd h (by simp)
      · split at h
        · split at h
          · exact hE _ h ⟨by dsimp only; omega, w2, Nat.zero_le _, w4, w5⟩
          · split at h
            · rename_i hd
              unfold dgb at hd
              simp only [Bool.and_eq_true, decide_eq_true_eq] at hd
              exact hE _ h ⟨w1, w2, by dsimp only; omega, by dsimp only; omega, w5⟩
            · exact absurd h (by simp)
        · split at h
          · split at h
            · rename_i hd
              unfold dgb at hd
              simp only [Bool.and_eq_true, decide_eq_true_eq] at hd
              exact hE _ h ⟨w1, w2, by dsimp only; omega, w4, by dsimp only; omega⟩
            · exact absurd h (by simp)
          · exact absurd h (by simp)
/-- n characters from i on: how far it is right, and the scanner then -/
def pscan (T : List Nat) : Nat → Nat → PS → Nat × Option PS
  | 0, i, P => (i, some P)
  | n + 1, i, P =>
    match pstp P (T.getD i 0) with
    | none => (i, none)
    | some P' => pscan T n (i + 1) P'
section SCAN
variable {Γ : Amb} {w : PW} {Q : Option Value → Option Nat → PW → Prop} {b : Nat} {T : List Nat}
theorem pscan_len (T : List Nat) : ∀ n i P P', (pscan T n i P).2 = some P' → (pscan T n i P).1 = i + n := by
  intro n
  induction n with
  | zero => intro i P P' _; rfl
  | succ n ih =>
    intro i P P' h
    simp only [pscan] at h ⊢
    split at h
    · exact absurd h (by simp)
    · rename_i P2 hs
      rw [ih _ _ _ h]; omega
theorem pscan_lt (T : List Nat) : ∀ n i P, (pscan T n i P).2 = none → (pscan T n i P).1 < i + n := by
  intro n
  induction n with
  | zero => intro i P h; exact absurd h (by simp [pscan])
  | succ n ih =>
    intro i P h
    simp only [pscan] at h ⊢
    split at h
    · dsimp only; omega
    · rename_i P2 hs
      have := ih _ _ h
      omega
def pfull (T : List Nat) : Bool := match (pscan T T.length 0 PS0).2 with
  | none => false
  | some P => pdone P
end SCAN

/-! WORDS FOR STATES: numbers, what a part of the world is, what stays -/
theorem fv4 : (0 : Fin 4).val = 0 ∧ (1 : Fin 4).val = 1 ∧ (2 : Fin 4).val = 2 ∧ (3 : Fin 4).val = 3 := ⟨rfl, rfl, rfl, rfl⟩
theorem RI_i (x : Int32) : RI (some .int) x = True := eq_true (Or.inl rfl)
theorem RI_z0 : RI (some .boolean) 0 = True := eq_true (Or.inr ⟨rfl, Or.inl rfl⟩)
theorem RI_z1 : RI (some .boolean) 1 = True := eq_true (Or.inr ⟨rfl, Or.inr rfl⟩)
/-- nothing outside of lo .. lo + n - 1 has changed -/
def Fr (w w' : PW) (lo n : Nat) : Prop := ∀ b, (b < lo ∨ lo + n ≤ b) → w' b = w b
theorem Fr.rf {w : PW} {lo n : Nat} : Fr w w lo n := fun _ _ => rfl
theorem Fr.tr {w w1 w2 : PW} {lo n : Nat} (h : Fr w w1 lo n) (h2 : Fr w1 w2 lo n) : Fr w w2 lo n := fun b hb => (h2 b hb).trans (h b hb)
theorem Fr.wid {w w1 : PW} {lo n lo2 n2 : Nat} (h : Fr w w1 lo n) (h1 : lo2 ≤ lo) (h2 : lo + n ≤ lo2 + n2) : Fr w w1 lo2 n2 := fun b hb => h b (by omega)
theorem Fr.up {w : PW} {lo n a : Nat} {e : va_E} (h1 : lo ≤ a) (h2 : a < lo + n) : Fr w (up w a e) lo n := fun b hb => by
  have : b ≠ a := by omega
  simp [up, this]
theorem Fr.at {w w1 : PW} {lo n a : Nat} (h : Fr w w1 lo n) (h1 : a < lo ∨ lo + n ≤ a) : w1 a = w a := h a h1
theorem up_s (w : PW) (a : Nat) (e : va_E) : up w a e a = some e := by simp [up]
theorem up_n (w : PW) (a b : Nat) (e : va_E) (h : b ≠ a) : up w a e b = w b := by simp [up, h]
theorem up_1 (w : PW) (a : Nat) (e : va_E) : up w a e (a + 1) = w (a + 1) := by simp [up]
theorem up_m (w : PW) (a : Nat) (e : va_E) : up w (a + 1) e a = w a := by simp [up]
theorem up_u (w : PW) (a : Nat) (e e2 : va_E) : up (up w a e) a e2 = up w a e2 := by
  funext b
  by_cases h : b = a <;> simp [up, h]
/-- an array of numbers -/
def IA (f : Nat → Int32) (L : List Nat) : Prop := ∀ j, j < L.length → f j = nI (L.getD j 0)
def LA (f : Nat → Int64) (L : List Nat) : Prop := ∀ j, j < L.length → f j = lN (L.getD j 0)
/-- a stream at a -/
def SmR (w : PW) (a : Nat) (s : List Nat) : Prop := ∃ f, w a = some (.inr (8, [.int (nI s.length), .ref (a + 1)])) ∧ w (a + 1) = some (.inl (0, 500, .inl f)) ∧ IA f s ∧ s.length ≤ 500
/-- a page at a: width, style, lines -/
def PgR (w : PW) (a wd sy : Nat) (L : List Nat) : Prop := ∃ f, w a = some (.inr (2, [.int (nI wd), .int (nI sy), .int (nI L.length), .ref (a + 1)])) ∧ w (a + 1) = some (.inl (1, 10, .inr (.inl f))) ∧ LA f L ∧ L.length ≤ 10
/-- a reception at a: what is received, the errors -/
def RcR (w : PW) (a : Nat) (R : List (Option Nat)) (E : List (Nat × Nat)) : Prop := ∃ (bits : Nat) (f : Nat → Int64) (g h : Nat → Int32), w a = some (.inr (6, [.int (nI bits), .ref (a + 1), .int (nI E.length), .ref (a + 2), .ref (a + 3)])) ∧ w (a + 1) = some (.inl (1, 10, .inr (.inl f))) ∧ w (a + 2) = some (.inl (0, 20, .inl g)) ∧ w (a + 3) = some (.inl (0, 20, .inl h)) ∧
  bits < 1024 ∧ R.length = 10 ∧ (∀ j, j < 10 → bits.testBit j = (R.getD j none).isSome) ∧ (∀ j p, j < 10 → R.getD j none = some p → f j = lN p) ∧ IA g (E.map (fun q => q.1)) ∧ IA h (E.map (fun q => q.2)) ∧ E.length ≤ 20
theorem SmR.fr {w w' : PW} {a lo n : Nat} {s : List Nat} (h : SmR w a s) (hf : Fr w w' lo n) (hd : a + 2 ≤ lo ∨ lo + n ≤ a) : SmR w' a s := by
  obtain ⟨f, h1, h2, h3⟩ := h
  exact ⟨f, by rw [hf a (by omega)]; exact h1, by rw [hf (a + 1) (by omega)]; exact h2, h3⟩
theorem PgR.fr {w w' : PW} {a lo n wd sy : Nat} {s : List Nat} (h : PgR w a wd sy s) (hf : Fr w w' lo n) (hd : a + 2 ≤ lo ∨ lo + n ≤ a) : PgR w' a wd sy s := by
  obtain ⟨f, h1, h2, h3⟩ := h
  exact ⟨f, by rw [hf a (by omega)]; exact h1, by rw [hf (a + 1) (by omega)]; exact h2, h3⟩
theorem RcR.fr {w w' : PW} {a lo n : Nat} {R : List (Option Nat)} {E : List (Nat × Nat)} (h : RcR w a R E) (hf : Fr w w' lo n) (hd : a + 4 ≤ lo ∨ lo + n ≤ a) : RcR w' a R E := by
  obtain ⟨bits, f, g, h', h1, h2, h3, h4, h5⟩ := h
  exact ⟨bits, f, g, h', by rw [hf a (by omega)]; exact h1, by rw [hf (a + 1) (by omega)]; exact h2, by rw [hf (a + 2) (by omega)]; exact h3, by rw [hf (a + 3) (by omega)]; exact h4, h5⟩
theorem nI_lit (n : Nat) : nI n = Int32.ofNat n := rfl
theorem nI_cl' {n : Nat} (h : n < 2 ^ 31) : (nI n).toNatClampNeg = n := nI_clamp h
theorem lt31 {n m : Nat} (h : n ≤ m) (hm : m < 2147483648 := by decide) : n < 2 ^ 31 := by omega
theorem vin {n m : Nat} (h : n < m) (hm : m ≤ 5000 := by decide) : vp_in (nI n) m := vp_in_nI h (by omega)

/-! TEXTS -/
/-- a scanner's cell -/
abbrev scr (ph ki pc : Int32) (px : Int64) (dg pl nu : Int32) : va_E := .inr (4, [.int ph, .int ki, .int pc, .long px, .int dg, .int pl, .int nu])
/-- a buffer at b: its text; its scanner lies at b + 2 -/
def TxR (w : PW) (b : Nat) (T : List Nat) : Prop := ∃ f, w b = some (.inr (3, [.ref (b + 1), .int (nI T.length), .ref (b + 2)])) ∧ w (b + 1) = some (.inl (0, 60, .inl f)) ∧ IA f T ∧ T.length ≤ 60
/-- some scanner -/
def ScR (w : PW) (c : Nat) : Prop := ∃ ph ki pc px dg pl nu, w c = some (scr ph ki pc px dg pl nu)
theorem TxR.fr {w w' : PW} {a lo n : Nat} {T : List Nat} (h : TxR w a T) (hf : Fr w w' lo n) (hd : a + 2 ≤ lo ∨ lo + n ≤ a) : TxR w' a T := by
  obtain ⟨f, h1, h2, h3⟩ := h
  exact ⟨f, by rw [hf a (by omega)]; exact h1, by rw [hf (a + 1) (by omega)]; exact h2, h3⟩
section TEXT
variable {Γ : Amb} {w : PW} {Q : Option Value → Option Nat → PW → Prop} {b c : Nat} {T : List Nat}
/-- a scanner: phase, kind, pixels' count, pixels, digits, place, number -/
abbrev PS : Type := Nat × Nat × Nat × Nat × Nat × Nat × Nat
abbrev scp (P : PS) : va_E := scr (nI P.1) (nI P.2.1) (nI P.2.2.1) (lN P.2.2.2.1) (nI P.2.2.2.2.1) (nI P.2.2.2.2.2.1) (nI P.2.2.2.2.2.2)
def PS0 : PS := (0, 0, 0, 0, 0, 0, 0)
def pdone (P : PS) : Bool := P.1 = 4 || (P.1 = 1 && decide (0 < P.2.2.1)) || (P.1 = 3 && decide (0 < P.2.2.2.2.1))
def dgb (dg v c m : Nat) : Bool := decide (48 ≤ c) && decide (c ≤ 57) && !(decide (0 < dg) && decide (v = 0)) && decide (10 * v + (c - 48) ≤ m)
/-- one character more: the scanner then, unless it is wrong -/
def pstp (P : PS) (k : Nat) : Option PS :=
  if k = 59 then (if pdone P = true then some PS0 else none)
  else if P.1 = 0 then (if k = 43 then some (1, k, P.2.2) else if k = 120 then some (2, k, P.2.2) else if k = 45 ∨ k = 114 ∨ k = 115 then some (4, k, P.2.2) else none)
  else if P.1 = 1 then (if P.2.2.1 < 32 ∧ (k = 46 ∨ k = 35) then some (P.1, P.2.1, P.2.2.1 + 1, (if k = 35 then P.2.2.2.1 ||| 2 ^ P.2.2.1 else P.2.2.2.1), P.2.2.2.2) else none)
  else if P.1 = 2 then (if k = 61 ∧ 0 < P.2.2.2.2.1 then some (3, P.2.1, P.2.2.1, P.2.2.2.1, 0, P.2.2.2.2.2) else if dgb P.2.2.2.2.1 P.2.2.2.2.2.1 k 499 = true then some (P.1, P.2.1, P.2.2.1, P.2.2.2.1, P.2.2.2.2.1 + 1, 10 * P.2.2.2.2.2.1 + (k - 48), P.2.2.2.2.2.2) else none)
  else if P.1 = 3 then (if dgb P.2.2.2.2.1 P.2.2.2.2.2.2 k 15 = true then some (P.1, P.2.1, P.2.2.1, P.2.2.2.1, P.2.2.2.2.1 + 1, P.2.2.2.2.2.1, 10 * P.2.2.2.2.2.2 + (k - 48)) else none)
  else none
end TEXT

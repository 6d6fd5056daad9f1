/-! THE OBJECT AND ITS PARTS -/
/-- state, snapshot, saved states, buffer -/
abbrev US : Type := AS × Option AS × List AS × List Nat
abbrev us_S (U : US) : AS := U.1
abbrev us_N (U : US) : Option AS := U.2.1
abbrev us_T (U : US) : List AS := U.2.2.1
abbrev us_B (U : US) : List Nat := U.2.2.2
/-- a state as it may be -/
def SOK (S : AS) : Prop := 8 ≤ a_wd S ∧ a_wd S ≤ 32 ∧ a_sy S ≤ 3 ∧ (∀ p ∈ a_L S, p < 2 ^ a_wd S) ∧ (a_L S).length ≤ 10 ∧ (∀ v ∈ a_s S, v < 16) ∧ (a_s S).length ≤ 500 ∧ (a_R S).length = 10 ∧ RcOK (a_R S) ∧ (a_E S).length ≤ 20 ∧ (∀ q ∈ a_E S, q.1 < 500 ∧ q.2 ≤ 8) ∧ ∀ k, a_st S = some k → k ≤ 60
def UOK (U : US) : Prop := SOK (us_S U) ∧ (∀ n, us_N U = some n → SOK n) ∧ (∀ t ∈ us_T U, SOK t) ∧ (us_T U).length ≤ 5 ∧ (∀ c ∈ us_B U, 33 ≤ c ∧ c ≤ 126) ∧ (us_B U).length ≤ 60
theorem SOK.lok {S : AS} (h : SOK S) : LOK (a_L S) := by
  obtain ⟨h1, h2, h3, h4, -⟩ := h
  intro j
  rcases Nat.lt_or_ge j (a_L S).length with hj | hj
  · have h5 := h4 _ (List.mem_of_getElem? (getD_some hj))
    have h6 : 2 ^ a_wd S ≤ 2 ^ 32 := Nat.pow_le_pow_right (by decide) h2
    omega
  · rw [List.getD_eq_getElem?_getD, List.getElem?_eq_none hj]; decide
section XOF
variable {w w' : PW} {x : Nat} {S : AS} {N : Option AS} {T : List AS} {B : List Nat}
theorem XO.cells (h : XO w x S N T B) : w x = some (.inr (9, [.ref (x + 1), .ref (x + 10), .int (hsI N), .ref (x + 19), .ref (x + 66), .ref (x + 69), .ref (x + 72), .ref (x + 73)])) ∧
    (∃ v : Int32, w (x + 1) = some (.inr (7, [.ref (x + 1 + 1), .ref (x + 1 + 3), .ref (x + 1 + 5), .int (stI (a_st S)), .int v])) ∧ ∀ k, a_st S = some k → v = nI k) ∧
    w (x + 1 + 1) = some (.inr (2, [.int (nI (a_wd S)), .int (nI (a_sy S)), .int (nI (a_L S).length), .ref (x + 1 + 1 + 1)])) ∧
    w (x + 1 + 3) = some (.inr (8, [.int (nI (a_s S).length), .ref (x + 1 + 3 + 1)])) ∧
    (∃ bits : Nat, w (x + 1 + 5) = some (.inr (6, [.int (nI bits), .ref (x + 1 + 5 + 1), .int (nI (a_E S).length), .ref (x + 1 + 5 + 2), .ref (x + 1 + 5 + 3)]))) := by
  obtain ⟨h1, ⟨⟨gf, g1, -⟩, ⟨mf, m1, -⟩, ⟨b, _, _, _, q1, -⟩, v, hc, hv⟩, -⟩ := h
  exact ⟨h1, ⟨v, hc, hv⟩, g1, m1, b, q1⟩
theorem XO.more (h : XO w x S N T B) : (∃ o : Nat, w (x + 19) = some (.inr (1, [.int (nI T.length), .int (nI o), .ref (x + 19 + 1)]))) ∧
    w (x + 66) = some (.inr (3, [.ref (x + 66 + 1), .int (nI B.length), .ref (x + 66 + 2)])) ∧
    (∃ ph ki pc px dg pl nu, w (x + 66 + 2) = some (scr ph ki pc px dg pl nu)) ∧
    (∃ (kl cl : Nat) (ch : Int32), w (x + 69) = some (.inr (0, [.ref (x + 69 + 1), .int (nI kl), .ref (x + 69 + 2), .int (nI cl), .int ch]))) ∧
    (∃ p s e : Int32, w (x + 72) = some (.inr (5, [.int p, .int s, .int e]))) ∧
    (∃ bits el : Nat, w (x + 73) = some (.inr (6, [.int (nI bits), .ref (x + 73 + 1), .int (nI el), .ref (x + 73 + 2), .ref (x + 73 + 3)]))) ∧
    (∃ a b c d e, w (x + 10) = some (.inr (7, [.ref a, .ref b, .ref c, .int d, .int e]))) := by
  obtain ⟨-, -, ⟨N', ⟨-, -, -, v', hc', -⟩, -⟩, ⟨o, _, _, t1, -⟩, ⟨_, b1, -⟩, hs, ⟨K, C, ch, _, _, k1, -⟩, ⟨p, s, e, r1⟩, R, E, b, _, _, _, q1, -⟩ := h
  exact ⟨⟨o, t1⟩, b1, hs, ⟨_, _, _, k1⟩, ⟨p, s, e, r1⟩, ⟨b, _, q1⟩, _, _, _, _, _, hc'⟩
theorem XO.hist (h : XO w x S N T B) {T' : List AS} (h' : HsR w' (x + 19) T') (hf : Fr w w' (x + 19) 47) : XO w' x S N T' B := by
  obtain ⟨h1, h2, ⟨N', h3, h3'⟩, h4, h5, ⟨_, _, _, _, _, _, _, h6⟩, ⟨K, C, ch, h7⟩, ⟨p, s, e, h8⟩, R, E, h9⟩ := h
  exact ⟨h1.fr hf (by omega), h2.fr hf (by omega), ⟨N', h3.fr hf (by omega), h3'⟩, h', h5.fr hf (by omega), ⟨_, _, _, _, _, _, _, (hf.at (by omega)).trans h6⟩, ⟨K, C, ch, h7.fr hf (by omega)⟩, ⟨p, s, e, (hf.at (by omega)).trans h8⟩, R, E, h9.fr hf (by omega)⟩
theorem XO.state (h : XO w x S N T B) {S' : AS} (h' : StR w' (x + 1) S') (hf : Fr w w' (x + 1) 9) : XO w' x S' N T B := by
  obtain ⟨h1, h2, ⟨N', h3, h3'⟩, h4, h5, ⟨_, _, _, _, _, _, _, h6⟩, ⟨K, C, ch, h7⟩, ⟨p, s, e, h8⟩, R, E, h9⟩ := h
  exact ⟨h1.fr hf (by omega), h', ⟨N', h3.fr hf (by omega), h3'⟩, h4.fr hf (by omega), h5.fr hf (by omega), ⟨_, _, _, _, _, _, _, (hf.at (by omega)).trans h6⟩, ⟨K, C, ch, h7.fr hf (by omega)⟩, ⟨p, s, e, (hf.at (by omega)).trans h8⟩, R, E, h9.fr hf (by omega)⟩
theorem XO.page (h : XO w x S N T B) {wd sy : Nat} {L : List Nat} (h' : PgR w' (x + 1 + 1) wd sy L) (hf : Fr w w' (x + 1 + 1) 2) : XO w' x (wd, sy, L, a_s S, a_R S, a_E S, a_st S) N T B := by
  obtain ⟨g1, g2, g3, v, g4, g5⟩ := h.2.1
  exact h.state ⟨h', g2.fr hf (by omega), g3.fr hf (by omega), v, (hf.at (by omega)).trans g4, g5⟩ (hf.wid (by omega) (by omega))
theorem XO.stream (h : XO w x S N T B) {s : List Nat} (h' : SmR w' (x + 1 + 3) s) (hf : Fr w w' (x + 1 + 3) 2) : XO w' x (a_wd S, a_sy S, a_L S, s, a_R S, a_E S, a_st S) N T B := by
  obtain ⟨g1, g2, g3, v, g4, g5⟩ := h.2.1
  exact h.state ⟨g1.fr hf (by omega), h', g3.fr hf (by omega), v, (hf.at (by omega)).trans g4, g5⟩ (hf.wid (by omega) (by omega))
theorem XO.recep (h : XO w x S N T B) {R : List (Option Nat)} {E : List (Nat × Nat)} (h' : RcR w' (x + 1 + 5) R E) (hf : Fr w w' (x + 1 + 5) 4) : XO w' x (a_wd S, a_sy S, a_L S, a_s S, R, E, a_st S) N T B := by
  obtain ⟨g1, g2, g3, v, g4, g5⟩ := h.2.1
  exact h.state ⟨g1.fr hf (by omega), g2.fr hf (by omega), h', v, (hf.at (by omega)).trans g4, g5⟩ (hf.wid (by omega) (by omega))
theorem XO.text (h : XO w x S N T B) {B' : List Nat} (h' : TxR w' (x + 66) B') (hf : Fr w w' (x + 66) 2) : XO w' x S N T B' := by
  obtain ⟨h1, h2, ⟨N', h3, h3'⟩, h4, h5, ⟨_, _, _, _, _, _, _, h6⟩, ⟨K, C, ch, h7⟩, ⟨p, s, e, h8⟩, R, E, h9⟩ := h
  exact ⟨h1.fr hf (by omega), h2.fr hf (by omega), ⟨N', h3.fr hf (by omega), h3'⟩, h4.fr hf (by omega), h', ⟨_, _, _, _, _, _, _, (hf.at (by omega)).trans h6⟩, ⟨K, C, ch, h7.fr hf (by omega)⟩, ⟨p, s, e, (hf.at (by omega)).trans h8⟩, R, E, h9.fr hf (by omega)⟩
theorem XO.scan (h : XO w x S N T B) (h' : ScR w' (x + 68)) (hf : Fr w w' (x + 68) 1) : XO w' x S N T B := by
  obtain ⟨h1, h2, ⟨N', h3, h3'⟩, h4, h5, h6, ⟨K, C, ch, h7⟩, ⟨p, s, e, h8⟩, R, E, h9⟩ := h
  exact ⟨h1.fr hf (by omega), h2.fr hf (by omega), ⟨N', h3.fr hf (by omega), h3'⟩, h4.fr hf (by omega), h5.fr hf (by omega), h', ⟨K, C, ch, h7.fr hf (by omega)⟩, ⟨p, s, e, (hf.at (by omega)).trans h8⟩, R, E, h9.fr hf (by omega)⟩
theorem XO.coder (h : XO w x S N T B) {K C : List Nat} {ch : Int32} (h' : CoR w' (x + 69) K C ch) (hf : Fr w w' (x + 69) 3) : XO w' x S N T B := by
  obtain ⟨h1, h2, ⟨N', h3, h3'⟩, h4, h5, ⟨_, _, _, _, _, _, _, h6⟩, -, ⟨p, s, e, h8⟩, R, E, h9⟩ := h
  exact ⟨h1.fr hf (by omega), h2.fr hf (by omega), ⟨N', h3.fr hf (by omega), h3'⟩, h4.fr hf (by omega), h5.fr hf (by omega), ⟨_, _, _, _, _, _, _, (hf.at (by omega)).trans h6⟩, ⟨K, C, ch, h'⟩, ⟨p, s, e, (hf.at (by omega)).trans h8⟩, R, E, h9.fr hf (by omega)⟩
theorem XO.reader (h : XO w x S N T B) {p s e : Int32} {R : List (Option Nat)} {E : List (Nat × Nat)} (h8 : w' (x + 72) = some (rdc p s e)) (h9 : RcR w' (x + 73) R E) (hf : Fr w w' (x + 72) 5) : XO w' x S N T B := by
  obtain ⟨h1, h2, ⟨N', h3, h3'⟩, h4, h5, ⟨_, _, _, _, _, _, _, h6⟩, ⟨K, C, ch, h7⟩, -⟩ := h
  exact ⟨h1.fr hf (by omega), h2.fr hf (by omega), ⟨N', h3.fr hf (by omega), h3'⟩, h4.fr hf (by omega), h5.fr hf (by omega), ⟨_, _, _, _, _, _, _, (hf.at (by omega)).trans h6⟩, ⟨K, C, ch, h7.fr hf (by omega)⟩, ⟨p, s, e, h8⟩, R, E, h9⟩
theorem XO.fr (h : XO w x S N T B) {lo n : Nat} (hf : Fr w w' lo n) (hd : x + 77 ≤ lo ∨ lo + n ≤ x) : XO w' x S N T B := by
  obtain ⟨h1, h2, ⟨N', h3, h3'⟩, h4, h5, ⟨_, _, _, _, _, _, _, h6⟩, ⟨K, C, ch, h7⟩, ⟨p, s, e, h8⟩, R, E, h9⟩ := h
  exact ⟨h1.fr hf (by omega), h2.fr hf (by omega), ⟨N', h3.fr hf (by omega), h3'⟩, h4.fr hf (by omega), h5.fr hf (by omega), ⟨_, _, _, _, _, _, _, (hf.at (by omega)).trans h6⟩, ⟨K, C, ch, h7.fr hf (by omega)⟩, ⟨p, s, e, (hf.at (by omega)).trans h8⟩, R, E, h9.fr hf (by omega)⟩
end XOF
/-! NUMBERS THAT ARE ASKED FOR -/
/-- the number that v is, below n -/
def ix (v : Int32) (n : Nat) : Option Nat := if v < 0 then none else if v.toNatClampNeg < n then some v.toNatClampNeg else none
theorem ix_of {j n : Nat} (h : j < n) (hn : n ≤ 2147483648) : ix (nI j) n = some j := by
  unfold ix
  rw [if_neg (nI_pos (n := j) (by omega)), nI_clamp (by omega), if_pos h]
theorem ix_cases (v : Int32) (n : Nat) (hn : n ≤ 2147483648) : (∃ j, j < n ∧ v = nI j ∧ ix v n = some j) ∨ ((∀ j, j < n → v ≠ nI j) ∧ ix v n = none) := by
  rcases i_cases v with h | ⟨j, hj, rfl⟩
  · exact Or.inr ⟨fun j hj => neg_ne h j (by omega), if_pos h⟩
  · rcases Nat.lt_or_ge j n with hl | hl
    · exact Or.inl ⟨j, hl, rfl, ix_of hl hn⟩
    · refine Or.inr ⟨fun i hi q => ?_, ?_⟩
      · rw [c_eq hj (by omega)] at q; omega
      · unfold ix
        rw [if_neg (nI_pos (n := j) (by omega)), nI_clamp (by omega), if_neg (by omega)]
/-- the pixels that v is, below 2 ^ k -/
def px (v : Int64) (k : Nat) : Option Nat := if v.toUInt64.toNat < 2 ^ k then some v.toUInt64.toNat else none
theorem px_cases (v : Int64) (k : Nat) (hk : k < 64) : (∃ p, p < 2 ^ k ∧ v = lN p ∧ px v k = some p) ∨ ((∀ p, p < 2 ^ k → v ≠ lN p) ∧ px v k = none) := by
  have h64 : (2 : Nat) ^ k ≤ 2 ^ 64 := Nat.pow_le_pow_right (by decide) (by omega)
  obtain ⟨n, hn, rfl⟩ := wb_of v
  have e : (lN n).toUInt64.toNat = n := wb_tn hn
  unfold px
  rw [e]
  rcases Nat.lt_or_ge n (2 ^ k) with hl | hl
  · exact Or.inl ⟨n, hl, rfl, if_pos hl⟩
  · refine Or.inr ⟨fun p hp q => ?_, if_neg (by omega)⟩
    rw [lN_eq' hn (by omega)] at q; omega

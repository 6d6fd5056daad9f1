/-! THE LAW: its cases' words -/
theorem lg_self (a : Int64) : lg_cmp a a = 0 := by
  unfold lg_cmp
  simp [Int64.lt_irrefl]
theorem MU.cell {w : PW} {m : Nat} {th : Int32} {U : US} (h : MU w m th U) : ∃ l, w m = some (.inr (10, l)) := by
  obtain ⟨_, _, _, _, _, _, _, _, _, _, _, _, _, _, _, _, _, e, -⟩ := h
  rw [e]
  exact ⟨_, mw_0 _ _ _ _ _ _ _ _ _ _ _ _ _ _ _ _ _ _ _ _ _ _ _⟩
theorem MU.fr {w w' : PW} {m lo k : Nat} {th : Int32} {U : US} (h : MU w m th U) (hf : Fr w w' lo k) (hd : m + 9 ≤ lo ∨ lo + k ≤ m) : MU w' m th U := by
  obtain ⟨a1, a2, a3, a4, a5, a6, a7, a8, a9, f1, f2, f3, f4, f5, f6, f7, f8, e, r⟩ := h
  refine ⟨a1, a2, a3, a4, a5, a6, a7, a8, a9, f1, f2, f3, f4, f5, f6, f7, f8, mw_of ?_ ?_ ?_ ?_ ?_ ?_ ?_ ?_ ?_, r⟩
  · exact (hf.at (by omega)).trans ((congrFun e m).trans (mw_0 _ _ _ _ _ _ _ _ _ _ _ _ _ _ _ _ _ _ _ _ _ _ _))
  · exact (hf.at (by omega)).trans ((congrFun e (m + 1)).trans (mw_1 _ _ _ _ _ _ _ _ _ _ _ _ _ _ _ _ _ _ _ _ _ _ _))
  · exact (hf.at (by omega)).trans ((congrFun e (m + 2)).trans (mw_2 _ _ _ _ _ _ _ _ _ _ _ _ _ _ _ _ _ _ _ _ _ _ _))
  · exact (hf.at (by omega)).trans ((congrFun e (m + 3)).trans (mw_3 _ _ _ _ _ _ _ _ _ _ _ _ _ _ _ _ _ _ _ _ _ _ _))
  · exact (hf.at (by omega)).trans ((congrFun e (m + 4)).trans (mw_4 _ _ _ _ _ _ _ _ _ _ _ _ _ _ _ _ _ _ _ _ _ _ _))
  · exact (hf.at (by omega)).trans ((congrFun e (m + 5)).trans (mw_5 _ _ _ _ _ _ _ _ _ _ _ _ _ _ _ _ _ _ _ _ _ _ _))
  · exact (hf.at (by omega)).trans ((congrFun e (m + 6)).trans (mw_6 _ _ _ _ _ _ _ _ _ _ _ _ _ _ _ _ _ _ _ _ _ _ _))
  · exact (hf.at (by omega)).trans ((congrFun e (m + 7)).trans (mw_7 _ _ _ _ _ _ _ _ _ _ _ _ _ _ _ _ _ _ _ _ _ _ _))
  · exact (hf.at (by omega)).trans ((congrFun e (m + 8)).trans (mw_8 _ _ _ _ _ _ _ _ _ _ _ _ _ _ _ _ _ _ _ _ _ _ _))
theorem sp10_thr {Γ : Amb} {w : PW} {Q : Option Value → Option Nat → PW → Prop} {m : Nat} {th : Int32} {U : US} (h : MU w m th U) (hQ : Q (some (.int th)) none w) : Sp Γ m10_thrown [.ref m] none w Q := by
  obtain ⟨_, _, _, _, _, _, _, _, _, _, _, _, _, _, _, _, _, e, -⟩ := h
  have t := sp10_thrown (Γ := Γ) (Q := Q) (w := w) (m := m) (th := th) (by rw [← e]; exact hQ)
  rw [← e] at t
  exact t
abbrev QL : Option Value → Option Nat → PW → Prop := fun v _ _ => v = some (.int 1)
abbrev XL : String → PW → Prop := fun _ _ => False
abbrev LSt (sb x i : Nat) (l5 l6 l7 l8 : Option Value) : LSL := [some (.ref sb), some (.ref x), some (.ref (x + 77)), some (.ref (x + 86)), some (.int (nI i)), l5, l6, l7, l8]
/-- both sides hold the same, and there is a place for answers -/
def RDY (w : PW) (x : Nat) (th : Int32) (U : US) : Prop := XU w x U ∧ MU w (x + 77) th U ∧ UOK U ∧ ∃ f, w (x + 86) = some (.inl (1, 1, .inr (.inl f)))
/-- what stands behind a case -/
def NXT (Γ : Amb) (n : String) (h : List ((Nat × Nat × Nat × Nat) × String)) (sb sL : Nat) (sx : Nat → Int32) (x i cs ss : Nat) : Prop := ∀ (U : US) (th : Int32) (w : PW) (l5 l6 l7 l8 : Option Value) (cs' ss' : Nat), RDY w x th U → cs' ≤ cs + 2 → ss' ≤ ss + 12 → GL Γ (mLL n h) QL XL sb sL sx 2169 (LSt sb x i l5 l6 l7 l8) [] none w cs' ss'
theorem lw_fin {c : Nat} {a b : Int64} {P : Prop} (hv : c = 0 → a = b) (hb : c < 4) (h0 : nI c = 0 → a = b → P) (h1 : (nI c = (0 : Int32)) = False → P) : P := by
  by_cases hz : c = 0
  · exact h0 (by rw [hz]; rfl) (hv hz)
  · exact h1 ((c_e0 (by omega)).trans (eq_false hz))
theorem cb_o_setWidth (v : Int32) (U : US) : (o_setWidth v U).1 < 4 := by
  rcases cd_o_setWidth v U with hc | ⟨hc, -⟩ <;> rw [hc] <;> decide
theorem cb_o_addLine (v : Int64) (U : US) : (o_addLine v U).1 < 4 := by
  rcases cd_o_addLine v U with hc | ⟨hc, -⟩ | ⟨hc, -⟩ <;> rw [hc] <;> decide
theorem cb_o_setLine (l : Int32) (v : Int64) (U : US) : (o_setLine l v U).1 < 4 := by
  rcases cd_o_setLine l v U with hc | ⟨hc, -⟩ | ⟨hc, -⟩ <;> rw [hc] <;> decide
theorem cb_o_dropLast (U : US) : (o_dropLast U).1 < 4 := by
  rcases cd_o_dropLast U with hc | ⟨hc, -⟩ <;> rw [hc] <;> decide
theorem cb_o_setStyle (v : Int32) (U : US) : (o_setStyle v U).1 < 4 := by
  rcases cd_o_setStyle v U with hc | ⟨hc, -⟩ <;> rw [hc] <;> decide
theorem cb_o_replace (l : Int32) (v : Int32) (U : US) : (o_replace l v U).1 < 4 := by
  rcases cd_o_replace l v U with hc | ⟨hc, -⟩ | ⟨hc, -⟩ <;> rw [hc] <;> decide
theorem cb_o_lose (l : Int32) (U : US) : (o_lose l U).1 < 4 := by
  rcases cd_o_lose l U with hc | ⟨hc, -⟩ <;> rw [hc] <;> decide
theorem cb_o_gain (l : Int32) (v : Int32) (U : US) : (o_gain l v U).1 < 4 := by
  rcases cd_o_gain l v U with hc | ⟨hc, -⟩ | ⟨hc, -⟩ | ⟨hc, -⟩ <;> rw [hc] <;> decide
theorem cb_o_append (v : Int32) (U : US) : (o_append v U).1 < 4 := by
  rcases cd_o_append v U with hc | ⟨hc, -⟩ | ⟨hc, -⟩ <;> rw [hc] <;> decide
theorem cb_o_play (U : US) : (o_play U).1 < 4 := by
  rcases cd_o_play U with hc | ⟨hc, -⟩ <;> rw [hc] <;> decide
theorem cb_v_stopped (U : US) : (v_stopped U).1 < 4 := by
  rcases cd_v_stopped U with hc | hc <;> rw [hc] <;> decide
theorem cb_o_undo (U : US) : (o_undo U).1 < 4 := by
  rcases cd_o_undo U with hc | ⟨hc, -⟩ <;> rw [hc] <;> decide
theorem cb_o_restore (U : US) : (o_restore U).1 < 4 := by
  rcases cd_o_restore U with hc | ⟨hc, -⟩ <;> rw [hc] <;> decide
theorem cb_v_pixelsOf (l : Int32) (U : US) : (v_pixelsOf l U).1 < 4 := by
  rcases cd_v_pixelsOf l U with hc | hc <;> rw [hc] <;> decide
theorem cb_v_isBlack (l : Int32) (v : Int32) (U : US) : (v_isBlack l v U).1 < 4 := by
  rcases cd_v_isBlack l v U with hc | hc <;> rw [hc] <;> decide
theorem cb_v_runsOf (l : Int32) (U : US) : (v_runsOf l U).1 < 4 := by
  rcases cd_v_runsOf l U with hc | hc <;> rw [hc] <;> decide
theorem cb_v_longestRun (l : Int32) (U : US) : (v_longestRun l U).1 < 4 := by
  rcases cd_v_longestRun l U with hc | hc <;> rw [hc] <;> decide
theorem cb_v_clen (l : Int32) (v : Int32) (U : US) : (v_clen l v U).1 < 4 := by
  rcases cd_v_clen l v U with hc | hc | hc <;> rw [hc] <;> decide
theorem cb_v_modeOf (l : Int32) (U : US) : (v_modeOf l U).1 < 4 := by
  rcases cd_v_modeOf l U with hc | hc <;> rw [hc] <;> decide
theorem cb_v_chk (l : Int32) (v : Int32) (U : US) : (v_chk l v U).1 < 4 := by
  rcases cd_v_chk l v U with hc | hc | hc <;> rw [hc] <;> decide
theorem cb_v_numberAt (l : Int32) (U : US) : (v_numberAt l U).1 < 4 := by
  rcases cd_v_numberAt l U with hc | hc <;> rw [hc] <;> decide
theorem cb_v_isReceived (l : Int32) (U : US) : (v_isReceived l U).1 < 4 := by
  rcases cd_v_isReceived l U with hc | hc <;> rw [hc] <;> decide
theorem cb_v_receivedPixels (l : Int32) (U : US) : (v_receivedPixels l U).1 < 4 := by
  rcases cd_v_receivedPixels l U with hc | hc | hc <;> rw [hc] <;> decide
theorem cb_v_errorPlace (l : Int32) (U : US) : (v_errorPlace l U).1 < 4 := by
  rcases cd_v_errorPlace l U with hc | hc <;> rw [hc] <;> decide
theorem cb_v_errorReason (l : Int32) (U : US) : (v_errorReason l U).1 < 4 := by
  rcases cd_v_errorReason l U with hc | hc <;> rw [hc] <;> decide
theorem cb_v_rightIf (l : Int32) (v : Int32) (U : US) : (v_rightIf l v U).1 < 4 := by
  rcases cd_v_rightIf l v U with hc | hc | hc <;> rw [hc] <;> decide

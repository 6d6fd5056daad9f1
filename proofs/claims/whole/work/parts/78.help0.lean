/-! THE LAW'S HELPERS: what their codes are -/
theorem hxs_1 {gg : Nat → Nat → Prop} {E : String} {r : Nat × Nat × Nat × Nat} {t : List ((Nat × Nat × Nat × Nat) × String)} (k : ∀ q, gg r.2.2.1 q) : hxs gg E ((r, E) :: t) := Or.inl ⟨rfl, k⟩
theorem hxs_2 {gg : Nat → Nat → Prop} {E E1 : String} {r r1 : Nat × Nat × Nat × Nat} {t : List ((Nat × Nat × Nat × Nat) × String)} (h : E1 ≠ E) (h2 : nck E E1) (k : ∀ q, gg r.2.2.1 q) : hxs gg E ((r1, E1) :: (r, E) :: t) := Or.inr ⟨h, h2, Or.inl ⟨rfl, k⟩⟩
theorem hxs_3 {gg : Nat → Nat → Prop} {E E1 E2 : String} {r r1 r2 : Nat × Nat × Nat × Nat} {t : List ((Nat × Nat × Nat × Nat) × String)} (h : E1 ≠ E) (h2 : nck E E1) (h3 : E2 ≠ E) (h4 : nck E E2) (k : ∀ q, gg r.2.2.1 q) : hxs gg E ((r1, E1) :: (r2, E2) :: (r, E) :: t) := Or.inr ⟨h, h2, Or.inr ⟨h3, h4, Or.inl ⟨rfl, k⟩⟩⟩
theorem nck_1 : nck eIA eIO := List.mem_of_getElem? (i := 0) rfl
theorem nck_2 : nck eIS eIA := List.mem_of_getElem? (i := 1) rfl
theorem nck_3 : nck eIS eIO := List.mem_of_getElem? (i := 2) rfl
theorem ne_1 : eIO ≠ eIA := by decide
theorem ne_2 : eIA ≠ eIS := by decide
theorem ne_3 : eIO ≠ eIS := by decide
theorem vi_o : vp_in 0 1 = True := eq_true (by unfold vp_in; decide)
theorem vpL_0 (f : Nat → Int64) (v : Int64) : vp_updL f 0 v 0 = v := by simp [vp_updL]
theorem cd_o_setWidth (v : Int32) (U : US) : (o_setWidth v U).1 = 0 ∨ ((o_setWidth v U).1 = 1 ∧ (o_setWidth v U).2.2 = U) := by
  unfold o_setWidth
  repeat' split
  all_goals first | exact Or.inl rfl | exact Or.inr (⟨rfl, rfl⟩)
theorem cd_o_addLine (v : Int64) (U : US) : (o_addLine v U).1 = 0 ∨ ((o_addLine v U).1 = 1 ∧ (o_addLine v U).2.2 = U) ∨ ((o_addLine v U).1 = 2 ∧ (o_addLine v U).2.2 = U) := by
  unfold o_addLine
  repeat' split
  all_goals first | exact Or.inl rfl | exact Or.inr (Or.inl ⟨rfl, rfl⟩) | exact Or.inr (Or.inr (⟨rfl, rfl⟩))
theorem cd_o_setLine (l : Int32) (v : Int64) (U : US) : (o_setLine l v U).1 = 0 ∨ ((o_setLine l v U).1 = 1 ∧ (o_setLine l v U).2.2 = U) ∨ ((o_setLine l v U).1 = 2 ∧ (o_setLine l v U).2.2 = U) := by
  unfold o_setLine
  repeat' split
  all_goals first | exact Or.inl rfl | exact Or.inr (Or.inl ⟨rfl, rfl⟩) | exact Or.inr (Or.inr (⟨rfl, rfl⟩))
theorem cd_o_dropLast (U : US) : (o_dropLast U).1 = 0 ∨ ((o_dropLast U).1 = 1 ∧ (o_dropLast U).2.2 = U) := by
  unfold o_dropLast
  repeat' split
  all_goals first | exact Or.inl rfl | exact Or.inr (⟨rfl, rfl⟩)
theorem cd_o_setStyle (v : Int32) (U : US) : (o_setStyle v U).1 = 0 ∨ ((o_setStyle v U).1 = 1 ∧ (o_setStyle v U).2.2 = U) := by
  unfold o_setStyle
  repeat' split
  all_goals first | exact Or.inl rfl | exact Or.inr (⟨rfl, rfl⟩)
theorem cd_o_replace (l : Int32) (v : Int32) (U : US) : (o_replace l v U).1 = 0 ∨ ((o_replace l v U).1 = 1 ∧ (o_replace l v U).2.2 = U) ∨ ((o_replace l v U).1 = 2 ∧ (o_replace l v U).2.2 = U) := by
  unfold o_replace
  repeat' split
  all_goals first | exact Or.inl rfl | exact Or.inr (Or.inl ⟨rfl, rfl⟩) | exact Or.inr (Or.inr (⟨rfl, rfl⟩))
theorem cd_o_lose (l : Int32) (U : US) : (o_lose l U).1 = 0 ∨ ((o_lose l U).1 = 1 ∧ (o_lose l U).2.2 = U) := by
  unfold o_lose
  repeat' split
  all_goals first | exact Or.inl rfl | exact Or.inr (⟨rfl, rfl⟩)
theorem cd_o_gain (l : Int32) (v : Int32) (U : US) : (o_gain l v U).1 = 0 ∨ ((o_gain l v U).1 = 1 ∧ (o_gain l v U).2.2 = U) ∨ ((o_gain l v U).1 = 2 ∧ (o_gain l v U).2.2 = U) ∨ ((o_gain l v U).1 = 3 ∧ (o_gain l v U).2.2 = U) := by
  unfold o_gain
  repeat' split
  all_goals first | exact Or.inl rfl | exact Or.inr (Or.inl ⟨rfl, rfl⟩) | exact Or.inr (Or.inr (Or.inl ⟨rfl, rfl⟩)) | exact Or.inr (Or.inr (Or.inr (⟨rfl, rfl⟩)))
theorem cd_o_append (v : Int32) (U : US) : (o_append v U).1 = 0 ∨ ((o_append v U).1 = 1 ∧ (o_append v U).2.2 = U) ∨ ((o_append v U).1 = 2 ∧ (o_append v U).2.2 = U) := by
  unfold o_append
  repeat' split
  all_goals first | exact Or.inl rfl | exact Or.inr (Or.inl ⟨rfl, rfl⟩) | exact Or.inr (Or.inr (⟨rfl, rfl⟩))
theorem cd_o_play (U : US) : (o_play U).1 = 0 ∨ ((o_play U).1 = 1 ∧ (o_play U).2.2 = U) := by
  unfold o_play
  repeat' split
  all_goals first | exact Or.inl rfl | exact Or.inr (⟨rfl, rfl⟩)
theorem cd_v_stopped (U : US) : (v_stopped U).1 = 0 ∨ ((v_stopped U).1 = 1) := by
  unfold v_stopped
  repeat' split
  all_goals first | exact Or.inl rfl | exact Or.inr (rfl)
theorem cd_o_undo (U : US) : (o_undo U).1 = 0 ∨ ((o_undo U).1 = 1 ∧ (o_undo U).2.2 = U) := by
  unfold o_undo
  repeat' split
  all_goals first | exact Or.inl rfl | exact Or.inr (⟨rfl, rfl⟩)
theorem cd_o_restore (U : US) : (o_restore U).1 = 0 ∨ ((o_restore U).1 = 1 ∧ (o_restore U).2.2 = U) := by
  unfold o_restore
  repeat' split
  all_goals first | exact Or.inl rfl | exact Or.inr (⟨rfl, rfl⟩)
theorem cd_v_pixelsOf (l : Int32) (U : US) : (v_pixelsOf l U).1 = 0 ∨ ((v_pixelsOf l U).1 = 1) := by
  unfold v_pixelsOf
  repeat' split
  all_goals first | exact Or.inl rfl | exact Or.inr (rfl)
theorem cd_v_isBlack (l : Int32) (v : Int32) (U : US) : (v_isBlack l v U).1 = 0 ∨ ((v_isBlack l v U).1 = 1) := by
  unfold v_isBlack
  repeat' split
  all_goals first | exact Or.inl rfl | exact Or.inr (rfl)
theorem cd_v_runsOf (l : Int32) (U : US) : (v_runsOf l U).1 = 0 ∨ ((v_runsOf l U).1 = 1) := by
  unfold v_runsOf
  repeat' split
  all_goals first | exact Or.inl rfl | exact Or.inr (rfl)
theorem cd_v_longestRun (l : Int32) (U : US) : (v_longestRun l U).1 = 0 ∨ ((v_longestRun l U).1 = 1) := by
  unfold v_longestRun
  repeat' split
  all_goals first | exact Or.inl rfl | exact Or.inr (rfl)
theorem cd_v_clen (l : Int32) (v : Int32) (U : US) : (v_clen l v U).1 = 0 ∨ ((v_clen l v U).1 = 1) ∨ ((v_clen l v U).1 = 2) := by
  unfold v_clen
  repeat' split
  all_goals first | exact Or.inl rfl | exact Or.inr (Or.inl rfl) | exact Or.inr (Or.inr (rfl))
theorem cd_v_modeOf (l : Int32) (U : US) : (v_modeOf l U).1 = 0 ∨ ((v_modeOf l U).1 = 1) := by
  unfold v_modeOf
  repeat' split
  all_goals first | exact Or.inl rfl | exact Or.inr (rfl)
theorem cd_v_chk (l : Int32) (v : Int32) (U : US) : (v_chk l v U).1 = 0 ∨ ((v_chk l v U).1 = 1) ∨ ((v_chk l v U).1 = 2) := by
  unfold v_chk
  repeat' split
  all_goals first | exact Or.inl rfl | exact Or.inr (Or.inl rfl) | exact Or.inr (Or.inr (rfl))
theorem cd_v_numberAt (l : Int32) (U : US) : (v_numberAt l U).1 = 0 ∨ ((v_numberAt l U).1 = 1) := by
  unfold v_numberAt
  repeat' split
  all_goals first | exact Or.inl rfl | exact Or.inr (rfl)
theorem cd_v_isReceived (l : Int32) (U : US) : (v_isReceived l U).1 = 0 ∨ ((v_isReceived l U).1 = 1) := by
  unfold v_isReceived
  repeat' split
  all_goals first | exact Or.inl rfl | exact Or.inr (rfl)
theorem cd_v_receivedPixels (l : Int32) (U : US) : (v_receivedPixels l U).1 = 0 ∨ ((v_receivedPixels l U).1 = 1) ∨ ((v_receivedPixels l U).1 = 2) := by
  unfold v_receivedPixels
  repeat' split
  all_goals first | exact Or.inl rfl | exact Or.inr (Or.inl rfl) | exact Or.inr (Or.inr (rfl))
theorem cd_v_errorPlace (l : Int32) (U : US) : (v_errorPlace l U).1 = 0 ∨ ((v_errorPlace l U).1 = 1) := by
  unfold v_errorPlace
  repeat' split
  all_goals first | exact Or.inl rfl | exact Or.inr (rfl)
theorem cd_v_errorReason (l : Int32) (U : US) : (v_errorReason l U).1 = 0 ∨ ((v_errorReason l U).1 = 1) := by
  unfold v_errorReason
  repeat' split
  all_goals first | exact Or.inl rfl | exact Or.inr (rfl)
theorem cd_v_rightIf (l : Int32) (v : Int32) (U : US) : (v_rightIf l v U).1 = 0 ∨ ((v_rightIf l v U).1 = 1) ∨ ((v_rightIf l v U).1 = 2) := by
  unfold v_rightIf
  repeat' split
  all_goals first | exact Or.inl rfl | exact Or.inr (Or.inl rfl) | exact Or.inr (Or.inr (rfl))

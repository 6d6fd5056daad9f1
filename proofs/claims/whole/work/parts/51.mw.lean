/-! THE MODEL'S CELLS, all nine of them -/
def mw (w : PW) (m : Nat) (th sm hs ln at_ iw rm rn cm su pl wy px : Int32) (fs fa ft fn fx fr fu fc : Nat → Int32) : PW := fun b =>
  if b = m then some (.inr (10, [.int th, .ref (m + 1), .ref (m + 2), .ref (m + 3), .int sm, .ref (m + 4), .int hs, .ref (m + 5), .int ln, .int at_, .int iw, .ref (m + 6), .int rm, .ref (m + 7), .int rn, .ref (m + 8), .int cm, .int su, .int pl, .int wy, .int px]))
  else if b = m + 1 then some (.inl (0, 568, .inl fs))
  else if b = m + 2 then some (.inl (0, 568, .inl fa))
  else if b = m + 3 then some (.inl (0, 2840, .inl ft))
  else if b = m + 4 then some (.inl (0, 568, .inl fn))
  else if b = m + 5 then some (.inl (0, 60, .inl fx))
  else if b = m + 6 then some (.inl (0, 96, .inl fr))
  else if b = m + 7 then some (.inl (0, 34, .inl fu))
  else if b = m + 8 then some (.inl (0, 128, .inl fc))
  else w b
theorem upd_at (f : Nat → Int32) (i : Nat) (v : Int32) (j : Nat) : upd f i v j = if j = i then v else f j := rfl
section MW
variable (w : PW) (m : Nat) (th sm hs ln at_ iw rm rn cm su pl wy px : Int32) (fs fa ft fn fx fr fu fc : Nat → Int32)
theorem mw_0 : mw w m th sm hs ln at_ iw rm rn cm su pl wy px fs fa ft fn fx fr fu fc m = some (.inr (10, [.int th, .ref (m + 1), .ref (m + 2), .ref (m + 3), .int sm, .ref (m + 4), .int hs, .ref (m + 5), .int ln, .int at_, .int iw, .ref (m + 6), .int rm, .ref (m + 7), .int rn, .ref (m + 8), .int cm, .int su, .int pl, .int wy, .int px])) := if_pos rfl
theorem mw_1 : mw w m th sm hs ln at_ iw rm rn cm su pl wy px fs fa ft fn fx fr fu fc (m + 1) = some (.inl (0, 568, .inl fs)) := by
  unfold mw
  simp
theorem mw_2 : mw w m th sm hs ln at_ iw rm rn cm su pl wy px fs fa ft fn fx fr fu fc (m + 2) = some (.inl (0, 568, .inl fa)) := by
  unfold mw
  simp
theorem mw_3 : mw w m th sm hs ln at_ iw rm rn cm su pl wy px fs fa ft fn fx fr fu fc (m + 3) = some (.inl (0, 2840, .inl ft)) := by
  unfold mw
  simp
theorem mw_4 : mw w m th sm hs ln at_ iw rm rn cm su pl wy px fs fa ft fn fx fr fu fc (m + 4) = some (.inl (0, 568, .inl fn)) := by
  unfold mw
  simp
theorem mw_5 : mw w m th sm hs ln at_ iw rm rn cm su pl wy px fs fa ft fn fx fr fu fc (m + 5) = some (.inl (0, 60, .inl fx)) := by
  unfold mw
  simp
theorem mw_6 : mw w m th sm hs ln at_ iw rm rn cm su pl wy px fs fa ft fn fx fr fu fc (m + 6) = some (.inl (0, 96, .inl fr)) := by
  unfold mw
  simp
theorem mw_7 : mw w m th sm hs ln at_ iw rm rn cm su pl wy px fs fa ft fn fx fr fu fc (m + 7) = some (.inl (0, 34, .inl fu)) := by
  unfold mw
  simp
theorem mw_8 : mw w m th sm hs ln at_ iw rm rn cm su pl wy px fs fa ft fn fx fr fu fc (m + 8) = some (.inl (0, 128, .inl fc)) := by
  unfold mw
  simp
theorem mw_out {b : Nat} (h : b < m ∨ m + 9 ≤ b) : mw w m th sm hs ln at_ iw rm rn cm su pl wy px fs fa ft fn fx fr fu fc b = w b := by
  unfold mw
  rw [if_neg (by omega), if_neg (by omega), if_neg (by omega), if_neg (by omega), if_neg (by omega), if_neg (by omega), if_neg (by omega), if_neg (by omega), if_neg (by omega)]
theorem mu_0 (th' sm' hs' ln' at_' iw' rm' rn' cm' su' pl' wy' px' : Int32) : up (mw w m th sm hs ln at_ iw rm rn cm su pl wy px fs fa ft fn fx fr fu fc) m (.inr (10, [.int th', .ref (m + 1), .ref (m + 2), .ref (m + 3), .int sm', .ref (m + 4), .int hs', .ref (m + 5), .int ln', .int at_', .int iw', .ref (m + 6), .int rm', .ref (m + 7), .int rn', .ref (m + 8), .int cm', .int su', .int pl', .int wy', .int px'])) = mw w m th' sm' hs' ln' at_' iw' rm' rn' cm' su' pl' wy' px' fs fa ft fn fx fr fu fc := by
  funext b
  unfold mw up
  by_cases h : b = m <;> simp [h]
theorem mu_1 (g : Nat → Int32) : up (mw w m th sm hs ln at_ iw rm rn cm su pl wy px fs fa ft fn fx fr fu fc) (m + 1) (.inl (0, 568, .inl g)) = mw w m th sm hs ln at_ iw rm rn cm su pl wy px g fa ft fn fx fr fu fc := by
  funext b
  unfold mw up
  by_cases h : b = m + 1 <;> simp [h]
theorem mu_2 (g : Nat → Int32) : up (mw w m th sm hs ln at_ iw rm rn cm su pl wy px fs fa ft fn fx fr fu fc) (m + 2) (.inl (0, 568, .inl g)) = mw w m th sm hs ln at_ iw rm rn cm su pl wy px fs g ft fn fx fr fu fc := by
  funext b
  unfold mw up
  by_cases h : b = m + 2 <;> simp [h]
theorem mu_3 (g : Nat → Int32) : up (mw w m th sm hs ln at_ iw rm rn cm su pl wy px fs fa ft fn fx fr fu fc) (m + 3) (.inl (0, 2840, .inl g)) = mw w m th sm hs ln at_ iw rm rn cm su pl wy px fs fa g fn fx fr fu fc := by
  funext b
  unfold mw up
  by_cases h : b = m + 3 <;> simp [h]
theorem mu_4 (g : Nat → Int32) : up (mw w m th sm hs ln at_ iw rm rn cm su pl wy px fs fa ft fn fx fr fu fc) (m + 4) (.inl (0, 568, .inl g)) = mw w m th sm hs ln at_ iw rm rn cm su pl wy px fs fa ft g fx fr fu fc := by
  funext b
  unfold mw up
  by_cases h : b = m + 4 <;> simp [h]
theorem mu_5 (g : Nat → Int32) : up (mw w m th sm hs ln at_ iw rm rn cm su pl wy px fs fa ft fn fx fr fu fc) (m + 5) (.inl (0, 60, .inl g)) = mw w m th sm hs ln at_ iw rm rn cm su pl wy px fs fa ft fn g fr fu fc := by
  funext b
  unfold mw up
  by_cases h : b = m + 5 <;> simp [h]
theorem mu_6 (g : Nat → Int32) : up (mw w m th sm hs ln at_ iw rm rn cm su pl wy px fs fa ft fn fx fr fu fc) (m + 6) (.inl (0, 96, .inl g)) = mw w m th sm hs ln at_ iw rm rn cm su pl wy px fs fa ft fn fx g fu fc := by
  funext b
  unfold mw up
  by_cases h : b = m + 6 <;> simp [h]
theorem mu_7 (g : Nat → Int32) : up (mw w m th sm hs ln at_ iw rm rn cm su pl wy px fs fa ft fn fx fr fu fc) (m + 7) (.inl (0, 34, .inl g)) = mw w m th sm hs ln at_ iw rm rn cm su pl wy px fs fa ft fn fx fr g fc := by
  funext b
  unfold mw up
  by_cases h : b = m + 7 <;> simp [h]
theorem mu_8 (g : Nat → Int32) : up (mw w m th sm hs ln at_ iw rm rn cm su pl wy px fs fa ft fn fx fr fu fc) (m + 8) (.inl (0, 128, .inl g)) = mw w m th sm hs ln at_ iw rm rn cm su pl wy px fs fa ft fn fx fr fu g := by
  funext b
  unfold mw up
  by_cases h : b = m + 8 <;> simp [h]
theorem mw_mw (th' sm' hs' ln' at_' iw' rm' rn' cm' su' pl' wy' px' : Int32) (fs' fa' ft' fn' fx' fr' fu' fc' : Nat → Int32) : mw (mw w m th sm hs ln at_ iw rm rn cm su pl wy px fs fa ft fn fx fr fu fc) m th' sm' hs' ln' at_' iw' rm' rn' cm' su' pl' wy' px' fs' fa' ft' fn' fx' fr' fu' fc' = mw w m th' sm' hs' ln' at_' iw' rm' rn' cm' su' pl' wy' px' fs' fa' ft' fn' fx' fr' fu' fc' := by
  funext b
  by_cases h : b < m ∨ m + 9 ≤ b
  · rw [mw_out _ _ _ _ _ _ _ _ _ _ _ _ _ _ _ _ _ _ _ _ _ _ _ h, mw_out _ _ _ _ _ _ _ _ _ _ _ _ _ _ _ _ _ _ _ _ _ _ _ h, mw_out _ _ _ _ _ _ _ _ _ _ _ _ _ _ _ _ _ _ _ _ _ _ _ h]
  · rcases (show b = m ∨ b = m + 1 ∨ b = m + 2 ∨ b = m + 3 ∨ b = m + 4 ∨ b = m + 5 ∨ b = m + 6 ∨ b = m + 7 ∨ b = m + 8 by omega) with rfl | rfl | rfl | rfl | rfl | rfl | rfl | rfl | rfl
    · rw [mw_0, mw_0]
    · rw [mw_1, mw_1]
    · rw [mw_2, mw_2]
    · rw [mw_3, mw_3]
    · rw [mw_4, mw_4]
    · rw [mw_5, mw_5]
    · rw [mw_6, mw_6]
    · rw [mw_7, mw_7]
    · rw [mw_8, mw_8]
theorem mw_fr (th' sm' hs' ln' at_' iw' rm' rn' cm' su' pl' wy' px' : Int32) (fs' fa' ft' fn' fx' fr' fu' fc' : Nat → Int32) : Fr (mw w m th sm hs ln at_ iw rm rn cm su pl wy px fs fa ft fn fx fr fu fc) (mw w m th' sm' hs' ln' at_' iw' rm' rn' cm' su' pl' wy' px' fs' fa' ft' fn' fx' fr' fu' fc') m 9 := fun b hb => by
  rw [mw_out _ _ _ _ _ _ _ _ _ _ _ _ _ _ _ _ _ _ _ _ _ _ _ hb, mw_out _ _ _ _ _ _ _ _ _ _ _ _ _ _ _ _ _ _ _ _ _ _ _ hb]
end MW

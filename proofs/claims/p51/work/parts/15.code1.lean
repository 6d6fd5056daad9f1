theorem okt_m9_errorPlace (pc : Nat) : okT m9_errorPlace pc := fun y hy => by cases hy
def bb9_errorPlace_0 : List PI := [(1, .aload_n 0, 0, 0, 0, 0, kZ), (1, .iload_n 1, 0, 0, 0, 0, kZ), (3, .invokevirtual 297, 1, 9, 1, 0, m9_needError), (1, .aload_n 0, 0, 0, 0, 0, kZ), (3, .getfield 12, 9, 0, 0, 0, kZ), (3, .getfield 92, 7, 2, 0, 0, kZ), (1, .iload_n 1, 0, 0, 0, 0, kZ), (3, .invokevirtual 300, 1, 6, 0, 0, m6_placeOf), (1, .ireturn, 0, 0, 0, 0, kZ)]
set_option maxRecDepth 100000 in
theorem oo9_errorPlace_0 : okL m9_errorPlace 0 bb9_errorPlace_0 := okL_of _ _ (by decide +kernel) ⟨trivial, ⟨trivial, ⟨⟨mok_m9_needError, ⟨by decide, by decide⟩, rfl, by decide, lc_9_297, okt_m9_errorPlace _⟩, ⟨trivial, ⟨lf_9_12, ⟨lf_9_92, ⟨trivial, ⟨⟨mok_m6_placeOf, ⟨by decide, by decide⟩, rfl, by decide, Or.inr lc_9_300⟩, ⟨trivial, trivial⟩⟩⟩⟩⟩⟩⟩⟩⟩
def cd9_errorPlace (t : Nat) : Option (List PI) := match t with
  | 0 => some bb9_errorPlace_0
  | _ => none
theorem kd9_errorPlace : ∀ t is, cd9_errorPlace t = some is → okL m9_errorPlace t is := by
  intro t is h
  unfold cd9_errorPlace at h
  split at h <;> cases h
  · exact oo9_errorPlace_0
theorem ff9_errorPlace : mi_r m9_errorPlace = (some .int) ∧ mi_l m9_errorPlace = 2 ∧ mi_h m9_errorPlace = [] ∧ (mi_rm m9_errorPlace).cells = 1 ∧ (mi_rm m9_errorPlace).slots = 6 ∧ (mi_rm m9_errorPlace).locals = 105 ∧ cd9_errorPlace 0 = some bb9_errorPlace_0 ∧ (mi_rm m6_placeOf).cells = 0 ∧ (mi_rm m6_placeOf).slots = 0 ∧ (mi_rm m9_needError).cells = 1 ∧ (mi_rm m9_needError).slots = 6 := ⟨rfl, rfl, rfl, rfl, rfl, rfl, rfl, rfl, rfl, rfl, rfl⟩
theorem okt_m9_errorReason (pc : Nat) : okT m9_errorReason pc := fun y hy => by cases hy
def bb9_errorReason_0 : List PI := [(1, .aload_n 0, 0, 0, 0, 0, kZ), (1, .iload_n 1, 0, 0, 0, 0, kZ), (3, .invokevirtual 297, 1, 9, 1, 0, m9_needError), (1, .aload_n 0, 0, 0, 0, 0, kZ), (3, .getfield 12, 9, 0, 0, 0, kZ), (3, .getfield 92, 7, 2, 0, 0, kZ), (1, .iload_n 1, 0, 0, 0, 0, kZ), (3, .invokevirtual 303, 1, 6, 0, 0, m6_reasonOf), (1, .ireturn, 0, 0, 0, 0, kZ)]
set_option maxRecDepth 100000 in
theorem oo9_errorReason_0 : okL m9_errorReason 0 bb9_errorReason_0 := okL_of _ _ (by decide +kernel) ⟨trivial, ⟨trivial, ⟨⟨mok_m9_needError, ⟨by decide, by decide⟩, rfl, by decide, lc_9_297, okt_m9_errorReason _⟩, ⟨trivial, ⟨lf_9_12, ⟨lf_9_92, ⟨trivial, ⟨⟨mok_m6_reasonOf, ⟨by decide, by decide⟩, rfl, by decide, Or.inr lc_9_303⟩, ⟨trivial, trivial⟩⟩⟩⟩⟩⟩⟩⟩⟩
def cd9_errorReason (t : Nat) : Option (List PI) := match t with
  | 0 => some bb9_errorReason_0
  | _ => none
theorem kd9_errorReason : ∀ t is, cd9_errorReason t = some is → okL m9_errorReason t is := by
  intro t is h
  unfold cd9_errorReason at h
  split at h <;> cases h
  · exact oo9_errorReason_0
theorem ff9_errorReason : mi_r m9_errorReason = (some .int) ∧ mi_l m9_errorReason = 2 ∧ mi_h m9_errorReason = [] ∧ (mi_rm m9_errorReason).cells = 1 ∧ (mi_rm m9_errorReason).slots = 6 ∧ (mi_rm m9_errorReason).locals = 105 ∧ cd9_errorReason 0 = some bb9_errorReason_0 ∧ (mi_rm m6_reasonOf).cells = 0 ∧ (mi_rm m6_reasonOf).slots = 0 ∧ (mi_rm m9_needError).cells = 1 ∧ (mi_rm m9_needError).slots = 6 := ⟨rfl, rfl, rfl, rfl, rfl, rfl, rfl, rfl, rfl, rfl, rfl⟩
def bb9_wouldReceive_0 : List PI := [(1, .aload_n 0, 0, 0, 0, 0, kZ), (3, .getfield 47, 9, 6, 0, 0, kZ), (1, .aload_n 0, 0, 0, 0, 0, kZ), (3, .getfield 12, 9, 0, 0, 0, kZ), (3, .getfield 83, 7, 1, 0, 0, kZ), (1, .aload_n 0, 0, 0, 0, 0, kZ), (3, .getfield 12, 9, 0, 0, 0, kZ), (3, .getfield 69, 7, 0, 0, 0, kZ), (3, .getfield 73, 2, 0, 0, 0, kZ), (1, .aload_n 0, 0, 0, 0, 0, kZ), (3, .getfield 54, 9, 7, 0, 0, kZ), (3, .invokevirtual 172, 3, 5, 0, 0, m5_readAll), (1, .aload_n 0, 0, 0, 0, 0, kZ), (3, .getfield 54, 9, 7, 0, 0, kZ), (3, .invokevirtual 176, 0, 6, 0, 0, m6_count), (1, .ireturn, 0, 0, 0, 0, kZ)]
set_option maxRecDepth 100000 in
theorem oo9_wouldReceive_0 : okL m9_wouldReceive 0 bb9_wouldReceive_0 := okL_of _ _ (by decide +kernel) ⟨trivial, ⟨lf_9_47, ⟨trivial, ⟨lf_9_12, ⟨lf_9_83, ⟨trivial, ⟨lf_9_12, ⟨lf_9_69, ⟨lf_9_73, ⟨trivial, ⟨lf_9_54, ⟨⟨mok_m5_readAll, ⟨by decide, by decide⟩, rfl, by decide, Or.inr lc_9_172⟩, ⟨trivial, ⟨lf_9_54, ⟨⟨mok_m6_count, ⟨by decide, by decide⟩, rfl, by decide, Or.inr lc_9_176⟩, ⟨trivial, trivial⟩⟩⟩⟩⟩⟩⟩⟩⟩⟩⟩⟩⟩⟩⟩⟩
def cd9_wouldReceive (t : Nat) : Option (List PI) := match t with
  | 0 => some bb9_wouldReceive_0
  | _ => none
theorem kd9_wouldReceive : ∀ t is, cd9_wouldReceive t = some is → okL m9_wouldReceive t is := by
  intro t is h
  unfold cd9_wouldReceive at h
  split at h <;> cases h
  · exact oo9_wouldReceive_0
theorem ff9_wouldReceive : mi_r m9_wouldReceive = (some .int) ∧ mi_l m9_wouldReceive = 1 ∧ mi_h m9_wouldReceive = [] ∧ (mi_rm m9_wouldReceive).cells = 0 ∧ (mi_rm m9_wouldReceive).slots = 0 ∧ (mi_rm m9_wouldReceive).locals = 181 ∧ cd9_wouldReceive 0 = some bb9_wouldReceive_0 ∧ (mi_rm m5_readAll).cells = 0 ∧ (mi_rm m5_readAll).slots = 0 ∧ (mi_rm m6_count).cells = 0 ∧ (mi_rm m6_count).slots = 0 := ⟨rfl, rfl, rfl, rfl, rfl, rfl, rfl, rfl, rfl, rfl, rfl⟩
def bb9_wouldBeRight_0 : List PI := [(1, .aload_n 0, 0, 0, 0, 0, kZ), (3, .getfield 47, 9, 6, 0, 0, kZ), (1, .aload_n 0, 0, 0, 0, 0, kZ), (3, .getfield 12, 9, 0, 0, 0, kZ), (3, .getfield 83, 7, 1, 0, 0, kZ), (1, .aload_n 0, 0, 0, 0, 0, kZ), (3, .getfield 12, 9, 0, 0, 0, kZ), (3, .getfield 69, 7, 0, 0, 0, kZ), (3, .getfield 73, 2, 0, 0, 0, kZ), (1, .aload_n 0, 0, 0, 0, 0, kZ), (3, .getfield 54, 9, 7, 0, 0, kZ), (3, .invokevirtual 172, 3, 5, 0, 0, m5_readAll), (1, .aload_n 0, 0, 0, 0, 0, kZ), (3, .getfield 54, 9, 7, 0, 0, kZ), (1, .aload_n 0, 0, 0, 0, 0, kZ), (3, .getfield 12, 9, 0, 0, 0, kZ), (3, .getfield 69, 7, 0, 0, 0, kZ), (3, .invokevirtual 290, 1, 6, 0, 0, m6_countAlike), (1, .ireturn, 0, 0, 0, 0, kZ)]
set_option maxRecDepth 100000 in
theorem oo9_wouldBeRight_0 : okL m9_wouldBeRight 0 bb9_wouldBeRight_0 := okL_of _ _ (by decide +kernel) ⟨trivial, ⟨lf_9_47, ⟨trivial, ⟨lf_9_12, ⟨lf_9_83, ⟨trivial, ⟨lf_9_12, ⟨lf_9_69, ⟨lf_9_73, ⟨trivial, ⟨lf_9_54, ⟨⟨mok_m5_readAll, ⟨by decide, by decide⟩, rfl, by decide, Or.inr lc_9_172⟩, ⟨trivial, ⟨lf_9_54, ⟨trivial, ⟨lf_9_12, ⟨lf_9_69, ⟨⟨mok_m6_countAlike, ⟨by decide, by decide⟩, rfl, by decide, Or.inr lc_9_290⟩, ⟨trivial, trivial⟩⟩⟩⟩⟩⟩⟩⟩⟩⟩⟩⟩⟩⟩⟩⟩⟩⟩⟩
def cd9_wouldBeRight (t : Nat) : Option (List PI) := match t with
  | 0 => some bb9_wouldBeRight_0
  | _ => none
theorem kd9_wouldBeRight : ∀ t is, cd9_wouldBeRight t = some is → okL m9_wouldBeRight t is := by
  intro t is h
  unfold cd9_wouldBeRight at h
  split at h <;> cases h
  · exact oo9_wouldBeRight_0
theorem ff9_wouldBeRight : mi_r m9_wouldBeRight = (some .int) ∧ mi_l m9_wouldBeRight = 1 ∧ mi_h m9_wouldBeRight = [] ∧ (mi_rm m9_wouldBeRight).cells = 0 ∧ (mi_rm m9_wouldBeRight).slots = 0 ∧ (mi_rm m9_wouldBeRight).locals = 181 ∧ cd9_wouldBeRight 0 = some bb9_wouldBeRight_0 ∧ (mi_rm m5_readAll).cells = 0 ∧ (mi_rm m5_readAll).slots = 0 ∧ (mi_rm m6_countAlike).cells = 0 ∧ (mi_rm m6_countAlike).slots = 0 := ⟨rfl, rfl, rfl, rfl, rfl, rfl, rfl, rfl, rfl, rfl, rfl⟩
def bb9_codedShare_0 : List PI := [(1, .aload_n 0, 0, 0, 0, 0, kZ), (3, .getfield 12, 9, 0, 0, 0, kZ), (3, .getfield 69, 7, 0, 0, 0, kZ), (3, .getfield 73, 2, 0, 0, 0, kZ), (1, .aload_n 0, 0, 0, 0, 0, kZ), (3, .getfield 12, 9, 0, 0, 0, kZ), (3, .getfield 69, 7, 0, 0, 0, kZ), (3, .getfield 113, 2, 2, 0, 0, kZ), (1, .imul, 0, 0, 0, 0, kZ), (1, .istore_n 1, 0, 0, 0, 0, kZ), (1, .iload_n 1, 0, 0, 0, 0, kZ), (3, .ifCond .gt 5, 28, 0, 0, 0, kZ), (1, .dconst 0, 0, 0, 0, 0, kZ), (1, .dreturn, 0, 0, 0, 0, kZ)]
set_option maxRecDepth 100000 in
theorem oo9_codedShare_0 : okL m9_codedShare 0 bb9_codedShare_0 := okL_of _ _ (by decide +kernel) ⟨trivial, ⟨lf_9_12, ⟨lf_9_69, ⟨lf_9_73, ⟨trivial, ⟨lf_9_12, ⟨lf_9_69, ⟨lf_9_113, ⟨trivial, ⟨trivial, ⟨trivial, ⟨rfl, ⟨(show (0 : Nat) < 2 by decide), ⟨rfl, trivial⟩⟩⟩⟩⟩⟩⟩⟩⟩⟩⟩⟩⟩⟩
def bb9_codedShare_28 : List PI := [(1, .iconst 4, 0, 0, 0, 0, kZ), (1, .aload_n 0, 0, 0, 0, 0, kZ), (3, .invokevirtual 306, 0, 9, 0, 0, m9_wouldSend), (1, .imul, 0, 0, 0, 0, kZ), (1, .i2d, 0, 0, 0, 0, kZ), (1, .iload_n 1, 0, 0, 0, 0, kZ), (1, .i2d, 0, 0, 0, 0, kZ), (1, .ddiv, 0, 0, 0, 0, kZ), (1, .dreturn, 0, 0, 0, 0, kZ)]
set_option maxRecDepth 100000 in
theorem oo9_codedShare_28 : okL m9_codedShare 28 bb9_codedShare_28 := okL_of _ _ (by decide +kernel) ⟨trivial, ⟨trivial, ⟨⟨mok_m9_wouldSend, ⟨by decide, by decide⟩, rfl, by decide, Or.inl lc_9_306⟩, ⟨trivial, ⟨trivial, ⟨trivial, ⟨trivial, ⟨trivial, ⟨rfl, trivial⟩⟩⟩⟩⟩⟩⟩⟩⟩
def cd9_codedShare (t : Nat) : Option (List PI) := match t with
  | 0 => some bb9_codedShare_0
  | 28 => some bb9_codedShare_28
  | _ => none
theorem kd9_codedShare : ∀ t is, cd9_codedShare t = some is → okL m9_codedShare t is := by
  intro t is h
  unfold cd9_codedShare at h
  split at h <;> cases h
  · exact oo9_codedShare_0
  · exact oo9_codedShare_28
theorem ff9_codedShare : mi_r m9_codedShare = (some .double) ∧ mi_l m9_codedShare = 2 ∧ mi_h m9_codedShare = [] ∧ (mi_rm m9_codedShare).cells = 0 ∧ (mi_rm m9_codedShare).slots = 0 ∧ (mi_rm m9_codedShare).locals = 154 ∧ cd9_codedShare 0 = some bb9_codedShare_0 ∧ cd9_codedShare 28 = some bb9_codedShare_28 ∧ (mi_rm m9_wouldSend).cells = 0 ∧ (mi_rm m9_wouldSend).slots = 0 := ⟨rfl, rfl, rfl, rfl, rfl, rfl, rfl, rfl, rfl, rfl⟩
def bbL_cell_0 : List PI := [(1, .iload_n 1, 0, 0, 0, 0, kZ), (1, .aload_n 0, 0, 0, 0, 0, kZ), (1, .arraylength, 0, 0, 0, 0, kZ), (3, .if_icmp .ge 9, 12, 0, 0, 0, kZ), (1, .aload_n 0, 0, 0, 0, 0, kZ), (1, .iload_n 1, 0, 0, 0, 0, kZ), (1, .iaload, 0, 0, 0, 0, kZ), (3, .goto 15, 24, 0, 0, 0, kZ)]
set_option maxRecDepth 100000 in
theorem ooL_cell_0 : okL mL_cell 0 bbL_cell_0 := okL_of _ _ (by decide +kernel) ⟨trivial, ⟨trivial, ⟨trivial, ⟨rfl, ⟨trivial, ⟨trivial, ⟨trivial, ⟨rfl, trivial⟩⟩⟩⟩⟩⟩⟩⟩
def bbL_cell_12 : List PI := [(3, .sipush 7919, 0, 0, 0, 0, kZ), (1, .iload_n 1, 0, 0, 0, 0, kZ), (1, .iconst 3, 0, 0, 0, 0, kZ), (1, .iadd, 0, 0, 0, 0, kZ), (1, .imul, 0, 0, 0, 0, kZ), (1, .iload_n 1, 0, 0, 0, 0, kZ), (2, .bipush 11, 0, 0, 0, 0, kZ), (1, .iadd, 0, 0, 0, 0, kZ), (1, .imul, 0, 0, 0, 0, kZ)]
set_option maxRecDepth 100000 in
theorem ooL_cell_12 : okL mL_cell 12 bbL_cell_12 := okL_of _ _ (by decide +kernel) ⟨trivial, ⟨trivial, ⟨trivial, ⟨trivial, ⟨trivial, ⟨trivial, ⟨trivial, ⟨trivial, ⟨trivial, trivial⟩⟩⟩⟩⟩⟩⟩⟩⟩
def bbL_cell_24 : List PI := [(1, .ireturn, 0, 0, 0, 0, kZ)]
set_option maxRecDepth 100000 in
theorem ooL_cell_24 : okL mL_cell 24 bbL_cell_24 := okL_of _ _ (by decide +kernel) ⟨trivial, trivial⟩
def cdL_cell (t : Nat) : Option (List PI) := match t with
  | 0 => some bbL_cell_0
  | 12 => some bbL_cell_12
  | 24 => some bbL_cell_24
  | _ => none
theorem kdL_cell : ∀ t is, cdL_cell t = some is → okL mL_cell t is := by
  intro t is h
  unfold cdL_cell at h
  split at h <;> cases h
  · exact ooL_cell_0
  · exact ooL_cell_12
  · exact ooL_cell_24
theorem ffL_cell : mi_r mL_cell = (some .int) ∧ mi_l mL_cell = 2 ∧ mi_h mL_cell = [] ∧ (mi_rm mL_cell).cells = 0 ∧ (mi_rm mL_cell).slots = 0 ∧ (mi_rm mL_cell).locals = 32 ∧ cdL_cell 0 = some bbL_cell_0 ∧ cdL_cell 12 = some bbL_cell_12 ∧ cdL_cell 24 = some bbL_cell_24 := ⟨rfl, rfl, rfl, rfl, rfl, rfl, rfl, rfl, rfl⟩
def bbL_low_0 : List PI := [(1, .iload_n 0, 0, 0, 0, 0, kZ)]
set_option maxRecDepth 100000 in
theorem ooL_low_0 : okL mL_low 0 bbL_low_0 := okL_of _ _ (by decide +kernel) ⟨trivial, trivial⟩
def bbL_low_3 : List PI := [(1, .iand, 0, 0, 0, 0, kZ), (1, .iload_n 1, 0, 0, 0, 0, kZ), (1, .irem, 0, 0, 0, 0, kZ), (1, .ireturn, 0, 0, 0, 0, kZ)]
set_option maxRecDepth 100000 in
theorem ooL_low_3 : okL mL_low 3 bbL_low_3 := okL_of _ _ (by decide +kernel) ⟨trivial, ⟨trivial, ⟨trivial, ⟨trivial, trivial⟩⟩⟩⟩
def cdL_low (t : Nat) : Option (List PI) := match t with
  | 0 => some bbL_low_0
  | _ => none
theorem kdL_low : ∀ t is, cdL_low t = some is → okL mL_low t is := by
  intro t is h
  unfold cdL_low at h
  split at h <;> cases h
  · exact ooL_low_0
theorem ffL_low : mi_r mL_low = (some .int) ∧ mi_l mL_low = 2 ∧ mi_h mL_low = [] ∧ (mi_rm mL_low).cells = 0 ∧ (mi_rm mL_low).slots = 0 ∧ (mi_rm mL_low).locals = 32 ∧ cdL_low 0 = some bbL_low_0 ∧ cdL_low 3 = none := ⟨rfl, rfl, rfl, rfl, rfl, rfl, rfl, rfl⟩
theorem okt_mL_told (pc : Nat) : okT mL_told pc := fun y hy => by cases hy
def bbL_told_0 : List PI := [(3, .ldc2_w 8, 0, 0, 0, 3, kZ), (1, .lstore_n 1, 0, 0, 0, 0, kZ), (3, .ldc2_w 10, 0, 0, 0, 31, kZ), (3, .ldc2_w 10, 0, 0, 0, 31, kZ), (3, .ldc2_w 10, 0, 0, 0, 31, kZ), (1, .lload_n 1, 0, 0, 0, 0, kZ), (1, .lmul, 0, 0, 0, 0, kZ), (1, .aload_n 0, 0, 0, 0, 0, kZ), (3, .invokevirtual 12, 0, 9, 0, 0, m9_width), (1, .i2l, 0, 0, 0, 0, kZ), (1, .ladd, 0, 0, 0, 0, kZ), (1, .lmul, 0, 0, 0, 0, kZ), (1, .aload_n 0, 0, 0, 0, 0, kZ), (3, .invokevirtual 18, 0, 9, 0, 0, m9_lines), (1, .i2l, 0, 0, 0, 0, kZ), (1, .ladd, 0, 0, 0, 0, kZ), (1, .lmul, 0, 0, 0, 0, kZ), (1, .aload_n 0, 0, 0, 0, 0, kZ), (3, .invokevirtual 21, 0, 9, 0, 0, m9_style), (1, .i2l, 0, 0, 0, 0, kZ), (1, .ladd, 0, 0, 0, 0, kZ), (1, .lstore_n 1, 0, 0, 0, 0, kZ), (3, .ldc2_w 10, 0, 0, 0, 31, kZ), (3, .ldc2_w 10, 0, 0, 0, 31, kZ), (3, .ldc2_w 10, 0, 0, 0, 31, kZ), (1, .lload_n 1, 0, 0, 0, 0, kZ), (1, .lmul, 0, 0, 0, 0, kZ), (1, .aload_n 0, 0, 0, 0, 0, kZ), (3, .invokevirtual 24, 0, 9, 0, 0, m9_streamLength), (1, .i2l, 0, 0, 0, 0, kZ), (1, .ladd, 0, 0, 0, 0, kZ), (1, .lmul, 0, 0, 0, 0, kZ), (1, .aload_n 0, 0, 0, 0, 0, kZ), (3, .invokevirtual 27, 0, 9, 0, 0, m9_received), (1, .i2l, 0, 0, 0, 0, kZ), (1, .ladd, 0, 0, 0, 0, kZ), (1, .lmul, 0, 0, 0, 0, kZ), (1, .aload_n 0, 0, 0, 0, 0, kZ), (3, .invokevirtual 30, 0, 9, 0, 0, m9_errors), (1, .i2l, 0, 0, 0, 0, kZ), (1, .ladd, 0, 0, 0, 0, kZ), (1, .lstore_n 1, 0, 0, 0, 0, kZ), (1, .iconst 0, 0, 0, 0, 0, kZ), (1, .istore_n 3, 0, 0, 0, 0, kZ)]
set_option maxRecDepth 100000 in
theorem ooL_told_0 : okL mL_told 0 bbL_told_0 := okL_of _ _ (by decide +kernel) ⟨(wt_2 191 (by decide +kernel) rfl), ⟨trivial, ⟨(wt_2 192 (by decide +kernel) rfl), ⟨(wt_2 192 (by decide +kernel) rfl), ⟨(wt_2 192 (by decide +kernel) rfl), ⟨trivial, ⟨trivial, ⟨trivial, ⟨⟨mok_m9_width, ⟨by decide, by decide⟩, rfl, by decide, Or.inl lc_L_12⟩, ⟨trivial, ⟨trivial, ⟨trivial, ⟨trivial, ⟨⟨mok_m9_lines, ⟨by decide, by decide⟩, rfl, by decide, Or.inl lc_L_18⟩, ⟨trivial, ⟨trivial, ⟨trivial, ⟨trivial, ⟨⟨mok_m9_style, ⟨by decide, by decide⟩, rfl, by decide, Or.inl lc_L_21⟩, ⟨trivial, ⟨trivial, ⟨trivial, ⟨(wt_2 192 (by decide +kernel) rfl), ⟨(wt_2 192 (by decide +kernel) rfl), ⟨(wt_2 192 (by decide +kernel) rfl), ⟨trivial, ⟨trivial, ⟨trivial, ⟨⟨mok_m9_streamLength, ⟨by decide, by decide⟩, rfl, by decide, Or.inl lc_L_24⟩, ⟨trivial, ⟨trivial, ⟨trivial, ⟨trivial, ⟨⟨mok_m9_received, ⟨by decide, by decide⟩, rfl, by decide, Or.inl lc_L_27⟩, ⟨trivial, ⟨trivial, ⟨trivial, ⟨trivial, ⟨⟨mok_m9_errors, ⟨by decide, by decide⟩, rfl, by decide, Or.inl lc_L_30⟩, ⟨trivial, ⟨trivial, ⟨trivial, ⟨trivial, ⟨trivial, trivial⟩⟩⟩⟩⟩⟩⟩⟩⟩⟩⟩⟩⟩⟩⟩⟩⟩⟩⟩⟩⟩⟩⟩⟩⟩⟩⟩⟩⟩⟩⟩⟩⟩⟩⟩⟩⟩⟩⟩⟩⟩⟩⟩⟩
def bbL_told_70 : List PI := [(1, .iload_n 3, 0, 0, 0, 0, kZ), (1, .aload_n 0, 0, 0, 0, 0, kZ), (3, .invokevirtual 18, 0, 9, 0, 0, m9_lines), (3, .if_icmp .ge 21, 96, 0, 0, 0, kZ), (3, .ldc2_w 10, 0, 0, 0, 31, kZ), (1, .lload_n 1, 0, 0, 0, 0, kZ), (1, .lmul, 0, 0, 0, 0, kZ), (1, .aload_n 0, 0, 0, 0, 0, kZ), (1, .iload_n 3, 0, 0, 0, 0, kZ), (3, .invokevirtual 33, 1, 9, 1, 0, m9_pixelsOf), (1, .ladd, 0, 0, 0, 0, kZ), (1, .lstore_n 1, 0, 0, 0, 0, kZ), (3, .iinc 3 1, 0, 0, 0, 0, kZ), (3, .goto (-23), 70, 0, 0, 0, kZ)]
set_option maxRecDepth 100000 in
theorem ooL_told_70 : okL mL_told 70 bbL_told_70 := okL_of _ _ (by decide +kernel) ⟨trivial, ⟨trivial, ⟨⟨mok_m9_lines, ⟨by decide, by decide⟩, rfl, by decide, Or.inl lc_L_18⟩, ⟨rfl, ⟨(wt_2 192 (by decide +kernel) rfl), ⟨trivial, ⟨trivial, ⟨trivial, ⟨trivial, ⟨⟨mok_m9_pixelsOf, ⟨by decide, by decide⟩, rfl, by decide, lc_L_33, okt_mL_told _⟩, ⟨trivial, ⟨trivial, ⟨trivial, ⟨rfl, trivial⟩⟩⟩⟩⟩⟩⟩⟩⟩⟩⟩⟩⟩⟩
def bbL_told_96 : List PI := [(1, .aload_n 0, 0, 0, 0, 0, kZ), (3, .invokevirtual 24, 0, 9, 0, 0, m9_streamLength), (1, .istore_n 3, 0, 0, 0, 0, kZ), (1, .iconst 0, 0, 0, 0, 0, kZ), (2, .istore 4, 0, 0, 0, 0, kZ)]
set_option maxRecDepth 100000 in
theorem ooL_told_96 : okL mL_told 96 bbL_told_96 := okL_of _ _ (by decide +kernel) ⟨trivial, ⟨⟨mok_m9_streamLength, ⟨by decide, by decide⟩, rfl, by decide, Or.inl lc_L_24⟩, ⟨trivial, ⟨trivial, ⟨trivial, trivial⟩⟩⟩⟩⟩
def bbL_told_104 : List PI := [(2, .iload 4, 0, 0, 0, 0, kZ), (1, .iload_n 3, 0, 0, 0, 0, kZ), (3, .if_icmp .ge 23, 130, 0, 0, 0, kZ), (3, .ldc2_w 10, 0, 0, 0, 31, kZ), (1, .lload_n 1, 0, 0, 0, 0, kZ), (1, .lmul, 0, 0, 0, 0, kZ), (1, .aload_n 0, 0, 0, 0, 0, kZ), (2, .iload 4, 0, 0, 0, 0, kZ), (3, .invokevirtual 37, 1, 9, 1, 0, m9_numberAt), (1, .i2l, 0, 0, 0, 0, kZ), (1, .ladd, 0, 0, 0, 0, kZ), (1, .lstore_n 1, 0, 0, 0, 0, kZ), (3, .iinc 4 1, 0, 0, 0, 0, kZ), (3, .goto (-23), 104, 0, 0, 0, kZ)]
set_option maxRecDepth 100000 in
theorem ooL_told_104 : okL mL_told 104 bbL_told_104 := okL_of _ _ (by decide +kernel) ⟨trivial, ⟨trivial, ⟨rfl, ⟨(wt_2 192 (by decide +kernel) rfl), ⟨trivial, ⟨trivial, ⟨trivial, ⟨trivial, ⟨⟨mok_m9_numberAt, ⟨by decide, by decide⟩, rfl, by decide, lc_L_37, okt_mL_told _⟩, ⟨trivial, ⟨trivial, ⟨trivial, ⟨trivial, ⟨rfl, trivial⟩⟩⟩⟩⟩⟩⟩⟩⟩⟩⟩⟩⟩⟩
def bbL_told_130 : List PI := [(1, .iconst 0, 0, 0, 0, 0, kZ), (2, .istore 4, 0, 0, 0, 0, kZ)]
set_option maxRecDepth 100000 in
theorem ooL_told_130 : okL mL_told 130 bbL_told_130 := okL_of _ _ (by decide +kernel) ⟨trivial, ⟨trivial, trivial⟩⟩
def bbL_told_133 : List PI := [(2, .iload 4, 0, 0, 0, 0, kZ), (2, .bipush 10, 0, 0, 0, 0, kZ), (3, .if_icmp .ge 41, 178, 0, 0, 0, kZ), (1, .aload_n 0, 0, 0, 0, 0, kZ), (2, .iload 4, 0, 0, 0, 0, kZ), (3, .invokevirtual 41, 1, 9, 1, 0, m9_isReceived), (3, .ifCond .eq 18, 164, 0, 0, 0, kZ), (3, .ldc2_w 10, 0, 0, 0, 31, kZ), (1, .lload_n 1, 0, 0, 0, 0, kZ), (1, .lmul, 0, 0, 0, 0, kZ), (1, .aload_n 0, 0, 0, 0, 0, kZ), (2, .iload 4, 0, 0, 0, 0, kZ), (3, .invokevirtual 45, 1, 9, 1, 0, m9_receivedPixels), (1, .ladd, 0, 0, 0, 0, kZ), (3, .goto 10, 171, 0, 0, 0, kZ)]
set_option maxRecDepth 100000 in
theorem ooL_told_133 : okL mL_told 133 bbL_told_133 := okL_of _ _ (by decide +kernel) ⟨trivial, ⟨trivial, ⟨rfl, ⟨trivial, ⟨trivial, ⟨⟨mok_m9_isReceived, ⟨by decide, by decide⟩, rfl, by decide, lc_L_41, okt_mL_told _⟩, ⟨rfl, ⟨(wt_2 192 (by decide +kernel) rfl), ⟨trivial, ⟨trivial, ⟨trivial, ⟨trivial, ⟨⟨mok_m9_receivedPixels, ⟨by decide, by decide⟩, rfl, by decide, lc_L_45, okt_mL_told _⟩, ⟨trivial, ⟨rfl, trivial⟩⟩⟩⟩⟩⟩⟩⟩⟩⟩⟩⟩⟩⟩⟩
def bbL_told_164 : List PI := [(3, .ldc2_w 10, 0, 0, 0, 31, kZ), (1, .lload_n 1, 0, 0, 0, 0, kZ), (1, .lmul, 0, 0, 0, 0, kZ), (1, .lconst 1, 0, 0, 0, 0, kZ), (1, .lsub, 0, 0, 0, 0, kZ)]
set_option maxRecDepth 100000 in
theorem ooL_told_164 : okL mL_told 164 bbL_told_164 := okL_of _ _ (by decide +kernel) ⟨(wt_2 192 (by decide +kernel) rfl), ⟨trivial, ⟨trivial, ⟨trivial, ⟨trivial, trivial⟩⟩⟩⟩⟩
def bbL_told_171 : List PI := [(1, .lstore_n 1, 0, 0, 0, 0, kZ), (3, .iinc 4 1, 0, 0, 0, 0, kZ), (3, .goto (-42), 133, 0, 0, 0, kZ)]
set_option maxRecDepth 100000 in
theorem ooL_told_171 : okL mL_told 171 bbL_told_171 := okL_of _ _ (by decide +kernel) ⟨trivial, ⟨trivial, ⟨rfl, trivial⟩⟩⟩
def bbL_told_178 : List PI := [(1, .iconst 0, 0, 0, 0, 0, kZ), (2, .istore 4, 0, 0, 0, 0, kZ)]
set_option maxRecDepth 100000 in
theorem ooL_told_178 : okL mL_told 178 bbL_told_178 := okL_of _ _ (by decide +kernel) ⟨trivial, ⟨trivial, trivial⟩⟩
def bbL_told_181 : List PI := [(2, .iload 4, 0, 0, 0, 0, kZ), (1, .aload_n 0, 0, 0, 0, 0, kZ), (3, .invokevirtual 30, 0, 9, 0, 0, m9_errors), (3, .if_icmp .ge 35, 222, 0, 0, 0, kZ), (3, .ldc2_w 10, 0, 0, 0, 31, kZ), (3, .ldc2_w 10, 0, 0, 0, 31, kZ), (1, .lload_n 1, 0, 0, 0, 0, kZ), (1, .lmul, 0, 0, 0, 0, kZ), (1, .aload_n 0, 0, 0, 0, 0, kZ), (2, .iload 4, 0, 0, 0, 0, kZ), (3, .invokevirtual 48, 1, 9, 1, 0, m9_errorPlace), (1, .i2l, 0, 0, 0, 0, kZ), (1, .ladd, 0, 0, 0, 0, kZ), (1, .lmul, 0, 0, 0, 0, kZ), (1, .aload_n 0, 0, 0, 0, 0, kZ), (2, .iload 4, 0, 0, 0, 0, kZ), (3, .invokevirtual 51, 1, 9, 1, 0, m9_errorReason), (1, .i2l, 0, 0, 0, 0, kZ), (1, .ladd, 0, 0, 0, 0, kZ), (1, .lstore_n 1, 0, 0, 0, 0, kZ), (3, .iinc 4 1, 0, 0, 0, 0, kZ), (3, .goto (-38), 181, 0, 0, 0, kZ)]
set_option maxRecDepth 100000 in
theorem ooL_told_181 : okL mL_told 181 bbL_told_181 := okL_of _ _ (by decide +kernel) ⟨trivial, ⟨trivial, ⟨⟨mok_m9_errors, ⟨by decide, by decide⟩, rfl, by decide, Or.inl lc_L_30⟩, ⟨rfl, ⟨(wt_2 192 (by decide +kernel) rfl), ⟨(wt_2 192 (by decide +kernel) rfl), ⟨trivial, ⟨trivial, ⟨trivial, ⟨trivial, ⟨⟨mok_m9_errorPlace, ⟨by decide, by decide⟩, rfl, by decide, lc_L_48, okt_mL_told _⟩, ⟨trivial, ⟨trivial, ⟨trivial, ⟨trivial, ⟨trivial, ⟨⟨mok_m9_errorReason, ⟨by decide, by decide⟩, rfl, by decide, lc_L_51, okt_mL_told _⟩, ⟨trivial, ⟨trivial, ⟨trivial, ⟨trivial, ⟨rfl, trivial⟩⟩⟩⟩⟩⟩⟩⟩⟩⟩⟩⟩⟩⟩⟩⟩⟩⟩⟩⟩⟩⟩
def bbL_told_222 : List PI := [(3, .ldc2_w 10, 0, 0, 0, 31, kZ), (1, .lload_n 1, 0, 0, 0, 0, kZ), (1, .lmul, 0, 0, 0, 0, kZ), (1, .aload_n 0, 0, 0, 0, 0, kZ), (3, .invokevirtual 54, 0, 9, 0, 0, m9_hasStopped), (3, .ifCond .eq 12, 243, 0, 0, 0, kZ), (1, .iconst 1, 0, 0, 0, 0, kZ), (1, .aload_n 0, 0, 0, 0, 0, kZ), (3, .invokevirtual 58, 0, 9, 1, 0, m9_stoppedPart), (1, .iadd, 0, 0, 0, 0, kZ), (3, .goto 4, 244, 0, 0, 0, kZ)]
set_option maxRecDepth 100000 in
theorem ooL_told_222 : okL mL_told 222 bbL_told_222 := okL_of _ _ (by decide +kernel) ⟨(wt_2 192 (by decide +kernel) rfl), ⟨trivial, ⟨trivial, ⟨trivial, ⟨⟨mok_m9_hasStopped, ⟨by decide, by decide⟩, rfl, by decide, Or.inl lc_L_54⟩, ⟨rfl, ⟨trivial, ⟨trivial, ⟨⟨mok_m9_stoppedPart, ⟨by decide, by decide⟩, rfl, by decide, lc_L_58, okt_mL_told _⟩, ⟨trivial, ⟨rfl, trivial⟩⟩⟩⟩⟩⟩⟩⟩⟩⟩⟩
def bbL_told_243 : List PI := [(1, .iconst 0, 0, 0, 0, 0, kZ)]
set_option maxRecDepth 100000 in
theorem ooL_told_243 : okL mL_told 243 bbL_told_243 := okL_of _ _ (by decide +kernel) ⟨trivial, trivial⟩
def bbL_told_244 : List PI := [(1, .i2l, 0, 0, 0, 0, kZ), (1, .ladd, 0, 0, 0, 0, kZ), (1, .lreturn, 0, 0, 0, 0, kZ)]
set_option maxRecDepth 100000 in
theorem ooL_told_244 : okL mL_told 244 bbL_told_244 := okL_of _ _ (by decide +kernel) ⟨trivial, ⟨trivial, ⟨rfl, trivial⟩⟩⟩
def cdL_told (t : Nat) : Option (List PI) := match t with
  | 0 => some bbL_told_0
  | 96 => some bbL_told_96
  | 130 => some bbL_told_130
  | 164 => some bbL_told_164
  | 171 => some bbL_told_171
  | 178 => some bbL_told_178
  | 222 => some bbL_told_222
  | 243 => some bbL_told_243
  | 244 => some bbL_told_244
  | _ => none
theorem kdL_told : ∀ t is, cdL_told t = some is → okL mL_told t is := by
  intro t is h
  unfold cdL_told at h
  split at h <;> cases h
  · exact ooL_told_0
  · exact ooL_told_96
  · exact ooL_told_130
  · exact ooL_told_164
  · exact ooL_told_171
  · exact ooL_told_178
  · exact ooL_told_222
  · exact ooL_told_243
  · exact ooL_told_244
theorem ffL_told : mi_r mL_told = (some .long) ∧ mi_l mL_told = 5 ∧ mi_h mL_told = [] ∧ (mi_rm mL_told).cells = 700 ∧ (mi_rm mL_told).slots = 4200 ∧ (mi_rm mL_told).locals = 126 ∧ cdL_told 0 = some bbL_told_0 ∧ cdL_told 70 = none ∧ cdL_told 96 = some bbL_told_96 ∧ cdL_told 104 = none ∧ cdL_told 130 = some bbL_told_130 ∧ cdL_told 133 = none ∧ cdL_told 164 = some bbL_told_164 ∧ cdL_told 171 = some bbL_told_171 ∧ cdL_told 178 = some bbL_told_178 ∧ cdL_told 181 = none ∧ cdL_told 222 = some bbL_told_222 ∧ cdL_told 243 = some bbL_told_243 ∧ cdL_told 244 = some bbL_told_244 ∧ (mi_rm m9_errorPlace).cells = 1 ∧ (mi_rm m9_errorPlace).slots = 6 ∧ (mi_rm m9_errorReason).cells = 1 ∧ (mi_rm m9_errorReason).slots = 6 ∧ (mi_rm m9_errors).cells = 0 ∧ (mi_rm m9_errors).slots = 0 ∧ (mi_rm m9_hasStopped).cells = 0 ∧ (mi_rm m9_hasStopped).slots = 0 ∧ (mi_rm m9_isReceived).cells = 1 ∧ (mi_rm m9_isReceived).slots = 6 ∧ (mi_rm m9_lines).cells = 0 ∧ (mi_rm m9_lines).slots = 0 ∧ (mi_rm m9_numberAt).cells = 1 ∧ (mi_rm m9_numberAt).slots = 6 ∧ (mi_rm m9_pixelsOf).cells = 1 ∧ (mi_rm m9_pixelsOf).slots = 6 ∧ (mi_rm m9_received).cells = 0 ∧ (mi_rm m9_received).slots = 0 ∧ (mi_rm m9_receivedPixels).cells = 2 ∧ (mi_rm m9_receivedPixels).slots = 12 ∧ (mi_rm m9_stoppedPart).cells = 1 ∧ (mi_rm m9_stoppedPart).slots = 6 ∧ (mi_rm m9_streamLength).cells = 0 ∧ (mi_rm m9_streamLength).slots = 0 ∧ (mi_rm m9_style).cells = 0 ∧ (mi_rm m9_style).slots = 0 ∧ (mi_rm m9_width).cells = 0 ∧ (mi_rm m9_width).slots = 0 := ⟨rfl, rfl, rfl, rfl, rfl, rfl, rfl, rfl, rfl, rfl, rfl, rfl, rfl, rfl, rfl, rfl, rfl, rfl, rfl, rfl, rfl, rfl, rfl, rfl, rfl, rfl, rfl, rfl, rfl, rfl, rfl, rfl, rfl, rfl, rfl, rfl, rfl, rfl, rfl, rfl, rfl, rfl, rfl, rfl, rfl, rfl, rfl⟩
theorem okt_mL_act (pc : Nat) : okT mL_act pc := fun y hy => by cases hy
def bbL_act_0 : List PI := [(1, .aload_n 0, 0, 0, 0, 0, kZ), (3, .invokevirtual 24, 0, 9, 0, 0, m9_streamLength), (1, .istore_n 3, 0, 0, 0, 0, kZ), (1, .iload_n 1, 0, 0, 0, 0, kZ), (1, .iconst 3, 0, 0, 0, 0, kZ), (1, .iushr, 0, 0, 0, 0, kZ), (1, .iload_n 2, 0, 0, 0, 0, kZ), (1, .iconst 5, 0, 0, 0, 0, kZ), (1, .ishl, 0, 0, 0, 0, kZ), (1, .ixor, 0, 0, 0, 0, kZ), (1, .i2l, 0, 0, 0, 0, kZ), (3, .ldc2_w 61, 0, 0, 0, 4294967295, kZ), (1, .land, 0, 0, 0, 0, kZ), (1, .lconst 1, 0, 0, 0, 0, kZ), (1, .aload_n 0, 0, 0, 0, 0, kZ), (3, .invokevirtual 12, 0, 9, 0, 0, m9_width), (1, .lshl, 0, 0, 0, 0, kZ), (1, .lconst 1, 0, 0, 0, 0, kZ), (1, .lsub, 0, 0, 0, 0, kZ), (1, .land, 0, 0, 0, 0, kZ), (2, .lstore 4, 0, 0, 0, 0, kZ), (1, .iload_n 1, 0, 0, 0, 0, kZ), (2, .bipush 15, 0, 0, 0, 0, kZ), (1, .iand, 0, 0, 0, 0, kZ), (68, .tableswitch 252 0 12 #[68, 68, 68, 68, 88, 114, 130, 142, 168, 168, 175, 201, 221], 284, 0, 0, 0, kZ)]
set_option maxRecDepth 100000 in
theorem ooL_act_0 : okL mL_act 0 bbL_act_0 := okL_of _ _ (by decide +kernel) ⟨trivial, ⟨⟨mok_m9_streamLength, ⟨by decide, by decide⟩, rfl, by decide, Or.inl lc_L_24⟩, ⟨trivial, ⟨trivial, ⟨trivial, ⟨trivial, ⟨trivial, ⟨trivial, ⟨trivial, ⟨trivial, ⟨trivial, ⟨(wt_3 73 (by decide +kernel) rfl), ⟨trivial, ⟨trivial, ⟨trivial, ⟨⟨mok_m9_width, ⟨by decide, by decide⟩, rfl, by decide, Or.inl lc_L_12⟩, ⟨trivial, ⟨trivial, ⟨trivial, ⟨trivial, ⟨trivial, ⟨trivial, ⟨trivial, ⟨trivial, ⟨⟨by decide, by decide, by decide⟩, trivial⟩⟩⟩⟩⟩⟩⟩⟩⟩⟩⟩⟩⟩⟩⟩⟩⟩⟩⟩⟩⟩⟩⟩⟩⟩
def bbL_act_100 : List PI := [(1, .aload_n 0, 0, 0, 0, 0, kZ), (3, .invokevirtual 18, 0, 9, 0, 0, m9_lines), (2, .bipush 10, 0, 0, 0, 0, kZ), (3, .if_icmp .ne 5, 111, 0, 0, 0, kZ), (1, .iconst 0, 0, 0, 0, 0, kZ), (1, .ireturn, 0, 0, 0, 0, kZ)]
set_option maxRecDepth 100000 in
theorem ooL_act_100 : okL mL_act 100 bbL_act_100 := okL_of _ _ (by decide +kernel) ⟨trivial, ⟨⟨mok_m9_lines, ⟨by decide, by decide⟩, rfl, by decide, Or.inl lc_L_18⟩, ⟨trivial, ⟨rfl, ⟨trivial, ⟨trivial, trivial⟩⟩⟩⟩⟩⟩
def bbL_act_111 : List PI := [(1, .aload_n 0, 0, 0, 0, 0, kZ), (2, .lload 4, 0, 0, 0, 0, kZ), (3, .invokevirtual 63, 1, 9, 1, 0, m9_addLine), (1, .pop, 0, 0, 0, 0, kZ), (1, .iconst 1, 0, 0, 0, 0, kZ), (1, .ireturn, 0, 0, 0, 0, kZ)]
set_option maxRecDepth 100000 in
theorem ooL_act_111 : okL mL_act 111 bbL_act_111 := okL_of _ _ (by decide +kernel) ⟨trivial, ⟨trivial, ⟨⟨mok_m9_addLine, ⟨by decide, by decide⟩, rfl, by decide, lc_L_63, okt_mL_act _⟩, ⟨trivial, ⟨trivial, ⟨trivial, trivial⟩⟩⟩⟩⟩⟩
def bbL_act_120 : List PI := [(1, .aload_n 0, 0, 0, 0, 0, kZ), (3, .invokevirtual 18, 0, 9, 0, 0, m9_lines), (3, .ifCond .ne 5, 129, 0, 0, 0, kZ), (1, .iconst 0, 0, 0, 0, 0, kZ), (1, .ireturn, 0, 0, 0, 0, kZ)]
set_option maxRecDepth 100000 in
theorem ooL_act_120 : okL mL_act 120 bbL_act_120 := okL_of _ _ (by decide +kernel) ⟨trivial, ⟨⟨mok_m9_lines, ⟨by decide, by decide⟩, rfl, by decide, Or.inl lc_L_18⟩, ⟨rfl, ⟨trivial, ⟨trivial, trivial⟩⟩⟩⟩⟩
def bbL_act_129 : List PI := [(1, .aload_n 0, 0, 0, 0, 0, kZ), (1, .iload_n 2, 0, 0, 0, 0, kZ), (1, .aload_n 0, 0, 0, 0, 0, kZ), (3, .invokevirtual 18, 0, 9, 0, 0, m9_lines), (3, .invokestatic 67, 2, 0, 0, 0, mL_low), (2, .lload 4, 0, 0, 0, 0, kZ), (3, .invokevirtual 73, 2, 9, 1, 0, m9_setLine)]
set_option maxRecDepth 100000 in
theorem ooL_act_129 : okL mL_act 129 bbL_act_129 := okL_of _ _ (by decide +kernel) ⟨trivial, ⟨trivial, ⟨trivial, ⟨⟨mok_m9_lines, ⟨by decide, by decide⟩, rfl, by decide, Or.inl lc_L_18⟩, ⟨⟨mok_mL_low, ⟨by decide, by decide⟩, rfl, Or.inl lc_L_67⟩, ⟨trivial, ⟨⟨mok_m9_setLine, ⟨by decide, by decide⟩, rfl, by decide, lc_L_73, okt_mL_act _⟩, trivial⟩⟩⟩⟩⟩⟩⟩
def bbL_act_144 : List PI := [(1, .iconst 1, 0, 0, 0, 0, kZ), (1, .ireturn, 0, 0, 0, 0, kZ)]
set_option maxRecDepth 100000 in
theorem ooL_act_144 : okL mL_act 144 bbL_act_144 := okL_of _ _ (by decide +kernel) ⟨trivial, ⟨trivial, trivial⟩⟩
def bbL_act_146 : List PI := [(1, .aload_n 0, 0, 0, 0, 0, kZ), (3, .invokevirtual 18, 0, 9, 0, 0, m9_lines), (3, .ifCond .ne 5, 155, 0, 0, 0, kZ), (1, .iconst 0, 0, 0, 0, 0, kZ), (1, .ireturn, 0, 0, 0, 0, kZ)]
set_option maxRecDepth 100000 in
theorem ooL_act_146 : okL mL_act 146 bbL_act_146 := okL_of _ _ (by decide +kernel) ⟨trivial, ⟨⟨mok_m9_lines, ⟨by decide, by decide⟩, rfl, by decide, Or.inl lc_L_18⟩, ⟨rfl, ⟨trivial, ⟨trivial, trivial⟩⟩⟩⟩⟩
def bbL_act_155 : List PI := [(1, .aload_n 0, 0, 0, 0, 0, kZ), (3, .invokevirtual 77, 0, 9, 1, 0, m9_dropLast), (1, .pop, 0, 0, 0, 0, kZ), (1, .iconst 1, 0, 0, 0, 0, kZ), (1, .ireturn, 0, 0, 0, 0, kZ)]
set_option maxRecDepth 100000 in
theorem ooL_act_155 : okL mL_act 155 bbL_act_155 := okL_of _ _ (by decide +kernel) ⟨trivial, ⟨⟨mok_m9_dropLast, ⟨by decide, by decide⟩, rfl, by decide, lc_L_77, okt_mL_act _⟩, ⟨trivial, ⟨trivial, ⟨trivial, trivial⟩⟩⟩⟩⟩
def bbL_act_162 : List PI := [(1, .aload_n 0, 0, 0, 0, 0, kZ), (1, .iload_n 2, 0, 0, 0, 0, kZ), (1, .iconst 4, 0, 0, 0, 0, kZ), (3, .invokestatic 67, 2, 0, 0, 0, mL_low), (3, .invokevirtual 80, 1, 9, 1, 0, m9_setStyle), (1, .pop, 0, 0, 0, 0, kZ), (1, .iconst 1, 0, 0, 0, 0, kZ), (1, .ireturn, 0, 0, 0, 0, kZ)]
set_option maxRecDepth 100000 in
theorem ooL_act_162 : okL mL_act 162 bbL_act_162 := okL_of _ _ (by decide +kernel) ⟨trivial, ⟨trivial, ⟨trivial, ⟨⟨mok_mL_low, ⟨by decide, by decide⟩, rfl, Or.inl lc_L_67⟩, ⟨⟨mok_m9_setStyle, ⟨by decide, by decide⟩, rfl, by decide, lc_L_80, okt_mL_act _⟩, ⟨trivial, ⟨trivial, ⟨trivial, trivial⟩⟩⟩⟩⟩⟩⟩⟩
def bbL_act_174 : List PI := [(1, .iload_n 2, 0, 0, 0, 0, kZ), (1, .iconst 3, 0, 0, 0, 0, kZ), (1, .iand, 0, 0, 0, 0, kZ), (3, .ifCond .le 5, 182, 0, 0, 0, kZ), (1, .iconst 0, 0, 0, 0, 0, kZ), (1, .ireturn, 0, 0, 0, 0, kZ)]
set_option maxRecDepth 100000 in
theorem ooL_act_174 : okL mL_act 174 bbL_act_174 := okL_of _ _ (by decide +kernel) ⟨trivial, ⟨trivial, ⟨trivial, ⟨rfl, ⟨trivial, ⟨trivial, trivial⟩⟩⟩⟩⟩⟩
def bbL_act_182 : List PI := [(1, .aload_n 0, 0, 0, 0, 0, kZ), (2, .bipush 8, 0, 0, 0, 0, kZ), (1, .iload_n 2, 0, 0, 0, 0, kZ), (1, .iconst 2, 0, 0, 0, 0, kZ), (1, .ishr, 0, 0, 0, 0, kZ), (2, .bipush 25, 0, 0, 0, 0, kZ), (3, .invokestatic 67, 2, 0, 0, 0, mL_low), (1, .iadd, 0, 0, 0, 0, kZ), (3, .invokevirtual 83, 1, 9, 1, 0, m9_setWidth), (1, .pop, 0, 0, 0, 0, kZ), (1, .iconst 1, 0, 0, 0, 0, kZ), (1, .ireturn, 0, 0, 0, 0, kZ)]
set_option maxRecDepth 100000 in
theorem ooL_act_182 : okL mL_act 182 bbL_act_182 := okL_of _ _ (by decide +kernel) ⟨trivial, ⟨trivial, ⟨trivial, ⟨trivial, ⟨trivial, ⟨trivial, ⟨⟨mok_mL_low, ⟨by decide, by decide⟩, rfl, Or.inl lc_L_67⟩, ⟨trivial, ⟨⟨mok_m9_setWidth, ⟨by decide, by decide⟩, rfl, by decide, lc_L_83, okt_mL_act _⟩, ⟨trivial, ⟨trivial, ⟨trivial, trivial⟩⟩⟩⟩⟩⟩⟩⟩⟩⟩⟩⟩
def bbL_act_200 : List PI := [(1, .aload_n 0, 0, 0, 0, 0, kZ), (3, .invokevirtual 86, 0, 9, 0, 0, m9_send), (1, .pop, 0, 0, 0, 0, kZ), (1, .iconst 1, 0, 0, 0, 0, kZ), (1, .ireturn, 0, 0, 0, 0, kZ)]
set_option maxRecDepth 100000 in
theorem ooL_act_200 : okL mL_act 200 bbL_act_200 := okL_of _ _ (by decide +kernel) ⟨trivial, ⟨⟨mok_m9_send, ⟨by decide, by decide⟩, rfl, by decide, Or.inl lc_L_86⟩, ⟨trivial, ⟨trivial, ⟨trivial, trivial⟩⟩⟩⟩⟩
def bbL_act_207 : List PI := [(1, .iload_n 3, 0, 0, 0, 0, kZ), (3, .ifCond .ne 5, 213, 0, 0, 0, kZ), (1, .iconst 0, 0, 0, 0, 0, kZ), (1, .ireturn, 0, 0, 0, 0, kZ)]
set_option maxRecDepth 100000 in
theorem ooL_act_207 : okL mL_act 207 bbL_act_207 := okL_of _ _ (by decide +kernel) ⟨trivial, ⟨rfl, ⟨trivial, ⟨trivial, trivial⟩⟩⟩⟩
def bbL_act_213 : List PI := [(1, .aload_n 0, 0, 0, 0, 0, kZ), (1, .iload_n 1, 0, 0, 0, 0, kZ), (1, .iconst 4, 0, 0, 0, 0, kZ), (1, .ishr, 0, 0, 0, 0, kZ), (1, .iload_n 3, 0, 0, 0, 0, kZ), (3, .invokestatic 67, 2, 0, 0, 0, mL_low), (1, .iload_n 2, 0, 0, 0, 0, kZ), (2, .bipush 16, 0, 0, 0, 0, kZ), (3, .invokestatic 67, 2, 0, 0, 0, mL_low), (3, .invokevirtual 89, 2, 9, 1, 0, m9_replace), (1, .pop, 0, 0, 0, 0, kZ), (1, .iconst 1, 0, 0, 0, 0, kZ), (1, .ireturn, 0, 0, 0, 0, kZ)]
set_option maxRecDepth 100000 in
theorem ooL_act_213 : okL mL_act 213 bbL_act_213 := okL_of _ _ (by decide +kernel) ⟨trivial, ⟨trivial, ⟨trivial, ⟨trivial, ⟨trivial, ⟨⟨mok_mL_low, ⟨by decide, by decide⟩, rfl, Or.inl lc_L_67⟩, ⟨trivial, ⟨trivial, ⟨⟨mok_mL_low, ⟨by decide, by decide⟩, rfl, Or.inl lc_L_67⟩, ⟨⟨mok_m9_replace, ⟨by decide, by decide⟩, rfl, by decide, lc_L_89, okt_mL_act _⟩, ⟨trivial, ⟨trivial, ⟨trivial, trivial⟩⟩⟩⟩⟩⟩⟩⟩⟩⟩⟩⟩⟩
def bbL_act_233 : List PI := [(1, .iload_n 3, 0, 0, 0, 0, kZ), (3, .ifCond .ne 5, 239, 0, 0, 0, kZ), (1, .iconst 0, 0, 0, 0, 0, kZ), (1, .ireturn, 0, 0, 0, 0, kZ)]
set_option maxRecDepth 100000 in
theorem ooL_act_233 : okL mL_act 233 bbL_act_233 := okL_of _ _ (by decide +kernel) ⟨trivial, ⟨rfl, ⟨trivial, ⟨trivial, trivial⟩⟩⟩⟩
def bbL_act_239 : List PI := [(1, .aload_n 0, 0, 0, 0, 0, kZ), (1, .iload_n 1, 0, 0, 0, 0, kZ), (1, .iconst 4, 0, 0, 0, 0, kZ), (1, .ishr, 0, 0, 0, 0, kZ), (1, .iload_n 3, 0, 0, 0, 0, kZ), (3, .invokestatic 67, 2, 0, 0, 0, mL_low), (3, .invokevirtual 92, 1, 9, 1, 0, m9_lose), (1, .pop, 0, 0, 0, 0, kZ), (1, .iconst 1, 0, 0, 0, 0, kZ), (1, .ireturn, 0, 0, 0, 0, kZ)]
set_option maxRecDepth 100000 in
theorem ooL_act_239 : okL mL_act 239 bbL_act_239 := okL_of _ _ (by decide +kernel) ⟨trivial, ⟨trivial, ⟨trivial, ⟨trivial, ⟨trivial, ⟨⟨mok_mL_low, ⟨by decide, by decide⟩, rfl, Or.inl lc_L_67⟩, ⟨⟨mok_m9_lose, ⟨by decide, by decide⟩, rfl, by decide, lc_L_92, okt_mL_act _⟩, ⟨trivial, ⟨trivial, ⟨trivial, trivial⟩⟩⟩⟩⟩⟩⟩⟩⟩⟩
def bbL_act_253 : List PI := [(1, .iload_n 3, 0, 0, 0, 0, kZ), (3, .sipush 500, 0, 0, 0, 0, kZ), (3, .if_icmp .ne 5, 262, 0, 0, 0, kZ), (1, .iconst 0, 0, 0, 0, 0, kZ), (1, .ireturn, 0, 0, 0, 0, kZ)]
set_option maxRecDepth 100000 in
theorem ooL_act_253 : okL mL_act 253 bbL_act_253 := okL_of _ _ (by decide +kernel) ⟨trivial, ⟨trivial, ⟨rfl, ⟨trivial, ⟨trivial, trivial⟩⟩⟩⟩⟩
def bbL_act_262 : List PI := [(1, .aload_n 0, 0, 0, 0, 0, kZ), (1, .iload_n 1, 0, 0, 0, 0, kZ), (1, .iconst 4, 0, 0, 0, 0, kZ), (1, .ishr, 0, 0, 0, 0, kZ), (1, .iload_n 3, 0, 0, 0, 0, kZ), (1, .iconst 1, 0, 0, 0, 0, kZ), (1, .iadd, 0, 0, 0, 0, kZ), (3, .invokestatic 67, 2, 0, 0, 0, mL_low), (1, .iload_n 2, 0, 0, 0, 0, kZ), (2, .bipush 16, 0, 0, 0, 0, kZ), (3, .invokestatic 67, 2, 0, 0, 0, mL_low), (3, .invokevirtual 95, 2, 9, 1, 0, m9_gain), (1, .pop, 0, 0, 0, 0, kZ), (1, .iconst 1, 0, 0, 0, 0, kZ), (1, .ireturn, 0, 0, 0, 0, kZ)]
set_option maxRecDepth 100000 in
theorem ooL_act_262 : okL mL_act 262 bbL_act_262 := okL_of _ _ (by decide +kernel) ⟨trivial, ⟨trivial, ⟨trivial, ⟨trivial, ⟨trivial, ⟨trivial, ⟨trivial, ⟨⟨mok_mL_low, ⟨by decide, by decide⟩, rfl, Or.inl lc_L_67⟩, ⟨trivial, ⟨trivial, ⟨⟨mok_mL_low, ⟨by decide, by decide⟩, rfl, Or.inl lc_L_67⟩, ⟨⟨mok_m9_gain, ⟨by decide, by decide⟩, rfl, by decide, lc_L_95, okt_mL_act _⟩, ⟨trivial, ⟨trivial, ⟨trivial, trivial⟩⟩⟩⟩⟩⟩⟩⟩⟩⟩⟩⟩⟩⟩⟩
def bbL_act_284 : List PI := [(1, .aload_n 0, 0, 0, 0, 0, kZ), (3, .invokevirtual 98, 0, 9, 0, 0, m9_receive), (1, .pop, 0, 0, 0, 0, kZ), (1, .iconst 1, 0, 0, 0, 0, kZ), (1, .ireturn, 0, 0, 0, 0, kZ)]
set_option maxRecDepth 100000 in
theorem ooL_act_284 : okL mL_act 284 bbL_act_284 := okL_of _ _ (by decide +kernel) ⟨trivial, ⟨⟨mok_m9_receive, ⟨by decide, by decide⟩, rfl, by decide, Or.inl lc_L_98⟩, ⟨trivial, ⟨trivial, ⟨trivial, trivial⟩⟩⟩⟩⟩
def cdL_act (t : Nat) : Option (List PI) := match t with
  | 0 => some bbL_act_0
  | 100 => some bbL_act_100
  | 111 => some bbL_act_111
  | 120 => some bbL_act_120
  | 129 => some bbL_act_129
  | 146 => some bbL_act_146
  | 155 => some bbL_act_155
  | 162 => some bbL_act_162
  | 174 => some bbL_act_174
  | 182 => some bbL_act_182
  | 200 => some bbL_act_200
  | 207 => some bbL_act_207
  | 213 => some bbL_act_213
  | 233 => some bbL_act_233
  | 239 => some bbL_act_239
  | 253 => some bbL_act_253
  | 262 => some bbL_act_262
  | 284 => some bbL_act_284
  | _ => none
theorem kdL_act : ∀ t is, cdL_act t = some is → okL mL_act t is := by
  intro t is h
  unfold cdL_act at h
  split at h <;> cases h
  · exact ooL_act_0
  · exact ooL_act_100
  · exact ooL_act_111
  · exact ooL_act_120
  · exact ooL_act_129
  · exact ooL_act_146
  · exact ooL_act_155
  · exact ooL_act_162
  · exact ooL_act_174
  · exact ooL_act_182
  · exact ooL_act_200
  · exact ooL_act_207
  · exact ooL_act_213
  · exact ooL_act_233
  · exact ooL_act_239
  · exact ooL_act_253
  · exact ooL_act_262
  · exact ooL_act_284
theorem ffL_act : mi_r mL_act = (some .boolean) ∧ mi_l mL_act = 6 ∧ mi_h mL_act = [] ∧ (mi_rm mL_act).cells = 20 ∧ (mi_rm mL_act).slots = 120 ∧ (mi_rm mL_act).locals = 201 ∧ cdL_act 0 = some bbL_act_0 ∧ cdL_act 100 = some bbL_act_100 ∧ cdL_act 111 = some bbL_act_111 ∧ cdL_act 120 = some bbL_act_120 ∧ cdL_act 129 = some bbL_act_129 ∧ cdL_act 144 = none ∧ cdL_act 146 = some bbL_act_146 ∧ cdL_act 155 = some bbL_act_155 ∧ cdL_act 162 = some bbL_act_162 ∧ cdL_act 174 = some bbL_act_174 ∧ cdL_act 182 = some bbL_act_182 ∧ cdL_act 200 = some bbL_act_200 ∧ cdL_act 207 = some bbL_act_207 ∧ cdL_act 213 = some bbL_act_213 ∧ cdL_act 233 = some bbL_act_233 ∧ cdL_act 239 = some bbL_act_239 ∧ cdL_act 253 = some bbL_act_253 ∧ cdL_act 262 = some bbL_act_262 ∧ cdL_act 284 = some bbL_act_284 ∧ (mi_rm m9_addLine).cells = 2 ∧ (mi_rm m9_addLine).slots = 12 ∧ (mi_rm m9_dropLast).cells = 1 ∧ (mi_rm m9_dropLast).slots = 6 ∧ (mi_rm m9_gain).cells = 2 ∧ (mi_rm m9_gain).slots = 12 ∧ (mi_rm m9_lines).cells = 0 ∧ (mi_rm m9_lines).slots = 0 ∧ (mi_rm m9_lose).cells = 1 ∧ (mi_rm m9_lose).slots = 6 ∧ (mi_rm m9_receive).cells = 0 ∧ (mi_rm m9_receive).slots = 0 ∧ (mi_rm m9_replace).cells = 2 ∧ (mi_rm m9_replace).slots = 12 ∧ (mi_rm m9_send).cells = 0 ∧ (mi_rm m9_send).slots = 0 ∧ (mi_rm m9_setLine).cells = 2 ∧ (mi_rm m9_setLine).slots = 12 ∧ (mi_rm m9_setStyle).cells = 1 ∧ (mi_rm m9_setStyle).slots = 6 ∧ (mi_rm m9_setWidth).cells = 1 ∧ (mi_rm m9_setWidth).slots = 6 ∧ (mi_rm m9_streamLength).cells = 0 ∧ (mi_rm m9_streamLength).slots = 0 ∧ (mi_rm m9_width).cells = 0 ∧ (mi_rm m9_width).slots = 0 ∧ (mi_rm mL_low).cells = 0 ∧ (mi_rm mL_low).slots = 0 := ⟨rfl, rfl, rfl, rfl, rfl, rfl, rfl, rfl, rfl, rfl, rfl, rfl, rfl, rfl, rfl, rfl, rfl, rfl, rfl, rfl, rfl, rfl, rfl, rfl, rfl, rfl, rfl, rfl, rfl, rfl, rfl, rfl, rfl, rfl, rfl, rfl, rfl, rfl, rfl, rfl, rfl, rfl, rfl, rfl, rfl, rfl, rfl, rfl, rfl, rfl, rfl, rfl, rfl⟩
theorem okt_mL_holds (pc : Nat) : okT mL_holds pc := fun y hy => by cases hy
def bbL_holds_0 : List PI := [(1, .iconst 0, 0, 0, 0, 0, kZ), (1, .istore_n 1, 0, 0, 0, 0, kZ), (1, .iconst 0, 0, 0, 0, 0, kZ), (1, .istore_n 2, 0, 0, 0, 0, kZ), (1, .iconst 0, 0, 0, 0, 0, kZ), (1, .istore_n 3, 0, 0, 0, 0, kZ)]
set_option maxRecDepth 100000 in
theorem ooL_holds_0 : okL mL_holds 0 bbL_holds_0 := okL_of _ _ (by decide +kernel) ⟨trivial, ⟨trivial, ⟨trivial, ⟨trivial, ⟨trivial, ⟨trivial, trivial⟩⟩⟩⟩⟩⟩
def bbL_holds_6 : List PI := [(1, .iload_n 3, 0, 0, 0, 0, kZ), (1, .aload_n 0, 0, 0, 0, 0, kZ), (3, .invokevirtual 18, 0, 9, 0, 0, m9_lines), (3, .if_icmp .ge 240, 251, 0, 0, 0, kZ), (1, .aload_n 0, 0, 0, 0, 0, kZ), (1, .iload_n 3, 0, 0, 0, 0, kZ), (3, .invokevirtual 101, 1, 9, 1, 0, m9_modeOf), (2, .istore 4, 0, 0, 0, 0, kZ), (1, .iload_n 1, 0, 0, 0, 0, kZ), (1, .aload_n 0, 0, 0, 0, 0, kZ), (1, .iload_n 3, 0, 0, 0, 0, kZ), (2, .iload 4, 0, 0, 0, 0, kZ), (3, .invokevirtual 104, 2, 9, 1, 0, m9_codeLength), (1, .iadd, 0, 0, 0, 0, kZ), (1, .istore_n 1, 0, 0, 0, 0, kZ), (1, .iconst 0, 0, 0, 0, 0, kZ), (2, .istore 5, 0, 0, 0, 0, kZ)]
set_option maxRecDepth 100000 in
theorem ooL_holds_6 : okL mL_holds 6 bbL_holds_6 := okL_of _ _ (by decide +kernel) ⟨trivial, ⟨trivial, ⟨⟨mok_m9_lines, ⟨by decide, by decide⟩, rfl, by decide, Or.inl lc_L_18⟩, ⟨rfl, ⟨trivial, ⟨trivial, ⟨⟨mok_m9_modeOf, ⟨by decide, by decide⟩, rfl, by decide, lc_L_101, okt_mL_holds _⟩, ⟨trivial, ⟨trivial, ⟨trivial, ⟨trivial, ⟨trivial, ⟨⟨mok_m9_codeLength, ⟨by decide, by decide⟩, rfl, by decide, lc_L_104, okt_mL_holds _⟩, ⟨trivial, ⟨trivial, ⟨trivial, ⟨trivial, trivial⟩⟩⟩⟩⟩⟩⟩⟩⟩⟩⟩⟩⟩⟩⟩⟩⟩
def bbL_holds_34 : List PI := [(2, .iload 5, 0, 0, 0, 0, kZ), (1, .iconst 3, 0, 0, 0, 0, kZ), (3, .if_icmp .ge 95, 132, 0, 0, 0, kZ), (1, .aload_n 0, 0, 0, 0, 0, kZ), (1, .iload_n 3, 0, 0, 0, 0, kZ), (2, .iload 5, 0, 0, 0, 0, kZ), (3, .invokevirtual 104, 2, 9, 1, 0, m9_codeLength), (2, .istore 6, 0, 0, 0, 0, kZ), (2, .iload 6, 0, 0, 0, 0, kZ), (1, .aload_n 0, 0, 0, 0, 0, kZ), (1, .iload_n 3, 0, 0, 0, 0, kZ), (2, .iload 5, 0, 0, 0, 0, kZ), (3, .invokevirtual 107, 2, 9, 1, 0, m9_codeLengthByCounting), (3, .if_icmp .ne 66, 124, 0, 0, 0, kZ), (2, .iload 6, 0, 0, 0, 0, kZ), (2, .bipush 6, 0, 0, 0, 0, kZ), (3, .if_icmp .lt 59, 124, 0, 0, 0, kZ), (2, .iload 6, 0, 0, 0, 0, kZ), (2, .bipush 60, 0, 0, 0, 0, kZ), (3, .if_icmp .gt 52, 124, 0, 0, 0, kZ), (1, .aload_n 0, 0, 0, 0, 0, kZ), (3, .invokevirtual 21, 0, 9, 0, 0, m9_style), (1, .iconst 3, 0, 0, 0, 0, kZ), (3, .if_icmp .ne 15, 95, 0, 0, 0, kZ), (1, .aload_n 0, 0, 0, 0, 0, kZ), (1, .iload_n 3, 0, 0, 0, 0, kZ), (2, .iload 4, 0, 0, 0, 0, kZ), (3, .invokevirtual 104, 2, 9, 1, 0, m9_codeLength), (2, .iload 6, 0, 0, 0, 0, kZ), (3, .if_icmp .gt 32, 124, 0, 0, 0, kZ)]
set_option maxRecDepth 100000 in
theorem ooL_holds_34 : okL mL_holds 34 bbL_holds_34 := okL_of _ _ (by decide +kernel) ⟨trivial, ⟨trivial, ⟨rfl, ⟨trivial, ⟨trivial, ⟨trivial, ⟨⟨mok_m9_codeLength, ⟨by decide, by decide⟩, rfl, by decide, lc_L_104, okt_mL_holds _⟩, ⟨trivial, ⟨trivial, ⟨trivial, ⟨trivial, ⟨trivial, ⟨⟨mok_m9_codeLengthByCounting, ⟨by decide, by decide⟩, rfl, by decide, lc_L_107, okt_mL_holds _⟩, ⟨rfl, ⟨trivial, ⟨trivial, ⟨rfl, ⟨trivial, ⟨trivial, ⟨rfl, ⟨trivial, ⟨⟨mok_m9_style, ⟨by decide, by decide⟩, rfl, by decide, Or.inl lc_L_21⟩, ⟨trivial, ⟨rfl, ⟨trivial, ⟨trivial, ⟨trivial, ⟨⟨mok_m9_codeLength, ⟨by decide, by decide⟩, rfl, by decide, lc_L_104, okt_mL_holds _⟩, ⟨trivial, ⟨rfl, trivial⟩⟩⟩⟩⟩⟩⟩⟩⟩⟩⟩⟩⟩⟩⟩⟩⟩⟩⟩⟩⟩⟩⟩⟩⟩⟩⟩⟩⟩⟩
def bbL_holds_95 : List PI := [(1, .aload_n 0, 0, 0, 0, 0, kZ), (3, .invokevirtual 21, 0, 9, 0, 0, m9_style), (1, .iconst 3, 0, 0, 0, 0, kZ), (3, .if_icmp .ge 12, 112, 0, 0, 0, kZ), (2, .iload 4, 0, 0, 0, 0, kZ), (1, .aload_n 0, 0, 0, 0, 0, kZ), (3, .invokevirtual 21, 0, 9, 0, 0, m9_style), (3, .if_icmp .ne 15, 124, 0, 0, 0, kZ)]
set_option maxRecDepth 100000 in
theorem ooL_holds_95 : okL mL_holds 95 bbL_holds_95 := okL_of _ _ (by decide +kernel) ⟨trivial, ⟨⟨mok_m9_style, ⟨by decide, by decide⟩, rfl, by decide, Or.inl lc_L_21⟩, ⟨trivial, ⟨rfl, ⟨trivial, ⟨trivial, ⟨⟨mok_m9_style, ⟨by decide, by decide⟩, rfl, by decide, Or.inl lc_L_21⟩, ⟨rfl, trivial⟩⟩⟩⟩⟩⟩⟩⟩
def bbL_holds_112 : List PI := [(1, .aload_n 0, 0, 0, 0, 0, kZ), (1, .iload_n 3, 0, 0, 0, 0, kZ), (2, .iload 5, 0, 0, 0, 0, kZ), (3, .invokevirtual 110, 2, 9, 1, 0, m9_checkOf), (2, .bipush 14, 0, 0, 0, 0, kZ), (3, .if_icmp .le 5, 126, 0, 0, 0, kZ)]
set_option maxRecDepth 100000 in
theorem ooL_holds_112 : okL mL_holds 112 bbL_holds_112 := okL_of _ _ (by decide +kernel) ⟨trivial, ⟨trivial, ⟨trivial, ⟨⟨mok_m9_checkOf, ⟨by decide, by decide⟩, rfl, by decide, lc_L_110, okt_mL_holds _⟩, ⟨trivial, ⟨rfl, trivial⟩⟩⟩⟩⟩⟩
def bbL_holds_124 : List PI := [(1, .iconst 0, 0, 0, 0, 0, kZ), (1, .ireturn, 0, 0, 0, 0, kZ)]
set_option maxRecDepth 100000 in
theorem ooL_holds_124 : okL mL_holds 124 bbL_holds_124 := okL_of _ _ (by decide +kernel) ⟨trivial, ⟨trivial, trivial⟩⟩
def bbL_holds_126 : List PI := [(3, .iinc 5 1, 0, 0, 0, 0, kZ), (3, .goto (-95), 34, 0, 0, 0, kZ)]
set_option maxRecDepth 100000 in
theorem ooL_holds_126 : okL mL_holds 126 bbL_holds_126 := okL_of _ _ (by decide +kernel) ⟨trivial, ⟨rfl, trivial⟩⟩
def bbL_holds_132 : List PI := [(1, .iconst 0, 0, 0, 0, 0, kZ), (2, .istore 5, 0, 0, 0, 0, kZ)]
set_option maxRecDepth 100000 in
theorem ooL_holds_132 : okL mL_holds 132 bbL_holds_132 := okL_of _ _ (by decide +kernel) ⟨trivial, ⟨trivial, trivial⟩⟩
def bbL_holds_135 : List PI := [(2, .iload 5, 0, 0, 0, 0, kZ), (1, .aload_n 0, 0, 0, 0, 0, kZ), (3, .invokevirtual 12, 0, 9, 0, 0, m9_width), (3, .if_icmp .ge 58, 199, 0, 0, 0, kZ), (1, .aload_n 0, 0, 0, 0, 0, kZ), (1, .iload_n 3, 0, 0, 0, 0, kZ), (2, .iload 5, 0, 0, 0, 0, kZ), (3, .invokevirtual 113, 2, 9, 1, 0, m9_isBlack), (2, .istore 6, 0, 0, 0, 0, kZ), (1, .iload_n 2, 0, 0, 0, 0, kZ), (2, .iload 6, 0, 0, 0, 0, kZ), (3, .ifCond .eq 7, 163, 0, 0, 0, kZ), (1, .iconst 1, 0, 0, 0, 0, kZ), (3, .goto 4, 164, 0, 0, 0, kZ)]
set_option maxRecDepth 100000 in
theorem ooL_holds_135 : okL mL_holds 135 bbL_holds_135 := okL_of _ _ (by decide +kernel) ⟨trivial, ⟨trivial, ⟨⟨mok_m9_width, ⟨by decide, by decide⟩, rfl, by decide, Or.inl lc_L_12⟩, ⟨rfl, ⟨trivial, ⟨trivial, ⟨trivial, ⟨⟨mok_m9_isBlack, ⟨by decide, by decide⟩, rfl, by decide, lc_L_113, okt_mL_holds _⟩, ⟨trivial, ⟨trivial, ⟨trivial, ⟨rfl, ⟨trivial, ⟨rfl, trivial⟩⟩⟩⟩⟩⟩⟩⟩⟩⟩⟩⟩⟩⟩
def bbL_holds_163 : List PI := [(1, .iconst 0, 0, 0, 0, 0, kZ)]
set_option maxRecDepth 100000 in
theorem ooL_holds_163 : okL mL_holds 163 bbL_holds_163 := okL_of _ _ (by decide +kernel) ⟨trivial, trivial⟩
def bbL_holds_164 : List PI := [(1, .iadd, 0, 0, 0, 0, kZ), (1, .istore_n 2, 0, 0, 0, 0, kZ), (2, .iload 6, 0, 0, 0, 0, kZ), (1, .aload_n 0, 0, 0, 0, 0, kZ), (1, .iload_n 3, 0, 0, 0, 0, kZ), (3, .invokevirtual 33, 1, 9, 1, 0, m9_pixelsOf), (2, .iload 5, 0, 0, 0, 0, kZ)]
set_option maxRecDepth 100000 in
theorem ooL_holds_164 : okL mL_holds 164 bbL_holds_164 := okL_of _ _ (by decide +kernel) ⟨trivial, ⟨trivial, ⟨trivial, ⟨trivial, ⟨trivial, ⟨⟨mok_m9_pixelsOf, ⟨by decide, by decide⟩, rfl, by decide, lc_L_33, okt_mL_holds _⟩, ⟨trivial, trivial⟩⟩⟩⟩⟩⟩⟩
def bbL_holds_176 : List PI := [(1, .lconst 1, 0, 0, 0, 0, kZ), (1, .land, 0, 0, 0, 0, kZ), (1, .lconst 1, 0, 0, 0, 0, kZ), (1, .lcmp, 0, 0, 0, 0, kZ), (3, .ifCond .ne 7, 187, 0, 0, 0, kZ), (1, .iconst 1, 0, 0, 0, 0, kZ), (3, .goto 4, 188, 0, 0, 0, kZ)]
set_option maxRecDepth 100000 in
theorem ooL_holds_176 : okL mL_holds 176 bbL_holds_176 := okL_of _ _ (by decide +kernel) ⟨trivial, ⟨trivial, ⟨trivial, ⟨trivial, ⟨rfl, ⟨trivial, ⟨rfl, trivial⟩⟩⟩⟩⟩⟩⟩
def bbL_holds_187 : List PI := [(1, .iconst 0, 0, 0, 0, 0, kZ)]
set_option maxRecDepth 100000 in
theorem ooL_holds_187 : okL mL_holds 187 bbL_holds_187 := okL_of _ _ (by decide +kernel) ⟨trivial, trivial⟩
def bbL_holds_188 : List PI := [(3, .if_icmp .eq 5, 193, 0, 0, 0, kZ), (1, .iconst 0, 0, 0, 0, 0, kZ), (1, .ireturn, 0, 0, 0, 0, kZ)]
set_option maxRecDepth 100000 in
theorem ooL_holds_188 : okL mL_holds 188 bbL_holds_188 := okL_of _ _ (by decide +kernel) ⟨rfl, ⟨trivial, ⟨trivial, trivial⟩⟩⟩
def bbL_holds_193 : List PI := [(3, .iinc 5 1, 0, 0, 0, 0, kZ), (3, .goto (-61), 135, 0, 0, 0, kZ)]
set_option maxRecDepth 100000 in
theorem ooL_holds_193 : okL mL_holds 193 bbL_holds_193 := okL_of _ _ (by decide +kernel) ⟨trivial, ⟨rfl, trivial⟩⟩
def bbL_holds_199 : List PI := [(1, .aload_n 0, 0, 0, 0, 0, kZ), (1, .iload_n 3, 0, 0, 0, 0, kZ), (3, .invokevirtual 117, 1, 9, 1, 0, m9_runsOf), (1, .iconst 1, 0, 0, 0, 0, kZ), (3, .if_icmp .lt 38, 243, 0, 0, 0, kZ), (1, .aload_n 0, 0, 0, 0, 0, kZ), (1, .iload_n 3, 0, 0, 0, 0, kZ), (3, .invokevirtual 117, 1, 9, 1, 0, m9_runsOf), (1, .aload_n 0, 0, 0, 0, 0, kZ), (3, .invokevirtual 12, 0, 9, 0, 0, m9_width), (1, .iconst 1, 0, 0, 0, 0, kZ), (1, .iadd, 0, 0, 0, 0, kZ), (3, .if_icmp .gt 24, 243, 0, 0, 0, kZ), (1, .aload_n 0, 0, 0, 0, 0, kZ), (1, .iload_n 3, 0, 0, 0, 0, kZ), (3, .invokevirtual 120, 1, 9, 1, 0, m9_longestRun), (1, .iconst 1, 0, 0, 0, 0, kZ), (3, .if_icmp .lt 15, 243, 0, 0, 0, kZ), (1, .aload_n 0, 0, 0, 0, 0, kZ), (1, .iload_n 3, 0, 0, 0, 0, kZ), (3, .invokevirtual 120, 1, 9, 1, 0, m9_longestRun), (1, .aload_n 0, 0, 0, 0, 0, kZ), (3, .invokevirtual 12, 0, 9, 0, 0, m9_width), (3, .if_icmp .le 5, 245, 0, 0, 0, kZ)]
set_option maxRecDepth 100000 in
theorem ooL_holds_199 : okL mL_holds 199 bbL_holds_199 := okL_of _ _ (by decide +kernel) ⟨trivial, ⟨trivial, ⟨⟨mok_m9_runsOf, ⟨by decide, by decide⟩, rfl, by decide, lc_L_117, okt_mL_holds _⟩, ⟨trivial, ⟨rfl, ⟨trivial, ⟨trivial, ⟨⟨mok_m9_runsOf, ⟨by decide, by decide⟩, rfl, by decide, lc_L_117, okt_mL_holds _⟩, ⟨trivial, ⟨⟨mok_m9_width, ⟨by decide, by decide⟩, rfl, by decide, Or.inl lc_L_12⟩, ⟨trivial, ⟨trivial, ⟨rfl, ⟨trivial, ⟨trivial, ⟨⟨mok_m9_longestRun, ⟨by decide, by decide⟩, rfl, by decide, lc_L_120, okt_mL_holds _⟩, ⟨trivial, ⟨rfl, ⟨trivial, ⟨trivial, ⟨⟨mok_m9_longestRun, ⟨by decide, by decide⟩, rfl, by decide, lc_L_120, okt_mL_holds _⟩, ⟨trivial, ⟨⟨mok_m9_width, ⟨by decide, by decide⟩, rfl, by decide, Or.inl lc_L_12⟩, ⟨rfl, trivial⟩⟩⟩⟩⟩⟩⟩⟩⟩⟩⟩⟩⟩⟩⟩⟩⟩⟩⟩⟩⟩⟩⟩⟩
def bbL_holds_243 : List PI := [(1, .iconst 0, 0, 0, 0, 0, kZ), (1, .ireturn, 0, 0, 0, 0, kZ)]
set_option maxRecDepth 100000 in
theorem ooL_holds_243 : okL mL_holds 243 bbL_holds_243 := okL_of _ _ (by decide +kernel) ⟨trivial, ⟨trivial, trivial⟩⟩
def bbL_holds_245 : List PI := [(3, .iinc 3 1, 0, 0, 0, 0, kZ), (3, .goto (-242), 6, 0, 0, 0, kZ)]
set_option maxRecDepth 100000 in
theorem ooL_holds_245 : okL mL_holds 245 bbL_holds_245 := okL_of _ _ (by decide +kernel) ⟨trivial, ⟨rfl, trivial⟩⟩
def bbL_holds_251 : List PI := [(1, .iconst 0, 0, 0, 0, 0, kZ), (1, .istore_n 3, 0, 0, 0, 0, kZ), (1, .iconst 0, 0, 0, 0, 0, kZ), (2, .istore 4, 0, 0, 0, 0, kZ)]
set_option maxRecDepth 100000 in
theorem ooL_holds_251 : okL mL_holds 251 bbL_holds_251 := okL_of _ _ (by decide +kernel) ⟨trivial, ⟨trivial, ⟨trivial, ⟨trivial, trivial⟩⟩⟩⟩
def bbL_holds_256 : List PI := [(2, .iload 4, 0, 0, 0, 0, kZ), (2, .bipush 10, 0, 0, 0, 0, kZ), (3, .if_icmp .ge 26, 286, 0, 0, 0, kZ), (1, .iload_n 3, 0, 0, 0, 0, kZ), (1, .aload_n 0, 0, 0, 0, 0, kZ), (2, .iload 4, 0, 0, 0, 0, kZ), (3, .invokevirtual 41, 1, 9, 1, 0, m9_isReceived), (3, .ifCond .eq 7, 277, 0, 0, 0, kZ), (1, .iconst 1, 0, 0, 0, 0, kZ), (3, .goto 4, 278, 0, 0, 0, kZ)]
set_option maxRecDepth 100000 in
theorem ooL_holds_256 : okL mL_holds 256 bbL_holds_256 := okL_of _ _ (by decide +kernel) ⟨trivial, ⟨trivial, ⟨rfl, ⟨trivial, ⟨trivial, ⟨trivial, ⟨⟨mok_m9_isReceived, ⟨by decide, by decide⟩, rfl, by decide, lc_L_41, okt_mL_holds _⟩, ⟨rfl, ⟨trivial, ⟨rfl, trivial⟩⟩⟩⟩⟩⟩⟩⟩⟩⟩
def bbL_holds_277 : List PI := [(1, .iconst 0, 0, 0, 0, 0, kZ)]
set_option maxRecDepth 100000 in
theorem ooL_holds_277 : okL mL_holds 277 bbL_holds_277 := okL_of _ _ (by decide +kernel) ⟨trivial, trivial⟩
def bbL_holds_278 : List PI := [(1, .iadd, 0, 0, 0, 0, kZ), (1, .istore_n 3, 0, 0, 0, 0, kZ), (3, .iinc 4 1, 0, 0, 0, 0, kZ), (3, .goto (-27), 256, 0, 0, 0, kZ)]
set_option maxRecDepth 100000 in
theorem ooL_holds_278 : okL mL_holds 278 bbL_holds_278 := okL_of _ _ (by decide +kernel) ⟨trivial, ⟨trivial, ⟨trivial, ⟨rfl, trivial⟩⟩⟩⟩
def bbL_holds_286 : List PI := [(1, .aload_n 0, 0, 0, 0, 0, kZ), (3, .invokevirtual 123, 0, 9, 0, 0, m9_wouldSend), (1, .iload_n 1, 0, 0, 0, 0, kZ), (3, .if_icmp .ne 51, 342, 0, 0, 0, kZ), (1, .aload_n 0, 0, 0, 0, 0, kZ), (3, .invokevirtual 126, 0, 9, 0, 0, m9_blackPixels), (1, .iload_n 2, 0, 0, 0, 0, kZ), (3, .if_icmp .ne 43, 342, 0, 0, 0, kZ), (1, .aload_n 0, 0, 0, 0, 0, kZ), (3, .invokevirtual 27, 0, 9, 0, 0, m9_received), (1, .iload_n 3, 0, 0, 0, 0, kZ), (3, .if_icmp .ne 35, 342, 0, 0, 0, kZ), (1, .aload_n 0, 0, 0, 0, 0, kZ), (3, .invokevirtual 129, 0, 9, 0, 0, m9_right), (1, .iload_n 3, 0, 0, 0, 0, kZ), (3, .if_icmp .gt 27, 342, 0, 0, 0, kZ), (1, .aload_n 0, 0, 0, 0, 0, kZ), (3, .invokevirtual 129, 0, 9, 0, 0, m9_right), (1, .aload_n 0, 0, 0, 0, 0, kZ), (3, .invokevirtual 18, 0, 9, 0, 0, m9_lines), (3, .if_icmp .gt 16, 342, 0, 0, 0, kZ), (1, .aload_n 0, 0, 0, 0, 0, kZ), (3, .invokevirtual 30, 0, 9, 0, 0, m9_errors), (2, .bipush 20, 0, 0, 0, 0, kZ), (3, .if_icmp .gt 7, 342, 0, 0, 0, kZ), (1, .iconst 1, 0, 0, 0, 0, kZ), (3, .goto 4, 343, 0, 0, 0, kZ)]
set_option maxRecDepth 100000 in
theorem ooL_holds_286 : okL mL_holds 286 bbL_holds_286 := okL_of _ _ (by decide +kernel) ⟨trivial, ⟨⟨mok_m9_wouldSend, ⟨by decide, by decide⟩, rfl, by decide, Or.inl lc_L_123⟩, ⟨trivial, ⟨rfl, ⟨trivial, ⟨⟨mok_m9_blackPixels, ⟨by decide, by decide⟩, rfl, by decide, Or.inl lc_L_126⟩, ⟨trivial, ⟨rfl, ⟨trivial, ⟨⟨mok_m9_received, ⟨by decide, by decide⟩, rfl, by decide, Or.inl lc_L_27⟩, ⟨trivial, ⟨rfl, ⟨trivial, ⟨⟨mok_m9_right, ⟨by decide, by decide⟩, rfl, by decide, Or.inl lc_L_129⟩, ⟨trivial, ⟨rfl, ⟨trivial, ⟨⟨mok_m9_right, ⟨by decide, by decide⟩, rfl, by decide, Or.inl lc_L_129⟩, ⟨trivial, ⟨⟨mok_m9_lines, ⟨by decide, by decide⟩, rfl, by decide, Or.inl lc_L_18⟩, ⟨rfl, ⟨trivial, ⟨⟨mok_m9_errors, ⟨by decide, by decide⟩, rfl, by decide, Or.inl lc_L_30⟩, ⟨trivial, ⟨rfl, ⟨trivial, ⟨rfl, trivial⟩⟩⟩⟩⟩⟩⟩⟩⟩⟩⟩⟩⟩⟩⟩⟩⟩⟩⟩⟩⟩⟩⟩⟩⟩⟩⟩
def bbL_holds_342 : List PI := [(1, .iconst 0, 0, 0, 0, 0, kZ)]
set_option maxRecDepth 100000 in
theorem ooL_holds_342 : okL mL_holds 342 bbL_holds_342 := okL_of _ _ (by decide +kernel) ⟨trivial, trivial⟩
def bbL_holds_343 : List PI := [(2, .istore 4, 0, 0, 0, 0, kZ), (1, .iconst 1, 0, 0, 0, 0, kZ), (2, .istore 5, 0, 0, 0, 0, kZ)]
set_option maxRecDepth 100000 in
theorem ooL_holds_343 : okL mL_holds 343 bbL_holds_343 := okL_of _ _ (by decide +kernel) ⟨trivial, ⟨trivial, ⟨trivial, trivial⟩⟩⟩
def bbL_holds_348 : List PI := [(2, .iload 5, 0, 0, 0, 0, kZ), (1, .aload_n 0, 0, 0, 0, 0, kZ), (3, .invokevirtual 30, 0, 9, 0, 0, m9_errors), (3, .if_icmp .ge 38, 392, 0, 0, 0, kZ), (2, .iload 4, 0, 0, 0, 0, kZ), (3, .ifCond .eq 24, 383, 0, 0, 0, kZ), (1, .aload_n 0, 0, 0, 0, 0, kZ), (2, .iload 5, 0, 0, 0, 0, kZ), (3, .invokevirtual 48, 1, 9, 1, 0, m9_errorPlace), (1, .aload_n 0, 0, 0, 0, 0, kZ), (2, .iload 5, 0, 0, 0, 0, kZ), (1, .iconst 1, 0, 0, 0, 0, kZ), (1, .isub, 0, 0, 0, 0, kZ), (3, .invokevirtual 48, 1, 9, 1, 0, m9_errorPlace), (3, .if_icmp .le 7, 383, 0, 0, 0, kZ), (1, .iconst 1, 0, 0, 0, 0, kZ), (3, .goto 4, 384, 0, 0, 0, kZ)]
set_option maxRecDepth 100000 in
theorem ooL_holds_348 : okL mL_holds 348 bbL_holds_348 := okL_of _ _ (by decide +kernel) ⟨trivial, ⟨trivial, ⟨⟨mok_m9_errors, ⟨by decide, by decide⟩, rfl, by decide, Or.inl lc_L_30⟩, ⟨rfl, ⟨trivial, ⟨rfl, ⟨trivial, ⟨trivial, ⟨⟨mok_m9_errorPlace, ⟨by decide, by decide⟩, rfl, by decide, lc_L_48, okt_mL_holds _⟩, ⟨trivial, ⟨trivial, ⟨trivial, ⟨trivial, ⟨⟨mok_m9_errorPlace, ⟨by decide, by decide⟩, rfl, by decide, lc_L_48, okt_mL_holds _⟩, ⟨rfl, ⟨trivial, ⟨rfl, trivial⟩⟩⟩⟩⟩⟩⟩⟩⟩⟩⟩⟩⟩⟩⟩⟩⟩
def bbL_holds_383 : List PI := [(1, .iconst 0, 0, 0, 0, 0, kZ)]
set_option maxRecDepth 100000 in
theorem ooL_holds_383 : okL mL_holds 383 bbL_holds_383 := okL_of _ _ (by decide +kernel) ⟨trivial, trivial⟩
def bbL_holds_384 : List PI := [(2, .istore 4, 0, 0, 0, 0, kZ), (3, .iinc 5 1, 0, 0, 0, 0, kZ), (3, .goto (-41), 348, 0, 0, 0, kZ)]
set_option maxRecDepth 100000 in
theorem ooL_holds_384 : okL mL_holds 384 bbL_holds_384 := okL_of _ _ (by decide +kernel) ⟨trivial, ⟨trivial, ⟨rfl, trivial⟩⟩⟩
def bbL_holds_392 : List PI := [(2, .iload 4, 0, 0, 0, 0, kZ), (3, .ifCond .eq 40, 434, 0, 0, 0, kZ), (1, .aload_n 0, 0, 0, 0, 0, kZ), (3, .invokevirtual 132, 0, 9, 0, 0, m9_wouldBeRight), (1, .aload_n 0, 0, 0, 0, 0, kZ), (3, .invokevirtual 135, 0, 9, 0, 0, m9_wouldReceive), (3, .if_icmp .gt 29, 434, 0, 0, 0, kZ), (1, .aload_n 0, 0, 0, 0, 0, kZ), (3, .invokevirtual 138, 0, 9, 0, 0, m9_codedShare), (1, .dconst 0, 0, 0, 0, 0, kZ), (1, .dcmp .l, 0, 0, 0, 0, kZ), (3, .ifCond .lt 20, 434, 0, 0, 0, kZ), (1, .aload_n 0, 0, 0, 0, 0, kZ), (3, .invokevirtual 142, 0, 9, 0, 0, m9_markers), (1, .aload_n 0, 0, 0, 0, 0, kZ), (3, .invokevirtual 24, 0, 9, 0, 0, m9_streamLength), (1, .iconst 2, 0, 0, 0, 0, kZ), (1, .idiv, 0, 0, 0, 0, kZ), (3, .if_icmp .gt 7, 434, 0, 0, 0, kZ), (1, .iconst 1, 0, 0, 0, 0, kZ), (3, .goto 4, 435, 0, 0, 0, kZ)]
set_option maxRecDepth 100000 in
theorem ooL_holds_392 : okL mL_holds 392 bbL_holds_392 := okL_of _ _ (by decide +kernel) ⟨trivial, ⟨rfl, ⟨trivial, ⟨⟨mok_m9_wouldBeRight, ⟨by decide, by decide⟩, rfl, by decide, Or.inl lc_L_132⟩, ⟨trivial, ⟨⟨mok_m9_wouldReceive, ⟨by decide, by decide⟩, rfl, by decide, Or.inl lc_L_135⟩, ⟨rfl, ⟨trivial, ⟨⟨mok_m9_codedShare, ⟨by decide, by decide⟩, rfl, by decide, Or.inl lc_L_138⟩, ⟨(show (0 : Nat) < 2 by decide), ⟨trivial, ⟨rfl, ⟨trivial, ⟨⟨mok_m9_markers, ⟨by decide, by decide⟩, rfl, by decide, Or.inl lc_L_142⟩, ⟨trivial, ⟨⟨mok_m9_streamLength, ⟨by decide, by decide⟩, rfl, by decide, Or.inl lc_L_24⟩, ⟨trivial, ⟨trivial, ⟨rfl, ⟨trivial, ⟨rfl, trivial⟩⟩⟩⟩⟩⟩⟩⟩⟩⟩⟩⟩⟩⟩⟩⟩⟩⟩⟩⟩⟩
def bbL_holds_434 : List PI := [(1, .iconst 0, 0, 0, 0, 0, kZ)]
set_option maxRecDepth 100000 in
theorem ooL_holds_434 : okL mL_holds 434 bbL_holds_434 := okL_of _ _ (by decide +kernel) ⟨trivial, trivial⟩
def bbL_holds_435 : List PI := [(1, .ireturn, 0, 0, 0, 0, kZ)]
set_option maxRecDepth 100000 in
theorem ooL_holds_435 : okL mL_holds 435 bbL_holds_435 := okL_of _ _ (by decide +kernel) ⟨trivial, trivial⟩
def cdL_holds (t : Nat) : Option (List PI) := match t with
  | 0 => some bbL_holds_0
  | 95 => some bbL_holds_95
  | 112 => some bbL_holds_112
  | 124 => some bbL_holds_124
  | 126 => some bbL_holds_126
  | 132 => some bbL_holds_132
  | 163 => some bbL_holds_163
  | 164 => some bbL_holds_164
  | 187 => some bbL_holds_187
  | 188 => some bbL_holds_188
  | 193 => some bbL_holds_193
  | 199 => some bbL_holds_199
  | 243 => some bbL_holds_243
  | 245 => some bbL_holds_245
  | 251 => some bbL_holds_251
  | 277 => some bbL_holds_277
  | 278 => some bbL_holds_278
  | 286 => some bbL_holds_286
  | 342 => some bbL_holds_342
  | 343 => some bbL_holds_343
  | 383 => some bbL_holds_383
  | 384 => some bbL_holds_384
  | 392 => some bbL_holds_392
  | 434 => some bbL_holds_434
  | 435 => some bbL_holds_435
  | _ => none
theorem kdL_holds : ∀ t is, cdL_holds t = some is → okL mL_holds t is := by
  intro t is h
  unfold cdL_holds at h
  split at h <;> cases h
  · exact ooL_holds_0
  · exact ooL_holds_95
  · exact ooL_holds_112
  · exact ooL_holds_124
  · exact ooL_holds_126
  · exact ooL_holds_132
  · exact ooL_holds_163
  · exact ooL_holds_164
  · exact ooL_holds_187
  · exact ooL_holds_188
  · exact ooL_holds_193
  · exact ooL_holds_199
  · exact ooL_holds_243
  · exact ooL_holds_245
  · exact ooL_holds_251
  · exact ooL_holds_277
  · exact ooL_holds_278
  · exact ooL_holds_286
  · exact ooL_holds_342
  · exact ooL_holds_343
  · exact ooL_holds_383
  · exact ooL_holds_384
  · exact ooL_holds_392
  · exact ooL_holds_434
  · exact ooL_holds_435
theorem ffL_holds : mi_r mL_holds = (some .boolean) ∧ mi_l mL_holds = 7 ∧ mi_h mL_holds = [] ∧ (mi_rm mL_holds).cells = 2000 ∧ (mi_rm mL_holds).slots = 12000 ∧ (mi_rm mL_holds).locals = 201 ∧ cdL_holds 0 = some bbL_holds_0 ∧ cdL_holds 6 = none ∧ cdL_holds 34 = none ∧ cdL_holds 95 = some bbL_holds_95 ∧ cdL_holds 112 = some bbL_holds_112 ∧ cdL_holds 124 = some bbL_holds_124 ∧ cdL_holds 126 = some bbL_holds_126 ∧ cdL_holds 132 = some bbL_holds_132 ∧ cdL_holds 135 = none ∧ cdL_holds 163 = some bbL_holds_163 ∧ cdL_holds 164 = some bbL_holds_164 ∧ cdL_holds 176 = none ∧ cdL_holds 187 = some bbL_holds_187 ∧ cdL_holds 188 = some bbL_holds_188 ∧ cdL_holds 193 = some bbL_holds_193 ∧ cdL_holds 199 = some bbL_holds_199 ∧ cdL_holds 243 = some bbL_holds_243 ∧ cdL_holds 245 = some bbL_holds_245 ∧ cdL_holds 251 = some bbL_holds_251 ∧ cdL_holds 256 = none ∧ cdL_holds 277 = some bbL_holds_277 ∧ cdL_holds 278 = some bbL_holds_278 ∧ cdL_holds 286 = some bbL_holds_286 ∧ cdL_holds 342 = some bbL_holds_342 ∧ cdL_holds 343 = some bbL_holds_343 ∧ cdL_holds 348 = none ∧ cdL_holds 383 = some bbL_holds_383 ∧ cdL_holds 384 = some bbL_holds_384 ∧ cdL_holds 392 = some bbL_holds_392 ∧ cdL_holds 434 = some bbL_holds_434 ∧ cdL_holds 435 = some bbL_holds_435 ∧ (mi_rm m9_blackPixels).cells = 0 ∧ (mi_rm m9_blackPixels).slots = 0 ∧ (mi_rm m9_checkOf).cells = 2 ∧ (mi_rm m9_checkOf).slots = 12 ∧ (mi_rm m9_codeLength).cells = 2 ∧ (mi_rm m9_codeLength).slots = 12 ∧ (mi_rm m9_codeLengthByCounting).cells = 2 ∧ (mi_rm m9_codeLengthByCounting).slots = 12 ∧ (mi_rm m9_codedShare).cells = 0 ∧ (mi_rm m9_codedShare).slots = 0 ∧ (mi_rm m9_errorPlace).cells = 1 ∧ (mi_rm m9_errorPlace).slots = 6 ∧ (mi_rm m9_errors).cells = 0 ∧ (mi_rm m9_errors).slots = 0 ∧ (mi_rm m9_isBlack).cells = 1 ∧ (mi_rm m9_isBlack).slots = 6 ∧ (mi_rm m9_isReceived).cells = 1 ∧ (mi_rm m9_isReceived).slots = 6 ∧ (mi_rm m9_lines).cells = 0 ∧ (mi_rm m9_lines).slots = 0 ∧ (mi_rm m9_longestRun).cells = 1 ∧ (mi_rm m9_longestRun).slots = 6 ∧ (mi_rm m9_markers).cells = 0 ∧ (mi_rm m9_markers).slots = 0 ∧ (mi_rm m9_modeOf).cells = 1 ∧ (mi_rm m9_modeOf).slots = 6 ∧ (mi_rm m9_pixelsOf).cells = 1 ∧ (mi_rm m9_pixelsOf).slots = 6 ∧ (mi_rm m9_received).cells = 0 ∧ (mi_rm m9_received).slots = 0 ∧ (mi_rm m9_right).cells = 0 ∧ (mi_rm m9_right).slots = 0 ∧ (mi_rm m9_runsOf).cells = 1 ∧ (mi_rm m9_runsOf).slots = 6 ∧ (mi_rm m9_streamLength).cells = 0 ∧ (mi_rm m9_streamLength).slots = 0 ∧ (mi_rm m9_style).cells = 0 ∧ (mi_rm m9_style).slots = 0 ∧ (mi_rm m9_width).cells = 0 ∧ (mi_rm m9_width).slots = 0 ∧ (mi_rm m9_wouldBeRight).cells = 0 ∧ (mi_rm m9_wouldBeRight).slots = 0 ∧ (mi_rm m9_wouldReceive).cells = 0 ∧ (mi_rm m9_wouldReceive).slots = 0 ∧ (mi_rm m9_wouldSend).cells = 0 ∧ (mi_rm m9_wouldSend).slots = 0 := ⟨rfl, rfl, rfl, rfl, rfl, rfl, rfl, rfl, rfl, rfl, rfl, rfl, rfl, rfl, rfl, rfl, rfl, rfl, rfl, rfl, rfl, rfl, rfl, rfl, rfl, rfl, rfl, rfl, rfl, rfl, rfl, rfl, rfl, rfl, rfl, rfl, rfl, rfl, rfl, rfl, rfl, rfl, rfl, rfl, rfl, rfl, rfl, rfl, rfl, rfl, rfl, rfl, rfl, rfl, rfl, rfl, rfl, rfl, rfl, rfl, rfl, rfl, rfl, rfl, rfl, rfl, rfl, rfl, rfl, rfl, rfl, rfl, rfl, rfl, rfl, rfl, rfl, rfl, rfl, rfl, rfl, rfl, rfl⟩
theorem okt_mL_isBack (pc : Nat) : okT mL_isBack pc := fun y hy => by cases hy
def bbL_isBack_0 : List PI := [(1, .aload_n 0, 0, 0, 0, 0, kZ), (3, .invokestatic 145, 1, 0, 1, 0, mL_told), (1, .lstore_n 1, 0, 0, 0, 0, kZ), (1, .aload_n 0, 0, 0, 0, 0, kZ), (3, .invokevirtual 86, 0, 9, 0, 0, m9_send), (1, .pop, 0, 0, 0, 0, kZ), (1, .aload_n 0, 0, 0, 0, 0, kZ), (3, .invokevirtual 98, 0, 9, 0, 0, m9_receive), (1, .aload_n 0, 0, 0, 0, 0, kZ), (3, .invokevirtual 18, 0, 9, 0, 0, m9_lines), (3, .if_icmp .ne 36, 54, 0, 0, 0, kZ), (1, .aload_n 0, 0, 0, 0, 0, kZ), (3, .invokevirtual 129, 0, 9, 0, 0, m9_right), (1, .aload_n 0, 0, 0, 0, 0, kZ), (3, .invokevirtual 18, 0, 9, 0, 0, m9_lines), (3, .if_icmp .ne 25, 54, 0, 0, 0, kZ), (1, .aload_n 0, 0, 0, 0, 0, kZ), (3, .invokevirtual 30, 0, 9, 0, 0, m9_errors), (3, .ifCond .ne 18, 54, 0, 0, 0, kZ), (1, .aload_n 0, 0, 0, 0, 0, kZ), (3, .invokevirtual 142, 0, 9, 0, 0, m9_markers), (1, .aload_n 0, 0, 0, 0, 0, kZ), (3, .invokevirtual 18, 0, 9, 0, 0, m9_lines), (3, .if_icmp .ne 7, 54, 0, 0, 0, kZ), (1, .iconst 1, 0, 0, 0, 0, kZ), (3, .goto 4, 55, 0, 0, 0, kZ)]
set_option maxRecDepth 100000 in
theorem ooL_isBack_0 : okL mL_isBack 0 bbL_isBack_0 := okL_of _ _ (by decide +kernel) ⟨trivial, ⟨⟨mok_mL_told, ⟨by decide, by decide⟩, rfl, lc_L_145, okt_mL_isBack _⟩, ⟨trivial, ⟨trivial, ⟨⟨mok_m9_send, ⟨by decide, by decide⟩, rfl, by decide, Or.inl lc_L_86⟩, ⟨trivial, ⟨trivial, ⟨⟨mok_m9_receive, ⟨by decide, by decide⟩, rfl, by decide, Or.inl lc_L_98⟩, ⟨trivial, ⟨⟨mok_m9_lines, ⟨by decide, by decide⟩, rfl, by decide, Or.inl lc_L_18⟩, ⟨rfl, ⟨trivial, ⟨⟨mok_m9_right, ⟨by decide, by decide⟩, rfl, by decide, Or.inl lc_L_129⟩, ⟨trivial, ⟨⟨mok_m9_lines, ⟨by decide, by decide⟩, rfl, by decide, Or.inl lc_L_18⟩, ⟨rfl, ⟨trivial, ⟨⟨mok_m9_errors, ⟨by decide, by decide⟩, rfl, by decide, Or.inl lc_L_30⟩, ⟨rfl, ⟨trivial, ⟨⟨mok_m9_markers, ⟨by decide, by decide⟩, rfl, by decide, Or.inl lc_L_142⟩, ⟨trivial, ⟨⟨mok_m9_lines, ⟨by decide, by decide⟩, rfl, by decide, Or.inl lc_L_18⟩, ⟨rfl, ⟨trivial, ⟨rfl, trivial⟩⟩⟩⟩⟩⟩⟩⟩⟩⟩⟩⟩⟩⟩⟩⟩⟩⟩⟩⟩⟩⟩⟩⟩⟩⟩
def bbL_isBack_54 : List PI := [(1, .iconst 0, 0, 0, 0, 0, kZ)]
set_option maxRecDepth 100000 in
theorem ooL_isBack_54 : okL mL_isBack 54 bbL_isBack_54 := okL_of _ _ (by decide +kernel) ⟨trivial, trivial⟩
def bbL_isBack_55 : List PI := [(1, .istore_n 3, 0, 0, 0, 0, kZ), (1, .iconst 0, 0, 0, 0, 0, kZ), (2, .istore 4, 0, 0, 0, 0, kZ)]
set_option maxRecDepth 100000 in
theorem ooL_isBack_55 : okL mL_isBack 55 bbL_isBack_55 := okL_of _ _ (by decide +kernel) ⟨trivial, ⟨trivial, ⟨trivial, trivial⟩⟩⟩
def bbL_isBack_59 : List PI := [(2, .iload 4, 0, 0, 0, 0, kZ), (1, .aload_n 0, 0, 0, 0, 0, kZ), (3, .invokevirtual 18, 0, 9, 0, 0, m9_lines), (3, .if_icmp .ge 35, 100, 0, 0, 0, kZ), (1, .iload_n 3, 0, 0, 0, 0, kZ), (3, .ifCond .eq 23, 92, 0, 0, 0, kZ), (1, .aload_n 0, 0, 0, 0, 0, kZ), (2, .iload 4, 0, 0, 0, 0, kZ), (3, .invokevirtual 45, 1, 9, 1, 0, m9_receivedPixels), (1, .aload_n 0, 0, 0, 0, 0, kZ), (2, .iload 4, 0, 0, 0, 0, kZ), (3, .invokevirtual 33, 1, 9, 1, 0, m9_pixelsOf), (1, .lcmp, 0, 0, 0, 0, kZ), (3, .ifCond .ne 7, 92, 0, 0, 0, kZ), (1, .iconst 1, 0, 0, 0, 0, kZ), (3, .goto 4, 93, 0, 0, 0, kZ)]
set_option maxRecDepth 100000 in
theorem ooL_isBack_59 : okL mL_isBack 59 bbL_isBack_59 := okL_of _ _ (by decide +kernel) ⟨trivial, ⟨trivial, ⟨⟨mok_m9_lines, ⟨by decide, by decide⟩, rfl, by decide, Or.inl lc_L_18⟩, ⟨rfl, ⟨trivial, ⟨rfl, ⟨trivial, ⟨trivial, ⟨⟨mok_m9_receivedPixels, ⟨by decide, by decide⟩, rfl, by decide, lc_L_45, okt_mL_isBack _⟩, ⟨trivial, ⟨trivial, ⟨⟨mok_m9_pixelsOf, ⟨by decide, by decide⟩, rfl, by decide, lc_L_33, okt_mL_isBack _⟩, ⟨trivial, ⟨rfl, ⟨trivial, ⟨rfl, trivial⟩⟩⟩⟩⟩⟩⟩⟩⟩⟩⟩⟩⟩⟩⟩⟩
def bbL_isBack_92 : List PI := [(1, .iconst 0, 0, 0, 0, 0, kZ)]
set_option maxRecDepth 100000 in
theorem ooL_isBack_92 : okL mL_isBack 92 bbL_isBack_92 := okL_of _ _ (by decide +kernel) ⟨trivial, trivial⟩
def bbL_isBack_93 : List PI := [(1, .istore_n 3, 0, 0, 0, 0, kZ), (3, .iinc 4 1, 0, 0, 0, 0, kZ), (3, .goto (-38), 59, 0, 0, 0, kZ)]
set_option maxRecDepth 100000 in
theorem ooL_isBack_93 : okL mL_isBack 93 bbL_isBack_93 := okL_of _ _ (by decide +kernel) ⟨trivial, ⟨trivial, ⟨rfl, trivial⟩⟩⟩
def bbL_isBack_100 : List PI := [(1, .aload_n 0, 0, 0, 0, 0, kZ), (3, .invokevirtual 149, 0, 9, 1, 0, m9_undo), (1, .pop, 0, 0, 0, 0, kZ), (1, .aload_n 0, 0, 0, 0, 0, kZ), (3, .invokevirtual 149, 0, 9, 1, 0, m9_undo), (1, .pop, 0, 0, 0, 0, kZ), (1, .iload_n 3, 0, 0, 0, 0, kZ), (3, .ifCond .eq 16, 127, 0, 0, 0, kZ), (1, .aload_n 0, 0, 0, 0, 0, kZ), (3, .invokestatic 145, 1, 0, 1, 0, mL_told), (1, .lload_n 1, 0, 0, 0, 0, kZ), (1, .lcmp, 0, 0, 0, 0, kZ), (3, .ifCond .ne 7, 127, 0, 0, 0, kZ), (1, .iconst 1, 0, 0, 0, 0, kZ), (3, .goto 4, 128, 0, 0, 0, kZ)]
set_option maxRecDepth 100000 in
theorem ooL_isBack_100 : okL mL_isBack 100 bbL_isBack_100 := okL_of _ _ (by decide +kernel) ⟨trivial, ⟨⟨mok_m9_undo, ⟨by decide, by decide⟩, rfl, by decide, lc_L_149, okt_mL_isBack _⟩, ⟨trivial, ⟨trivial, ⟨⟨mok_m9_undo, ⟨by decide, by decide⟩, rfl, by decide, lc_L_149, okt_mL_isBack _⟩, ⟨trivial, ⟨trivial, ⟨rfl, ⟨trivial, ⟨⟨mok_mL_told, ⟨by decide, by decide⟩, rfl, lc_L_145, okt_mL_isBack _⟩, ⟨trivial, ⟨trivial, ⟨rfl, ⟨trivial, ⟨rfl, trivial⟩⟩⟩⟩⟩⟩⟩⟩⟩⟩⟩⟩⟩⟩⟩
def bbL_isBack_127 : List PI := [(1, .iconst 0, 0, 0, 0, 0, kZ)]
set_option maxRecDepth 100000 in
theorem ooL_isBack_127 : okL mL_isBack 127 bbL_isBack_127 := okL_of _ _ (by decide +kernel) ⟨trivial, trivial⟩
def bbL_isBack_128 : List PI := [(1, .ireturn, 0, 0, 0, 0, kZ)]
set_option maxRecDepth 100000 in
theorem ooL_isBack_128 : okL mL_isBack 128 bbL_isBack_128 := okL_of _ _ (by decide +kernel) ⟨trivial, trivial⟩
def cdL_isBack (t : Nat) : Option (List PI) := match t with
  | 0 => some bbL_isBack_0
  | 54 => some bbL_isBack_54
  | 55 => some bbL_isBack_55
  | 92 => some bbL_isBack_92
  | 93 => some bbL_isBack_93
  | 100 => some bbL_isBack_100
  | 127 => some bbL_isBack_127
  | 128 => some bbL_isBack_128
  | _ => none
theorem kdL_isBack : ∀ t is, cdL_isBack t = some is → okL mL_isBack t is := by
  intro t is h
  unfold cdL_isBack at h
  split at h <;> cases h
  · exact ooL_isBack_0
  · exact ooL_isBack_54
  · exact ooL_isBack_55
  · exact ooL_isBack_92
  · exact ooL_isBack_93
  · exact ooL_isBack_100
  · exact ooL_isBack_127
  · exact ooL_isBack_128
theorem ffL_isBack : mi_r mL_isBack = (some .boolean) ∧ mi_l mL_isBack = 5 ∧ mi_h mL_isBack = [] ∧ (mi_rm mL_isBack).cells = 1600 ∧ (mi_rm mL_isBack).slots = 9600 ∧ (mi_rm mL_isBack).locals = 201 ∧ cdL_isBack 0 = some bbL_isBack_0 ∧ cdL_isBack 54 = some bbL_isBack_54 ∧ cdL_isBack 55 = some bbL_isBack_55 ∧ cdL_isBack 59 = none ∧ cdL_isBack 92 = some bbL_isBack_92 ∧ cdL_isBack 93 = some bbL_isBack_93 ∧ cdL_isBack 100 = some bbL_isBack_100 ∧ cdL_isBack 127 = some bbL_isBack_127 ∧ cdL_isBack 128 = some bbL_isBack_128 ∧ (mi_rm m9_errors).cells = 0 ∧ (mi_rm m9_errors).slots = 0 ∧ (mi_rm m9_lines).cells = 0 ∧ (mi_rm m9_lines).slots = 0 ∧ (mi_rm m9_markers).cells = 0 ∧ (mi_rm m9_markers).slots = 0 ∧ (mi_rm m9_pixelsOf).cells = 1 ∧ (mi_rm m9_pixelsOf).slots = 6 ∧ (mi_rm m9_receive).cells = 0 ∧ (mi_rm m9_receive).slots = 0 ∧ (mi_rm m9_receivedPixels).cells = 2 ∧ (mi_rm m9_receivedPixels).slots = 12 ∧ (mi_rm m9_right).cells = 0 ∧ (mi_rm m9_right).slots = 0 ∧ (mi_rm m9_send).cells = 0 ∧ (mi_rm m9_send).slots = 0 ∧ (mi_rm m9_undo).cells = 1 ∧ (mi_rm m9_undo).slots = 6 ∧ (mi_rm mL_told).cells = 700 ∧ (mi_rm mL_told).slots = 4200 := ⟨rfl, rfl, rfl, rfl, rfl, rfl, rfl, rfl, rfl, rfl, rfl, rfl, rfl, rfl, rfl, rfl, rfl, rfl, rfl, rfl, rfl, rfl, rfl, rfl, rfl, rfl, rfl, rfl, rfl, rfl, rfl, rfl, rfl, rfl, rfl⟩

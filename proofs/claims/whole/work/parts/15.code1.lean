def bb9_play_0 : List PI := [(1, .aload_n 0, 0, 0, 0, 0, kZ), (3, .getfield 33, 9, 4, 0, 0, kZ), (3, .invokevirtual 192, 0, 3, 0, 0, m3_isComplete), (3, .ifCond .ne 13, 20, 0, 0, 0, kZ), (10, .athrow, 58, 195, 62, 0, (kX eIA "the buffer is no page as a text"))]
set_option maxRecDepth 100000 in
theorem oo9_play_0 : okL m9_play 0 bb9_play_0 := okL_of _ _ (by decide +kernel) ⟨trivial, ⟨lf_9_33, ⟨⟨mok_m3_isComplete, ⟨by decide, by decide⟩, rfl, by decide, Or.inr lc_9_192⟩, ⟨rfl, ⟨⟨by decide, rfl, at_9_195, by decide +kernel, by decide +kernel, Or.inl ⟨by decide +kernel, by decide +kernel, by decide +kernel⟩⟩, trivial⟩⟩⟩⟩⟩
def bb9_play_20 : List PI := [(1, .aload_n 0, 0, 0, 0, 0, kZ), (3, .getfield 26, 9, 3, 0, 0, kZ), (1, .aload_n 0, 0, 0, 0, 0, kZ), (3, .getfield 12, 9, 0, 0, 0, kZ), (3, .invokevirtual 65, 1, 1, 0, 0, m1_push), (1, .iconst 0, 0, 0, 0, 0, kZ), (1, .istore_n 1, 0, 0, 0, 0, kZ), (1, .iconst 0, 0, 0, 0, 0, kZ), (1, .istore_n 2, 0, 0, 0, 0, kZ), (1, .aload_n 0, 0, 0, 0, 0, kZ), (3, .getfield 33, 9, 4, 0, 0, kZ), (3, .getfield 197, 3, 2, 0, 0, kZ), (1, .astore_n 3, 0, 0, 0, 0, kZ), (1, .aload_n 3, 0, 0, 0, 0, kZ), (3, .invokevirtual 201, 0, 4, 0, 0, m4_restart), (1, .iconst 0, 0, 0, 0, 0, kZ), (2, .istore 4, 0, 0, 0, 0, kZ)]
set_option maxRecDepth 100000 in
theorem oo9_play_20 : okL m9_play 20 bb9_play_20 := okL_of _ _ (by decide +kernel) ⟨trivial, ⟨lf_9_26, ⟨trivial, ⟨lf_9_12, ⟨⟨mok_m1_push, ⟨by decide, by decide⟩, rfl, by decide, Or.inr lc_9_65⟩, ⟨trivial, ⟨trivial, ⟨trivial, ⟨trivial, ⟨trivial, ⟨lf_9_33, ⟨lf_9_197, ⟨trivial, ⟨trivial, ⟨⟨mok_m4_restart, ⟨by decide, by decide⟩, rfl, by decide, Or.inr lc_9_201⟩, ⟨trivial, ⟨trivial, trivial⟩⟩⟩⟩⟩⟩⟩⟩⟩⟩⟩⟩⟩⟩⟩⟩⟩
def bb9_play_50 : List PI := [(2, .iload 4, 0, 0, 0, 0, kZ), (1, .aload_n 0, 0, 0, 0, 0, kZ), (3, .getfield 33, 9, 4, 0, 0, kZ), (3, .getfield 187, 3, 1, 0, 0, kZ), (3, .if_icmp .ge 65, 124, 0, 0, 0, kZ), (1, .iload_n 2, 0, 0, 0, 0, kZ), (3, .ifCond .ne 61, 124, 0, 0, 0, kZ), (1, .aload_n 3, 0, 0, 0, 0, kZ), (1, .aload_n 0, 0, 0, 0, 0, kZ), (3, .getfield 33, 9, 4, 0, 0, kZ), (2, .iload 4, 0, 0, 0, 0, kZ), (3, .invokevirtual 206, 1, 3, 0, 0, m3_codeAt), (3, .invokevirtual 209, 1, 4, 0, 0, m4_accept), (1, .pop, 0, 0, 0, 0, kZ), (1, .aload_n 0, 0, 0, 0, 0, kZ), (3, .getfield 33, 9, 4, 0, 0, kZ), (2, .iload 4, 0, 0, 0, 0, kZ), (3, .invokevirtual 213, 1, 3, 0, 0, m3_endsPart), (3, .ifCond .eq 29, 118, 0, 0, 0, kZ), (1, .aload_n 0, 0, 0, 0, 0, kZ), (1, .aload_n 3, 0, 0, 0, 0, kZ), (3, .invokevirtual 216, 1, 9, 0, 0, m9_perform), (3, .ifCond .ne 7, 104, 0, 0, 0, kZ), (1, .iconst 1, 0, 0, 0, 0, kZ), (3, .goto 4, 105, 0, 0, 0, kZ)]
set_option maxRecDepth 100000 in
theorem oo9_play_50 : okL m9_play 50 bb9_play_50 := okL_of _ _ (by decide +kernel) ⟨trivial, ⟨trivial, ⟨lf_9_33, ⟨lf_9_187, ⟨rfl, ⟨trivial, ⟨rfl, ⟨trivial, ⟨trivial, ⟨lf_9_33, ⟨trivial, ⟨⟨mok_m3_codeAt, ⟨by decide, by decide⟩, rfl, by decide, Or.inr lc_9_206⟩, ⟨⟨mok_m4_accept, ⟨by decide, by decide⟩, rfl, by decide, Or.inr lc_9_209⟩, ⟨trivial, ⟨trivial, ⟨lf_9_33, ⟨trivial, ⟨⟨mok_m3_endsPart, ⟨by decide, by decide⟩, rfl, by decide, Or.inr lc_9_213⟩, ⟨rfl, ⟨trivial, ⟨trivial, ⟨⟨mok_m9_perform, ⟨by decide, by decide⟩, rfl, by decide, Or.inl lc_9_216⟩, ⟨rfl, ⟨trivial, ⟨rfl, trivial⟩⟩⟩⟩⟩⟩⟩⟩⟩⟩⟩⟩⟩⟩⟩⟩⟩⟩⟩⟩⟩⟩⟩⟩⟩
def bb9_play_104 : List PI := [(1, .iconst 0, 0, 0, 0, 0, kZ)]
set_option maxRecDepth 100000 in
theorem oo9_play_104 : okL m9_play 104 bb9_play_104 := okL_of _ _ (by decide +kernel) ⟨trivial, trivial⟩
def bb9_play_105 : List PI := [(1, .istore_n 2, 0, 0, 0, 0, kZ), (1, .iload_n 1, 0, 0, 0, 0, kZ), (1, .iload_n 2, 0, 0, 0, 0, kZ), (3, .ifCond .eq 7, 115, 0, 0, 0, kZ), (1, .iconst 0, 0, 0, 0, 0, kZ), (3, .goto 4, 116, 0, 0, 0, kZ)]
set_option maxRecDepth 100000 in
theorem oo9_play_105 : okL m9_play 105 bb9_play_105 := okL_of _ _ (by decide +kernel) ⟨trivial, ⟨trivial, ⟨trivial, ⟨rfl, ⟨trivial, ⟨rfl, trivial⟩⟩⟩⟩⟩⟩
def bb9_play_115 : List PI := [(1, .iconst 1, 0, 0, 0, 0, kZ)]
set_option maxRecDepth 100000 in
theorem oo9_play_115 : okL m9_play 115 bb9_play_115 := okL_of _ _ (by decide +kernel) ⟨trivial, trivial⟩
def bb9_play_116 : List PI := [(1, .iadd, 0, 0, 0, 0, kZ), (1, .istore_n 1, 0, 0, 0, 0, kZ)]
set_option maxRecDepth 100000 in
theorem oo9_play_116 : okL m9_play 116 bb9_play_116 := okL_of _ _ (by decide +kernel) ⟨trivial, ⟨trivial, trivial⟩⟩
def bb9_play_118 : List PI := [(3, .iinc 4 1, 0, 0, 0, 0, kZ), (3, .goto (-71), 50, 0, 0, 0, kZ)]
set_option maxRecDepth 100000 in
theorem oo9_play_118 : okL m9_play 118 bb9_play_118 := okL_of _ _ (by decide +kernel) ⟨trivial, ⟨rfl, trivial⟩⟩
def bb9_play_124 : List PI := [(1, .aload_n 0, 0, 0, 0, 0, kZ), (3, .getfield 33, 9, 4, 0, 0, kZ), (3, .invokevirtual 188, 0, 3, 0, 0, m3_empty), (1, .aload_n 0, 0, 0, 0, 0, kZ), (3, .getfield 12, 9, 0, 0, 0, kZ), (1, .iload_n 2, 0, 0, 0, 0, kZ), (3, .putfield 220, 7, 3, 0, 0, kZ), (1, .aload_n 0, 0, 0, 0, 0, kZ), (3, .getfield 12, 9, 0, 0, 0, kZ), (1, .iload_n 2, 0, 0, 0, 0, kZ), (3, .ifCond .eq 7, 151, 0, 0, 0, kZ), (1, .iload_n 1, 0, 0, 0, 0, kZ), (3, .goto 4, 152, 0, 0, 0, kZ)]
set_option maxRecDepth 100000 in
theorem oo9_play_124 : okL m9_play 124 bb9_play_124 := okL_of _ _ (by decide +kernel) ⟨trivial, ⟨lf_9_33, ⟨⟨mok_m3_empty, ⟨by decide, by decide⟩, rfl, by decide, Or.inr lc_9_188⟩, ⟨trivial, ⟨lf_9_12, ⟨trivial, ⟨lp_9_220 _, ⟨trivial, ⟨lf_9_12, ⟨trivial, ⟨rfl, ⟨trivial, ⟨rfl, trivial⟩⟩⟩⟩⟩⟩⟩⟩⟩⟩⟩⟩⟩
def bb9_play_151 : List PI := [(1, .iconst 0, 0, 0, 0, 0, kZ)]
set_option maxRecDepth 100000 in
theorem oo9_play_151 : okL m9_play 151 bb9_play_151 := okL_of _ _ (by decide +kernel) ⟨trivial, trivial⟩
def bb9_play_152 : List PI := [(3, .putfield 223, 7, 4, 0, 0, kZ), (1, .iload_n 1, 0, 0, 0, 0, kZ), (1, .ireturn, 0, 0, 0, 0, kZ)]
set_option maxRecDepth 100000 in
theorem oo9_play_152 : okL m9_play 152 bb9_play_152 := okL_of _ _ (by decide +kernel) ⟨lp_9_223 _, ⟨trivial, ⟨trivial, trivial⟩⟩⟩
def cd9_play (t : Nat) : Option (List PI) := match t with
  | 0 => some bb9_play_0
  | 20 => some bb9_play_20
  | 104 => some bb9_play_104
  | 105 => some bb9_play_105
  | 115 => some bb9_play_115
  | 116 => some bb9_play_116
  | 118 => some bb9_play_118
  | 124 => some bb9_play_124
  | 151 => some bb9_play_151
  | 152 => some bb9_play_152
  | _ => none
theorem kd9_play : ∀ t is, cd9_play t = some is → okL m9_play t is := by
  intro t is h
  unfold cd9_play at h
  split at h <;> cases h
  · exact oo9_play_0
  · exact oo9_play_20
  · exact oo9_play_104
  · exact oo9_play_105
  · exact oo9_play_115
  · exact oo9_play_116
  · exact oo9_play_118
  · exact oo9_play_124
  · exact oo9_play_151
  · exact oo9_play_152
theorem ff9_play : mi_r m9_play = (some .int) ∧ mi_l m9_play = 5 ∧ mi_h m9_play = [] ∧ (mi_rm m9_play).cells = 1 ∧ (mi_rm m9_play).slots = 6 ∧ (mi_rm m9_play).locals = 202 ∧ cd9_play 0 = some bb9_play_0 ∧ cd9_play 20 = some bb9_play_20 ∧ cd9_play 50 = none ∧ cd9_play 104 = some bb9_play_104 ∧ cd9_play 105 = some bb9_play_105 ∧ cd9_play 115 = some bb9_play_115 ∧ cd9_play 116 = some bb9_play_116 ∧ cd9_play 118 = some bb9_play_118 ∧ cd9_play 124 = some bb9_play_124 ∧ cd9_play 151 = some bb9_play_151 ∧ cd9_play 152 = some bb9_play_152 ∧ (mi_rm m1_push).cells = 0 ∧ (mi_rm m1_push).slots = 0 ∧ (mi_rm m3_codeAt).cells = 0 ∧ (mi_rm m3_codeAt).slots = 0 ∧ (mi_rm m3_empty).cells = 0 ∧ (mi_rm m3_empty).slots = 0 ∧ (mi_rm m3_endsPart).cells = 0 ∧ (mi_rm m3_endsPart).slots = 0 ∧ (mi_rm m3_isComplete).cells = 0 ∧ (mi_rm m3_isComplete).slots = 0 ∧ (mi_rm m4_accept).cells = 0 ∧ (mi_rm m4_accept).slots = 0 ∧ (mi_rm m4_restart).cells = 0 ∧ (mi_rm m4_restart).slots = 0 ∧ (mi_rm m9_perform).cells = 0 ∧ (mi_rm m9_perform).slots = 0 := ⟨rfl, rfl, rfl, rfl, rfl, rfl, rfl, rfl, rfl, rfl, rfl, rfl, rfl, rfl, rfl, rfl, rfl, rfl, rfl, rfl, rfl, rfl, rfl, rfl, rfl, rfl, rfl, rfl, rfl, rfl, rfl, rfl, rfl⟩
def bb9_hasStopped_0 : List PI := [(1, .aload_n 0, 0, 0, 0, 0, kZ), (3, .getfield 12, 9, 0, 0, 0, kZ), (3, .getfield 220, 7, 3, 0, 0, kZ), (1, .ireturn, 0, 0, 0, 0, kZ)]
set_option maxRecDepth 100000 in
theorem oo9_hasStopped_0 : okL m9_hasStopped 0 bb9_hasStopped_0 := okL_of _ _ (by decide +kernel) ⟨trivial, ⟨lf_9_12, ⟨lf_9_220, ⟨trivial, trivial⟩⟩⟩⟩
def cd9_hasStopped (t : Nat) : Option (List PI) := match t with
  | 0 => some bb9_hasStopped_0
  | _ => none
theorem kd9_hasStopped : ∀ t is, cd9_hasStopped t = some is → okL m9_hasStopped t is := by
  intro t is h
  unfold cd9_hasStopped at h
  split at h <;> cases h
  · exact oo9_hasStopped_0
theorem ff9_hasStopped : mi_r m9_hasStopped = (some .boolean) ∧ mi_l m9_hasStopped = 1 ∧ mi_h m9_hasStopped = [] ∧ (mi_rm m9_hasStopped).cells = 0 ∧ (mi_rm m9_hasStopped).slots = 0 ∧ (mi_rm m9_hasStopped).locals = 32 ∧ cd9_hasStopped 0 = some bb9_hasStopped_0 := ⟨rfl, rfl, rfl, rfl, rfl, rfl, rfl⟩
def bb9_stoppedPart_0 : List PI := [(1, .aload_n 0, 0, 0, 0, 0, kZ), (3, .getfield 12, 9, 0, 0, 0, kZ), (3, .getfield 220, 7, 3, 0, 0, kZ), (3, .ifCond .ne 13, 20, 0, 0, 0, kZ), (10, .athrow, 104, 226, 108, 0, (kX eIS "the latest text did not stop"))]
set_option maxRecDepth 100000 in
theorem oo9_stoppedPart_0 : okL m9_stoppedPart 0 bb9_stoppedPart_0 := okL_of _ _ (by decide +kernel) ⟨trivial, ⟨lf_9_12, ⟨lf_9_220, ⟨rfl, ⟨⟨by decide, rfl, at_9_226, by decide +kernel, by decide +kernel, Or.inl ⟨by decide +kernel, by decide +kernel, by decide +kernel⟩⟩, trivial⟩⟩⟩⟩⟩
def bb9_stoppedPart_20 : List PI := [(1, .aload_n 0, 0, 0, 0, 0, kZ), (3, .getfield 12, 9, 0, 0, 0, kZ), (3, .getfield 223, 7, 4, 0, 0, kZ), (1, .ireturn, 0, 0, 0, 0, kZ)]
set_option maxRecDepth 100000 in
theorem oo9_stoppedPart_20 : okL m9_stoppedPart 20 bb9_stoppedPart_20 := okL_of _ _ (by decide +kernel) ⟨trivial, ⟨lf_9_12, ⟨lf_9_223, ⟨trivial, trivial⟩⟩⟩⟩
def cd9_stoppedPart (t : Nat) : Option (List PI) := match t with
  | 0 => some bb9_stoppedPart_0
  | 20 => some bb9_stoppedPart_20
  | _ => none
theorem kd9_stoppedPart : ∀ t is, cd9_stoppedPart t = some is → okL m9_stoppedPart t is := by
  intro t is h
  unfold cd9_stoppedPart at h
  split at h <;> cases h
  · exact oo9_stoppedPart_0
  · exact oo9_stoppedPart_20
theorem ff9_stoppedPart : mi_r m9_stoppedPart = (some .int) ∧ mi_l m9_stoppedPart = 1 ∧ mi_h m9_stoppedPart = [] ∧ (mi_rm m9_stoppedPart).cells = 1 ∧ (mi_rm m9_stoppedPart).slots = 6 ∧ (mi_rm m9_stoppedPart).locals = 84 ∧ cd9_stoppedPart 0 = some bb9_stoppedPart_0 ∧ cd9_stoppedPart 20 = some bb9_stoppedPart_20 := ⟨rfl, rfl, rfl, rfl, rfl, rfl, rfl, rfl⟩
def bb9_undo_0 : List PI := [(1, .aload_n 0, 0, 0, 0, 0, kZ), (3, .getfield 26, 9, 3, 0, 0, kZ), (3, .getfield 228, 1, 0, 0, 0, kZ), (3, .ifCond .ne 13, 20, 0, 0, 0, kZ), (10, .athrow, 104, 229, 108, 0, (kX eIS "no state is saved"))]
set_option maxRecDepth 100000 in
theorem oo9_undo_0 : okL m9_undo 0 bb9_undo_0 := okL_of _ _ (by decide +kernel) ⟨trivial, ⟨lf_9_26, ⟨lf_9_228, ⟨rfl, ⟨⟨by decide, rfl, at_9_229, by decide +kernel, by decide +kernel, Or.inl ⟨by decide +kernel, by decide +kernel, by decide +kernel⟩⟩, trivial⟩⟩⟩⟩⟩
def bb9_undo_20 : List PI := [(1, .aload_n 0, 0, 0, 0, 0, kZ), (3, .getfield 26, 9, 3, 0, 0, kZ), (1, .aload_n 0, 0, 0, 0, 0, kZ), (3, .getfield 12, 9, 0, 0, 0, kZ), (3, .invokevirtual 231, 1, 1, 0, 0, m1_popInto), (1, .aload_n 0, 0, 0, 0, 0, kZ), (3, .getfield 26, 9, 3, 0, 0, kZ), (3, .getfield 228, 1, 0, 0, 0, kZ), (1, .ireturn, 0, 0, 0, 0, kZ)]
set_option maxRecDepth 100000 in
theorem oo9_undo_20 : okL m9_undo 20 bb9_undo_20 := okL_of _ _ (by decide +kernel) ⟨trivial, ⟨lf_9_26, ⟨trivial, ⟨lf_9_12, ⟨⟨mok_m1_popInto, ⟨by decide, by decide⟩, rfl, by decide, Or.inr lc_9_231⟩, ⟨trivial, ⟨lf_9_26, ⟨lf_9_228, ⟨trivial, trivial⟩⟩⟩⟩⟩⟩⟩⟩⟩
def cd9_undo (t : Nat) : Option (List PI) := match t with
  | 0 => some bb9_undo_0
  | 20 => some bb9_undo_20
  | _ => none
theorem kd9_undo : ∀ t is, cd9_undo t = some is → okL m9_undo t is := by
  intro t is h
  unfold cd9_undo at h
  split at h <;> cases h
  · exact oo9_undo_0
  · exact oo9_undo_20
theorem ff9_undo : mi_r m9_undo = (some .int) ∧ mi_l m9_undo = 1 ∧ mi_h m9_undo = [] ∧ (mi_rm m9_undo).cells = 1 ∧ (mi_rm m9_undo).slots = 6 ∧ (mi_rm m9_undo).locals = 117 ∧ cd9_undo 0 = some bb9_undo_0 ∧ cd9_undo 20 = some bb9_undo_20 ∧ (mi_rm m1_popInto).cells = 0 ∧ (mi_rm m1_popInto).slots = 0 := ⟨rfl, rfl, rfl, rfl, rfl, rfl, rfl, rfl, rfl, rfl⟩
def bb9_keep_0 : List PI := [(1, .aload_n 0, 0, 0, 0, 0, kZ), (3, .getfield 16, 9, 1, 0, 0, kZ), (1, .aload_n 0, 0, 0, 0, 0, kZ), (3, .getfield 12, 9, 0, 0, 0, kZ), (3, .invokevirtual 234, 1, 7, 0, 0, m7_copyFrom), (1, .aload_n 0, 0, 0, 0, 0, kZ), (1, .iconst 1, 0, 0, 0, 0, kZ), (3, .putfield 19, 9, 2, 0, 0, kZ), (1, .aload_n 0, 0, 0, 0, 0, kZ), (3, .getfield 12, 9, 0, 0, 0, kZ), (3, .getfield 69, 7, 0, 0, 0, kZ), (3, .getfield 113, 2, 2, 0, 0, kZ), (1, .ireturn, 0, 0, 0, 0, kZ)]
set_option maxRecDepth 100000 in
theorem oo9_keep_0 : okL m9_keep 0 bb9_keep_0 := okL_of _ _ (by decide +kernel) ⟨trivial, ⟨lf_9_16, ⟨trivial, ⟨lf_9_12, ⟨⟨mok_m7_copyFrom, ⟨by decide, by decide⟩, rfl, by decide, Or.inr lc_9_234⟩, ⟨trivial, ⟨trivial, ⟨lp_9_19 _, ⟨trivial, ⟨lf_9_12, ⟨lf_9_69, ⟨lf_9_113, ⟨trivial, trivial⟩⟩⟩⟩⟩⟩⟩⟩⟩⟩⟩⟩⟩
def cd9_keep (t : Nat) : Option (List PI) := match t with
  | 0 => some bb9_keep_0
  | _ => none
theorem kd9_keep : ∀ t is, cd9_keep t = some is → okL m9_keep t is := by
  intro t is h
  unfold cd9_keep at h
  split at h <;> cases h
  · exact oo9_keep_0
theorem ff9_keep : mi_r m9_keep = (some .int) ∧ mi_l m9_keep = 1 ∧ mi_h m9_keep = [] ∧ (mi_rm m9_keep).cells = 0 ∧ (mi_rm m9_keep).slots = 0 ∧ (mi_rm m9_keep).locals = 95 ∧ cd9_keep 0 = some bb9_keep_0 ∧ (mi_rm m7_copyFrom).cells = 0 ∧ (mi_rm m7_copyFrom).slots = 0 := ⟨rfl, rfl, rfl, rfl, rfl, rfl, rfl, rfl, rfl⟩
def bb9_restore_0 : List PI := [(1, .aload_n 0, 0, 0, 0, 0, kZ), (3, .getfield 19, 9, 2, 0, 0, kZ), (3, .ifCond .ne 13, 17, 0, 0, 0, kZ), (10, .athrow, 104, 237, 108, 0, (kX eIS "there is no snapshot"))]
set_option maxRecDepth 100000 in
theorem oo9_restore_0 : okL m9_restore 0 bb9_restore_0 := okL_of _ _ (by decide +kernel) ⟨trivial, ⟨lf_9_19, ⟨rfl, ⟨⟨by decide, rfl, at_9_237, by decide +kernel, by decide +kernel, Or.inl ⟨by decide +kernel, by decide +kernel, by decide +kernel⟩⟩, trivial⟩⟩⟩⟩
def bb9_restore_17 : List PI := [(1, .aload_n 0, 0, 0, 0, 0, kZ), (3, .getfield 26, 9, 3, 0, 0, kZ), (1, .aload_n 0, 0, 0, 0, 0, kZ), (3, .getfield 12, 9, 0, 0, 0, kZ), (3, .invokevirtual 65, 1, 1, 0, 0, m1_push), (1, .aload_n 0, 0, 0, 0, 0, kZ), (3, .getfield 12, 9, 0, 0, 0, kZ), (1, .aload_n 0, 0, 0, 0, 0, kZ), (3, .getfield 16, 9, 1, 0, 0, kZ), (3, .invokevirtual 234, 1, 7, 0, 0, m7_copyFrom), (1, .aload_n 0, 0, 0, 0, 0, kZ), (3, .getfield 12, 9, 0, 0, 0, kZ), (3, .getfield 69, 7, 0, 0, 0, kZ), (3, .getfield 113, 2, 2, 0, 0, kZ), (1, .ireturn, 0, 0, 0, 0, kZ)]
set_option maxRecDepth 100000 in
theorem oo9_restore_17 : okL m9_restore 17 bb9_restore_17 := okL_of _ _ (by decide +kernel) ⟨trivial, ⟨lf_9_26, ⟨trivial, ⟨lf_9_12, ⟨⟨mok_m1_push, ⟨by decide, by decide⟩, rfl, by decide, Or.inr lc_9_65⟩, ⟨trivial, ⟨lf_9_12, ⟨trivial, ⟨lf_9_16, ⟨⟨mok_m7_copyFrom, ⟨by decide, by decide⟩, rfl, by decide, Or.inr lc_9_234⟩, ⟨trivial, ⟨lf_9_12, ⟨lf_9_69, ⟨lf_9_113, ⟨trivial, trivial⟩⟩⟩⟩⟩⟩⟩⟩⟩⟩⟩⟩⟩⟩⟩
def cd9_restore (t : Nat) : Option (List PI) := match t with
  | 0 => some bb9_restore_0
  | 17 => some bb9_restore_17
  | _ => none
theorem kd9_restore : ∀ t is, cd9_restore t = some is → okL m9_restore t is := by
  intro t is h
  unfold cd9_restore at h
  split at h <;> cases h
  · exact oo9_restore_0
  · exact oo9_restore_17
theorem ff9_restore : mi_r m9_restore = (some .int) ∧ mi_l m9_restore = 1 ∧ mi_h m9_restore = [] ∧ (mi_rm m9_restore).cells = 1 ∧ (mi_rm m9_restore).slots = 6 ∧ (mi_rm m9_restore).locals = 117 ∧ cd9_restore 0 = some bb9_restore_0 ∧ cd9_restore 17 = some bb9_restore_17 ∧ (mi_rm m1_push).cells = 0 ∧ (mi_rm m1_push).slots = 0 ∧ (mi_rm m7_copyFrom).cells = 0 ∧ (mi_rm m7_copyFrom).slots = 0 := ⟨rfl, rfl, rfl, rfl, rfl, rfl, rfl, rfl, rfl, rfl, rfl, rfl⟩
def bb9_savedStates_0 : List PI := [(1, .aload_n 0, 0, 0, 0, 0, kZ), (3, .getfield 26, 9, 3, 0, 0, kZ), (3, .getfield 228, 1, 0, 0, 0, kZ), (1, .ireturn, 0, 0, 0, 0, kZ)]
set_option maxRecDepth 100000 in
theorem oo9_savedStates_0 : okL m9_savedStates 0 bb9_savedStates_0 := okL_of _ _ (by decide +kernel) ⟨trivial, ⟨lf_9_26, ⟨lf_9_228, ⟨trivial, trivial⟩⟩⟩⟩
def cd9_savedStates (t : Nat) : Option (List PI) := match t with
  | 0 => some bb9_savedStates_0
  | _ => none
theorem kd9_savedStates : ∀ t is, cd9_savedStates t = some is → okL m9_savedStates t is := by
  intro t is h
  unfold cd9_savedStates at h
  split at h <;> cases h
  · exact oo9_savedStates_0
theorem ff9_savedStates : mi_r m9_savedStates = (some .int) ∧ mi_l m9_savedStates = 1 ∧ mi_h m9_savedStates = [] ∧ (mi_rm m9_savedStates).cells = 0 ∧ (mi_rm m9_savedStates).slots = 0 ∧ (mi_rm m9_savedStates).locals = 32 ∧ cd9_savedStates 0 = some bb9_savedStates_0 := ⟨rfl, rfl, rfl, rfl, rfl, rfl, rfl⟩
def bb9_width_0 : List PI := [(1, .aload_n 0, 0, 0, 0, 0, kZ), (3, .getfield 12, 9, 0, 0, 0, kZ), (3, .getfield 69, 7, 0, 0, 0, kZ), (3, .getfield 73, 2, 0, 0, 0, kZ), (1, .ireturn, 0, 0, 0, 0, kZ)]
set_option maxRecDepth 100000 in
theorem oo9_width_0 : okL m9_width 0 bb9_width_0 := okL_of _ _ (by decide +kernel) ⟨trivial, ⟨lf_9_12, ⟨lf_9_69, ⟨lf_9_73, ⟨trivial, trivial⟩⟩⟩⟩⟩
def cd9_width (t : Nat) : Option (List PI) := match t with
  | 0 => some bb9_width_0
  | _ => none
theorem kd9_width : ∀ t is, cd9_width t = some is → okL m9_width t is := by
  intro t is h
  unfold cd9_width at h
  split at h <;> cases h
  · exact oo9_width_0
theorem ff9_width : mi_r m9_width = (some .int) ∧ mi_l m9_width = 1 ∧ mi_h m9_width = [] ∧ (mi_rm m9_width).cells = 0 ∧ (mi_rm m9_width).slots = 0 ∧ (mi_rm m9_width).locals = 32 ∧ cd9_width 0 = some bb9_width_0 := ⟨rfl, rfl, rfl, rfl, rfl, rfl, rfl⟩
def bb9_lines_0 : List PI := [(1, .aload_n 0, 0, 0, 0, 0, kZ), (3, .getfield 12, 9, 0, 0, 0, kZ), (3, .getfield 69, 7, 0, 0, 0, kZ), (3, .getfield 113, 2, 2, 0, 0, kZ), (1, .ireturn, 0, 0, 0, 0, kZ)]
set_option maxRecDepth 100000 in
theorem oo9_lines_0 : okL m9_lines 0 bb9_lines_0 := okL_of _ _ (by decide +kernel) ⟨trivial, ⟨lf_9_12, ⟨lf_9_69, ⟨lf_9_113, ⟨trivial, trivial⟩⟩⟩⟩⟩
def cd9_lines (t : Nat) : Option (List PI) := match t with
  | 0 => some bb9_lines_0
  | _ => none
theorem kd9_lines : ∀ t is, cd9_lines t = some is → okL m9_lines t is := by
  intro t is h
  unfold cd9_lines at h
  split at h <;> cases h
  · exact oo9_lines_0
theorem ff9_lines : mi_r m9_lines = (some .int) ∧ mi_l m9_lines = 1 ∧ mi_h m9_lines = [] ∧ (mi_rm m9_lines).cells = 0 ∧ (mi_rm m9_lines).slots = 0 ∧ (mi_rm m9_lines).locals = 32 ∧ cd9_lines 0 = some bb9_lines_0 := ⟨rfl, rfl, rfl, rfl, rfl, rfl, rfl⟩
def bb9_style_0 : List PI := [(1, .aload_n 0, 0, 0, 0, 0, kZ), (3, .getfield 12, 9, 0, 0, 0, kZ), (3, .getfield 69, 7, 0, 0, 0, kZ), (3, .getfield 134, 2, 1, 0, 0, kZ), (1, .ireturn, 0, 0, 0, 0, kZ)]
set_option maxRecDepth 100000 in
theorem oo9_style_0 : okL m9_style 0 bb9_style_0 := okL_of _ _ (by decide +kernel) ⟨trivial, ⟨lf_9_12, ⟨lf_9_69, ⟨lf_9_134, ⟨trivial, trivial⟩⟩⟩⟩⟩
def cd9_style (t : Nat) : Option (List PI) := match t with
  | 0 => some bb9_style_0
  | _ => none
theorem kd9_style : ∀ t is, cd9_style t = some is → okL m9_style t is := by
  intro t is h
  unfold cd9_style at h
  split at h <;> cases h
  · exact oo9_style_0
theorem ff9_style : mi_r m9_style = (some .int) ∧ mi_l m9_style = 1 ∧ mi_h m9_style = [] ∧ (mi_rm m9_style).cells = 0 ∧ (mi_rm m9_style).slots = 0 ∧ (mi_rm m9_style).locals = 32 ∧ cd9_style 0 = some bb9_style_0 := ⟨rfl, rfl, rfl, rfl, rfl, rfl, rfl⟩
theorem okt_m9_pixelsOf (pc : Nat) : okT m9_pixelsOf pc := fun y hy => by cases hy
def bb9_pixelsOf_0 : List PI := [(1, .aload_n 0, 0, 0, 0, 0, kZ), (1, .iload_n 1, 0, 0, 0, 0, kZ), (3, .invokevirtual 116, 1, 9, 1, 0, m9_needLine), (1, .aload_n 0, 0, 0, 0, 0, kZ), (3, .getfield 12, 9, 0, 0, 0, kZ), (3, .getfield 69, 7, 0, 0, 0, kZ), (1, .iload_n 1, 0, 0, 0, 0, kZ), (3, .invokevirtual 119, 1, 2, 0, 0, m2_rowOf), (1, .lreturn, 0, 0, 0, 0, kZ)]
set_option maxRecDepth 100000 in
theorem oo9_pixelsOf_0 : okL m9_pixelsOf 0 bb9_pixelsOf_0 := okL_of _ _ (by decide +kernel) ⟨trivial, ⟨trivial, ⟨⟨mok_m9_needLine, ⟨by decide, by decide⟩, rfl, by decide, lc_9_116, okt_m9_pixelsOf _⟩, ⟨trivial, ⟨lf_9_12, ⟨lf_9_69, ⟨trivial, ⟨⟨mok_m2_rowOf, ⟨by decide, by decide⟩, rfl, by decide, Or.inr lc_9_119⟩, ⟨rfl, trivial⟩⟩⟩⟩⟩⟩⟩⟩⟩
def cd9_pixelsOf (t : Nat) : Option (List PI) := match t with
  | 0 => some bb9_pixelsOf_0
  | _ => none
theorem kd9_pixelsOf : ∀ t is, cd9_pixelsOf t = some is → okL m9_pixelsOf t is := by
  intro t is h
  unfold cd9_pixelsOf at h
  split at h <;> cases h
  · exact oo9_pixelsOf_0
theorem ff9_pixelsOf : mi_r m9_pixelsOf = (some .long) ∧ mi_l m9_pixelsOf = 2 ∧ mi_h m9_pixelsOf = [] ∧ (mi_rm m9_pixelsOf).cells = 1 ∧ (mi_rm m9_pixelsOf).slots = 6 ∧ (mi_rm m9_pixelsOf).locals = 105 ∧ cd9_pixelsOf 0 = some bb9_pixelsOf_0 ∧ (mi_rm m2_rowOf).cells = 0 ∧ (mi_rm m2_rowOf).slots = 0 ∧ (mi_rm m9_needLine).cells = 1 ∧ (mi_rm m9_needLine).slots = 6 := ⟨rfl, rfl, rfl, rfl, rfl, rfl, rfl, rfl, rfl, rfl, rfl⟩
def bb9_isBlack_0 : List PI := [(1, .aload_n 0, 0, 0, 0, 0, kZ), (3, .getfield 12, 9, 0, 0, 0, kZ), (3, .getfield 69, 7, 0, 0, 0, kZ), (1, .iload_n 1, 0, 0, 0, 0, kZ), (3, .invokevirtual 239, 1, 2, 0, 0, m2_has), (3, .ifCond .eq 21, 32, 0, 0, 0, kZ), (1, .iload_n 2, 0, 0, 0, 0, kZ), (3, .ifCond .lt 17, 32, 0, 0, 0, kZ), (1, .iload_n 2, 0, 0, 0, 0, kZ), (1, .aload_n 0, 0, 0, 0, 0, kZ), (3, .getfield 12, 9, 0, 0, 0, kZ), (3, .getfield 69, 7, 0, 0, 0, kZ), (3, .getfield 73, 2, 0, 0, 0, kZ), (3, .if_icmp .lt 13, 42, 0, 0, 0, kZ)]
set_option maxRecDepth 100000 in
theorem oo9_isBlack_0 : okL m9_isBlack 0 bb9_isBlack_0 := okL_of _ _ (by decide +kernel) ⟨trivial, ⟨lf_9_12, ⟨lf_9_69, ⟨trivial, ⟨⟨mok_m2_has, ⟨by decide, by decide⟩, rfl, by decide, Or.inr lc_9_239⟩, ⟨rfl, ⟨trivial, ⟨rfl, ⟨trivial, ⟨trivial, ⟨lf_9_12, ⟨lf_9_69, ⟨lf_9_73, ⟨rfl, trivial⟩⟩⟩⟩⟩⟩⟩⟩⟩⟩⟩⟩⟩⟩
def bb9_isBlack_32 : List PI := [(10, .athrow, 160, 242, 164, 0, (kX eIO "no such line or pixel"))]
set_option maxRecDepth 100000 in
theorem oo9_isBlack_32 : okL m9_isBlack 32 bb9_isBlack_32 := okL_of _ _ (by decide +kernel) ⟨⟨by decide, rfl, at_9_242, by decide +kernel, by decide +kernel, Or.inl ⟨by decide +kernel, by decide +kernel, by decide +kernel⟩⟩, trivial⟩
def bb9_isBlack_42 : List PI := [(1, .aload_n 0, 0, 0, 0, 0, kZ), (3, .getfield 12, 9, 0, 0, 0, kZ), (3, .getfield 69, 7, 0, 0, 0, kZ), (1, .iload_n 1, 0, 0, 0, 0, kZ), (3, .invokevirtual 119, 1, 2, 0, 0, m2_rowOf), (1, .iload_n 2, 0, 0, 0, 0, kZ), (3, .invokestatic 244, 2, 9, 0, 0, m9_blackAt), (1, .ireturn, 0, 0, 0, 0, kZ)]
set_option maxRecDepth 100000 in
theorem oo9_isBlack_42 : okL m9_isBlack 42 bb9_isBlack_42 := okL_of _ _ (by decide +kernel) ⟨trivial, ⟨lf_9_12, ⟨lf_9_69, ⟨trivial, ⟨⟨mok_m2_rowOf, ⟨by decide, by decide⟩, rfl, by decide, Or.inr lc_9_119⟩, ⟨trivial, ⟨⟨mok_m9_blackAt, ⟨by decide, by decide⟩, rfl, Or.inl lc_9_244⟩, ⟨trivial, trivial⟩⟩⟩⟩⟩⟩⟩⟩
def cd9_isBlack (t : Nat) : Option (List PI) := match t with
  | 0 => some bb9_isBlack_0
  | 32 => some bb9_isBlack_32
  | 42 => some bb9_isBlack_42
  | _ => none
theorem kd9_isBlack : ∀ t is, cd9_isBlack t = some is → okL m9_isBlack t is := by
  intro t is h
  unfold cd9_isBlack at h
  split at h <;> cases h
  · exact oo9_isBlack_0
  · exact oo9_isBlack_32
  · exact oo9_isBlack_42
theorem ff9_isBlack : mi_r m9_isBlack = (some .boolean) ∧ mi_l m9_isBlack = 3 ∧ mi_h m9_isBlack = [] ∧ (mi_rm m9_isBlack).cells = 1 ∧ (mi_rm m9_isBlack).slots = 6 ∧ (mi_rm m9_isBlack).locals = 84 ∧ cd9_isBlack 0 = some bb9_isBlack_0 ∧ cd9_isBlack 32 = some bb9_isBlack_32 ∧ cd9_isBlack 42 = some bb9_isBlack_42 ∧ (mi_rm m2_has).cells = 0 ∧ (mi_rm m2_has).slots = 0 ∧ (mi_rm m2_rowOf).cells = 0 ∧ (mi_rm m2_rowOf).slots = 0 ∧ (mi_rm m9_blackAt).cells = 0 ∧ (mi_rm m9_blackAt).slots = 0 := ⟨rfl, rfl, rfl, rfl, rfl, rfl, rfl, rfl, rfl, rfl, rfl, rfl, rfl, rfl, rfl⟩
def bbJ13_bitCount_0 : List PI := [(1, .lload_n 0, 0, 0, 0, 0, kZ), (1, .lload_n 0, 0, 0, 0, 0, kZ), (1, .iconst 1, 0, 0, 0, 0, kZ), (1, .lushr, 0, 0, 0, 0, kZ), (3, .ldc2_w 314, 0, 0, 0, 6148914691236517205, kZ), (1, .land, 0, 0, 0, 0, kZ), (1, .lsub, 0, 0, 0, 0, kZ), (1, .lstore_n 0, 0, 0, 0, 0, kZ), (1, .lload_n 0, 0, 0, 0, 0, kZ), (3, .ldc2_w 316, 0, 0, 0, 3689348814741910323, kZ), (1, .land, 0, 0, 0, 0, kZ), (1, .lload_n 0, 0, 0, 0, 0, kZ), (1, .iconst 2, 0, 0, 0, 0, kZ), (1, .lushr, 0, 0, 0, 0, kZ), (3, .ldc2_w 316, 0, 0, 0, 3689348814741910323, kZ), (1, .land, 0, 0, 0, 0, kZ), (1, .ladd, 0, 0, 0, 0, kZ), (1, .lstore_n 0, 0, 0, 0, 0, kZ), (1, .lload_n 0, 0, 0, 0, 0, kZ), (1, .lload_n 0, 0, 0, 0, 0, kZ), (1, .iconst 4, 0, 0, 0, 0, kZ), (1, .lushr, 0, 0, 0, 0, kZ), (1, .ladd, 0, 0, 0, 0, kZ), (3, .ldc2_w 318, 0, 0, 0, 1085102592571150095, kZ), (1, .land, 0, 0, 0, 0, kZ), (1, .lstore_n 0, 0, 0, 0, 0, kZ), (1, .lload_n 0, 0, 0, 0, 0, kZ), (1, .lload_n 0, 0, 0, 0, 0, kZ), (2, .bipush 8, 0, 0, 0, 0, kZ), (1, .lushr, 0, 0, 0, 0, kZ), (1, .ladd, 0, 0, 0, 0, kZ), (1, .lstore_n 0, 0, 0, 0, 0, kZ), (1, .lload_n 0, 0, 0, 0, 0, kZ), (1, .lload_n 0, 0, 0, 0, 0, kZ), (2, .bipush 16, 0, 0, 0, 0, kZ), (1, .lushr, 0, 0, 0, 0, kZ), (1, .ladd, 0, 0, 0, 0, kZ), (1, .lstore_n 0, 0, 0, 0, 0, kZ), (1, .lload_n 0, 0, 0, 0, 0, kZ), (1, .lload_n 0, 0, 0, 0, 0, kZ), (2, .bipush 32, 0, 0, 0, 0, kZ), (1, .lushr, 0, 0, 0, 0, kZ), (1, .ladd, 0, 0, 0, 0, kZ), (1, .lstore_n 0, 0, 0, 0, 0, kZ), (1, .lload_n 0, 0, 0, 0, 0, kZ), (1, .l2i, 0, 0, 0, 0, kZ), (2, .bipush 127, 0, 0, 0, 0, kZ), (1, .iand, 0, 0, 0, 0, kZ), (1, .ireturn, 0, 0, 0, 0, kZ)]
set_option maxRecDepth 100000 in
theorem ooJ13_bitCount_0 : okL mJ13_bitCount 0 bbJ13_bitCount_0 := okL_of _ _ (by decide +kernel) ⟨trivial, ⟨trivial, ⟨trivial, ⟨trivial, ⟨(wt_3 58 (by decide +kernel) rfl), ⟨trivial, ⟨trivial, ⟨trivial, ⟨trivial, ⟨(wt_3 59 (by decide +kernel) rfl), ⟨trivial, ⟨trivial, ⟨trivial, ⟨trivial, ⟨(wt_3 59 (by decide +kernel) rfl), ⟨trivial, ⟨trivial, ⟨trivial, ⟨trivial, ⟨trivial, ⟨trivial, ⟨trivial, ⟨trivial, ⟨(wt_3 60 (by decide +kernel) rfl), ⟨trivial, ⟨trivial, ⟨trivial, ⟨trivial, ⟨trivial, ⟨trivial, ⟨trivial, ⟨trivial, ⟨trivial, ⟨trivial, ⟨trivial, ⟨trivial, ⟨trivial, ⟨trivial, ⟨trivial, ⟨trivial, ⟨trivial, ⟨trivial, ⟨trivial, ⟨trivial, ⟨trivial, ⟨trivial, ⟨trivial, ⟨trivial, ⟨trivial, trivial⟩⟩⟩⟩⟩⟩⟩⟩⟩⟩⟩⟩⟩⟩⟩⟩⟩⟩⟩⟩⟩⟩⟩⟩⟩⟩⟩⟩⟩⟩⟩⟩⟩⟩⟩⟩⟩⟩⟩⟩⟩⟩⟩⟩⟩⟩⟩⟩⟩
def cdJ13_bitCount (t : Nat) : Option (List PI) := match t with
  | 0 => some bbJ13_bitCount_0
  | _ => none
theorem kdJ13_bitCount : ∀ t is, cdJ13_bitCount t = some is → okL mJ13_bitCount t is := by
  intro t is h
  unfold cdJ13_bitCount at h
  split at h <;> cases h
  · exact ooJ13_bitCount_0
theorem ffJ13_bitCount : mi_r mJ13_bitCount = (some .int) ∧ mi_l mJ13_bitCount = 2 ∧ mi_h mJ13_bitCount = [] ∧ (mi_rm mJ13_bitCount).cells = 0 ∧ (mi_rm mJ13_bitCount).slots = 0 ∧ (mi_rm mJ13_bitCount).locals = 32 ∧ cdJ13_bitCount 0 = some bbJ13_bitCount_0 := ⟨rfl, rfl, rfl, rfl, rfl, rfl, rfl⟩
theorem okt_m9_runsOf (pc : Nat) : okT m9_runsOf pc := fun y hy => by cases hy
def bb9_runsOf_0 : List PI := [(1, .aload_n 0, 0, 0, 0, 0, kZ), (1, .iload_n 1, 0, 0, 0, 0, kZ), (3, .invokevirtual 116, 1, 9, 1, 0, m9_needLine), (1, .iconst 1, 0, 0, 0, 0, kZ), (1, .aload_n 0, 0, 0, 0, 0, kZ), (3, .getfield 12, 9, 0, 0, 0, kZ), (3, .getfield 69, 7, 0, 0, 0, kZ), (1, .iload_n 1, 0, 0, 0, 0, kZ), (3, .invokevirtual 119, 1, 2, 0, 0, m2_rowOf), (1, .aload_n 0, 0, 0, 0, 0, kZ), (3, .getfield 12, 9, 0, 0, 0, kZ), (3, .getfield 69, 7, 0, 0, 0, kZ), (3, .getfield 73, 2, 0, 0, 0, kZ), (3, .invokestatic 248, 2, 9, 0, 0, m9_bordersOf), (3, .invokestatic 252, 1, 0, 0, 0, mJ13_bitCount), (1, .iadd, 0, 0, 0, 0, kZ), (1, .ireturn, 0, 0, 0, 0, kZ)]
set_option maxRecDepth 100000 in
theorem oo9_runsOf_0 : okL m9_runsOf 0 bb9_runsOf_0 := okL_of _ _ (by decide +kernel) ⟨trivial, ⟨trivial, ⟨⟨mok_m9_needLine, ⟨by decide, by decide⟩, rfl, by decide, lc_9_116, okt_m9_runsOf _⟩, ⟨trivial, ⟨trivial, ⟨lf_9_12, ⟨lf_9_69, ⟨trivial, ⟨⟨mok_m2_rowOf, ⟨by decide, by decide⟩, rfl, by decide, Or.inr lc_9_119⟩, ⟨trivial, ⟨lf_9_12, ⟨lf_9_69, ⟨lf_9_73, ⟨⟨mok_m9_bordersOf, ⟨by decide, by decide⟩, rfl, Or.inl lc_9_248⟩, ⟨⟨mok_mJ13_bitCount, ⟨by decide, by decide⟩, rfl, Or.inl lc_9_252⟩, ⟨trivial, ⟨trivial, trivial⟩⟩⟩⟩⟩⟩⟩⟩⟩⟩⟩⟩⟩⟩⟩⟩⟩
def cd9_runsOf (t : Nat) : Option (List PI) := match t with
  | 0 => some bb9_runsOf_0
  | _ => none
theorem kd9_runsOf : ∀ t is, cd9_runsOf t = some is → okL m9_runsOf t is := by
  intro t is h
  unfold cd9_runsOf at h
  split at h <;> cases h
  · exact oo9_runsOf_0
theorem ff9_runsOf : mi_r m9_runsOf = (some .int) ∧ mi_l m9_runsOf = 2 ∧ mi_h m9_runsOf = [] ∧ (mi_rm m9_runsOf).cells = 1 ∧ (mi_rm m9_runsOf).slots = 6 ∧ (mi_rm m9_runsOf).locals = 105 ∧ cd9_runsOf 0 = some bb9_runsOf_0 ∧ (mi_rm m2_rowOf).cells = 0 ∧ (mi_rm m2_rowOf).slots = 0 ∧ (mi_rm m9_bordersOf).cells = 0 ∧ (mi_rm m9_bordersOf).slots = 0 ∧ (mi_rm m9_needLine).cells = 1 ∧ (mi_rm m9_needLine).slots = 6 ∧ (mi_rm mJ13_bitCount).cells = 0 ∧ (mi_rm mJ13_bitCount).slots = 0 := ⟨rfl, rfl, rfl, rfl, rfl, rfl, rfl, rfl, rfl, rfl, rfl, rfl, rfl, rfl, rfl⟩
def bb9_longestBetween_0 : List PI := [(1, .iconst 0, 0, 0, 0, 0, kZ), (1, .istore_n 3, 0, 0, 0, 0, kZ), (1, .iconst 0, 0, 0, 0, 0, kZ), (2, .istore 4, 0, 0, 0, 0, kZ), (1, .iconst 0, 0, 0, 0, 0, kZ), (2, .istore 5, 0, 0, 0, 0, kZ)]
set_option maxRecDepth 100000 in
theorem oo9_longestBetween_0 : okL m9_longestBetween 0 bb9_longestBetween_0 := okL_of _ _ (by decide +kernel) ⟨trivial, ⟨trivial, ⟨trivial, ⟨trivial, ⟨trivial, ⟨trivial, trivial⟩⟩⟩⟩⟩⟩
def bb9_longestBetween_8 : List PI := [(2, .iload 5, 0, 0, 0, 0, kZ), (1, .iload_n 2, 0, 0, 0, 0, kZ), (3, .if_icmp .ge 35, 46, 0, 0, 0, kZ), (1, .lload_n 0, 0, 0, 0, 0, kZ), (2, .iload 5, 0, 0, 0, 0, kZ), (3, .invokestatic 244, 2, 9, 0, 0, m9_blackAt), (3, .ifCond .eq 7, 27, 0, 0, 0, kZ), (1, .iconst 1, 0, 0, 0, 0, kZ), (3, .goto 7, 31, 0, 0, 0, kZ)]
set_option maxRecDepth 100000 in
theorem oo9_longestBetween_8 : okL m9_longestBetween 8 bb9_longestBetween_8 := okL_of _ _ (by decide +kernel) ⟨trivial, ⟨trivial, ⟨rfl, ⟨trivial, ⟨trivial, ⟨⟨mok_m9_blackAt, ⟨by decide, by decide⟩, rfl, Or.inl lc_9_244⟩, ⟨rfl, ⟨trivial, ⟨rfl, trivial⟩⟩⟩⟩⟩⟩⟩⟩⟩
def bb9_longestBetween_27 : List PI := [(2, .iload 4, 0, 0, 0, 0, kZ), (1, .iconst 1, 0, 0, 0, 0, kZ), (1, .iadd, 0, 0, 0, 0, kZ)]
set_option maxRecDepth 100000 in
theorem oo9_longestBetween_27 : okL m9_longestBetween 27 bb9_longestBetween_27 := okL_of _ _ (by decide +kernel) ⟨trivial, ⟨trivial, ⟨trivial, trivial⟩⟩⟩
def bb9_longestBetween_31 : List PI := [(2, .istore 4, 0, 0, 0, 0, kZ), (1, .iload_n 3, 0, 0, 0, 0, kZ), (2, .iload 4, 0, 0, 0, 0, kZ), (3, .invokestatic 415, 0, 0, 6, 0, kZ), (1, .istore_n 3, 0, 0, 0, 0, kZ), (3, .iinc 5 1, 0, 0, 0, 0, kZ), (3, .goto (-35), 8, 0, 0, 0, kZ)]
set_option maxRecDepth 100000 in
theorem oo9_longestBetween_31 : okL m9_longestBetween 31 bb9_longestBetween_31 := okL_of _ _ (by decide +kernel) ⟨trivial, ⟨trivial, ⟨trivial, ⟨⟨lm_9_415, by decide⟩, ⟨trivial, ⟨trivial, ⟨rfl, trivial⟩⟩⟩⟩⟩⟩⟩
def bb9_longestBetween_46 : List PI := [(1, .iload_n 3, 0, 0, 0, 0, kZ), (1, .ireturn, 0, 0, 0, 0, kZ)]
set_option maxRecDepth 100000 in
theorem oo9_longestBetween_46 : okL m9_longestBetween 46 bb9_longestBetween_46 := okL_of _ _ (by decide +kernel) ⟨trivial, ⟨trivial, trivial⟩⟩
def cd9_longestBetween (t : Nat) : Option (List PI) := match t with
  | 0 => some bb9_longestBetween_0
  | 27 => some bb9_longestBetween_27
  | 31 => some bb9_longestBetween_31
  | 46 => some bb9_longestBetween_46
  | _ => none
theorem kd9_longestBetween : ∀ t is, cd9_longestBetween t = some is → okL m9_longestBetween t is := by
  intro t is h
  unfold cd9_longestBetween at h
  split at h <;> cases h
  · exact oo9_longestBetween_0
  · exact oo9_longestBetween_27
  · exact oo9_longestBetween_31
  · exact oo9_longestBetween_46
theorem ff9_longestBetween : mi_r m9_longestBetween = (some .int) ∧ mi_l m9_longestBetween = 6 ∧ mi_h m9_longestBetween = [] ∧ (mi_rm m9_longestBetween).cells = 0 ∧ (mi_rm m9_longestBetween).slots = 0 ∧ (mi_rm m9_longestBetween).locals = 54 ∧ cd9_longestBetween 0 = some bb9_longestBetween_0 ∧ cd9_longestBetween 8 = none ∧ cd9_longestBetween 27 = some bb9_longestBetween_27 ∧ cd9_longestBetween 31 = some bb9_longestBetween_31 ∧ cd9_longestBetween 46 = some bb9_longestBetween_46 ∧ (mi_rm m9_blackAt).cells = 0 ∧ (mi_rm m9_blackAt).slots = 0 := ⟨rfl, rfl, rfl, rfl, rfl, rfl, rfl, rfl, rfl, rfl, rfl, rfl, rfl⟩
theorem okt_m9_longestRun (pc : Nat) : okT m9_longestRun pc := fun y hy => by cases hy
def bb9_longestRun_0 : List PI := [(1, .aload_n 0, 0, 0, 0, 0, kZ), (1, .iload_n 1, 0, 0, 0, 0, kZ), (3, .invokevirtual 116, 1, 9, 1, 0, m9_needLine), (1, .aload_n 0, 0, 0, 0, 0, kZ), (3, .getfield 12, 9, 0, 0, 0, kZ), (3, .getfield 69, 7, 0, 0, 0, kZ), (1, .iload_n 1, 0, 0, 0, 0, kZ), (3, .invokevirtual 119, 1, 2, 0, 0, m2_rowOf), (1, .aload_n 0, 0, 0, 0, 0, kZ), (3, .getfield 12, 9, 0, 0, 0, kZ), (3, .getfield 69, 7, 0, 0, 0, kZ), (3, .getfield 73, 2, 0, 0, 0, kZ), (3, .invokestatic 248, 2, 9, 0, 0, m9_bordersOf), (1, .aload_n 0, 0, 0, 0, 0, kZ), (3, .getfield 12, 9, 0, 0, 0, kZ), (3, .getfield 69, 7, 0, 0, 0, kZ), (3, .getfield 73, 2, 0, 0, 0, kZ), (3, .invokestatic 258, 2, 9, 0, 0, m9_longestBetween), (1, .ireturn, 0, 0, 0, 0, kZ)]
set_option maxRecDepth 100000 in
theorem oo9_longestRun_0 : okL m9_longestRun 0 bb9_longestRun_0 := okL_of _ _ (by decide +kernel) ⟨trivial, ⟨trivial, ⟨⟨mok_m9_needLine, ⟨by decide, by decide⟩, rfl, by decide, lc_9_116, okt_m9_longestRun _⟩, ⟨trivial, ⟨lf_9_12, ⟨lf_9_69, ⟨trivial, ⟨⟨mok_m2_rowOf, ⟨by decide, by decide⟩, rfl, by decide, Or.inr lc_9_119⟩, ⟨trivial, ⟨lf_9_12, ⟨lf_9_69, ⟨lf_9_73, ⟨⟨mok_m9_bordersOf, ⟨by decide, by decide⟩, rfl, Or.inl lc_9_248⟩, ⟨trivial, ⟨lf_9_12, ⟨lf_9_69, ⟨lf_9_73, ⟨⟨mok_m9_longestBetween, ⟨by decide, by decide⟩, rfl, Or.inl lc_9_258⟩, ⟨trivial, trivial⟩⟩⟩⟩⟩⟩⟩⟩⟩⟩⟩⟩⟩⟩⟩⟩⟩⟩⟩
def cd9_longestRun (t : Nat) : Option (List PI) := match t with
  | 0 => some bb9_longestRun_0
  | _ => none
theorem kd9_longestRun : ∀ t is, cd9_longestRun t = some is → okL m9_longestRun t is := by
  intro t is h
  unfold cd9_longestRun at h
  split at h <;> cases h
  · exact oo9_longestRun_0
theorem ff9_longestRun : mi_r m9_longestRun = (some .int) ∧ mi_l m9_longestRun = 2 ∧ mi_h m9_longestRun = [] ∧ (mi_rm m9_longestRun).cells = 1 ∧ (mi_rm m9_longestRun).slots = 6 ∧ (mi_rm m9_longestRun).locals = 105 ∧ cd9_longestRun 0 = some bb9_longestRun_0 ∧ (mi_rm m2_rowOf).cells = 0 ∧ (mi_rm m2_rowOf).slots = 0 ∧ (mi_rm m9_bordersOf).cells = 0 ∧ (mi_rm m9_bordersOf).slots = 0 ∧ (mi_rm m9_longestBetween).cells = 0 ∧ (mi_rm m9_longestBetween).slots = 0 ∧ (mi_rm m9_needLine).cells = 1 ∧ (mi_rm m9_needLine).slots = 6 := ⟨rfl, rfl, rfl, rfl, rfl, rfl, rfl, rfl, rfl, rfl, rfl, rfl, rfl, rfl, rfl⟩
def bb9_blackPixels_0 : List PI := [(1, .iconst 0, 0, 0, 0, 0, kZ), (1, .istore_n 1, 0, 0, 0, 0, kZ), (1, .iconst 0, 0, 0, 0, 0, kZ), (1, .istore_n 2, 0, 0, 0, 0, kZ)]
set_option maxRecDepth 100000 in
theorem oo9_blackPixels_0 : okL m9_blackPixels 0 bb9_blackPixels_0 := okL_of _ _ (by decide +kernel) ⟨trivial, ⟨trivial, ⟨trivial, ⟨trivial, trivial⟩⟩⟩⟩
def bb9_blackPixels_4 : List PI := [(1, .iload_n 2, 0, 0, 0, 0, kZ), (1, .aload_n 0, 0, 0, 0, 0, kZ), (3, .getfield 12, 9, 0, 0, 0, kZ), (3, .getfield 69, 7, 0, 0, 0, kZ), (3, .getfield 113, 2, 2, 0, 0, kZ), (3, .if_icmp .ge 26, 41, 0, 0, 0, kZ), (1, .iload_n 1, 0, 0, 0, 0, kZ), (1, .aload_n 0, 0, 0, 0, 0, kZ), (3, .getfield 12, 9, 0, 0, 0, kZ), (3, .getfield 69, 7, 0, 0, 0, kZ), (1, .iload_n 2, 0, 0, 0, 0, kZ), (3, .invokevirtual 119, 1, 2, 0, 0, m2_rowOf), (3, .invokestatic 252, 1, 0, 0, 0, mJ13_bitCount), (1, .iadd, 0, 0, 0, 0, kZ), (1, .istore_n 1, 0, 0, 0, 0, kZ), (3, .iinc 2 1, 0, 0, 0, 0, kZ), (3, .goto (-34), 4, 0, 0, 0, kZ)]
set_option maxRecDepth 100000 in
theorem oo9_blackPixels_4 : okL m9_blackPixels 4 bb9_blackPixels_4 := okL_of _ _ (by decide +kernel) ⟨trivial, ⟨trivial, ⟨lf_9_12, ⟨lf_9_69, ⟨lf_9_113, ⟨rfl, ⟨trivial, ⟨trivial, ⟨lf_9_12, ⟨lf_9_69, ⟨trivial, ⟨⟨mok_m2_rowOf, ⟨by decide, by decide⟩, rfl, by decide, Or.inr lc_9_119⟩, ⟨⟨mok_mJ13_bitCount, ⟨by decide, by decide⟩, rfl, Or.inl lc_9_252⟩, ⟨trivial, ⟨trivial, ⟨trivial, ⟨rfl, trivial⟩⟩⟩⟩⟩⟩⟩⟩⟩⟩⟩⟩⟩⟩⟩⟩⟩
def bb9_blackPixels_41 : List PI := [(1, .iload_n 1, 0, 0, 0, 0, kZ), (1, .ireturn, 0, 0, 0, 0, kZ)]
set_option maxRecDepth 100000 in
theorem oo9_blackPixels_41 : okL m9_blackPixels 41 bb9_blackPixels_41 := okL_of _ _ (by decide +kernel) ⟨trivial, ⟨trivial, trivial⟩⟩
def cd9_blackPixels (t : Nat) : Option (List PI) := match t with
  | 0 => some bb9_blackPixels_0
  | 41 => some bb9_blackPixels_41
  | _ => none
theorem kd9_blackPixels : ∀ t is, cd9_blackPixels t = some is → okL m9_blackPixels t is := by
  intro t is h
  unfold cd9_blackPixels at h
  split at h <;> cases h
  · exact oo9_blackPixels_0
  · exact oo9_blackPixels_41
theorem ff9_blackPixels : mi_r m9_blackPixels = (some .int) ∧ mi_l m9_blackPixels = 3 ∧ mi_h m9_blackPixels = [] ∧ (mi_rm m9_blackPixels).cells = 0 ∧ (mi_rm m9_blackPixels).slots = 0 ∧ (mi_rm m9_blackPixels).locals = 53 ∧ cd9_blackPixels 0 = some bb9_blackPixels_0 ∧ cd9_blackPixels 4 = none ∧ cd9_blackPixels 41 = some bb9_blackPixels_41 ∧ (mi_rm m2_rowOf).cells = 0 ∧ (mi_rm m2_rowOf).slots = 0 ∧ (mi_rm mJ13_bitCount).cells = 0 ∧ (mi_rm mJ13_bitCount).slots = 0 := ⟨rfl, rfl, rfl, rfl, rfl, rfl, rfl, rfl, rfl, rfl, rfl, rfl, rfl⟩
def bb9_needMode_0 : List PI := [(1, .iload_n 0, 0, 0, 0, 0, kZ), (3, .ifCond .lt 8, 9, 0, 0, 0, kZ), (1, .iload_n 0, 0, 0, 0, 0, kZ), (1, .iconst 3, 0, 0, 0, 0, kZ), (3, .if_icmp .lt 14, 20, 0, 0, 0, kZ)]
set_option maxRecDepth 100000 in
theorem oo9_needMode_0 : okL m9_needMode 0 bb9_needMode_0 := okL_of _ _ (by decide +kernel) ⟨trivial, ⟨rfl, ⟨trivial, ⟨trivial, ⟨rfl, trivial⟩⟩⟩⟩⟩
def bb9_needMode_9 : List PI := [(11, .athrow, 58, 381, 62, 0, (kX eIA "a mode is 0 to 2"))]
set_option maxRecDepth 100000 in
theorem oo9_needMode_9 : okL m9_needMode 9 bb9_needMode_9 := okL_of _ _ (by decide +kernel) ⟨⟨by decide, rfl, at_9_381, by decide +kernel, by decide +kernel, Or.inr ⟨by decide +kernel, by decide +kernel, by decide +kernel⟩⟩, trivial⟩
def bb9_needMode_20 : List PI := [(1, .return_, 0, 0, 0, 0, kZ)]
set_option maxRecDepth 100000 in
theorem oo9_needMode_20 : okL m9_needMode 20 bb9_needMode_20 := okL_of _ _ (by decide +kernel) ⟨rfl, trivial⟩
def cd9_needMode (t : Nat) : Option (List PI) := match t with
  | 0 => some bb9_needMode_0
  | 9 => some bb9_needMode_9
  | 20 => some bb9_needMode_20
  | _ => none
theorem kd9_needMode : ∀ t is, cd9_needMode t = some is → okL m9_needMode t is := by
  intro t is h
  unfold cd9_needMode at h
  split at h <;> cases h
  · exact oo9_needMode_0
  · exact oo9_needMode_9
  · exact oo9_needMode_20
theorem ff9_needMode : mi_r m9_needMode = none ∧ mi_l m9_needMode = 1 ∧ mi_h m9_needMode = [] ∧ (mi_rm m9_needMode).cells = 1 ∧ (mi_rm m9_needMode).slots = 6 ∧ (mi_rm m9_needMode).locals = 84 ∧ cd9_needMode 0 = some bb9_needMode_0 ∧ cd9_needMode 9 = some bb9_needMode_9 ∧ cd9_needMode 20 = some bb9_needMode_20 := ⟨rfl, rfl, rfl, rfl, rfl, rfl, rfl, rfl, rfl⟩
theorem okt_m9_codeLength (pc : Nat) : okT m9_codeLength pc := fun y hy => by cases hy
def bb9_codeLength_0 : List PI := [(1, .aload_n 0, 0, 0, 0, 0, kZ), (1, .iload_n 1, 0, 0, 0, 0, kZ), (3, .invokevirtual 116, 1, 9, 1, 0, m9_needLine), (1, .iload_n 2, 0, 0, 0, 0, kZ), (3, .invokestatic 262, 1, 9, 1, 0, m9_needMode), (1, .aload_n 0, 0, 0, 0, 0, kZ), (3, .getfield 40, 9, 5, 0, 0, kZ), (1, .aload_n 0, 0, 0, 0, 0, kZ), (3, .getfield 12, 9, 0, 0, 0, kZ), (3, .getfield 69, 7, 0, 0, 0, kZ), (1, .iload_n 1, 0, 0, 0, 0, kZ), (1, .iload_n 2, 0, 0, 0, 0, kZ), (3, .invokevirtual 265, 3, 0, 0, 0, m0_write), (1, .aload_n 0, 0, 0, 0, 0, kZ), (3, .getfield 40, 9, 5, 0, 0, kZ), (3, .getfield 269, 0, 3, 0, 0, kZ), (1, .ireturn, 0, 0, 0, 0, kZ)]
set_option maxRecDepth 100000 in
theorem oo9_codeLength_0 : okL m9_codeLength 0 bb9_codeLength_0 := okL_of _ _ (by decide +kernel) ⟨trivial, ⟨trivial, ⟨⟨mok_m9_needLine, ⟨by decide, by decide⟩, rfl, by decide, lc_9_116, okt_m9_codeLength _⟩, ⟨trivial, ⟨⟨mok_m9_needMode, ⟨by decide, by decide⟩, rfl, lc_9_262, okt_m9_codeLength _⟩, ⟨trivial, ⟨lf_9_40, ⟨trivial, ⟨lf_9_12, ⟨lf_9_69, ⟨trivial, ⟨trivial, ⟨⟨mok_m0_write, ⟨by decide, by decide⟩, rfl, by decide, Or.inr lc_9_265⟩, ⟨trivial, ⟨lf_9_40, ⟨lf_9_269, ⟨trivial, trivial⟩⟩⟩⟩⟩⟩⟩⟩⟩⟩⟩⟩⟩⟩⟩⟩⟩
def cd9_codeLength (t : Nat) : Option (List PI) := match t with
  | 0 => some bb9_codeLength_0
  | _ => none
theorem kd9_codeLength : ∀ t is, cd9_codeLength t = some is → okL m9_codeLength t is := by
  intro t is h
  unfold cd9_codeLength at h
  split at h <;> cases h
  · exact oo9_codeLength_0
theorem ff9_codeLength : mi_r m9_codeLength = (some .int) ∧ mi_l m9_codeLength = 3 ∧ mi_h m9_codeLength = [] ∧ (mi_rm m9_codeLength).cells = 2 ∧ (mi_rm m9_codeLength).slots = 12 ∧ (mi_rm m9_codeLength).locals = 127 ∧ cd9_codeLength 0 = some bb9_codeLength_0 ∧ (mi_rm m0_write).cells = 0 ∧ (mi_rm m0_write).slots = 0 ∧ (mi_rm m9_needLine).cells = 1 ∧ (mi_rm m9_needLine).slots = 6 ∧ (mi_rm m9_needMode).cells = 1 ∧ (mi_rm m9_needMode).slots = 6 := ⟨rfl, rfl, rfl, rfl, rfl, rfl, rfl, rfl, rfl, rfl, rfl, rfl, rfl⟩
theorem okt_m9_codeLengthByCounting (pc : Nat) : okT m9_codeLengthByCounting pc := fun y hy => by cases hy
def bb9_codeLengthByCounting_0 : List PI := [(1, .aload_n 0, 0, 0, 0, 0, kZ), (1, .iload_n 1, 0, 0, 0, 0, kZ), (3, .invokevirtual 116, 1, 9, 1, 0, m9_needLine), (1, .iload_n 2, 0, 0, 0, 0, kZ), (3, .invokestatic 262, 1, 9, 1, 0, m9_needMode), (1, .aload_n 0, 0, 0, 0, 0, kZ), (1, .iload_n 1, 0, 0, 0, 0, kZ), (1, .iload_n 2, 0, 0, 0, 0, kZ), (3, .invokevirtual 270, 2, 9, 0, 0, m9_countedLength), (1, .ireturn, 0, 0, 0, 0, kZ)]
set_option maxRecDepth 100000 in
theorem oo9_codeLengthByCounting_0 : okL m9_codeLengthByCounting 0 bb9_codeLengthByCounting_0 := okL_of _ _ (by decide +kernel) ⟨trivial, ⟨trivial, ⟨⟨mok_m9_needLine, ⟨by decide, by decide⟩, rfl, by decide, lc_9_116, okt_m9_codeLengthByCounting _⟩, ⟨trivial, ⟨⟨mok_m9_needMode, ⟨by decide, by decide⟩, rfl, lc_9_262, okt_m9_codeLengthByCounting _⟩, ⟨trivial, ⟨trivial, ⟨trivial, ⟨⟨mok_m9_countedLength, ⟨by decide, by decide⟩, rfl, by decide, Or.inl lc_9_270⟩, ⟨trivial, trivial⟩⟩⟩⟩⟩⟩⟩⟩⟩⟩
def cd9_codeLengthByCounting (t : Nat) : Option (List PI) := match t with
  | 0 => some bb9_codeLengthByCounting_0
  | _ => none
theorem kd9_codeLengthByCounting : ∀ t is, cd9_codeLengthByCounting t = some is → okL m9_codeLengthByCounting t is := by
  intro t is h
  unfold cd9_codeLengthByCounting at h
  split at h <;> cases h
  · exact oo9_codeLengthByCounting_0
theorem ff9_codeLengthByCounting : mi_r m9_codeLengthByCounting = (some .int) ∧ mi_l m9_codeLengthByCounting = 3 ∧ mi_h m9_codeLengthByCounting = [] ∧ (mi_rm m9_codeLengthByCounting).cells = 2 ∧ (mi_rm m9_codeLengthByCounting).slots = 12 ∧ (mi_rm m9_codeLengthByCounting).locals = 107 ∧ cd9_codeLengthByCounting 0 = some bb9_codeLengthByCounting_0 ∧ (mi_rm m9_countedLength).cells = 0 ∧ (mi_rm m9_countedLength).slots = 0 ∧ (mi_rm m9_needLine).cells = 1 ∧ (mi_rm m9_needLine).slots = 6 ∧ (mi_rm m9_needMode).cells = 1 ∧ (mi_rm m9_needMode).slots = 6 := ⟨rfl, rfl, rfl, rfl, rfl, rfl, rfl, rfl, rfl, rfl, rfl, rfl, rfl⟩
theorem okt_m9_modeOf (pc : Nat) : okT m9_modeOf pc := fun y hy => by cases hy
def bb9_modeOf_0 : List PI := [(1, .aload_n 0, 0, 0, 0, 0, kZ), (1, .iload_n 1, 0, 0, 0, 0, kZ), (3, .invokevirtual 116, 1, 9, 1, 0, m9_needLine), (1, .aload_n 0, 0, 0, 0, 0, kZ), (1, .iload_n 1, 0, 0, 0, 0, kZ), (3, .invokevirtual 274, 1, 9, 0, 0, m9_modeToSend), (1, .ireturn, 0, 0, 0, 0, kZ)]
set_option maxRecDepth 100000 in
theorem oo9_modeOf_0 : okL m9_modeOf 0 bb9_modeOf_0 := okL_of _ _ (by decide +kernel) ⟨trivial, ⟨trivial, ⟨⟨mok_m9_needLine, ⟨by decide, by decide⟩, rfl, by decide, lc_9_116, okt_m9_modeOf _⟩, ⟨trivial, ⟨trivial, ⟨⟨mok_m9_modeToSend, ⟨by decide, by decide⟩, rfl, by decide, Or.inl lc_9_274⟩, ⟨trivial, trivial⟩⟩⟩⟩⟩⟩⟩
def cd9_modeOf (t : Nat) : Option (List PI) := match t with
  | 0 => some bb9_modeOf_0
  | _ => none
theorem kd9_modeOf : ∀ t is, cd9_modeOf t = some is → okL m9_modeOf t is := by
  intro t is h
  unfold cd9_modeOf at h
  split at h <;> cases h
  · exact oo9_modeOf_0
theorem ff9_modeOf : mi_r m9_modeOf = (some .int) ∧ mi_l m9_modeOf = 2 ∧ mi_h m9_modeOf = [] ∧ (mi_rm m9_modeOf).cells = 1 ∧ (mi_rm m9_modeOf).slots = 6 ∧ (mi_rm m9_modeOf).locals = 132 ∧ cd9_modeOf 0 = some bb9_modeOf_0 ∧ (mi_rm m9_modeToSend).cells = 0 ∧ (mi_rm m9_modeToSend).slots = 0 ∧ (mi_rm m9_needLine).cells = 1 ∧ (mi_rm m9_needLine).slots = 6 := ⟨rfl, rfl, rfl, rfl, rfl, rfl, rfl, rfl, rfl, rfl, rfl⟩
theorem okt_m9_checkOf (pc : Nat) : okT m9_checkOf pc := fun y hy => by cases hy
def bb9_checkOf_0 : List PI := [(1, .aload_n 0, 0, 0, 0, 0, kZ), (1, .iload_n 1, 0, 0, 0, 0, kZ), (3, .invokevirtual 116, 1, 9, 1, 0, m9_needLine), (1, .iload_n 2, 0, 0, 0, 0, kZ), (3, .invokestatic 262, 1, 9, 1, 0, m9_needMode), (1, .aload_n 0, 0, 0, 0, 0, kZ), (3, .getfield 40, 9, 5, 0, 0, kZ), (1, .aload_n 0, 0, 0, 0, 0, kZ), (3, .getfield 12, 9, 0, 0, 0, kZ), (3, .getfield 69, 7, 0, 0, 0, kZ), (1, .iload_n 1, 0, 0, 0, 0, kZ), (1, .iload_n 2, 0, 0, 0, 0, kZ), (3, .invokevirtual 265, 3, 0, 0, 0, m0_write), (1, .aload_n 0, 0, 0, 0, 0, kZ), (3, .getfield 40, 9, 5, 0, 0, kZ), (3, .getfield 277, 0, 4, 0, 0, kZ), (1, .ireturn, 0, 0, 0, 0, kZ)]
set_option maxRecDepth 100000 in
theorem oo9_checkOf_0 : okL m9_checkOf 0 bb9_checkOf_0 := okL_of _ _ (by decide +kernel) ⟨trivial, ⟨trivial, ⟨⟨mok_m9_needLine, ⟨by decide, by decide⟩, rfl, by decide, lc_9_116, okt_m9_checkOf _⟩, ⟨trivial, ⟨⟨mok_m9_needMode, ⟨by decide, by decide⟩, rfl, lc_9_262, okt_m9_checkOf _⟩, ⟨trivial, ⟨lf_9_40, ⟨trivial, ⟨lf_9_12, ⟨lf_9_69, ⟨trivial, ⟨trivial, ⟨⟨mok_m0_write, ⟨by decide, by decide⟩, rfl, by decide, Or.inr lc_9_265⟩, ⟨trivial, ⟨lf_9_40, ⟨lf_9_277, ⟨trivial, trivial⟩⟩⟩⟩⟩⟩⟩⟩⟩⟩⟩⟩⟩⟩⟩⟩⟩
def cd9_checkOf (t : Nat) : Option (List PI) := match t with
  | 0 => some bb9_checkOf_0
  | _ => none
theorem kd9_checkOf : ∀ t is, cd9_checkOf t = some is → okL m9_checkOf t is := by
  intro t is h
  unfold cd9_checkOf at h
  split at h <;> cases h
  · exact oo9_checkOf_0
theorem ff9_checkOf : mi_r m9_checkOf = (some .int) ∧ mi_l m9_checkOf = 3 ∧ mi_h m9_checkOf = [] ∧ (mi_rm m9_checkOf).cells = 2 ∧ (mi_rm m9_checkOf).slots = 12 ∧ (mi_rm m9_checkOf).locals = 127 ∧ cd9_checkOf 0 = some bb9_checkOf_0 ∧ (mi_rm m0_write).cells = 0 ∧ (mi_rm m0_write).slots = 0 ∧ (mi_rm m9_needLine).cells = 1 ∧ (mi_rm m9_needLine).slots = 6 ∧ (mi_rm m9_needMode).cells = 1 ∧ (mi_rm m9_needMode).slots = 6 := ⟨rfl, rfl, rfl, rfl, rfl, rfl, rfl, rfl, rfl, rfl, rfl, rfl, rfl⟩
def bb9_wouldSend_0 : List PI := [(1, .iconst 0, 0, 0, 0, 0, kZ), (1, .istore_n 1, 0, 0, 0, 0, kZ), (1, .iconst 0, 0, 0, 0, 0, kZ), (1, .istore_n 2, 0, 0, 0, 0, kZ)]
set_option maxRecDepth 100000 in
theorem oo9_wouldSend_0 : okL m9_wouldSend 0 bb9_wouldSend_0 := okL_of _ _ (by decide +kernel) ⟨trivial, ⟨trivial, ⟨trivial, ⟨trivial, trivial⟩⟩⟩⟩
def bb9_wouldSend_4 : List PI := [(1, .iload_n 2, 0, 0, 0, 0, kZ), (1, .aload_n 0, 0, 0, 0, 0, kZ), (3, .getfield 12, 9, 0, 0, 0, kZ), (3, .getfield 69, 7, 0, 0, 0, kZ), (3, .getfield 113, 2, 2, 0, 0, kZ), (3, .if_icmp .ge 22, 37, 0, 0, 0, kZ), (1, .iload_n 1, 0, 0, 0, 0, kZ), (1, .aload_n 0, 0, 0, 0, 0, kZ), (1, .iload_n 2, 0, 0, 0, 0, kZ), (1, .aload_n 0, 0, 0, 0, 0, kZ), (1, .iload_n 2, 0, 0, 0, 0, kZ), (3, .invokevirtual 274, 1, 9, 0, 0, m9_modeToSend), (3, .invokevirtual 270, 2, 9, 0, 0, m9_countedLength), (1, .iadd, 0, 0, 0, 0, kZ), (1, .istore_n 1, 0, 0, 0, 0, kZ), (3, .iinc 2 1, 0, 0, 0, 0, kZ), (3, .goto (-30), 4, 0, 0, 0, kZ)]
set_option maxRecDepth 100000 in
theorem oo9_wouldSend_4 : okL m9_wouldSend 4 bb9_wouldSend_4 := okL_of _ _ (by decide +kernel) ⟨trivial, ⟨trivial, ⟨lf_9_12, ⟨lf_9_69, ⟨lf_9_113, ⟨rfl, ⟨trivial, ⟨trivial, ⟨trivial, ⟨trivial, ⟨trivial, ⟨⟨mok_m9_modeToSend, ⟨by decide, by decide⟩, rfl, by decide, Or.inl lc_9_274⟩, ⟨⟨mok_m9_countedLength, ⟨by decide, by decide⟩, rfl, by decide, Or.inl lc_9_270⟩, ⟨trivial, ⟨trivial, ⟨trivial, ⟨rfl, trivial⟩⟩⟩⟩⟩⟩⟩⟩⟩⟩⟩⟩⟩⟩⟩⟩⟩
def bb9_wouldSend_37 : List PI := [(1, .iload_n 1, 0, 0, 0, 0, kZ), (1, .ireturn, 0, 0, 0, 0, kZ)]
set_option maxRecDepth 100000 in
theorem oo9_wouldSend_37 : okL m9_wouldSend 37 bb9_wouldSend_37 := okL_of _ _ (by decide +kernel) ⟨trivial, ⟨trivial, trivial⟩⟩
def cd9_wouldSend (t : Nat) : Option (List PI) := match t with
  | 0 => some bb9_wouldSend_0
  | 37 => some bb9_wouldSend_37
  | _ => none
theorem kd9_wouldSend : ∀ t is, cd9_wouldSend t = some is → okL m9_wouldSend t is := by
  intro t is h
  unfold cd9_wouldSend at h
  split at h <;> cases h
  · exact oo9_wouldSend_0
  · exact oo9_wouldSend_37
theorem ff9_wouldSend : mi_r m9_wouldSend = (some .int) ∧ mi_l m9_wouldSend = 3 ∧ mi_h m9_wouldSend = [] ∧ (mi_rm m9_wouldSend).cells = 0 ∧ (mi_rm m9_wouldSend).slots = 0 ∧ (mi_rm m9_wouldSend).locals = 132 ∧ cd9_wouldSend 0 = some bb9_wouldSend_0 ∧ cd9_wouldSend 4 = none ∧ cd9_wouldSend 37 = some bb9_wouldSend_37 ∧ (mi_rm m9_countedLength).cells = 0 ∧ (mi_rm m9_countedLength).slots = 0 ∧ (mi_rm m9_modeToSend).cells = 0 ∧ (mi_rm m9_modeToSend).slots = 0 := ⟨rfl, rfl, rfl, rfl, rfl, rfl, rfl, rfl, rfl, rfl, rfl, rfl, rfl⟩
def bb9_streamLength_0 : List PI := [(1, .aload_n 0, 0, 0, 0, 0, kZ), (3, .getfield 12, 9, 0, 0, 0, kZ), (3, .getfield 83, 7, 1, 0, 0, kZ), (3, .getfield 140, 8, 0, 0, 0, kZ), (1, .ireturn, 0, 0, 0, 0, kZ)]
set_option maxRecDepth 100000 in
theorem oo9_streamLength_0 : okL m9_streamLength 0 bb9_streamLength_0 := okL_of _ _ (by decide +kernel) ⟨trivial, ⟨lf_9_12, ⟨lf_9_83, ⟨lf_9_140, ⟨trivial, trivial⟩⟩⟩⟩⟩
def cd9_streamLength (t : Nat) : Option (List PI) := match t with
  | 0 => some bb9_streamLength_0
  | _ => none
theorem kd9_streamLength : ∀ t is, cd9_streamLength t = some is → okL m9_streamLength t is := by
  intro t is h
  unfold cd9_streamLength at h
  split at h <;> cases h
  · exact oo9_streamLength_0
theorem ff9_streamLength : mi_r m9_streamLength = (some .int) ∧ mi_l m9_streamLength = 1 ∧ mi_h m9_streamLength = [] ∧ (mi_rm m9_streamLength).cells = 0 ∧ (mi_rm m9_streamLength).slots = 0 ∧ (mi_rm m9_streamLength).locals = 32 ∧ cd9_streamLength 0 = some bb9_streamLength_0 := ⟨rfl, rfl, rfl, rfl, rfl, rfl, rfl⟩
theorem okt_m9_numberAt (pc : Nat) : okT m9_numberAt pc := fun y hy => by cases hy
def bb9_numberAt_0 : List PI := [(1, .aload_n 0, 0, 0, 0, 0, kZ), (1, .iload_n 1, 0, 0, 0, 0, kZ), (3, .invokevirtual 143, 1, 9, 1, 0, m9_needPlace), (1, .aload_n 0, 0, 0, 0, 0, kZ), (3, .getfield 12, 9, 0, 0, 0, kZ), (3, .getfield 83, 7, 1, 0, 0, kZ), (1, .iload_n 1, 0, 0, 0, 0, kZ), (3, .invokevirtual 149, 1, 8, 0, 0, m8_at), (1, .ireturn, 0, 0, 0, 0, kZ)]
set_option maxRecDepth 100000 in
theorem oo9_numberAt_0 : okL m9_numberAt 0 bb9_numberAt_0 := okL_of _ _ (by decide +kernel) ⟨trivial, ⟨trivial, ⟨⟨mok_m9_needPlace, ⟨by decide, by decide⟩, rfl, by decide, lc_9_143, okt_m9_numberAt _⟩, ⟨trivial, ⟨lf_9_12, ⟨lf_9_83, ⟨trivial, ⟨⟨mok_m8_at, ⟨by decide, by decide⟩, rfl, by decide, Or.inr lc_9_149⟩, ⟨trivial, trivial⟩⟩⟩⟩⟩⟩⟩⟩⟩
def cd9_numberAt (t : Nat) : Option (List PI) := match t with
  | 0 => some bb9_numberAt_0
  | _ => none
theorem kd9_numberAt : ∀ t is, cd9_numberAt t = some is → okL m9_numberAt t is := by
  intro t is h
  unfold cd9_numberAt at h
  split at h <;> cases h
  · exact oo9_numberAt_0
theorem ff9_numberAt : mi_r m9_numberAt = (some .int) ∧ mi_l m9_numberAt = 2 ∧ mi_h m9_numberAt = [] ∧ (mi_rm m9_numberAt).cells = 1 ∧ (mi_rm m9_numberAt).slots = 6 ∧ (mi_rm m9_numberAt).locals = 105 ∧ cd9_numberAt 0 = some bb9_numberAt_0 ∧ (mi_rm m8_at).cells = 0 ∧ (mi_rm m8_at).slots = 0 ∧ (mi_rm m9_needPlace).cells = 1 ∧ (mi_rm m9_needPlace).slots = 6 := ⟨rfl, rfl, rfl, rfl, rfl, rfl, rfl, rfl, rfl, rfl, rfl⟩
def bb9_markers_0 : List PI := [(1, .aload_n 0, 0, 0, 0, 0, kZ), (3, .getfield 12, 9, 0, 0, 0, kZ), (3, .getfield 83, 7, 1, 0, 0, kZ), (3, .invokevirtual 280, 0, 8, 0, 0, m8_countMarkers), (1, .ireturn, 0, 0, 0, 0, kZ)]
set_option maxRecDepth 100000 in
theorem oo9_markers_0 : okL m9_markers 0 bb9_markers_0 := okL_of _ _ (by decide +kernel) ⟨trivial, ⟨lf_9_12, ⟨lf_9_83, ⟨⟨mok_m8_countMarkers, ⟨by decide, by decide⟩, rfl, by decide, Or.inr lc_9_280⟩, ⟨trivial, trivial⟩⟩⟩⟩⟩
def cd9_markers (t : Nat) : Option (List PI) := match t with
  | 0 => some bb9_markers_0
  | _ => none
theorem kd9_markers : ∀ t is, cd9_markers t = some is → okL m9_markers t is := by
  intro t is h
  unfold cd9_markers at h
  split at h <;> cases h
  · exact oo9_markers_0
theorem ff9_markers : mi_r m9_markers = (some .int) ∧ mi_l m9_markers = 1 ∧ mi_h m9_markers = [] ∧ (mi_rm m9_markers).cells = 0 ∧ (mi_rm m9_markers).slots = 0 ∧ (mi_rm m9_markers).locals = 96 ∧ cd9_markers 0 = some bb9_markers_0 ∧ (mi_rm m8_countMarkers).cells = 0 ∧ (mi_rm m8_countMarkers).slots = 0 := ⟨rfl, rfl, rfl, rfl, rfl, rfl, rfl, rfl, rfl⟩
def bb9_needLineOfAnyPage_0 : List PI := [(1, .iload_n 0, 0, 0, 0, 0, kZ), (3, .ifCond .lt 9, 10, 0, 0, 0, kZ), (1, .iload_n 0, 0, 0, 0, 0, kZ), (2, .bipush 10, 0, 0, 0, 0, kZ), (3, .if_icmp .lt 14, 21, 0, 0, 0, kZ)]
set_option maxRecDepth 100000 in
theorem oo9_needLineOfAnyPage_0 : okL m9_needLineOfAnyPage 0 bb9_needLineOfAnyPage_0 := okL_of _ _ (by decide +kernel) ⟨trivial, ⟨rfl, ⟨trivial, ⟨trivial, ⟨rfl, trivial⟩⟩⟩⟩⟩
def bb9_needLineOfAnyPage_10 : List PI := [(11, .athrow, 160, 366, 164, 0, (kX eIO "no page has such a line"))]
set_option maxRecDepth 100000 in
theorem oo9_needLineOfAnyPage_10 : okL m9_needLineOfAnyPage 10 bb9_needLineOfAnyPage_10 := okL_of _ _ (by decide +kernel) ⟨⟨by decide, rfl, at_9_366, by decide +kernel, by decide +kernel, Or.inr ⟨by decide +kernel, by decide +kernel, by decide +kernel⟩⟩, trivial⟩
def bb9_needLineOfAnyPage_21 : List PI := [(1, .return_, 0, 0, 0, 0, kZ)]
set_option maxRecDepth 100000 in
theorem oo9_needLineOfAnyPage_21 : okL m9_needLineOfAnyPage 21 bb9_needLineOfAnyPage_21 := okL_of _ _ (by decide +kernel) ⟨rfl, trivial⟩
def cd9_needLineOfAnyPage (t : Nat) : Option (List PI) := match t with
  | 0 => some bb9_needLineOfAnyPage_0
  | 10 => some bb9_needLineOfAnyPage_10
  | 21 => some bb9_needLineOfAnyPage_21
  | _ => none
theorem kd9_needLineOfAnyPage : ∀ t is, cd9_needLineOfAnyPage t = some is → okL m9_needLineOfAnyPage t is := by
  intro t is h
  unfold cd9_needLineOfAnyPage at h
  split at h <;> cases h
  · exact oo9_needLineOfAnyPage_0
  · exact oo9_needLineOfAnyPage_10
  · exact oo9_needLineOfAnyPage_21
theorem ff9_needLineOfAnyPage : mi_r m9_needLineOfAnyPage = none ∧ mi_l m9_needLineOfAnyPage = 1 ∧ mi_h m9_needLineOfAnyPage = [] ∧ (mi_rm m9_needLineOfAnyPage).cells = 1 ∧ (mi_rm m9_needLineOfAnyPage).slots = 6 ∧ (mi_rm m9_needLineOfAnyPage).locals = 84 ∧ cd9_needLineOfAnyPage 0 = some bb9_needLineOfAnyPage_0 ∧ cd9_needLineOfAnyPage 10 = some bb9_needLineOfAnyPage_10 ∧ cd9_needLineOfAnyPage 21 = some bb9_needLineOfAnyPage_21 := ⟨rfl, rfl, rfl, rfl, rfl, rfl, rfl, rfl, rfl⟩
theorem okt_m9_isReceived (pc : Nat) : okT m9_isReceived pc := fun y hy => by cases hy
def bb9_isReceived_0 : List PI := [(1, .iload_n 1, 0, 0, 0, 0, kZ), (3, .invokestatic 283, 1, 9, 1, 0, m9_needLineOfAnyPage), (1, .aload_n 0, 0, 0, 0, 0, kZ), (3, .getfield 12, 9, 0, 0, 0, kZ), (3, .getfield 92, 7, 2, 0, 0, kZ), (1, .iload_n 1, 0, 0, 0, 0, kZ), (3, .invokevirtual 286, 1, 6, 0, 0, m6_has), (1, .ireturn, 0, 0, 0, 0, kZ)]
set_option maxRecDepth 100000 in
theorem oo9_isReceived_0 : okL m9_isReceived 0 bb9_isReceived_0 := okL_of _ _ (by decide +kernel) ⟨trivial, ⟨⟨mok_m9_needLineOfAnyPage, ⟨by decide, by decide⟩, rfl, lc_9_283, okt_m9_isReceived _⟩, ⟨trivial, ⟨lf_9_12, ⟨lf_9_92, ⟨trivial, ⟨⟨mok_m6_has, ⟨by decide, by decide⟩, rfl, by decide, Or.inr lc_9_286⟩, ⟨trivial, trivial⟩⟩⟩⟩⟩⟩⟩⟩
def cd9_isReceived (t : Nat) : Option (List PI) := match t with
  | 0 => some bb9_isReceived_0
  | _ => none
theorem kd9_isReceived : ∀ t is, cd9_isReceived t = some is → okL m9_isReceived t is := by
  intro t is h
  unfold cd9_isReceived at h
  split at h <;> cases h
  · exact oo9_isReceived_0
theorem ff9_isReceived : mi_r m9_isReceived = (some .boolean) ∧ mi_l m9_isReceived = 2 ∧ mi_h m9_isReceived = [] ∧ (mi_rm m9_isReceived).cells = 1 ∧ (mi_rm m9_isReceived).slots = 6 ∧ (mi_rm m9_isReceived).locals = 104 ∧ cd9_isReceived 0 = some bb9_isReceived_0 ∧ (mi_rm m6_has).cells = 0 ∧ (mi_rm m6_has).slots = 0 ∧ (mi_rm m9_needLineOfAnyPage).cells = 1 ∧ (mi_rm m9_needLineOfAnyPage).slots = 6 := ⟨rfl, rfl, rfl, rfl, rfl, rfl, rfl, rfl, rfl, rfl, rfl⟩
theorem okt_m9_receivedPixels (pc : Nat) : okT m9_receivedPixels pc := fun y hy => by cases hy
def bb9_receivedPixels_0 : List PI := [(1, .iload_n 1, 0, 0, 0, 0, kZ), (3, .invokestatic 283, 1, 9, 1, 0, m9_needLineOfAnyPage), (1, .aload_n 0, 0, 0, 0, 0, kZ), (3, .getfield 12, 9, 0, 0, 0, kZ), (3, .getfield 92, 7, 2, 0, 0, kZ), (1, .iload_n 1, 0, 0, 0, 0, kZ), (3, .invokevirtual 286, 1, 6, 0, 0, m6_has), (3, .ifCond .ne 14, 29, 0, 0, 0, kZ), (11, .athrow, 104, 287, 108, 0, (kX eIS "the line is not received"))]
set_option maxRecDepth 100000 in
theorem oo9_receivedPixels_0 : okL m9_receivedPixels 0 bb9_receivedPixels_0 := okL_of _ _ (by decide +kernel) ⟨trivial, ⟨⟨mok_m9_needLineOfAnyPage, ⟨by decide, by decide⟩, rfl, lc_9_283, okt_m9_receivedPixels _⟩, ⟨trivial, ⟨lf_9_12, ⟨lf_9_92, ⟨trivial, ⟨⟨mok_m6_has, ⟨by decide, by decide⟩, rfl, by decide, Or.inr lc_9_286⟩, ⟨rfl, ⟨⟨by decide, rfl, at_9_287, by decide +kernel, by decide +kernel, Or.inr ⟨by decide +kernel, by decide +kernel, by decide +kernel⟩⟩, trivial⟩⟩⟩⟩⟩⟩⟩⟩⟩
def bb9_receivedPixels_29 : List PI := [(1, .aload_n 0, 0, 0, 0, 0, kZ), (3, .getfield 12, 9, 0, 0, 0, kZ), (3, .getfield 92, 7, 2, 0, 0, kZ), (1, .iload_n 1, 0, 0, 0, 0, kZ), (3, .invokevirtual 289, 1, 6, 0, 0, m6_rowOf), (1, .lreturn, 0, 0, 0, 0, kZ)]
set_option maxRecDepth 100000 in
theorem oo9_receivedPixels_29 : okL m9_receivedPixels 29 bb9_receivedPixels_29 := okL_of _ _ (by decide +kernel) ⟨trivial, ⟨lf_9_12, ⟨lf_9_92, ⟨trivial, ⟨⟨mok_m6_rowOf, ⟨by decide, by decide⟩, rfl, by decide, Or.inr lc_9_289⟩, ⟨rfl, trivial⟩⟩⟩⟩⟩⟩
def cd9_receivedPixels (t : Nat) : Option (List PI) := match t with
  | 0 => some bb9_receivedPixels_0
  | 29 => some bb9_receivedPixels_29
  | _ => none
theorem kd9_receivedPixels : ∀ t is, cd9_receivedPixels t = some is → okL m9_receivedPixels t is := by
  intro t is h
  unfold cd9_receivedPixels at h
  split at h <;> cases h
  · exact oo9_receivedPixels_0
  · exact oo9_receivedPixels_29
theorem ff9_receivedPixels : mi_r m9_receivedPixels = (some .long) ∧ mi_l m9_receivedPixels = 2 ∧ mi_h m9_receivedPixels = [] ∧ (mi_rm m9_receivedPixels).cells = 2 ∧ (mi_rm m9_receivedPixels).slots = 12 ∧ (mi_rm m9_receivedPixels).locals = 104 ∧ cd9_receivedPixels 0 = some bb9_receivedPixels_0 ∧ cd9_receivedPixels 29 = some bb9_receivedPixels_29 ∧ (mi_rm m6_has).cells = 0 ∧ (mi_rm m6_has).slots = 0 ∧ (mi_rm m6_rowOf).cells = 0 ∧ (mi_rm m6_rowOf).slots = 0 ∧ (mi_rm m9_needLineOfAnyPage).cells = 1 ∧ (mi_rm m9_needLineOfAnyPage).slots = 6 := ⟨rfl, rfl, rfl, rfl, rfl, rfl, rfl, rfl, rfl, rfl, rfl, rfl, rfl, rfl⟩
def bb9_received_0 : List PI := [(1, .aload_n 0, 0, 0, 0, 0, kZ), (3, .getfield 12, 9, 0, 0, 0, kZ), (3, .getfield 92, 7, 2, 0, 0, kZ), (3, .invokevirtual 176, 0, 6, 0, 0, m6_count), (1, .ireturn, 0, 0, 0, 0, kZ)]
set_option maxRecDepth 100000 in
theorem oo9_received_0 : okL m9_received 0 bb9_received_0 := okL_of _ _ (by decide +kernel) ⟨trivial, ⟨lf_9_12, ⟨lf_9_92, ⟨⟨mok_m6_count, ⟨by decide, by decide⟩, rfl, by decide, Or.inr lc_9_176⟩, ⟨trivial, trivial⟩⟩⟩⟩⟩
def cd9_received (t : Nat) : Option (List PI) := match t with
  | 0 => some bb9_received_0
  | _ => none
theorem kd9_received : ∀ t is, cd9_received t = some is → okL m9_received t is := by
  intro t is h
  unfold cd9_received at h
  split at h <;> cases h
  · exact oo9_received_0
theorem ff9_received : mi_r m9_received = (some .int) ∧ mi_l m9_received = 1 ∧ mi_h m9_received = [] ∧ (mi_rm m9_received).cells = 0 ∧ (mi_rm m9_received).slots = 0 ∧ (mi_rm m9_received).locals = 72 ∧ cd9_received 0 = some bb9_received_0 ∧ (mi_rm m6_count).cells = 0 ∧ (mi_rm m6_count).slots = 0 := ⟨rfl, rfl, rfl, rfl, rfl, rfl, rfl, rfl, rfl⟩
def bb9_right_0 : List PI := [(1, .aload_n 0, 0, 0, 0, 0, kZ), (3, .getfield 12, 9, 0, 0, 0, kZ), (3, .getfield 92, 7, 2, 0, 0, kZ), (1, .aload_n 0, 0, 0, 0, 0, kZ), (3, .getfield 12, 9, 0, 0, 0, kZ), (3, .getfield 69, 7, 0, 0, 0, kZ), (3, .invokevirtual 290, 1, 6, 0, 0, m6_countAlike), (1, .ireturn, 0, 0, 0, 0, kZ)]
set_option maxRecDepth 100000 in
theorem oo9_right_0 : okL m9_right 0 bb9_right_0 := okL_of _ _ (by decide +kernel) ⟨trivial, ⟨lf_9_12, ⟨lf_9_92, ⟨trivial, ⟨lf_9_12, ⟨lf_9_69, ⟨⟨mok_m6_countAlike, ⟨by decide, by decide⟩, rfl, by decide, Or.inr lc_9_290⟩, ⟨trivial, trivial⟩⟩⟩⟩⟩⟩⟩⟩
def cd9_right (t : Nat) : Option (List PI) := match t with
  | 0 => some bb9_right_0
  | _ => none
theorem kd9_right : ∀ t is, cd9_right t = some is → okL m9_right t is := by
  intro t is h
  unfold cd9_right at h
  split at h <;> cases h
  · exact oo9_right_0
theorem ff9_right : mi_r m9_right = (some .int) ∧ mi_l m9_right = 1 ∧ mi_h m9_right = [] ∧ (mi_rm m9_right).cells = 0 ∧ (mi_rm m9_right).slots = 0 ∧ (mi_rm m9_right).locals = 97 ∧ cd9_right 0 = some bb9_right_0 ∧ (mi_rm m6_countAlike).cells = 0 ∧ (mi_rm m6_countAlike).slots = 0 := ⟨rfl, rfl, rfl, rfl, rfl, rfl, rfl, rfl, rfl⟩
def bb9_errors_0 : List PI := [(1, .aload_n 0, 0, 0, 0, 0, kZ), (3, .getfield 12, 9, 0, 0, 0, kZ), (3, .getfield 92, 7, 2, 0, 0, kZ), (3, .getfield 294, 6, 2, 0, 0, kZ), (1, .ireturn, 0, 0, 0, 0, kZ)]
set_option maxRecDepth 100000 in
theorem oo9_errors_0 : okL m9_errors 0 bb9_errors_0 := okL_of _ _ (by decide +kernel) ⟨trivial, ⟨lf_9_12, ⟨lf_9_92, ⟨lf_9_294, ⟨trivial, trivial⟩⟩⟩⟩⟩
def cd9_errors (t : Nat) : Option (List PI) := match t with
  | 0 => some bb9_errors_0
  | _ => none
theorem kd9_errors : ∀ t is, cd9_errors t = some is → okL m9_errors t is := by
  intro t is h
  unfold cd9_errors at h
  split at h <;> cases h
  · exact oo9_errors_0
theorem ff9_errors : mi_r m9_errors = (some .int) ∧ mi_l m9_errors = 1 ∧ mi_h m9_errors = [] ∧ (mi_rm m9_errors).cells = 0 ∧ (mi_rm m9_errors).slots = 0 ∧ (mi_rm m9_errors).locals = 32 ∧ cd9_errors 0 = some bb9_errors_0 := ⟨rfl, rfl, rfl, rfl, rfl, rfl, rfl⟩
def bb9_needError_0 : List PI := [(1, .aload_n 0, 0, 0, 0, 0, kZ), (3, .getfield 12, 9, 0, 0, 0, kZ), (3, .getfield 92, 7, 2, 0, 0, kZ), (1, .iload_n 1, 0, 0, 0, 0, kZ), (3, .invokevirtual 369, 1, 6, 0, 0, m6_hasError), (3, .ifCond .ne 14, 25, 0, 0, 0, kZ), (11, .athrow, 160, 372, 164, 0, (kX eIO "no such error"))]
set_option maxRecDepth 100000 in
theorem oo9_needError_0 : okL m9_needError 0 bb9_needError_0 := okL_of _ _ (by decide +kernel) ⟨trivial, ⟨lf_9_12, ⟨lf_9_92, ⟨trivial, ⟨⟨mok_m6_hasError, ⟨by decide, by decide⟩, rfl, by decide, Or.inr lc_9_369⟩, ⟨rfl, ⟨⟨by decide, rfl, at_9_372, by decide +kernel, by decide +kernel, Or.inr ⟨by decide +kernel, by decide +kernel, by decide +kernel⟩⟩, trivial⟩⟩⟩⟩⟩⟩⟩
def bb9_needError_25 : List PI := [(1, .return_, 0, 0, 0, 0, kZ)]
set_option maxRecDepth 100000 in
theorem oo9_needError_25 : okL m9_needError 25 bb9_needError_25 := okL_of _ _ (by decide +kernel) ⟨rfl, trivial⟩
def cd9_needError (t : Nat) : Option (List PI) := match t with
  | 0 => some bb9_needError_0
  | 25 => some bb9_needError_25
  | _ => none
theorem kd9_needError : ∀ t is, cd9_needError t = some is → okL m9_needError t is := by
  intro t is h
  unfold cd9_needError at h
  split at h <;> cases h
  · exact oo9_needError_0
  · exact oo9_needError_25
theorem ff9_needError : mi_r m9_needError = none ∧ mi_l m9_needError = 2 ∧ mi_h m9_needError = [] ∧ (mi_rm m9_needError).cells = 1 ∧ (mi_rm m9_needError).slots = 6 ∧ (mi_rm m9_needError).locals = 84 ∧ cd9_needError 0 = some bb9_needError_0 ∧ cd9_needError 25 = some bb9_needError_25 ∧ (mi_rm m6_hasError).cells = 0 ∧ (mi_rm m6_hasError).slots = 0 := ⟨rfl, rfl, rfl, rfl, rfl, rfl, rfl, rfl, rfl, rfl⟩
theorem okt_m9_errorPlace (pc : Nat) : okT m9_errorPlace pc := fun y hy => by cases hy
def bb9_errorPlace_0 : List PI := [(1, .aload_n 0, 0, 0, 0, 0, kZ), (1, .iload_n 1, 0, 0, 0, 0, kZ), (3, .invokevirtual 297, 1, 9, 1, 0, m9_needError), (1, .aload_n 0, 0, 0, 0, 0, kZ), (3, .getfield 12, 9, 0, 0, 0, kZ), (3, .getfield 92, 7, 2, 0, 0, kZ), (1, .iload_n 1, 0, 0, 0, 0, kZ), (3, .invokevirtual 300, 1, 6, 0, 0, m6_placeOf), (1, .ireturn, 0, 0, 0, 0, kZ)]
set_option maxRecDepth 100000 in
theorem oo9_errorPlace_0 : okL m9_errorPlace 0 bb9_errorPlace_0 := okL_of _ _ (by decide +kernel) ⟨trivial, ⟨trivial, ⟨⟨mok_m9_needError, ⟨by decide, by decide⟩, rfl, by decide, lc_9_297, okt_m9_errorPlace _⟩, ⟨trivial, ⟨lf_9_12, ⟨lf_9_92, ⟨trivial, ⟨⟨mok_m6_placeOf, ⟨by decide, by decide⟩, rfl, by decide, Or.inr lc_9_300⟩, ⟨trivial, trivial⟩⟩⟩⟩⟩⟩⟩⟩⟩
def cd9_errorPlace (t : Nat) : Option (List PI) := match t with
  | 0 => some bb9_errorPlace_0
  | _ => none
theorem kd9_errorPlace : ∀ t is, cd9_errorPlace t = some is → okL m9_errorPlace t is := by
  intro t is h
  unfold cd9_errorPlace at h
  split at h <;> cases h
  · exact oo9_errorPlace_0
theorem ff9_errorPlace : mi_r m9_errorPlace = (some .int) ∧ mi_l m9_errorPlace = 2 ∧ mi_h m9_errorPlace = [] ∧ (mi_rm m9_errorPlace).cells = 1 ∧ (mi_rm m9_errorPlace).slots = 6 ∧ (mi_rm m9_errorPlace).locals = 105 ∧ cd9_errorPlace 0 = some bb9_errorPlace_0 ∧ (mi_rm m6_placeOf).cells = 0 ∧ (mi_rm m6_placeOf).slots = 0 ∧ (mi_rm m9_needError).cells = 1 ∧ (mi_rm m9_needError).slots = 6 := ⟨rfl, rfl, rfl, rfl, rfl, rfl, rfl, rfl, rfl, rfl, rfl⟩
theorem okt_m9_errorReason (pc : Nat) : okT m9_errorReason pc := fun y hy => by cases hy
def bb9_errorReason_0 : List PI := [(1, .aload_n 0, 0, 0, 0, 0, kZ), (1, .iload_n 1, 0, 0, 0, 0, kZ), (3, .invokevirtual 297, 1, 9, 1, 0, m9_needError), (1, .aload_n 0, 0, 0, 0, 0, kZ), (3, .getfield 12, 9, 0, 0, 0, kZ), (3, .getfield 92, 7, 2, 0, 0, kZ), (1, .iload_n 1, 0, 0, 0, 0, kZ), (3, .invokevirtual 303, 1, 6, 0, 0, m6_reasonOf), (1, .ireturn, 0, 0, 0, 0, kZ)]
set_option maxRecDepth 100000 in
theorem oo9_errorReason_0 : okL m9_errorReason 0 bb9_errorReason_0 := okL_of _ _ (by decide +kernel) ⟨trivial, ⟨trivial, ⟨⟨mok_m9_needError, ⟨by decide, by decide⟩, rfl, by decide, lc_9_297, okt_m9_errorReason _⟩, ⟨trivial, ⟨lf_9_12, ⟨lf_9_92, ⟨trivial, ⟨⟨mok_m6_reasonOf, ⟨by decide, by decide⟩, rfl, by decide, Or.inr lc_9_303⟩, ⟨trivial, trivial⟩⟩⟩⟩⟩⟩⟩⟩⟩
def cd9_errorReason (t : Nat) : Option (List PI) := match t with
  | 0 => some bb9_errorReason_0
  | _ => none
theorem kd9_errorReason : ∀ t is, cd9_errorReason t = some is → okL m9_errorReason t is := by
  intro t is h
  unfold cd9_errorReason at h
  split at h <;> cases h
  · exact oo9_errorReason_0
theorem ff9_errorReason : mi_r m9_errorReason = (some .int) ∧ mi_l m9_errorReason = 2 ∧ mi_h m9_errorReason = [] ∧ (mi_rm m9_errorReason).cells = 1 ∧ (mi_rm m9_errorReason).slots = 6 ∧ (mi_rm m9_errorReason).locals = 105 ∧ cd9_errorReason 0 = some bb9_errorReason_0 ∧ (mi_rm m6_reasonOf).cells = 0 ∧ (mi_rm m6_reasonOf).slots = 0 ∧ (mi_rm m9_needError).cells = 1 ∧ (mi_rm m9_needError).slots = 6 := ⟨rfl, rfl, rfl, rfl, rfl, rfl, rfl, rfl, rfl, rfl, rfl⟩
def bb9_wouldReceive_0 : List PI := [(1, .aload_n 0, 0, 0, 0, 0, kZ), (3, .getfield 47, 9, 6, 0, 0, kZ), (1, .aload_n 0, 0, 0, 0, 0, kZ), (3, .getfield 12, 9, 0, 0, 0, kZ), (3, .getfield 83, 7, 1, 0, 0, kZ), (1, .aload_n 0, 0, 0, 0, 0, kZ), (3, .getfield 12, 9, 0, 0, 0, kZ), (3, .getfield 69, 7, 0, 0, 0, kZ), (3, .getfield 73, 2, 0, 0, 0, kZ), (1, .aload_n 0, 0, 0, 0, 0, kZ), (3, .getfield 54, 9, 7, 0, 0, kZ), (3, .invokevirtual 172, 3, 5, 0, 0, m5_readAll), (1, .aload_n 0, 0, 0, 0, 0, kZ), (3, .getfield 54, 9, 7, 0, 0, kZ), (3, .invokevirtual 176, 0, 6, 0, 0, m6_count), (1, .ireturn, 0, 0, 0, 0, kZ)]
set_option maxRecDepth 100000 in
theorem oo9_wouldReceive_0 : okL m9_wouldReceive 0 bb9_wouldReceive_0 := okL_of _ _ (by decide +kernel) ⟨trivial, ⟨lf_9_47, ⟨trivial, ⟨lf_9_12, ⟨lf_9_83, ⟨trivial, ⟨lf_9_12, ⟨lf_9_69, ⟨lf_9_73, ⟨trivial, ⟨lf_9_54, ⟨⟨mok_m5_readAll, ⟨by decide, by decide⟩, rfl, by decide, Or.inr lc_9_172⟩, ⟨trivial, ⟨lf_9_54, ⟨⟨mok_m6_count, ⟨by decide, by decide⟩, rfl, by decide, Or.inr lc_9_176⟩, ⟨trivial, trivial⟩⟩⟩⟩⟩⟩⟩⟩⟩⟩⟩⟩⟩⟩⟩⟩
def cd9_wouldReceive (t : Nat) : Option (List PI) := match t with
  | 0 => some bb9_wouldReceive_0
  | _ => none
theorem kd9_wouldReceive : ∀ t is, cd9_wouldReceive t = some is → okL m9_wouldReceive t is := by
  intro t is h
  unfold cd9_wouldReceive at h
  split at h <;> cases h
  · exact oo9_wouldReceive_0
theorem ff9_wouldReceive : mi_r m9_wouldReceive = (some .int) ∧ mi_l m9_wouldReceive = 1 ∧ mi_h m9_wouldReceive = [] ∧ (mi_rm m9_wouldReceive).cells = 0 ∧ (mi_rm m9_wouldReceive).slots = 0 ∧ (mi_rm m9_wouldReceive).locals = 181 ∧ cd9_wouldReceive 0 = some bb9_wouldReceive_0 ∧ (mi_rm m5_readAll).cells = 0 ∧ (mi_rm m5_readAll).slots = 0 ∧ (mi_rm m6_count).cells = 0 ∧ (mi_rm m6_count).slots = 0 := ⟨rfl, rfl, rfl, rfl, rfl, rfl, rfl, rfl, rfl, rfl, rfl⟩
def bb9_wouldBeRight_0 : List PI := [(1, .aload_n 0, 0, 0, 0, 0, kZ), (3, .getfield 47, 9, 6, 0, 0, kZ), (1, .aload_n 0, 0, 0, 0, 0, kZ), (3, .getfield 12, 9, 0, 0, 0, kZ), (3, .getfield 83, 7, 1, 0, 0, kZ), (1, .aload_n 0, 0, 0, 0, 0, kZ), (3, .getfield 12, 9, 0, 0, 0, kZ), (3, .getfield 69, 7, 0, 0, 0, kZ), (3, .getfield 73, 2, 0, 0, 0, kZ), (1, .aload_n 0, 0, 0, 0, 0, kZ), (3, .getfield 54, 9, 7, 0, 0, kZ), (3, .invokevirtual 172, 3, 5, 0, 0, m5_readAll), (1, .aload_n 0, 0, 0, 0, 0, kZ), (3, .getfield 54, 9, 7, 0, 0, kZ), (1, .aload_n 0, 0, 0, 0, 0, kZ), (3, .getfield 12, 9, 0, 0, 0, kZ), (3, .getfield 69, 7, 0, 0, 0, kZ), (3, .invokevirtual 290, 1, 6, 0, 0, m6_countAlike), (1, .ireturn, 0, 0, 0, 0, kZ)]
set_option maxRecDepth 100000 in
theorem oo9_wouldBeRight_0 : okL m9_wouldBeRight 0 bb9_wouldBeRight_0 := okL_of _ _ (by decide +kernel) ⟨trivial, ⟨lf_9_47, ⟨trivial, ⟨lf_9_12, ⟨lf_9_83, ⟨trivial, ⟨lf_9_12, ⟨lf_9_69, ⟨lf_9_73, ⟨trivial, ⟨lf_9_54, ⟨⟨mok_m5_readAll, ⟨by decide, by decide⟩, rfl, by decide, Or.inr lc_9_172⟩, ⟨trivial, ⟨lf_9_54, ⟨trivial, ⟨lf_9_12, ⟨lf_9_69, ⟨⟨mok_m6_countAlike, ⟨by decide, by decide⟩, rfl, by decide, Or.inr lc_9_290⟩, ⟨trivial, trivial⟩⟩⟩⟩⟩⟩⟩⟩⟩⟩⟩⟩⟩⟩⟩⟩⟩⟩⟩
def cd9_wouldBeRight (t : Nat) : Option (List PI) := match t with
  | 0 => some bb9_wouldBeRight_0
  | _ => none
theorem kd9_wouldBeRight : ∀ t is, cd9_wouldBeRight t = some is → okL m9_wouldBeRight t is := by
  intro t is h
  unfold cd9_wouldBeRight at h
  split at h <;> cases h
  · exact oo9_wouldBeRight_0
theorem ff9_wouldBeRight : mi_r m9_wouldBeRight = (some .int) ∧ mi_l m9_wouldBeRight = 1 ∧ mi_h m9_wouldBeRight = [] ∧ (mi_rm m9_wouldBeRight).cells = 0 ∧ (mi_rm m9_wouldBeRight).slots = 0 ∧ (mi_rm m9_wouldBeRight).locals = 181 ∧ cd9_wouldBeRight 0 = some bb9_wouldBeRight_0 ∧ (mi_rm m5_readAll).cells = 0 ∧ (mi_rm m5_readAll).slots = 0 ∧ (mi_rm m6_countAlike).cells = 0 ∧ (mi_rm m6_countAlike).slots = 0 := ⟨rfl, rfl, rfl, rfl, rfl, rfl, rfl, rfl, rfl, rfl, rfl⟩
theorem okt_m9_rightIfReplaced (pc : Nat) : okT m9_rightIfReplaced pc := fun y hy => by cases hy
def bb9_rightIfReplaced_0 : List PI := [(1, .aload_n 0, 0, 0, 0, 0, kZ), (1, .iload_n 1, 0, 0, 0, 0, kZ), (3, .invokevirtual 143, 1, 9, 1, 0, m9_needPlace), (1, .iload_n 2, 0, 0, 0, 0, kZ), (3, .invokestatic 146, 1, 9, 1, 0, m9_needNumber), (1, .aload_n 0, 0, 0, 0, 0, kZ), (3, .getfield 12, 9, 0, 0, 0, kZ), (3, .getfield 83, 7, 1, 0, 0, kZ), (1, .iload_n 1, 0, 0, 0, 0, kZ), (3, .invokevirtual 149, 1, 8, 0, 0, m8_at), (1, .istore_n 3, 0, 0, 0, 0, kZ), (1, .aload_n 0, 0, 0, 0, 0, kZ), (3, .getfield 12, 9, 0, 0, 0, kZ), (3, .getfield 83, 7, 1, 0, 0, kZ), (1, .iload_n 1, 0, 0, 0, 0, kZ), (1, .iload_n 2, 0, 0, 0, 0, kZ), (3, .invokevirtual 153, 2, 8, 0, 0, m8_put), (1, .pop, 0, 0, 0, 0, kZ), (1, .aload_n 0, 0, 0, 0, 0, kZ), (3, .getfield 47, 9, 6, 0, 0, kZ), (1, .aload_n 0, 0, 0, 0, 0, kZ), (3, .getfield 12, 9, 0, 0, 0, kZ), (3, .getfield 83, 7, 1, 0, 0, kZ), (1, .aload_n 0, 0, 0, 0, 0, kZ), (3, .getfield 12, 9, 0, 0, 0, kZ), (3, .getfield 69, 7, 0, 0, 0, kZ), (3, .getfield 73, 2, 0, 0, 0, kZ), (1, .aload_n 0, 0, 0, 0, 0, kZ), (3, .getfield 54, 9, 7, 0, 0, kZ), (3, .invokevirtual 172, 3, 5, 0, 0, m5_readAll), (1, .aload_n 0, 0, 0, 0, 0, kZ), (3, .getfield 12, 9, 0, 0, 0, kZ), (3, .getfield 83, 7, 1, 0, 0, kZ), (1, .iload_n 1, 0, 0, 0, 0, kZ), (1, .iload_n 3, 0, 0, 0, 0, kZ), (3, .invokevirtual 153, 2, 8, 0, 0, m8_put), (1, .pop, 0, 0, 0, 0, kZ), (1, .aload_n 0, 0, 0, 0, 0, kZ), (3, .getfield 54, 9, 7, 0, 0, kZ), (1, .aload_n 0, 0, 0, 0, 0, kZ), (3, .getfield 12, 9, 0, 0, 0, kZ), (3, .getfield 69, 7, 0, 0, 0, kZ), (3, .invokevirtual 290, 1, 6, 0, 0, m6_countAlike), (1, .ireturn, 0, 0, 0, 0, kZ)]
set_option maxRecDepth 100000 in
theorem oo9_rightIfReplaced_0 : okL m9_rightIfReplaced 0 bb9_rightIfReplaced_0 := okL_of _ _ (by decide +kernel) ⟨trivial, ⟨trivial, ⟨⟨mok_m9_needPlace, ⟨by decide, by decide⟩, rfl, by decide, lc_9_143, okt_m9_rightIfReplaced _⟩, ⟨trivial, ⟨⟨mok_m9_needNumber, ⟨by decide, by decide⟩, rfl, lc_9_146, okt_m9_rightIfReplaced _⟩, ⟨trivial, ⟨lf_9_12, ⟨lf_9_83, ⟨trivial, ⟨⟨mok_m8_at, ⟨by decide, by decide⟩, rfl, by decide, Or.inr lc_9_149⟩, ⟨trivial, ⟨trivial, ⟨lf_9_12, ⟨lf_9_83, ⟨trivial, ⟨trivial, ⟨⟨mok_m8_put, ⟨by decide, by decide⟩, rfl, by decide, Or.inr lc_9_153⟩, ⟨trivial, ⟨trivial, ⟨lf_9_47, ⟨trivial, ⟨lf_9_12, ⟨lf_9_83, ⟨trivial, ⟨lf_9_12, ⟨lf_9_69, ⟨lf_9_73, ⟨trivial, ⟨lf_9_54, ⟨⟨mok_m5_readAll, ⟨by decide, by decide⟩, rfl, by decide, Or.inr lc_9_172⟩, ⟨trivial, ⟨lf_9_12, ⟨lf_9_83, ⟨trivial, ⟨trivial, ⟨⟨mok_m8_put, ⟨by decide, by decide⟩, rfl, by decide, Or.inr lc_9_153⟩, ⟨trivial, ⟨trivial, ⟨lf_9_54, ⟨trivial, ⟨lf_9_12, ⟨lf_9_69, ⟨⟨mok_m6_countAlike, ⟨by decide, by decide⟩, rfl, by decide, Or.inr lc_9_290⟩, ⟨trivial, trivial⟩⟩⟩⟩⟩⟩⟩⟩⟩⟩⟩⟩⟩⟩⟩⟩⟩⟩⟩⟩⟩⟩⟩⟩⟩⟩⟩⟩⟩⟩⟩⟩⟩⟩⟩⟩⟩⟩⟩⟩⟩⟩⟩⟩
def cd9_rightIfReplaced (t : Nat) : Option (List PI) := match t with
  | 0 => some bb9_rightIfReplaced_0
  | _ => none
theorem kd9_rightIfReplaced : ∀ t is, cd9_rightIfReplaced t = some is → okL m9_rightIfReplaced t is := by
  intro t is h
  unfold cd9_rightIfReplaced at h
  split at h <;> cases h
  · exact oo9_rightIfReplaced_0
theorem ff9_rightIfReplaced : mi_r m9_rightIfReplaced = (some .int) ∧ mi_l m9_rightIfReplaced = 4 ∧ mi_h m9_rightIfReplaced = [] ∧ (mi_rm m9_rightIfReplaced).cells = 2 ∧ (mi_rm m9_rightIfReplaced).slots = 12 ∧ (mi_rm m9_rightIfReplaced).locals = 181 ∧ cd9_rightIfReplaced 0 = some bb9_rightIfReplaced_0 ∧ (mi_rm m5_readAll).cells = 0 ∧ (mi_rm m5_readAll).slots = 0 ∧ (mi_rm m6_countAlike).cells = 0 ∧ (mi_rm m6_countAlike).slots = 0 ∧ (mi_rm m8_at).cells = 0 ∧ (mi_rm m8_at).slots = 0 ∧ (mi_rm m8_put).cells = 0 ∧ (mi_rm m8_put).slots = 0 ∧ (mi_rm m9_needNumber).cells = 1 ∧ (mi_rm m9_needNumber).slots = 6 ∧ (mi_rm m9_needPlace).cells = 1 ∧ (mi_rm m9_needPlace).slots = 6 := ⟨rfl, rfl, rfl, rfl, rfl, rfl, rfl, rfl, rfl, rfl, rfl, rfl, rfl, rfl, rfl, rfl, rfl, rfl, rfl⟩
def bb9_codedShare_0 : List PI := [(1, .aload_n 0, 0, 0, 0, 0, kZ), (3, .getfield 12, 9, 0, 0, 0, kZ), (3, .getfield 69, 7, 0, 0, 0, kZ), (3, .getfield 73, 2, 0, 0, 0, kZ), (1, .aload_n 0, 0, 0, 0, 0, kZ), (3, .getfield 12, 9, 0, 0, 0, kZ), (3, .getfield 69, 7, 0, 0, 0, kZ), (3, .getfield 113, 2, 2, 0, 0, kZ), (1, .imul, 0, 0, 0, 0, kZ), (1, .istore_n 1, 0, 0, 0, 0, kZ), (1, .iload_n 1, 0, 0, 0, 0, kZ), (3, .ifCond .gt 5, 28, 0, 0, 0, kZ), (1, .dconst 0, 0, 0, 0, 0, kZ), (1, .dreturn, 0, 0, 0, 0, kZ)]
set_option maxRecDepth 100000 in
theorem oo9_codedShare_0 : okL m9_codedShare 0 bb9_codedShare_0 := okL_of _ _ (by decide +kernel) ⟨trivial, ⟨lf_9_12, ⟨lf_9_69, ⟨lf_9_73, ⟨trivial, ⟨lf_9_12, ⟨lf_9_69, ⟨lf_9_113, ⟨trivial, ⟨trivial, ⟨trivial, ⟨rfl, ⟨(show (0 : Nat) < 2 by decide), ⟨rfl, trivial⟩⟩⟩⟩⟩⟩⟩⟩⟩⟩⟩⟩⟩⟩
def bb9_codedShare_28 : List PI := [(1, .iconst 4, 0, 0, 0, 0, kZ), (1, .aload_n 0, 0, 0, 0, 0, kZ), (3, .invokevirtual 306, 0, 9, 0, 0, m9_wouldSend), (1, .imul, 0, 0, 0, 0, kZ), (1, .i2d, 0, 0, 0, 0, kZ), (1, .iload_n 1, 0, 0, 0, 0, kZ), (1, .i2d, 0, 0, 0, 0, kZ), (1, .ddiv, 0, 0, 0, 0, kZ), (1, .dreturn, 0, 0, 0, 0, kZ)]
set_option maxRecDepth 100000 in
theorem oo9_codedShare_28 : okL m9_codedShare 28 bb9_codedShare_28 := okL_of _ _ (by decide +kernel) ⟨trivial, ⟨trivial, ⟨⟨mok_m9_wouldSend, ⟨by decide, by decide⟩, rfl, by decide, Or.inl lc_9_306⟩, ⟨trivial, ⟨trivial, ⟨trivial, ⟨trivial, ⟨trivial, ⟨rfl, trivial⟩⟩⟩⟩⟩⟩⟩⟩⟩
def cd9_codedShare (t : Nat) : Option (List PI) := match t with
  | 0 => some bb9_codedShare_0
  | 28 => some bb9_codedShare_28
  | _ => none
theorem kd9_codedShare : ∀ t is, cd9_codedShare t = some is → okL m9_codedShare t is := by
  intro t is h
  unfold cd9_codedShare at h
  split at h <;> cases h
  · exact oo9_codedShare_0
  · exact oo9_codedShare_28
theorem ff9_codedShare : mi_r m9_codedShare = (some .double) ∧ mi_l m9_codedShare = 2 ∧ mi_h m9_codedShare = [] ∧ (mi_rm m9_codedShare).cells = 0 ∧ (mi_rm m9_codedShare).slots = 0 ∧ (mi_rm m9_codedShare).locals = 154 ∧ cd9_codedShare 0 = some bb9_codedShare_0 ∧ cd9_codedShare 28 = some bb9_codedShare_28 ∧ (mi_rm m9_wouldSend).cells = 0 ∧ (mi_rm m9_wouldSend).slots = 0 := ⟨rfl, rfl, rfl, rfl, rfl, rfl, rfl, rfl, rfl, rfl⟩
def bb9_bitsOf_0 : List PI := [(1, .dload_n 0, 0, 0, 0, 0, kZ), (1, .dconst 0, 0, 0, 0, 0, kZ), (1, .dcmp .g, 0, 0, 0, 0, kZ), (3, .ifCond .gt 5, 8, 0, 0, 0, kZ), (1, .lconst 0, 0, 0, 0, 0, kZ), (1, .lreturn, 0, 0, 0, 0, kZ)]
set_option maxRecDepth 100000 in
theorem oo9_bitsOf_0 : okL m9_bitsOf 0 bb9_bitsOf_0 := okL_of _ _ (by decide +kernel) ⟨trivial, ⟨(show (0 : Nat) < 2 by decide), ⟨trivial, ⟨rfl, ⟨trivial, ⟨rfl, trivial⟩⟩⟩⟩⟩⟩
def bb9_bitsOf_8 : List PI := [(1, .dload_n 0, 0, 0, 0, 0, kZ), (1, .dstore_n 2, 0, 0, 0, 0, kZ), (3, .ldc2_w 385, 0, 0, 0, 1023, kZ), (2, .lstore 4, 0, 0, 0, 0, kZ), (1, .iconst 0, 0, 0, 0, 0, kZ), (2, .istore 6, 0, 0, 0, 0, kZ)]
set_option maxRecDepth 100000 in
theorem oo9_bitsOf_8 : okL m9_bitsOf 8 bb9_bitsOf_8 := okL_of _ _ (by decide +kernel) ⟨trivial, ⟨trivial, ⟨(wt_3 162 (by decide +kernel) rfl), ⟨trivial, ⟨trivial, ⟨trivial, trivial⟩⟩⟩⟩⟩⟩
def bb9_bitsOf_18 : List PI := [(2, .iload 6, 0, 0, 0, 0, kZ), (3, .sipush 1100, 0, 0, 0, 0, kZ), (3, .if_icmp .ge 29, 52, 0, 0, 0, kZ), (1, .dload_n 2, 0, 0, 0, 0, kZ), (3, .ldc2_w 387, 4611686018427387904, 0, 1, 0, kZ), (1, .dcmp .l, 0, 0, 0, 0, kZ), (3, .ifCond .lt 21, 52, 0, 0, 0, kZ), (1, .dload_n 2, 0, 0, 0, 0, kZ), (3, .ldc2_w 387, 4611686018427387904, 0, 1, 0, kZ), (1, .ddiv, 0, 0, 0, 0, kZ), (1, .dstore_n 2, 0, 0, 0, 0, kZ), (2, .lload 4, 0, 0, 0, 0, kZ), (1, .lconst 1, 0, 0, 0, 0, kZ), (1, .ladd, 0, 0, 0, 0, kZ), (2, .lstore 4, 0, 0, 0, 0, kZ), (3, .iinc 6 1, 0, 0, 0, 0, kZ), (3, .goto (-31), 18, 0, 0, 0, kZ)]
set_option maxRecDepth 100000 in
theorem oo9_bitsOf_18 : okL m9_bitsOf 18 bb9_bitsOf_18 := okL_of _ _ (by decide +kernel) ⟨trivial, ⟨trivial, ⟨rfl, ⟨trivial, ⟨(wt_3 163 (by decide +kernel) rfl), ⟨trivial, ⟨rfl, ⟨trivial, ⟨(wt_3 163 (by decide +kernel) rfl), ⟨trivial, ⟨trivial, ⟨trivial, ⟨trivial, ⟨trivial, ⟨trivial, ⟨trivial, ⟨rfl, trivial⟩⟩⟩⟩⟩⟩⟩⟩⟩⟩⟩⟩⟩⟩⟩⟩⟩
def bb9_bitsOf_52 : List PI := [(1, .iconst 0, 0, 0, 0, 0, kZ), (2, .istore 6, 0, 0, 0, 0, kZ)]
set_option maxRecDepth 100000 in
theorem oo9_bitsOf_52 : okL m9_bitsOf 52 bb9_bitsOf_52 := okL_of _ _ (by decide +kernel) ⟨trivial, ⟨trivial, trivial⟩⟩
def bb9_bitsOf_55 : List PI := [(2, .iload 6, 0, 0, 0, 0, kZ), (3, .sipush 1100, 0, 0, 0, 0, kZ), (3, .if_icmp .ge 27, 87, 0, 0, 0, kZ), (1, .dload_n 2, 0, 0, 0, 0, kZ), (1, .dconst 1, 0, 0, 0, 0, kZ), (1, .dcmp .g, 0, 0, 0, 0, kZ), (3, .ifCond .ge 21, 87, 0, 0, 0, kZ), (1, .dload_n 2, 0, 0, 0, 0, kZ), (3, .ldc2_w 387, 4611686018427387904, 0, 1, 0, kZ), (1, .dmul, 0, 0, 0, 0, kZ), (1, .dstore_n 2, 0, 0, 0, 0, kZ), (2, .lload 4, 0, 0, 0, 0, kZ), (1, .lconst 1, 0, 0, 0, 0, kZ), (1, .lsub, 0, 0, 0, 0, kZ), (2, .lstore 4, 0, 0, 0, 0, kZ), (3, .iinc 6 1, 0, 0, 0, 0, kZ), (3, .goto (-29), 55, 0, 0, 0, kZ)]
set_option maxRecDepth 100000 in
theorem oo9_bitsOf_55 : okL m9_bitsOf 55 bb9_bitsOf_55 := okL_of _ _ (by decide +kernel) ⟨trivial, ⟨trivial, ⟨rfl, ⟨trivial, ⟨(show (1 : Nat) < 2 by decide), ⟨trivial, ⟨rfl, ⟨trivial, ⟨(wt_3 163 (by decide +kernel) rfl), ⟨trivial, ⟨trivial, ⟨trivial, ⟨trivial, ⟨trivial, ⟨trivial, ⟨trivial, ⟨rfl, trivial⟩⟩⟩⟩⟩⟩⟩⟩⟩⟩⟩⟩⟩⟩⟩⟩⟩
def bb9_bitsOf_87 : List PI := [(3, .ldc2_w 389, 4841369599423283200, 0, 1, 0, kZ), (2, .dstore 6, 0, 0, 0, 0, kZ), (2, .lload 4, 0, 0, 0, 0, kZ), (2, .bipush 52, 0, 0, 0, 0, kZ), (1, .lshl, 0, 0, 0, 0, kZ), (1, .dload_n 2, 0, 0, 0, 0, kZ), (1, .dconst 1, 0, 0, 0, 0, kZ), (1, .dsub, 0, 0, 0, 0, kZ), (2, .dload 6, 0, 0, 0, 0, kZ), (1, .dmul, 0, 0, 0, 0, kZ), (1, .d2l, 0, 0, 0, 0, kZ), (1, .ladd, 0, 0, 0, 0, kZ), (1, .lreturn, 0, 0, 0, 0, kZ)]
set_option maxRecDepth 100000 in
theorem oo9_bitsOf_87 : okL m9_bitsOf 87 bb9_bitsOf_87 := okL_of _ _ (by decide +kernel) ⟨(wt_3 164 (by decide +kernel) rfl), ⟨trivial, ⟨trivial, ⟨trivial, ⟨trivial, ⟨trivial, ⟨(show (1 : Nat) < 2 by decide), ⟨trivial, ⟨trivial, ⟨trivial, ⟨trivial, ⟨trivial, ⟨rfl, trivial⟩⟩⟩⟩⟩⟩⟩⟩⟩⟩⟩⟩⟩
def cd9_bitsOf (t : Nat) : Option (List PI) := match t with
  | 0 => some bb9_bitsOf_0
  | 8 => some bb9_bitsOf_8
  | 52 => some bb9_bitsOf_52
  | 87 => some bb9_bitsOf_87
  | _ => none
theorem kd9_bitsOf : ∀ t is, cd9_bitsOf t = some is → okL m9_bitsOf t is := by
  intro t is h
  unfold cd9_bitsOf at h
  split at h <;> cases h
  · exact oo9_bitsOf_0
  · exact oo9_bitsOf_8
  · exact oo9_bitsOf_52
  · exact oo9_bitsOf_87
theorem ff9_bitsOf : mi_r m9_bitsOf = (some .long) ∧ mi_l m9_bitsOf = 8 ∧ mi_h m9_bitsOf = [] ∧ (mi_rm m9_bitsOf).cells = 0 ∧ (mi_rm m9_bitsOf).slots = 0 ∧ (mi_rm m9_bitsOf).locals = 32 ∧ cd9_bitsOf 0 = some bb9_bitsOf_0 ∧ cd9_bitsOf 8 = some bb9_bitsOf_8 ∧ cd9_bitsOf 18 = none ∧ cd9_bitsOf 52 = some bb9_bitsOf_52 ∧ cd9_bitsOf 55 = none ∧ cd9_bitsOf 87 = some bb9_bitsOf_87 := ⟨rfl, rfl, rfl, rfl, rfl, rfl, rfl, rfl, rfl, rfl, rfl, rfl⟩
def bb9_mix_0 : List PI := [(3, .ldc2_w 383, 0, 0, 0, 31, kZ), (1, .lload_n 0, 0, 0, 0, 0, kZ), (1, .lmul, 0, 0, 0, 0, kZ), (1, .lload_n 2, 0, 0, 0, 0, kZ), (1, .ladd, 0, 0, 0, 0, kZ), (1, .lreturn, 0, 0, 0, 0, kZ)]
set_option maxRecDepth 100000 in
theorem oo9_mix_0 : okL m9_mix 0 bb9_mix_0 := okL_of _ _ (by decide +kernel) ⟨(wt_3 117 (by decide +kernel) rfl), ⟨trivial, ⟨trivial, ⟨trivial, ⟨trivial, ⟨rfl, trivial⟩⟩⟩⟩⟩⟩
def cd9_mix (t : Nat) : Option (List PI) := match t with
  | 0 => some bb9_mix_0
  | _ => none
theorem kd9_mix : ∀ t is, cd9_mix t = some is → okL m9_mix t is := by
  intro t is h
  unfold cd9_mix at h
  split at h <;> cases h
  · exact oo9_mix_0
theorem ff9_mix : mi_r m9_mix = (some .long) ∧ mi_l m9_mix = 4 ∧ mi_h m9_mix = [] ∧ (mi_rm m9_mix).cells = 0 ∧ (mi_rm m9_mix).slots = 0 ∧ (mi_rm m9_mix).locals = 32 ∧ cd9_mix 0 = some bb9_mix_0 := ⟨rfl, rfl, rfl, rfl, rfl, rfl, rfl⟩
def bb9_mixLine_0 : List PI := [(1, .aload_n 0, 0, 0, 0, 0, kZ), (3, .getfield 12, 9, 0, 0, 0, kZ), (3, .getfield 69, 7, 0, 0, 0, kZ), (1, .iload_n 3, 0, 0, 0, 0, kZ), (3, .invokevirtual 119, 1, 2, 0, 0, m2_rowOf), (1, .aload_n 0, 0, 0, 0, 0, kZ), (3, .getfield 12, 9, 0, 0, 0, kZ), (3, .getfield 69, 7, 0, 0, 0, kZ), (3, .getfield 73, 2, 0, 0, 0, kZ), (3, .invokestatic 248, 2, 9, 0, 0, m9_bordersOf), (2, .lstore 4, 0, 0, 0, 0, kZ), (1, .lload_n 1, 0, 0, 0, 0, kZ), (1, .aload_n 0, 0, 0, 0, 0, kZ), (3, .getfield 12, 9, 0, 0, 0, kZ), (3, .getfield 69, 7, 0, 0, 0, kZ), (1, .iload_n 3, 0, 0, 0, 0, kZ), (3, .invokevirtual 119, 1, 2, 0, 0, m2_rowOf), (3, .invokestatic 313, 2, 9, 0, 0, m9_mix), (2, .lstore 6, 0, 0, 0, 0, kZ), (2, .lload 6, 0, 0, 0, 0, kZ), (1, .iconst 1, 0, 0, 0, 0, kZ), (2, .lload 4, 0, 0, 0, 0, kZ), (3, .invokestatic 252, 1, 0, 0, 0, mJ13_bitCount), (1, .iadd, 0, 0, 0, 0, kZ), (1, .i2l, 0, 0, 0, 0, kZ), (3, .invokestatic 313, 2, 9, 0, 0, m9_mix), (2, .lstore 6, 0, 0, 0, 0, kZ), (2, .lload 6, 0, 0, 0, 0, kZ), (2, .lload 4, 0, 0, 0, 0, kZ), (1, .aload_n 0, 0, 0, 0, 0, kZ), (3, .getfield 12, 9, 0, 0, 0, kZ), (3, .getfield 69, 7, 0, 0, 0, kZ), (3, .getfield 73, 2, 0, 0, 0, kZ), (3, .invokestatic 258, 2, 9, 0, 0, m9_longestBetween), (1, .i2l, 0, 0, 0, 0, kZ), (3, .invokestatic 313, 2, 9, 0, 0, m9_mix), (2, .lstore 6, 0, 0, 0, 0, kZ), (2, .lload 6, 0, 0, 0, 0, kZ), (1, .aload_n 0, 0, 0, 0, 0, kZ), (1, .iload_n 3, 0, 0, 0, 0, kZ), (3, .invokevirtual 274, 1, 9, 0, 0, m9_modeToSend), (1, .i2l, 0, 0, 0, 0, kZ), (3, .invokestatic 313, 2, 9, 0, 0, m9_mix), (2, .lstore 6, 0, 0, 0, 0, kZ), (1, .iconst 0, 0, 0, 0, 0, kZ), (2, .istore 8, 0, 0, 0, 0, kZ)]
set_option maxRecDepth 100000 in
theorem oo9_mixLine_0 : okL m9_mixLine 0 bb9_mixLine_0 := okL_of _ _ (by decide +kernel) ⟨trivial, ⟨lf_9_12, ⟨lf_9_69, ⟨trivial, ⟨⟨mok_m2_rowOf, ⟨by decide, by decide⟩, rfl, by decide, Or.inr lc_9_119⟩, ⟨trivial, ⟨lf_9_12, ⟨lf_9_69, ⟨lf_9_73, ⟨⟨mok_m9_bordersOf, ⟨by decide, by decide⟩, rfl, Or.inl lc_9_248⟩, ⟨trivial, ⟨trivial, ⟨trivial, ⟨lf_9_12, ⟨lf_9_69, ⟨trivial, ⟨⟨mok_m2_rowOf, ⟨by decide, by decide⟩, rfl, by decide, Or.inr lc_9_119⟩, ⟨⟨mok_m9_mix, ⟨by decide, by decide⟩, rfl, Or.inl lc_9_313⟩, ⟨trivial, ⟨trivial, ⟨trivial, ⟨trivial, ⟨⟨mok_mJ13_bitCount, ⟨by decide, by decide⟩, rfl, Or.inl lc_9_252⟩, ⟨trivial, ⟨trivial, ⟨⟨mok_m9_mix, ⟨by decide, by decide⟩, rfl, Or.inl lc_9_313⟩, ⟨trivial, ⟨trivial, ⟨trivial, ⟨trivial, ⟨lf_9_12, ⟨lf_9_69, ⟨lf_9_73, ⟨⟨mok_m9_longestBetween, ⟨by decide, by decide⟩, rfl, Or.inl lc_9_258⟩, ⟨trivial, ⟨⟨mok_m9_mix, ⟨by decide, by decide⟩, rfl, Or.inl lc_9_313⟩, ⟨trivial, ⟨trivial, ⟨trivial, ⟨trivial, ⟨⟨mok_m9_modeToSend, ⟨by decide, by decide⟩, rfl, by decide, Or.inl lc_9_274⟩, ⟨trivial, ⟨⟨mok_m9_mix, ⟨by decide, by decide⟩, rfl, Or.inl lc_9_313⟩, ⟨trivial, ⟨trivial, ⟨trivial, trivial⟩⟩⟩⟩⟩⟩⟩⟩⟩⟩⟩⟩⟩⟩⟩⟩⟩⟩⟩⟩⟩⟩⟩⟩⟩⟩⟩⟩⟩⟩⟩⟩⟩⟩⟩⟩⟩⟩⟩⟩⟩⟩⟩⟩⟩⟩
def bb9_mixLine_97 : List PI := [(2, .iload 8, 0, 0, 0, 0, kZ), (1, .iconst 3, 0, 0, 0, 0, kZ), (3, .if_icmp .ge 71, 171, 0, 0, 0, kZ), (1, .aload_n 0, 0, 0, 0, 0, kZ), (3, .getfield 40, 9, 5, 0, 0, kZ), (1, .aload_n 0, 0, 0, 0, 0, kZ), (3, .getfield 12, 9, 0, 0, 0, kZ), (3, .getfield 69, 7, 0, 0, 0, kZ), (1, .iload_n 3, 0, 0, 0, 0, kZ), (2, .iload 8, 0, 0, 0, 0, kZ), (3, .invokevirtual 265, 3, 0, 0, 0, m0_write), (2, .lload 6, 0, 0, 0, 0, kZ), (1, .aload_n 0, 0, 0, 0, 0, kZ), (3, .getfield 40, 9, 5, 0, 0, kZ), (3, .getfield 269, 0, 3, 0, 0, kZ), (1, .i2l, 0, 0, 0, 0, kZ), (3, .invokestatic 313, 2, 9, 0, 0, m9_mix), (2, .lstore 6, 0, 0, 0, 0, kZ), (2, .lload 6, 0, 0, 0, 0, kZ), (1, .aload_n 0, 0, 0, 0, 0, kZ), (1, .iload_n 3, 0, 0, 0, 0, kZ), (2, .iload 8, 0, 0, 0, 0, kZ), (3, .invokevirtual 270, 2, 9, 0, 0, m9_countedLength), (1, .i2l, 0, 0, 0, 0, kZ), (3, .invokestatic 313, 2, 9, 0, 0, m9_mix), (2, .lstore 6, 0, 0, 0, 0, kZ), (2, .lload 6, 0, 0, 0, 0, kZ), (1, .aload_n 0, 0, 0, 0, 0, kZ), (3, .getfield 40, 9, 5, 0, 0, kZ), (3, .getfield 277, 0, 4, 0, 0, kZ), (1, .i2l, 0, 0, 0, 0, kZ), (3, .invokestatic 313, 2, 9, 0, 0, m9_mix), (2, .lstore 6, 0, 0, 0, 0, kZ), (3, .iinc 8 1, 0, 0, 0, 0, kZ), (3, .goto (-71), 97, 0, 0, 0, kZ)]
set_option maxRecDepth 100000 in
theorem oo9_mixLine_97 : okL m9_mixLine 97 bb9_mixLine_97 := okL_of _ _ (by decide +kernel) ⟨trivial, ⟨trivial, ⟨rfl, ⟨trivial, ⟨lf_9_40, ⟨trivial, ⟨lf_9_12, ⟨lf_9_69, ⟨trivial, ⟨trivial, ⟨⟨mok_m0_write, ⟨by decide, by decide⟩, rfl, by decide, Or.inr lc_9_265⟩, ⟨trivial, ⟨trivial, ⟨lf_9_40, ⟨lf_9_269, ⟨trivial, ⟨⟨mok_m9_mix, ⟨by decide, by decide⟩, rfl, Or.inl lc_9_313⟩, ⟨trivial, ⟨trivial, ⟨trivial, ⟨trivial, ⟨trivial, ⟨⟨mok_m9_countedLength, ⟨by decide, by decide⟩, rfl, by decide, Or.inl lc_9_270⟩, ⟨trivial, ⟨⟨mok_m9_mix, ⟨by decide, by decide⟩, rfl, Or.inl lc_9_313⟩, ⟨trivial, ⟨trivial, ⟨trivial, ⟨lf_9_40, ⟨lf_9_277, ⟨trivial, ⟨⟨mok_m9_mix, ⟨by decide, by decide⟩, rfl, Or.inl lc_9_313⟩, ⟨trivial, ⟨trivial, ⟨rfl, trivial⟩⟩⟩⟩⟩⟩⟩⟩⟩⟩⟩⟩⟩⟩⟩⟩⟩⟩⟩⟩⟩⟩⟩⟩⟩⟩⟩⟩⟩⟩⟩⟩⟩⟩⟩
def bb9_mixLine_171 : List PI := [(2, .lload 6, 0, 0, 0, 0, kZ), (1, .lreturn, 0, 0, 0, 0, kZ)]
set_option maxRecDepth 100000 in
theorem oo9_mixLine_171 : okL m9_mixLine 171 bb9_mixLine_171 := okL_of _ _ (by decide +kernel) ⟨trivial, ⟨rfl, trivial⟩⟩
def cd9_mixLine (t : Nat) : Option (List PI) := match t with
  | 0 => some bb9_mixLine_0
  | 171 => some bb9_mixLine_171
  | _ => none
theorem kd9_mixLine : ∀ t is, cd9_mixLine t = some is → okL m9_mixLine t is := by
  intro t is h
  unfold cd9_mixLine at h
  split at h <;> cases h
  · exact oo9_mixLine_0
  · exact oo9_mixLine_171
theorem ff9_mixLine : mi_r m9_mixLine = (some .long) ∧ mi_l m9_mixLine = 9 ∧ mi_h m9_mixLine = [] ∧ (mi_rm m9_mixLine).cells = 0 ∧ (mi_rm m9_mixLine).slots = 0 ∧ (mi_rm m9_mixLine).locals = 132 ∧ cd9_mixLine 0 = some bb9_mixLine_0 ∧ cd9_mixLine 97 = none ∧ cd9_mixLine 171 = some bb9_mixLine_171 ∧ (mi_rm m0_write).cells = 0 ∧ (mi_rm m0_write).slots = 0 ∧ (mi_rm m2_rowOf).cells = 0 ∧ (mi_rm m2_rowOf).slots = 0 ∧ (mi_rm m9_bordersOf).cells = 0 ∧ (mi_rm m9_bordersOf).slots = 0 ∧ (mi_rm m9_countedLength).cells = 0 ∧ (mi_rm m9_countedLength).slots = 0 ∧ (mi_rm m9_longestBetween).cells = 0 ∧ (mi_rm m9_longestBetween).slots = 0 ∧ (mi_rm m9_mix).cells = 0 ∧ (mi_rm m9_mix).slots = 0 ∧ (mi_rm m9_modeToSend).cells = 0 ∧ (mi_rm m9_modeToSend).slots = 0 ∧ (mi_rm mJ13_bitCount).cells = 0 ∧ (mi_rm mJ13_bitCount).slots = 0 := ⟨rfl, rfl, rfl, rfl, rfl, rfl, rfl, rfl, rfl, rfl, rfl, rfl, rfl, rfl, rfl, rfl, rfl, rfl, rfl, rfl, rfl, rfl, rfl, rfl, rfl⟩
def bb9_mixReception_0 : List PI := [(1, .lload_n 1, 0, 0, 0, 0, kZ), (1, .lstore_n 3, 0, 0, 0, 0, kZ), (1, .iconst 0, 0, 0, 0, 0, kZ), (2, .istore 5, 0, 0, 0, 0, kZ)]
set_option maxRecDepth 100000 in
theorem oo9_mixReception_0 : okL m9_mixReception 0 bb9_mixReception_0 := okL_of _ _ (by decide +kernel) ⟨trivial, ⟨trivial, ⟨trivial, ⟨trivial, trivial⟩⟩⟩⟩
def bb9_mixReception_5 : List PI := [(2, .iload 5, 0, 0, 0, 0, kZ), (2, .bipush 10, 0, 0, 0, 0, kZ), (3, .if_icmp .ge 60, 69, 0, 0, 0, kZ), (1, .aload_n 0, 0, 0, 0, 0, kZ), (3, .getfield 12, 9, 0, 0, 0, kZ), (3, .getfield 92, 7, 2, 0, 0, kZ), (2, .iload 5, 0, 0, 0, 0, kZ), (3, .invokevirtual 286, 1, 6, 0, 0, m6_has), (2, .istore 6, 0, 0, 0, 0, kZ), (1, .lload_n 3, 0, 0, 0, 0, kZ), (2, .iload 6, 0, 0, 0, 0, kZ), (3, .ifCond .eq 7, 36, 0, 0, 0, kZ), (1, .lconst 1, 0, 0, 0, 0, kZ), (3, .goto 4, 37, 0, 0, 0, kZ)]
set_option maxRecDepth 100000 in
theorem oo9_mixReception_5 : okL m9_mixReception 5 bb9_mixReception_5 := okL_of _ _ (by decide +kernel) ⟨trivial, ⟨trivial, ⟨rfl, ⟨trivial, ⟨lf_9_12, ⟨lf_9_92, ⟨trivial, ⟨⟨mok_m6_has, ⟨by decide, by decide⟩, rfl, by decide, Or.inr lc_9_286⟩, ⟨trivial, ⟨trivial, ⟨trivial, ⟨rfl, ⟨trivial, ⟨rfl, trivial⟩⟩⟩⟩⟩⟩⟩⟩⟩⟩⟩⟩⟩⟩
def bb9_mixReception_36 : List PI := [(1, .lconst 0, 0, 0, 0, 0, kZ)]
set_option maxRecDepth 100000 in
theorem oo9_mixReception_36 : okL m9_mixReception 36 bb9_mixReception_36 := okL_of _ _ (by decide +kernel) ⟨trivial, trivial⟩
def bb9_mixReception_37 : List PI := [(3, .invokestatic 313, 2, 9, 0, 0, m9_mix), (1, .lstore_n 3, 0, 0, 0, 0, kZ), (2, .iload 6, 0, 0, 0, 0, kZ), (3, .ifCond .eq 20, 63, 0, 0, 0, kZ), (1, .lload_n 3, 0, 0, 0, 0, kZ), (1, .aload_n 0, 0, 0, 0, 0, kZ), (3, .getfield 12, 9, 0, 0, 0, kZ), (3, .getfield 92, 7, 2, 0, 0, kZ), (2, .iload 5, 0, 0, 0, 0, kZ), (3, .invokevirtual 289, 1, 6, 0, 0, m6_rowOf), (3, .invokestatic 313, 2, 9, 0, 0, m9_mix), (1, .lstore_n 3, 0, 0, 0, 0, kZ)]
set_option maxRecDepth 100000 in
theorem oo9_mixReception_37 : okL m9_mixReception 37 bb9_mixReception_37 := okL_of _ _ (by decide +kernel) ⟨⟨mok_m9_mix, ⟨by decide, by decide⟩, rfl, Or.inl lc_9_313⟩, ⟨trivial, ⟨trivial, ⟨rfl, ⟨trivial, ⟨trivial, ⟨lf_9_12, ⟨lf_9_92, ⟨trivial, ⟨⟨mok_m6_rowOf, ⟨by decide, by decide⟩, rfl, by decide, Or.inr lc_9_289⟩, ⟨⟨mok_m9_mix, ⟨by decide, by decide⟩, rfl, Or.inl lc_9_313⟩, ⟨trivial, trivial⟩⟩⟩⟩⟩⟩⟩⟩⟩⟩⟩⟩
def bb9_mixReception_63 : List PI := [(3, .iinc 5 1, 0, 0, 0, 0, kZ), (3, .goto (-61), 5, 0, 0, 0, kZ)]
set_option maxRecDepth 100000 in
theorem oo9_mixReception_63 : okL m9_mixReception 63 bb9_mixReception_63 := okL_of _ _ (by decide +kernel) ⟨trivial, ⟨rfl, trivial⟩⟩
def bb9_mixReception_69 : List PI := [(1, .iconst 0, 0, 0, 0, 0, kZ), (2, .istore 5, 0, 0, 0, 0, kZ)]
set_option maxRecDepth 100000 in
theorem oo9_mixReception_69 : okL m9_mixReception 69 bb9_mixReception_69 := okL_of _ _ (by decide +kernel) ⟨trivial, ⟨trivial, trivial⟩⟩
def bb9_mixReception_72 : List PI := [(2, .iload 5, 0, 0, 0, 0, kZ), (1, .aload_n 0, 0, 0, 0, 0, kZ), (3, .getfield 12, 9, 0, 0, 0, kZ), (3, .getfield 92, 7, 2, 0, 0, kZ), (3, .getfield 294, 6, 2, 0, 0, kZ), (3, .if_icmp .ge 45, 129, 0, 0, 0, kZ), (1, .lload_n 3, 0, 0, 0, 0, kZ), (1, .aload_n 0, 0, 0, 0, 0, kZ), (3, .getfield 12, 9, 0, 0, 0, kZ), (3, .getfield 92, 7, 2, 0, 0, kZ), (2, .iload 5, 0, 0, 0, 0, kZ), (3, .invokevirtual 300, 1, 6, 0, 0, m6_placeOf), (1, .i2l, 0, 0, 0, 0, kZ), (3, .invokestatic 313, 2, 9, 0, 0, m9_mix), (1, .lstore_n 3, 0, 0, 0, 0, kZ), (1, .lload_n 3, 0, 0, 0, 0, kZ), (1, .aload_n 0, 0, 0, 0, 0, kZ), (3, .getfield 12, 9, 0, 0, 0, kZ), (3, .getfield 92, 7, 2, 0, 0, kZ), (2, .iload 5, 0, 0, 0, 0, kZ), (3, .invokevirtual 303, 1, 6, 0, 0, m6_reasonOf), (1, .i2l, 0, 0, 0, 0, kZ), (3, .invokestatic 313, 2, 9, 0, 0, m9_mix), (1, .lstore_n 3, 0, 0, 0, 0, kZ), (3, .iinc 5 1, 0, 0, 0, 0, kZ), (3, .goto (-54), 72, 0, 0, 0, kZ)]
set_option maxRecDepth 100000 in
theorem oo9_mixReception_72 : okL m9_mixReception 72 bb9_mixReception_72 := okL_of _ _ (by decide +kernel) ⟨trivial, ⟨trivial, ⟨lf_9_12, ⟨lf_9_92, ⟨lf_9_294, ⟨rfl, ⟨trivial, ⟨trivial, ⟨lf_9_12, ⟨lf_9_92, ⟨trivial, ⟨⟨mok_m6_placeOf, ⟨by decide, by decide⟩, rfl, by decide, Or.inr lc_9_300⟩, ⟨trivial, ⟨⟨mok_m9_mix, ⟨by decide, by decide⟩, rfl, Or.inl lc_9_313⟩, ⟨trivial, ⟨trivial, ⟨trivial, ⟨lf_9_12, ⟨lf_9_92, ⟨trivial, ⟨⟨mok_m6_reasonOf, ⟨by decide, by decide⟩, rfl, by decide, Or.inr lc_9_303⟩, ⟨trivial, ⟨⟨mok_m9_mix, ⟨by decide, by decide⟩, rfl, Or.inl lc_9_313⟩, ⟨trivial, ⟨trivial, ⟨rfl, trivial⟩⟩⟩⟩⟩⟩⟩⟩⟩⟩⟩⟩⟩⟩⟩⟩⟩⟩⟩⟩⟩⟩⟩⟩⟩⟩
def bb9_mixReception_129 : List PI := [(1, .lload_n 3, 0, 0, 0, 0, kZ), (1, .lreturn, 0, 0, 0, 0, kZ)]
set_option maxRecDepth 100000 in
theorem oo9_mixReception_129 : okL m9_mixReception 129 bb9_mixReception_129 := okL_of _ _ (by decide +kernel) ⟨trivial, ⟨rfl, trivial⟩⟩
def cd9_mixReception (t : Nat) : Option (List PI) := match t with
  | 0 => some bb9_mixReception_0
  | 36 => some bb9_mixReception_36
  | 37 => some bb9_mixReception_37
  | 63 => some bb9_mixReception_63
  | 69 => some bb9_mixReception_69
  | 129 => some bb9_mixReception_129
  | _ => none
theorem kd9_mixReception : ∀ t is, cd9_mixReception t = some is → okL m9_mixReception t is := by
  intro t is h
  unfold cd9_mixReception at h
  split at h <;> cases h
  · exact oo9_mixReception_0
  · exact oo9_mixReception_36
  · exact oo9_mixReception_37
  · exact oo9_mixReception_63
  · exact oo9_mixReception_69
  · exact oo9_mixReception_129
theorem ff9_mixReception : mi_r m9_mixReception = (some .long) ∧ mi_l m9_mixReception = 7 ∧ mi_h m9_mixReception = [] ∧ (mi_rm m9_mixReception).cells = 0 ∧ (mi_rm m9_mixReception).slots = 0 ∧ (mi_rm m9_mixReception).locals = 74 ∧ cd9_mixReception 0 = some bb9_mixReception_0 ∧ cd9_mixReception 5 = none ∧ cd9_mixReception 36 = some bb9_mixReception_36 ∧ cd9_mixReception 37 = some bb9_mixReception_37 ∧ cd9_mixReception 63 = some bb9_mixReception_63 ∧ cd9_mixReception 69 = some bb9_mixReception_69 ∧ cd9_mixReception 72 = none ∧ cd9_mixReception 129 = some bb9_mixReception_129 ∧ (mi_rm m6_has).cells = 0 ∧ (mi_rm m6_has).slots = 0 ∧ (mi_rm m6_placeOf).cells = 0 ∧ (mi_rm m6_placeOf).slots = 0 ∧ (mi_rm m6_reasonOf).cells = 0 ∧ (mi_rm m6_reasonOf).slots = 0 ∧ (mi_rm m6_rowOf).cells = 0 ∧ (mi_rm m6_rowOf).slots = 0 ∧ (mi_rm m9_mix).cells = 0 ∧ (mi_rm m9_mix).slots = 0 := ⟨rfl, rfl, rfl, rfl, rfl, rfl, rfl, rfl, rfl, rfl, rfl, rfl, rfl, rfl, rfl, rfl, rfl, rfl, rfl, rfl, rfl, rfl, rfl, rfl⟩
def bb9_digest_0 : List PI := [(3, .ldc2_w 309, 0, 0, 0, 4409, kZ), (1, .lstore_n 1, 0, 0, 0, 0, kZ), (1, .lload_n 1, 0, 0, 0, 0, kZ), (1, .aload_n 0, 0, 0, 0, 0, kZ), (3, .invokevirtual 311, 0, 9, 0, 0, m9_width), (1, .i2l, 0, 0, 0, 0, kZ), (3, .invokestatic 313, 2, 9, 0, 0, m9_mix), (1, .lstore_n 1, 0, 0, 0, 0, kZ), (1, .lload_n 1, 0, 0, 0, 0, kZ), (1, .aload_n 0, 0, 0, 0, 0, kZ), (3, .invokevirtual 317, 0, 9, 0, 0, m9_lines), (1, .i2l, 0, 0, 0, 0, kZ), (3, .invokestatic 313, 2, 9, 0, 0, m9_mix), (1, .lstore_n 1, 0, 0, 0, 0, kZ), (1, .lload_n 1, 0, 0, 0, 0, kZ), (1, .aload_n 0, 0, 0, 0, 0, kZ), (3, .invokevirtual 320, 0, 9, 0, 0, m9_style), (1, .i2l, 0, 0, 0, 0, kZ), (3, .invokestatic 313, 2, 9, 0, 0, m9_mix), (1, .lstore_n 1, 0, 0, 0, 0, kZ), (1, .lload_n 1, 0, 0, 0, 0, kZ), (1, .aload_n 0, 0, 0, 0, 0, kZ), (3, .invokevirtual 322, 0, 9, 0, 0, m9_blackPixels), (1, .i2l, 0, 0, 0, 0, kZ), (3, .invokestatic 313, 2, 9, 0, 0, m9_mix), (1, .lstore_n 1, 0, 0, 0, 0, kZ), (1, .lload_n 1, 0, 0, 0, 0, kZ), (1, .aload_n 0, 0, 0, 0, 0, kZ), (3, .invokevirtual 306, 0, 9, 0, 0, m9_wouldSend), (1, .i2l, 0, 0, 0, 0, kZ), (3, .invokestatic 313, 2, 9, 0, 0, m9_mix), (1, .lstore_n 1, 0, 0, 0, 0, kZ), (1, .lload_n 1, 0, 0, 0, 0, kZ), (1, .aload_n 0, 0, 0, 0, 0, kZ), (3, .invokevirtual 325, 0, 9, 0, 0, m9_streamLength), (1, .i2l, 0, 0, 0, 0, kZ), (3, .invokestatic 313, 2, 9, 0, 0, m9_mix), (1, .lstore_n 1, 0, 0, 0, 0, kZ), (1, .lload_n 1, 0, 0, 0, 0, kZ), (1, .aload_n 0, 0, 0, 0, 0, kZ), (3, .invokevirtual 328, 0, 9, 0, 0, m9_markers), (1, .i2l, 0, 0, 0, 0, kZ), (3, .invokestatic 313, 2, 9, 0, 0, m9_mix), (1, .lstore_n 1, 0, 0, 0, 0, kZ), (1, .lload_n 1, 0, 0, 0, 0, kZ), (1, .aload_n 0, 0, 0, 0, 0, kZ), (3, .invokevirtual 331, 0, 9, 0, 0, m9_received), (1, .i2l, 0, 0, 0, 0, kZ), (3, .invokestatic 313, 2, 9, 0, 0, m9_mix), (1, .lstore_n 1, 0, 0, 0, 0, kZ), (1, .lload_n 1, 0, 0, 0, 0, kZ), (1, .aload_n 0, 0, 0, 0, 0, kZ), (3, .invokevirtual 334, 0, 9, 0, 0, m9_right), (1, .i2l, 0, 0, 0, 0, kZ), (3, .invokestatic 313, 2, 9, 0, 0, m9_mix), (1, .lstore_n 1, 0, 0, 0, 0, kZ), (1, .lload_n 1, 0, 0, 0, 0, kZ), (1, .aload_n 0, 0, 0, 0, 0, kZ), (3, .invokevirtual 337, 0, 9, 0, 0, m9_errors), (1, .i2l, 0, 0, 0, 0, kZ), (3, .invokestatic 313, 2, 9, 0, 0, m9_mix), (1, .lstore_n 1, 0, 0, 0, 0, kZ), (1, .lload_n 1, 0, 0, 0, 0, kZ), (1, .aload_n 0, 0, 0, 0, 0, kZ), (3, .invokevirtual 340, 0, 9, 0, 0, m9_wouldReceive), (1, .i2l, 0, 0, 0, 0, kZ), (3, .invokestatic 313, 2, 9, 0, 0, m9_mix), (1, .lstore_n 1, 0, 0, 0, 0, kZ), (1, .lload_n 1, 0, 0, 0, 0, kZ), (1, .aload_n 0, 0, 0, 0, 0, kZ), (3, .invokevirtual 343, 0, 9, 0, 0, m9_wouldBeRight), (1, .i2l, 0, 0, 0, 0, kZ), (3, .invokestatic 313, 2, 9, 0, 0, m9_mix), (1, .lstore_n 1, 0, 0, 0, 0, kZ), (1, .lload_n 1, 0, 0, 0, 0, kZ), (1, .aload_n 0, 0, 0, 0, 0, kZ), (3, .invokevirtual 346, 0, 9, 0, 0, m9_savedStates), (1, .i2l, 0, 0, 0, 0, kZ), (3, .invokestatic 313, 2, 9, 0, 0, m9_mix), (1, .lstore_n 1, 0, 0, 0, 0, kZ), (1, .iconst 0, 0, 0, 0, 0, kZ), (1, .istore_n 3, 0, 0, 0, 0, kZ)]
set_option maxRecDepth 100000 in
theorem oo9_digest_0 : okL m9_digest 0 bb9_digest_0 := okL_of _ _ (by decide +kernel) ⟨(wt_3 112 (by decide +kernel) rfl), ⟨trivial, ⟨trivial, ⟨trivial, ⟨⟨mok_m9_width, ⟨by decide, by decide⟩, rfl, by decide, Or.inl lc_9_311⟩, ⟨trivial, ⟨⟨mok_m9_mix, ⟨by decide, by decide⟩, rfl, Or.inl lc_9_313⟩, ⟨trivial, ⟨trivial, ⟨trivial, ⟨⟨mok_m9_lines, ⟨by decide, by decide⟩, rfl, by decide, Or.inl lc_9_317⟩, ⟨trivial, ⟨⟨mok_m9_mix, ⟨by decide, by decide⟩, rfl, Or.inl lc_9_313⟩, ⟨trivial, ⟨trivial, ⟨trivial, ⟨⟨mok_m9_style, ⟨by decide, by decide⟩, rfl, by decide, Or.inl lc_9_320⟩, ⟨trivial, ⟨⟨mok_m9_mix, ⟨by decide, by decide⟩, rfl, Or.inl lc_9_313⟩, ⟨trivial, ⟨trivial, ⟨trivial, ⟨⟨mok_m9_blackPixels, ⟨by decide, by decide⟩, rfl, by decide, Or.inl lc_9_322⟩, ⟨trivial, ⟨⟨mok_m9_mix, ⟨by decide, by decide⟩, rfl, Or.inl lc_9_313⟩, ⟨trivial, ⟨trivial, ⟨trivial, ⟨⟨mok_m9_wouldSend, ⟨by decide, by decide⟩, rfl, by decide, Or.inl lc_9_306⟩, ⟨trivial, ⟨⟨mok_m9_mix, ⟨by decide, by decide⟩, rfl, Or.inl lc_9_313⟩, ⟨trivial, ⟨trivial, ⟨trivial, ⟨⟨mok_m9_streamLength, ⟨by decide, by decide⟩, rfl, by decide, Or.inl lc_9_325⟩, ⟨trivial, ⟨⟨mok_m9_mix, ⟨by decide, by decide⟩, rfl, Or.inl lc_9_313⟩, ⟨trivial, ⟨trivial, ⟨trivial, ⟨⟨mok_m9_markers, ⟨by decide, by decide⟩, rfl, by decide, Or.inl lc_9_328⟩, ⟨trivial, ⟨⟨mok_m9_mix, ⟨by decide, by decide⟩, rfl, Or.inl lc_9_313⟩, ⟨trivial, ⟨trivial, ⟨trivial, ⟨⟨mok_m9_received, ⟨by decide, by decide⟩, rfl, by decide, Or.inl lc_9_331⟩, ⟨trivial, ⟨⟨mok_m9_mix, ⟨by decide, by decide⟩, rfl, Or.inl lc_9_313⟩, ⟨trivial, ⟨trivial, ⟨trivial, ⟨⟨mok_m9_right, ⟨by decide, by decide⟩, rfl, by decide, Or.inl lc_9_334⟩, ⟨trivial, ⟨⟨mok_m9_mix, ⟨by decide, by decide⟩, rfl, Or.inl lc_9_313⟩, ⟨trivial, ⟨trivial, ⟨trivial, ⟨⟨mok_m9_errors, ⟨by decide, by decide⟩, rfl, by decide, Or.inl lc_9_337⟩, ⟨trivial, ⟨⟨mok_m9_mix, ⟨by decide, by decide⟩, rfl, Or.inl lc_9_313⟩, ⟨trivial, ⟨trivial, ⟨trivial, ⟨⟨mok_m9_wouldReceive, ⟨by decide, by decide⟩, rfl, by decide, Or.inl lc_9_340⟩, ⟨trivial, ⟨⟨mok_m9_mix, ⟨by decide, by decide⟩, rfl, Or.inl lc_9_313⟩, ⟨trivial, ⟨trivial, ⟨trivial, ⟨⟨mok_m9_wouldBeRight, ⟨by decide, by decide⟩, rfl, by decide, Or.inl lc_9_343⟩, ⟨trivial, ⟨⟨mok_m9_mix, ⟨by decide, by decide⟩, rfl, Or.inl lc_9_313⟩, ⟨trivial, ⟨trivial, ⟨trivial, ⟨⟨mok_m9_savedStates, ⟨by decide, by decide⟩, rfl, by decide, Or.inl lc_9_346⟩, ⟨trivial, ⟨⟨mok_m9_mix, ⟨by decide, by decide⟩, rfl, Or.inl lc_9_313⟩, ⟨trivial, ⟨trivial, ⟨trivial, trivial⟩⟩⟩⟩⟩⟩⟩⟩⟩⟩⟩⟩⟩⟩⟩⟩⟩⟩⟩⟩⟩⟩⟩⟩⟩⟩⟩⟩⟩⟩⟩⟩⟩⟩⟩⟩⟩⟩⟩⟩⟩⟩⟩⟩⟩⟩⟩⟩⟩⟩⟩⟩⟩⟩⟩⟩⟩⟩⟩⟩⟩⟩⟩⟩⟩⟩⟩⟩⟩⟩⟩⟩⟩⟩⟩⟩⟩⟩⟩⟩⟩⟩
def bb9_digest_136 : List PI := [(1, .iload_n 3, 0, 0, 0, 0, kZ), (1, .aload_n 0, 0, 0, 0, 0, kZ), (3, .getfield 12, 9, 0, 0, 0, kZ), (3, .getfield 69, 7, 0, 0, 0, kZ), (3, .getfield 113, 2, 2, 0, 0, kZ), (3, .if_icmp .ge 16, 163, 0, 0, 0, kZ), (1, .aload_n 0, 0, 0, 0, 0, kZ), (1, .lload_n 1, 0, 0, 0, 0, kZ), (1, .iload_n 3, 0, 0, 0, 0, kZ), (3, .invokevirtual 349, 2, 9, 0, 0, m9_mixLine), (1, .lstore_n 1, 0, 0, 0, 0, kZ), (3, .iinc 3 1, 0, 0, 0, 0, kZ), (3, .goto (-24), 136, 0, 0, 0, kZ)]
set_option maxRecDepth 100000 in
theorem oo9_digest_136 : okL m9_digest 136 bb9_digest_136 := okL_of _ _ (by decide +kernel) ⟨trivial, ⟨trivial, ⟨lf_9_12, ⟨lf_9_69, ⟨lf_9_113, ⟨rfl, ⟨trivial, ⟨trivial, ⟨trivial, ⟨⟨mok_m9_mixLine, ⟨by decide, by decide⟩, rfl, by decide, Or.inl lc_9_349⟩, ⟨trivial, ⟨trivial, ⟨rfl, trivial⟩⟩⟩⟩⟩⟩⟩⟩⟩⟩⟩⟩⟩
def bb9_digest_163 : List PI := [(1, .iconst 0, 0, 0, 0, 0, kZ), (1, .istore_n 3, 0, 0, 0, 0, kZ)]
set_option maxRecDepth 100000 in
theorem oo9_digest_163 : okL m9_digest 163 bb9_digest_163 := okL_of _ _ (by decide +kernel) ⟨trivial, ⟨trivial, trivial⟩⟩
def bb9_digest_165 : List PI := [(1, .iload_n 3, 0, 0, 0, 0, kZ), (1, .aload_n 0, 0, 0, 0, 0, kZ), (3, .getfield 12, 9, 0, 0, 0, kZ), (3, .getfield 83, 7, 1, 0, 0, kZ), (3, .getfield 140, 8, 0, 0, 0, kZ), (3, .if_icmp .ge 26, 202, 0, 0, 0, kZ), (1, .lload_n 1, 0, 0, 0, 0, kZ), (1, .aload_n 0, 0, 0, 0, 0, kZ), (3, .getfield 12, 9, 0, 0, 0, kZ), (3, .getfield 83, 7, 1, 0, 0, kZ), (1, .iload_n 3, 0, 0, 0, 0, kZ), (3, .invokevirtual 149, 1, 8, 0, 0, m8_at), (1, .i2l, 0, 0, 0, 0, kZ), (3, .invokestatic 313, 2, 9, 0, 0, m9_mix), (1, .lstore_n 1, 0, 0, 0, 0, kZ), (3, .iinc 3 1, 0, 0, 0, 0, kZ), (3, .goto (-34), 165, 0, 0, 0, kZ)]
set_option maxRecDepth 100000 in
theorem oo9_digest_165 : okL m9_digest 165 bb9_digest_165 := okL_of _ _ (by decide +kernel) ⟨trivial, ⟨trivial, ⟨lf_9_12, ⟨lf_9_83, ⟨lf_9_140, ⟨rfl, ⟨trivial, ⟨trivial, ⟨lf_9_12, ⟨lf_9_83, ⟨trivial, ⟨⟨mok_m8_at, ⟨by decide, by decide⟩, rfl, by decide, Or.inr lc_9_149⟩, ⟨trivial, ⟨⟨mok_m9_mix, ⟨by decide, by decide⟩, rfl, Or.inl lc_9_313⟩, ⟨trivial, ⟨trivial, ⟨rfl, trivial⟩⟩⟩⟩⟩⟩⟩⟩⟩⟩⟩⟩⟩⟩⟩⟩⟩
def bb9_digest_202 : List PI := [(1, .aload_n 0, 0, 0, 0, 0, kZ), (1, .lload_n 1, 0, 0, 0, 0, kZ), (3, .invokevirtual 352, 1, 9, 0, 0, m9_mixReception), (1, .lstore_n 1, 0, 0, 0, 0, kZ), (1, .lload_n 1, 0, 0, 0, 0, kZ), (1, .aload_n 0, 0, 0, 0, 0, kZ), (3, .getfield 12, 9, 0, 0, 0, kZ), (3, .getfield 220, 7, 3, 0, 0, kZ), (3, .ifCond .eq 7, 223, 0, 0, 0, kZ), (1, .lconst 1, 0, 0, 0, 0, kZ), (3, .goto 4, 224, 0, 0, 0, kZ)]
set_option maxRecDepth 100000 in
theorem oo9_digest_202 : okL m9_digest 202 bb9_digest_202 := okL_of _ _ (by decide +kernel) ⟨trivial, ⟨trivial, ⟨⟨mok_m9_mixReception, ⟨by decide, by decide⟩, rfl, by decide, Or.inl lc_9_352⟩, ⟨trivial, ⟨trivial, ⟨trivial, ⟨lf_9_12, ⟨lf_9_220, ⟨rfl, ⟨trivial, ⟨rfl, trivial⟩⟩⟩⟩⟩⟩⟩⟩⟩⟩⟩
def bb9_digest_223 : List PI := [(1, .lconst 0, 0, 0, 0, 0, kZ)]
set_option maxRecDepth 100000 in
theorem oo9_digest_223 : okL m9_digest 223 bb9_digest_223 := okL_of _ _ (by decide +kernel) ⟨trivial, trivial⟩
def bb9_digest_224 : List PI := [(3, .invokestatic 313, 2, 9, 0, 0, m9_mix), (1, .lstore_n 1, 0, 0, 0, 0, kZ), (1, .aload_n 0, 0, 0, 0, 0, kZ), (3, .getfield 12, 9, 0, 0, 0, kZ), (3, .getfield 220, 7, 3, 0, 0, kZ), (3, .ifCond .eq 16, 251, 0, 0, 0, kZ), (1, .lload_n 1, 0, 0, 0, 0, kZ), (1, .aload_n 0, 0, 0, 0, 0, kZ), (3, .getfield 12, 9, 0, 0, 0, kZ), (3, .getfield 223, 7, 4, 0, 0, kZ), (1, .i2l, 0, 0, 0, 0, kZ), (3, .invokestatic 313, 2, 9, 0, 0, m9_mix), (1, .lstore_n 1, 0, 0, 0, 0, kZ)]
set_option maxRecDepth 100000 in
theorem oo9_digest_224 : okL m9_digest 224 bb9_digest_224 := okL_of _ _ (by decide +kernel) ⟨⟨mok_m9_mix, ⟨by decide, by decide⟩, rfl, Or.inl lc_9_313⟩, ⟨trivial, ⟨trivial, ⟨lf_9_12, ⟨lf_9_220, ⟨rfl, ⟨trivial, ⟨trivial, ⟨lf_9_12, ⟨lf_9_223, ⟨trivial, ⟨⟨mok_m9_mix, ⟨by decide, by decide⟩, rfl, Or.inl lc_9_313⟩, ⟨trivial, trivial⟩⟩⟩⟩⟩⟩⟩⟩⟩⟩⟩⟩⟩
def bb9_digest_251 : List PI := [(1, .lload_n 1, 0, 0, 0, 0, kZ), (1, .aload_n 0, 0, 0, 0, 0, kZ), (3, .invokevirtual 356, 0, 9, 0, 0, m9_codedShare), (3, .invokestatic 360, 1, 9, 0, 0, m9_bitsOf), (3, .invokestatic 313, 2, 9, 0, 0, m9_mix), (1, .lstore_n 1, 0, 0, 0, 0, kZ), (1, .lload_n 1, 0, 0, 0, 0, kZ), (1, .aload_n 0, 0, 0, 0, 0, kZ), (3, .getfield 33, 9, 4, 0, 0, kZ), (3, .getfield 187, 3, 1, 0, 0, kZ), (1, .i2l, 0, 0, 0, 0, kZ), (3, .invokestatic 313, 2, 9, 0, 0, m9_mix), (1, .lstore_n 1, 0, 0, 0, 0, kZ), (1, .iconst 0, 0, 0, 0, 0, kZ), (1, .istore_n 3, 0, 0, 0, 0, kZ)]
set_option maxRecDepth 100000 in
theorem oo9_digest_251 : okL m9_digest 251 bb9_digest_251 := okL_of _ _ (by decide +kernel) ⟨trivial, ⟨trivial, ⟨⟨mok_m9_codedShare, ⟨by decide, by decide⟩, rfl, by decide, Or.inl lc_9_356⟩, ⟨⟨mok_m9_bitsOf, ⟨by decide, by decide⟩, rfl, Or.inl lc_9_360⟩, ⟨⟨mok_m9_mix, ⟨by decide, by decide⟩, rfl, Or.inl lc_9_313⟩, ⟨trivial, ⟨trivial, ⟨trivial, ⟨lf_9_33, ⟨lf_9_187, ⟨trivial, ⟨⟨mok_m9_mix, ⟨by decide, by decide⟩, rfl, Or.inl lc_9_313⟩, ⟨trivial, ⟨trivial, ⟨trivial, trivial⟩⟩⟩⟩⟩⟩⟩⟩⟩⟩⟩⟩⟩⟩⟩
def bb9_digest_278 : List PI := [(1, .iload_n 3, 0, 0, 0, 0, kZ), (1, .aload_n 0, 0, 0, 0, 0, kZ), (3, .getfield 33, 9, 4, 0, 0, kZ), (3, .getfield 187, 3, 1, 0, 0, kZ), (3, .if_icmp .ge 23, 309, 0, 0, 0, kZ), (1, .lload_n 1, 0, 0, 0, 0, kZ), (1, .aload_n 0, 0, 0, 0, 0, kZ), (3, .getfield 33, 9, 4, 0, 0, kZ), (1, .iload_n 3, 0, 0, 0, 0, kZ), (3, .invokevirtual 206, 1, 3, 0, 0, m3_codeAt), (1, .i2l, 0, 0, 0, 0, kZ), (3, .invokestatic 313, 2, 9, 0, 0, m9_mix), (1, .lstore_n 1, 0, 0, 0, 0, kZ), (3, .iinc 3 1, 0, 0, 0, 0, kZ), (3, .goto (-28), 278, 0, 0, 0, kZ)]
set_option maxRecDepth 100000 in
theorem oo9_digest_278 : okL m9_digest 278 bb9_digest_278 := okL_of _ _ (by decide +kernel) ⟨trivial, ⟨trivial, ⟨lf_9_33, ⟨lf_9_187, ⟨rfl, ⟨trivial, ⟨trivial, ⟨lf_9_33, ⟨trivial, ⟨⟨mok_m3_codeAt, ⟨by decide, by decide⟩, rfl, by decide, Or.inr lc_9_206⟩, ⟨trivial, ⟨⟨mok_m9_mix, ⟨by decide, by decide⟩, rfl, Or.inl lc_9_313⟩, ⟨trivial, ⟨trivial, ⟨rfl, trivial⟩⟩⟩⟩⟩⟩⟩⟩⟩⟩⟩⟩⟩⟩⟩
def bb9_digest_309 : List PI := [(1, .lload_n 1, 0, 0, 0, 0, kZ), (1, .lreturn, 0, 0, 0, 0, kZ)]
set_option maxRecDepth 100000 in
theorem oo9_digest_309 : okL m9_digest 309 bb9_digest_309 := okL_of _ _ (by decide +kernel) ⟨trivial, ⟨rfl, trivial⟩⟩
def cd9_digest (t : Nat) : Option (List PI) := match t with
  | 0 => some bb9_digest_0
  | 163 => some bb9_digest_163
  | 202 => some bb9_digest_202
  | 223 => some bb9_digest_223
  | 224 => some bb9_digest_224
  | 251 => some bb9_digest_251
  | 309 => some bb9_digest_309
  | _ => none
theorem kd9_digest : ∀ t is, cd9_digest t = some is → okL m9_digest t is := by
  intro t is h
  unfold cd9_digest at h
  split at h <;> cases h
  · exact oo9_digest_0
  · exact oo9_digest_163
  · exact oo9_digest_202
  · exact oo9_digest_223
  · exact oo9_digest_224
  · exact oo9_digest_251
  · exact oo9_digest_309
theorem ff9_digest : mi_r m9_digest = (some .long) ∧ mi_l m9_digest = 4 ∧ mi_h m9_digest = [] ∧ (mi_rm m9_digest).cells = 0 ∧ (mi_rm m9_digest).slots = 0 ∧ (mi_rm m9_digest).locals = 201 ∧ cd9_digest 0 = some bb9_digest_0 ∧ cd9_digest 136 = none ∧ cd9_digest 163 = some bb9_digest_163 ∧ cd9_digest 165 = none ∧ cd9_digest 202 = some bb9_digest_202 ∧ cd9_digest 223 = some bb9_digest_223 ∧ cd9_digest 224 = some bb9_digest_224 ∧ cd9_digest 251 = some bb9_digest_251 ∧ cd9_digest 278 = none ∧ cd9_digest 309 = some bb9_digest_309 ∧ (mi_rm m3_codeAt).cells = 0 ∧ (mi_rm m3_codeAt).slots = 0 ∧ (mi_rm m8_at).cells = 0 ∧ (mi_rm m8_at).slots = 0 ∧ (mi_rm m9_bitsOf).cells = 0 ∧ (mi_rm m9_bitsOf).slots = 0 ∧ (mi_rm m9_blackPixels).cells = 0 ∧ (mi_rm m9_blackPixels).slots = 0 ∧ (mi_rm m9_codedShare).cells = 0 ∧ (mi_rm m9_codedShare).slots = 0 ∧ (mi_rm m9_errors).cells = 0 ∧ (mi_rm m9_errors).slots = 0 ∧ (mi_rm m9_lines).cells = 0 ∧ (mi_rm m9_lines).slots = 0 ∧ (mi_rm m9_markers).cells = 0 ∧ (mi_rm m9_markers).slots = 0 ∧ (mi_rm m9_mix).cells = 0 ∧ (mi_rm m9_mix).slots = 0 ∧ (mi_rm m9_mixLine).cells = 0 ∧ (mi_rm m9_mixLine).slots = 0 ∧ (mi_rm m9_mixReception).cells = 0 ∧ (mi_rm m9_mixReception).slots = 0 ∧ (mi_rm m9_received).cells = 0 ∧ (mi_rm m9_received).slots = 0 ∧ (mi_rm m9_right).cells = 0 ∧ (mi_rm m9_right).slots = 0 ∧ (mi_rm m9_savedStates).cells = 0 ∧ (mi_rm m9_savedStates).slots = 0 ∧ (mi_rm m9_streamLength).cells = 0 ∧ (mi_rm m9_streamLength).slots = 0 ∧ (mi_rm m9_style).cells = 0 ∧ (mi_rm m9_style).slots = 0 ∧ (mi_rm m9_width).cells = 0 ∧ (mi_rm m9_width).slots = 0 ∧ (mi_rm m9_wouldBeRight).cells = 0 ∧ (mi_rm m9_wouldBeRight).slots = 0 ∧ (mi_rm m9_wouldReceive).cells = 0 ∧ (mi_rm m9_wouldReceive).slots = 0 ∧ (mi_rm m9_wouldSend).cells = 0 ∧ (mi_rm m9_wouldSend).slots = 0 := ⟨rfl, rfl, rfl, rfl, rfl, rfl, rfl, rfl, rfl, rfl, rfl, rfl, rfl, rfl, rfl, rfl, rfl, rfl, rfl, rfl, rfl, rfl, rfl, rfl, rfl, rfl, rfl, rfl, rfl, rfl, rfl, rfl, rfl, rfl, rfl, rfl, rfl, rfl, rfl, rfl, rfl, rfl, rfl, rfl, rfl, rfl, rfl, rfl, rfl, rfl, rfl, rfl, rfl, rfl, rfl, rfl⟩
def bb10_init_0 : List PI := [(1, .aload_n 0, 0, 0, 0, 0, kZ), (3, .invokespecial 1, 0, 0, 1, 0, kZ), (1, .aload_n 0, 0, 0, 0, 0, kZ), (3, .sipush 568, 0, 0, 0, 0, kZ), (2, .newarray .int, 0, 0, 0, 0, kZ), (3, .putfield 7, 10, 1, 0, 0, kZ), (1, .aload_n 0, 0, 0, 0, 0, kZ), (3, .sipush 568, 0, 0, 0, 0, kZ), (2, .newarray .int, 0, 0, 0, 0, kZ), (3, .putfield 13, 10, 2, 0, 0, kZ), (1, .aload_n 0, 0, 0, 0, 0, kZ), (3, .sipush 2840, 0, 0, 0, 0, kZ), (2, .newarray .int, 0, 0, 0, 0, kZ), (3, .putfield 16, 10, 3, 0, 0, kZ), (1, .aload_n 0, 0, 0, 0, 0, kZ), (3, .sipush 568, 0, 0, 0, 0, kZ), (2, .newarray .int, 0, 0, 0, 0, kZ), (3, .putfield 19, 10, 5, 0, 0, kZ), (1, .aload_n 0, 0, 0, 0, 0, kZ), (2, .bipush 60, 0, 0, 0, 0, kZ), (2, .newarray .int, 0, 0, 0, 0, kZ), (3, .putfield 22, 10, 7, 0, 0, kZ), (1, .aload_n 0, 0, 0, 0, 0, kZ), (2, .bipush 96, 0, 0, 0, 0, kZ), (2, .newarray .int, 0, 0, 0, 0, kZ), (3, .putfield 25, 10, 11, 0, 0, kZ), (1, .aload_n 0, 0, 0, 0, 0, kZ), (2, .bipush 34, 0, 0, 0, 0, kZ), (2, .newarray .int, 0, 0, 0, 0, kZ), (3, .putfield 28, 10, 13, 0, 0, kZ), (1, .aload_n 0, 0, 0, 0, 0, kZ), (3, .sipush 128, 0, 0, 0, 0, kZ), (2, .newarray .int, 0, 0, 0, 0, kZ), (3, .putfield 31, 10, 15, 0, 0, kZ), (1, .aload_n 0, 0, 0, 0, 0, kZ), (1, .iconst 0, 0, 0, 0, 0, kZ), (3, .putfield 34, 10, 0, 0, 0, kZ), (1, .aload_n 0, 0, 0, 0, 0, kZ), (3, .getfield 7, 10, 1, 0, 0, kZ), (1, .iconst 0, 0, 0, 0, 0, kZ), (2, .bipush 24, 0, 0, 0, 0, kZ), (1, .iastore, 0, 0, 0, 0, kZ), (1, .aload_n 0, 0, 0, 0, 0, kZ), (3, .getfield 7, 10, 1, 0, 0, kZ), (1, .iconst 1, 0, 0, 0, 0, kZ), (1, .iconst 3, 0, 0, 0, 0, kZ), (1, .iastore, 0, 0, 0, 0, kZ), (1, .aload_n 0, 0, 0, 0, 0, kZ), (3, .getfield 7, 10, 1, 0, 0, kZ), (2, .bipush 6, 0, 0, 0, 0, kZ), (1, .iconst (-1), 0, 0, 0, 0, kZ), (1, .iastore, 0, 0, 0, 0, kZ), (1, .return_, 0, 0, 0, 0, kZ)]
set_option maxRecDepth 100000 in
theorem oo10_init_0 : okL m10_init 0 bb10_init_0 := okL_of _ _ (by decide +kernel) ⟨trivial, ⟨⟨lo_10_1, by decide⟩, ⟨trivial, ⟨trivial, ⟨la_0, ⟨lp_10_7i, ⟨trivial, ⟨trivial, ⟨la_0, ⟨lp_10_13i, ⟨trivial, ⟨trivial, ⟨la_0, ⟨lp_10_16i, ⟨trivial, ⟨trivial, ⟨la_0, ⟨lp_10_19i, ⟨trivial, ⟨trivial, ⟨la_0, ⟨lp_10_22i, ⟨trivial, ⟨trivial, ⟨la_0, ⟨lp_10_25i, ⟨trivial, ⟨trivial, ⟨la_0, ⟨lp_10_28i, ⟨trivial, ⟨trivial, ⟨la_0, ⟨lp_10_31i, ⟨trivial, ⟨trivial, ⟨lp_10_34 _, ⟨trivial, ⟨lf_10_7, ⟨trivial, ⟨trivial, ⟨trivial, ⟨trivial, ⟨lf_10_7, ⟨trivial, ⟨trivial, ⟨trivial, ⟨trivial, ⟨lf_10_7, ⟨trivial, ⟨trivial, ⟨trivial, ⟨rfl, trivial⟩⟩⟩⟩⟩⟩⟩⟩⟩⟩⟩⟩⟩⟩⟩⟩⟩⟩⟩⟩⟩⟩⟩⟩⟩⟩⟩⟩⟩⟩⟩⟩⟩⟩⟩⟩⟩⟩⟩⟩⟩⟩⟩⟩⟩⟩⟩⟩⟩⟩⟩⟩⟩
def cd10_init (t : Nat) : Option (List PI) := match t with
  | 0 => some bb10_init_0
  | _ => none
theorem kd10_init : ∀ t is, cd10_init t = some is → okL m10_init t is := by
  intro t is h
  unfold cd10_init at h
  split at h <;> cases h
  · exact oo10_init_0
theorem ff10_init : mi_r m10_init = none ∧ mi_l m10_init = 1 ∧ mi_h m10_init = [] ∧ (mi_rm m10_init).cells = 8 ∧ (mi_rm m10_init).slots = 4862 ∧ (mi_rm m10_init).locals = 32 ∧ cd10_init 0 = some bb10_init_0 := ⟨rfl, rfl, rfl, rfl, rfl, rfl, rfl⟩
def bb10_thrown_0 : List PI := [(1, .aload_n 0, 0, 0, 0, 0, kZ), (3, .getfield 34, 10, 0, 0, 0, kZ), (1, .ireturn, 0, 0, 0, 0, kZ)]
set_option maxRecDepth 100000 in
theorem oo10_thrown_0 : okL m10_thrown 0 bb10_thrown_0 := okL_of _ _ (by decide +kernel) ⟨trivial, ⟨lf_10_34, ⟨trivial, trivial⟩⟩⟩
def cd10_thrown (t : Nat) : Option (List PI) := match t with
  | 0 => some bb10_thrown_0
  | _ => none
theorem kd10_thrown : ∀ t is, cd10_thrown t = some is → okL m10_thrown t is := by
  intro t is h
  unfold cd10_thrown at h
  split at h <;> cases h
  · exact oo10_thrown_0
theorem ff10_thrown : mi_r m10_thrown = (some .int) ∧ mi_l m10_thrown = 1 ∧ mi_h m10_thrown = [] ∧ (mi_rm m10_thrown).cells = 0 ∧ (mi_rm m10_thrown).slots = 0 ∧ (mi_rm m10_thrown).locals = 32 ∧ cd10_thrown 0 = some bb10_thrown_0 := ⟨rfl, rfl, rfl, rfl, rfl, rfl, rfl⟩
def bb10_fails_0 : List PI := [(1, .aload_n 0, 0, 0, 0, 0, kZ), (1, .iload_n 1, 0, 0, 0, 0, kZ), (3, .putfield 34, 10, 0, 0, 0, kZ), (1, .iconst 0, 0, 0, 0, 0, kZ), (1, .ireturn, 0, 0, 0, 0, kZ)]
set_option maxRecDepth 100000 in
theorem oo10_fails_0 : okL m10_fails 0 bb10_fails_0 := okL_of _ _ (by decide +kernel) ⟨trivial, ⟨trivial, ⟨lp_10_34 _, ⟨trivial, ⟨trivial, trivial⟩⟩⟩⟩⟩
def cd10_fails (t : Nat) : Option (List PI) := match t with
  | 0 => some bb10_fails_0
  | _ => none
theorem kd10_fails : ∀ t is, cd10_fails t = some is → okL m10_fails t is := by
  intro t is h
  unfold cd10_fails at h
  split at h <;> cases h
  · exact oo10_fails_0
theorem ff10_fails : mi_r m10_fails = (some .int) ∧ mi_l m10_fails = 2 ∧ mi_h m10_fails = [] ∧ (mi_rm m10_fails).cells = 0 ∧ (mi_rm m10_fails).slots = 0 ∧ (mi_rm m10_fails).locals = 32 ∧ cd10_fails 0 = some bb10_fails_0 := ⟨rfl, rfl, rfl, rfl, rfl, rfl, rfl⟩
def bb10_in_0 : List PI := [(1, .iload_n 0, 0, 0, 0, 0, kZ), (1, .iload_n 1, 0, 0, 0, 0, kZ), (3, .if_icmp .lt 12, 14, 0, 0, 0, kZ), (1, .iload_n 0, 0, 0, 0, 0, kZ), (1, .iload_n 2, 0, 0, 0, 0, kZ), (3, .if_icmp .gt 7, 14, 0, 0, 0, kZ), (1, .iconst 1, 0, 0, 0, 0, kZ), (3, .goto 4, 15, 0, 0, 0, kZ)]
set_option maxRecDepth 100000 in
theorem oo10_in_0 : okL m10_in 0 bb10_in_0 := okL_of _ _ (by decide +kernel) ⟨trivial, ⟨trivial, ⟨rfl, ⟨trivial, ⟨trivial, ⟨rfl, ⟨trivial, ⟨rfl, trivial⟩⟩⟩⟩⟩⟩⟩⟩
def bb10_in_14 : List PI := [(1, .iconst 0, 0, 0, 0, 0, kZ)]
set_option maxRecDepth 100000 in
theorem oo10_in_14 : okL m10_in 14 bb10_in_14 := okL_of _ _ (by decide +kernel) ⟨trivial, trivial⟩
def bb10_in_15 : List PI := [(1, .ireturn, 0, 0, 0, 0, kZ)]
set_option maxRecDepth 100000 in
theorem oo10_in_15 : okL m10_in 15 bb10_in_15 := okL_of _ _ (by decide +kernel) ⟨trivial, trivial⟩
def cd10_in (t : Nat) : Option (List PI) := match t with
  | 0 => some bb10_in_0
  | 14 => some bb10_in_14
  | 15 => some bb10_in_15
  | _ => none
theorem kd10_in : ∀ t is, cd10_in t = some is → okL m10_in t is := by
  intro t is h
  unfold cd10_in at h
  split at h <;> cases h
  · exact oo10_in_0
  · exact oo10_in_14
  · exact oo10_in_15
theorem ff10_in : mi_r m10_in = (some .boolean) ∧ mi_l m10_in = 3 ∧ mi_h m10_in = [] ∧ (mi_rm m10_in).cells = 0 ∧ (mi_rm m10_in).slots = 0 ∧ (mi_rm m10_in).locals = 32 ∧ cd10_in 0 = some bb10_in_0 ∧ cd10_in 14 = some bb10_in_14 ∧ cd10_in 15 = some bb10_in_15 := ⟨rfl, rfl, rfl, rfl, rfl, rfl, rfl, rfl, rfl⟩
def bb10_isLine_0 : List PI := [(1, .iload_n 1, 0, 0, 0, 0, kZ), (1, .iconst 0, 0, 0, 0, 0, kZ), (1, .aload_n 0, 0, 0, 0, 0, kZ), (3, .getfield 7, 10, 1, 0, 0, kZ), (1, .iconst 2, 0, 0, 0, 0, kZ), (1, .iaload, 0, 0, 0, 0, kZ), (1, .iconst 1, 0, 0, 0, 0, kZ), (1, .isub, 0, 0, 0, 0, kZ), (3, .invokestatic 38, 3, 10, 0, 0, m10_in), (1, .ireturn, 0, 0, 0, 0, kZ)]
set_option maxRecDepth 100000 in
theorem oo10_isLine_0 : okL m10_isLine 0 bb10_isLine_0 := okL_of _ _ (by decide +kernel) ⟨trivial, ⟨trivial, ⟨trivial, ⟨lf_10_7, ⟨trivial, ⟨trivial, ⟨trivial, ⟨trivial, ⟨⟨mok_m10_in, ⟨by decide, by decide⟩, rfl, Or.inl lc_10_38⟩, ⟨trivial, trivial⟩⟩⟩⟩⟩⟩⟩⟩⟩⟩
def cd10_isLine (t : Nat) : Option (List PI) := match t with
  | 0 => some bb10_isLine_0
  | _ => none
theorem kd10_isLine : ∀ t is, cd10_isLine t = some is → okL m10_isLine t is := by
  intro t is h
  unfold cd10_isLine at h
  split at h <;> cases h
  · exact oo10_isLine_0
theorem ff10_isLine : mi_r m10_isLine = (some .boolean) ∧ mi_l m10_isLine = 2 ∧ mi_h m10_isLine = [] ∧ (mi_rm m10_isLine).cells = 0 ∧ (mi_rm m10_isLine).slots = 0 ∧ (mi_rm m10_isLine).locals = 54 ∧ cd10_isLine 0 = some bb10_isLine_0 ∧ (mi_rm m10_in).cells = 0 ∧ (mi_rm m10_in).slots = 0 := ⟨rfl, rfl, rfl, rfl, rfl, rfl, rfl, rfl, rfl⟩
def bb10_isPlace_0 : List PI := [(1, .iload_n 1, 0, 0, 0, 0, kZ), (1, .iconst 0, 0, 0, 0, 0, kZ), (1, .aload_n 0, 0, 0, 0, 0, kZ), (3, .getfield 7, 10, 1, 0, 0, kZ), (1, .iconst 3, 0, 0, 0, 0, kZ), (1, .iaload, 0, 0, 0, 0, kZ), (1, .iconst 1, 0, 0, 0, 0, kZ), (1, .isub, 0, 0, 0, 0, kZ), (3, .invokestatic 38, 3, 10, 0, 0, m10_in), (1, .ireturn, 0, 0, 0, 0, kZ)]
set_option maxRecDepth 100000 in
theorem oo10_isPlace_0 : okL m10_isPlace 0 bb10_isPlace_0 := okL_of _ _ (by decide +kernel) ⟨trivial, ⟨trivial, ⟨trivial, ⟨lf_10_7, ⟨trivial, ⟨trivial, ⟨trivial, ⟨trivial, ⟨⟨mok_m10_in, ⟨by decide, by decide⟩, rfl, Or.inl lc_10_38⟩, ⟨trivial, trivial⟩⟩⟩⟩⟩⟩⟩⟩⟩⟩
def cd10_isPlace (t : Nat) : Option (List PI) := match t with
  | 0 => some bb10_isPlace_0
  | _ => none
theorem kd10_isPlace : ∀ t is, cd10_isPlace t = some is → okL m10_isPlace t is := by
  intro t is h
  unfold cd10_isPlace at h
  split at h <;> cases h
  · exact oo10_isPlace_0
theorem ff10_isPlace : mi_r m10_isPlace = (some .boolean) ∧ mi_l m10_isPlace = 2 ∧ mi_h m10_isPlace = [] ∧ (mi_rm m10_isPlace).cells = 0 ∧ (mi_rm m10_isPlace).slots = 0 ∧ (mi_rm m10_isPlace).locals = 54 ∧ cd10_isPlace 0 = some bb10_isPlace_0 ∧ (mi_rm m10_in).cells = 0 ∧ (mi_rm m10_in).slots = 0 := ⟨rfl, rfl, rfl, rfl, rfl, rfl, rfl, rfl, rfl⟩
def bb10_isMode_0 : List PI := [(1, .iload_n 0, 0, 0, 0, 0, kZ), (1, .iconst 0, 0, 0, 0, 0, kZ), (1, .iconst 2, 0, 0, 0, 0, kZ), (3, .invokestatic 38, 3, 10, 0, 0, m10_in), (1, .ireturn, 0, 0, 0, 0, kZ)]
set_option maxRecDepth 100000 in
theorem oo10_isMode_0 : okL m10_isMode 0 bb10_isMode_0 := okL_of _ _ (by decide +kernel) ⟨trivial, ⟨trivial, ⟨trivial, ⟨⟨mok_m10_in, ⟨by decide, by decide⟩, rfl, Or.inl lc_10_38⟩, ⟨trivial, trivial⟩⟩⟩⟩⟩
def cd10_isMode (t : Nat) : Option (List PI) := match t with
  | 0 => some bb10_isMode_0
  | _ => none
theorem kd10_isMode : ∀ t is, cd10_isMode t = some is → okL m10_isMode t is := by
  intro t is h
  unfold cd10_isMode at h
  split at h <;> cases h
  · exact oo10_isMode_0
theorem ff10_isMode : mi_r m10_isMode = (some .boolean) ∧ mi_l m10_isMode = 1 ∧ mi_h m10_isMode = [] ∧ (mi_rm m10_isMode).cells = 0 ∧ (mi_rm m10_isMode).slots = 0 ∧ (mi_rm m10_isMode).locals = 54 ∧ cd10_isMode 0 = some bb10_isMode_0 ∧ (mi_rm m10_in).cells = 0 ∧ (mi_rm m10_in).slots = 0 := ⟨rfl, rfl, rfl, rfl, rfl, rfl, rfl, rfl, rfl⟩
def bb10_isNumber_0 : List PI := [(1, .iload_n 0, 0, 0, 0, 0, kZ), (1, .iconst 0, 0, 0, 0, 0, kZ), (2, .bipush 15, 0, 0, 0, 0, kZ), (3, .invokestatic 38, 3, 10, 0, 0, m10_in), (1, .ireturn, 0, 0, 0, 0, kZ)]
set_option maxRecDepth 100000 in
theorem oo10_isNumber_0 : okL m10_isNumber 0 bb10_isNumber_0 := okL_of _ _ (by decide +kernel) ⟨trivial, ⟨trivial, ⟨trivial, ⟨⟨mok_m10_in, ⟨by decide, by decide⟩, rfl, Or.inl lc_10_38⟩, ⟨trivial, trivial⟩⟩⟩⟩⟩
def cd10_isNumber (t : Nat) : Option (List PI) := match t with
  | 0 => some bb10_isNumber_0
  | _ => none
theorem kd10_isNumber : ∀ t is, cd10_isNumber t = some is → okL m10_isNumber t is := by
  intro t is h
  unfold cd10_isNumber at h
  split at h <;> cases h
  · exact oo10_isNumber_0
theorem ff10_isNumber : mi_r m10_isNumber = (some .boolean) ∧ mi_l m10_isNumber = 1 ∧ mi_h m10_isNumber = [] ∧ (mi_rm m10_isNumber).cells = 0 ∧ (mi_rm m10_isNumber).slots = 0 ∧ (mi_rm m10_isNumber).locals = 54 ∧ cd10_isNumber 0 = some bb10_isNumber_0 ∧ (mi_rm m10_in).cells = 0 ∧ (mi_rm m10_in).slots = 0 := ⟨rfl, rfl, rfl, rfl, rfl, rfl, rfl, rfl, rfl⟩
def bb10_asLong_0 : List PI := [(1, .iload_n 0, 0, 0, 0, 0, kZ), (1, .i2l, 0, 0, 0, 0, kZ), (3, .ldc2_w 42, 0, 0, 0, 4294967295, kZ), (1, .land, 0, 0, 0, 0, kZ), (1, .lreturn, 0, 0, 0, 0, kZ)]
set_option maxRecDepth 100000 in
theorem oo10_asLong_0 : okL m10_asLong 0 bb10_asLong_0 := okL_of _ _ (by decide +kernel) ⟨trivial, ⟨trivial, ⟨(wt_5 209 (by decide +kernel) rfl), ⟨trivial, ⟨rfl, trivial⟩⟩⟩⟩⟩
def cd10_asLong (t : Nat) : Option (List PI) := match t with
  | 0 => some bb10_asLong_0
  | _ => none
theorem kd10_asLong : ∀ t is, cd10_asLong t = some is → okL m10_asLong t is := by
  intro t is h
  unfold cd10_asLong at h
  split at h <;> cases h
  · exact oo10_asLong_0
theorem ff10_asLong : mi_r m10_asLong = (some .long) ∧ mi_l m10_asLong = 1 ∧ mi_h m10_asLong = [] ∧ (mi_rm m10_asLong).cells = 0 ∧ (mi_rm m10_asLong).slots = 0 ∧ (mi_rm m10_asLong).locals = 32 ∧ cd10_asLong 0 = some bb10_asLong_0 := ⟨rfl, rfl, rfl, rfl, rfl, rfl, rfl⟩
def bb10_bits_0 : List PI := [(1, .iconst 0, 0, 0, 0, 0, kZ), (1, .istore_n 1, 0, 0, 0, 0, kZ), (1, .iconst 0, 0, 0, 0, 0, kZ), (1, .istore_n 2, 0, 0, 0, 0, kZ)]
set_option maxRecDepth 100000 in
theorem oo10_bits_0 : okL m10_bits 0 bb10_bits_0 := okL_of _ _ (by decide +kernel) ⟨trivial, ⟨trivial, ⟨trivial, ⟨trivial, trivial⟩⟩⟩⟩
def bb10_bits_4 : List PI := [(1, .iload_n 2, 0, 0, 0, 0, kZ), (2, .bipush 32, 0, 0, 0, 0, kZ), (3, .if_icmp .ge 17, 24, 0, 0, 0, kZ), (1, .iload_n 1, 0, 0, 0, 0, kZ), (1, .iload_n 0, 0, 0, 0, 0, kZ), (1, .iload_n 2, 0, 0, 0, 0, kZ), (1, .iushr, 0, 0, 0, 0, kZ), (1, .iconst 1, 0, 0, 0, 0, kZ), (1, .iand, 0, 0, 0, 0, kZ), (1, .iadd, 0, 0, 0, 0, kZ), (1, .istore_n 1, 0, 0, 0, 0, kZ), (3, .iinc 2 1, 0, 0, 0, 0, kZ), (3, .goto (-17), 4, 0, 0, 0, kZ)]
set_option maxRecDepth 100000 in
theorem oo10_bits_4 : okL m10_bits 4 bb10_bits_4 := okL_of _ _ (by decide +kernel) ⟨trivial, ⟨trivial, ⟨rfl, ⟨trivial, ⟨trivial, ⟨trivial, ⟨trivial, ⟨trivial, ⟨trivial, ⟨trivial, ⟨trivial, ⟨trivial, ⟨rfl, trivial⟩⟩⟩⟩⟩⟩⟩⟩⟩⟩⟩⟩⟩
def bb10_bits_24 : List PI := [(1, .iload_n 1, 0, 0, 0, 0, kZ), (1, .ireturn, 0, 0, 0, 0, kZ)]
set_option maxRecDepth 100000 in
theorem oo10_bits_24 : okL m10_bits 24 bb10_bits_24 := okL_of _ _ (by decide +kernel) ⟨trivial, ⟨trivial, trivial⟩⟩
def cd10_bits (t : Nat) : Option (List PI) := match t with
  | 0 => some bb10_bits_0
  | 24 => some bb10_bits_24
  | _ => none
theorem kd10_bits : ∀ t is, cd10_bits t = some is → okL m10_bits t is := by
  intro t is h
  unfold cd10_bits at h
  split at h <;> cases h
  · exact oo10_bits_0
  · exact oo10_bits_24
theorem ff10_bits : mi_r m10_bits = (some .int) ∧ mi_l m10_bits = 3 ∧ mi_h m10_bits = [] ∧ (mi_rm m10_bits).cells = 0 ∧ (mi_rm m10_bits).slots = 0 ∧ (mi_rm m10_bits).locals = 32 ∧ cd10_bits 0 = some bb10_bits_0 ∧ cd10_bits 4 = none ∧ cd10_bits 24 = some bb10_bits_24 := ⟨rfl, rfl, rfl, rfl, rfl, rfl, rfl, rfl, rfl⟩
def bb10_records_0 : List PI := [(1, .aload_n 0, 0, 0, 0, 0, kZ), (3, .getfield 44, 10, 4, 0, 0, kZ), (1, .iconst 5, 0, 0, 0, 0, kZ), (3, .if_icmp .ne 44, 49, 0, 0, 0, kZ), (1, .iconst 0, 0, 0, 0, 0, kZ), (1, .istore_n 1, 0, 0, 0, 0, kZ)]
set_option maxRecDepth 100000 in
theorem oo10_records_0 : okL m10_records 0 bb10_records_0 := okL_of _ _ (by decide +kernel) ⟨trivial, ⟨lf_10_44, ⟨trivial, ⟨rfl, ⟨trivial, ⟨trivial, trivial⟩⟩⟩⟩⟩⟩
def bb10_records_10 : List PI := [(1, .iload_n 1, 0, 0, 0, 0, kZ), (3, .sipush 2272, 0, 0, 0, 0, kZ), (3, .if_icmp .ge 25, 39, 0, 0, 0, kZ), (1, .aload_n 0, 0, 0, 0, 0, kZ), (3, .getfield 16, 10, 3, 0, 0, kZ), (1, .iload_n 1, 0, 0, 0, 0, kZ), (1, .aload_n 0, 0, 0, 0, 0, kZ), (3, .getfield 16, 10, 3, 0, 0, kZ), (1, .iload_n 1, 0, 0, 0, 0, kZ), (3, .sipush 568, 0, 0, 0, 0, kZ), (1, .iadd, 0, 0, 0, 0, kZ), (1, .iaload, 0, 0, 0, 0, kZ), (1, .iastore, 0, 0, 0, 0, kZ), (3, .iinc 1 1, 0, 0, 0, 0, kZ), (3, .goto (-26), 10, 0, 0, 0, kZ)]
set_option maxRecDepth 100000 in
theorem oo10_records_10 : okL m10_records 10 bb10_records_10 := okL_of _ _ (by decide +kernel) ⟨trivial, ⟨trivial, ⟨rfl, ⟨trivial, ⟨lf_10_16, ⟨trivial, ⟨trivial, ⟨lf_10_16, ⟨trivial, ⟨trivial, ⟨trivial, ⟨trivial, ⟨trivial, ⟨trivial, ⟨rfl, trivial⟩⟩⟩⟩⟩⟩⟩⟩⟩⟩⟩⟩⟩⟩⟩
def bb10_records_39 : List PI := [(1, .aload_n 0, 0, 0, 0, 0, kZ), (1, .dup, 0, 0, 0, 0, kZ), (3, .getfield 44, 10, 4, 0, 0, kZ), (1, .iconst 1, 0, 0, 0, 0, kZ), (1, .isub, 0, 0, 0, 0, kZ), (3, .putfield 44, 10, 4, 0, 0, kZ)]
set_option maxRecDepth 100000 in
theorem oo10_records_39 : okL m10_records 39 bb10_records_39 := okL_of _ _ (by decide +kernel) ⟨trivial, ⟨trivial, ⟨lf_10_44, ⟨trivial, ⟨trivial, ⟨lp_10_44 _, trivial⟩⟩⟩⟩⟩⟩
def bb10_records_49 : List PI := [(1, .iconst 0, 0, 0, 0, 0, kZ), (1, .istore_n 1, 0, 0, 0, 0, kZ)]
set_option maxRecDepth 100000 in
theorem oo10_records_49 : okL m10_records 49 bb10_records_49 := okL_of _ _ (by decide +kernel) ⟨trivial, ⟨trivial, trivial⟩⟩
def bb10_records_51 : List PI := [(1, .iload_n 1, 0, 0, 0, 0, kZ), (3, .sipush 568, 0, 0, 0, 0, kZ), (3, .if_icmp .ge 30, 85, 0, 0, 0, kZ), (1, .aload_n 0, 0, 0, 0, 0, kZ), (3, .getfield 16, 10, 3, 0, 0, kZ), (3, .sipush 568, 0, 0, 0, 0, kZ), (1, .aload_n 0, 0, 0, 0, 0, kZ), (3, .getfield 44, 10, 4, 0, 0, kZ), (1, .imul, 0, 0, 0, 0, kZ), (1, .iload_n 1, 0, 0, 0, 0, kZ), (1, .iadd, 0, 0, 0, 0, kZ), (1, .aload_n 0, 0, 0, 0, 0, kZ), (3, .getfield 7, 10, 1, 0, 0, kZ), (1, .iload_n 1, 0, 0, 0, 0, kZ), (1, .iaload, 0, 0, 0, 0, kZ), (1, .iastore, 0, 0, 0, 0, kZ), (3, .iinc 1 1, 0, 0, 0, 0, kZ), (3, .goto (-31), 51, 0, 0, 0, kZ)]
set_option maxRecDepth 100000 in
theorem oo10_records_51 : okL m10_records 51 bb10_records_51 := okL_of _ _ (by decide +kernel) ⟨trivial, ⟨trivial, ⟨rfl, ⟨trivial, ⟨lf_10_16, ⟨trivial, ⟨trivial, ⟨lf_10_44, ⟨trivial, ⟨trivial, ⟨trivial, ⟨trivial, ⟨lf_10_7, ⟨trivial, ⟨trivial, ⟨trivial, ⟨trivial, ⟨rfl, trivial⟩⟩⟩⟩⟩⟩⟩⟩⟩⟩⟩⟩⟩⟩⟩⟩⟩⟩
def bb10_records_85 : List PI := [(1, .aload_n 0, 0, 0, 0, 0, kZ), (1, .dup, 0, 0, 0, 0, kZ), (3, .getfield 44, 10, 4, 0, 0, kZ), (1, .iconst 1, 0, 0, 0, 0, kZ), (1, .iadd, 0, 0, 0, 0, kZ), (3, .putfield 44, 10, 4, 0, 0, kZ), (1, .return_, 0, 0, 0, 0, kZ)]
set_option maxRecDepth 100000 in
theorem oo10_records_85 : okL m10_records 85 bb10_records_85 := okL_of _ _ (by decide +kernel) ⟨trivial, ⟨trivial, ⟨lf_10_44, ⟨trivial, ⟨trivial, ⟨lp_10_44 _, ⟨rfl, trivial⟩⟩⟩⟩⟩⟩⟩
def cd10_records (t : Nat) : Option (List PI) := match t with
  | 0 => some bb10_records_0
  | 39 => some bb10_records_39
  | 49 => some bb10_records_49
  | 85 => some bb10_records_85
  | _ => none
theorem kd10_records : ∀ t is, cd10_records t = some is → okL m10_records t is := by
  intro t is h
  unfold cd10_records at h
  split at h <;> cases h
  · exact oo10_records_0
  · exact oo10_records_39
  · exact oo10_records_49
  · exact oo10_records_85
theorem ff10_records : mi_r m10_records = none ∧ mi_l m10_records = 2 ∧ mi_h m10_records = [] ∧ (mi_rm m10_records).cells = 0 ∧ (mi_rm m10_records).slots = 0 ∧ (mi_rm m10_records).locals = 32 ∧ cd10_records 0 = some bb10_records_0 ∧ cd10_records 10 = none ∧ cd10_records 39 = some bb10_records_39 ∧ cd10_records 49 = some bb10_records_49 ∧ cd10_records 51 = none ∧ cd10_records 85 = some bb10_records_85 := ⟨rfl, rfl, rfl, rfl, rfl, rfl, rfl, rfl, rfl, rfl, rfl, rfl⟩
def bb10_putAside_0 : List PI := [(1, .iconst 0, 0, 0, 0, 0, kZ), (1, .istore_n 1, 0, 0, 0, 0, kZ)]
set_option maxRecDepth 100000 in
theorem oo10_putAside_0 : okL m10_putAside 0 bb10_putAside_0 := okL_of _ _ (by decide +kernel) ⟨trivial, ⟨trivial, trivial⟩⟩
def bb10_putAside_2 : List PI := [(1, .iload_n 1, 0, 0, 0, 0, kZ), (3, .sipush 568, 0, 0, 0, 0, kZ), (3, .if_icmp .ge 21, 27, 0, 0, 0, kZ), (1, .aload_n 0, 0, 0, 0, 0, kZ), (3, .getfield 13, 10, 2, 0, 0, kZ), (1, .iload_n 1, 0, 0, 0, 0, kZ), (1, .aload_n 0, 0, 0, 0, 0, kZ), (3, .getfield 7, 10, 1, 0, 0, kZ), (1, .iload_n 1, 0, 0, 0, 0, kZ), (1, .iaload, 0, 0, 0, 0, kZ), (1, .iastore, 0, 0, 0, 0, kZ), (3, .iinc 1 1, 0, 0, 0, 0, kZ), (3, .goto (-22), 2, 0, 0, 0, kZ)]
set_option maxRecDepth 100000 in
theorem oo10_putAside_2 : okL m10_putAside 2 bb10_putAside_2 := okL_of _ _ (by decide +kernel) ⟨trivial, ⟨trivial, ⟨rfl, ⟨trivial, ⟨lf_10_13, ⟨trivial, ⟨trivial, ⟨lf_10_7, ⟨trivial, ⟨trivial, ⟨trivial, ⟨trivial, ⟨rfl, trivial⟩⟩⟩⟩⟩⟩⟩⟩⟩⟩⟩⟩⟩
def bb10_putAside_27 : List PI := [(1, .return_, 0, 0, 0, 0, kZ)]
set_option maxRecDepth 100000 in
theorem oo10_putAside_27 : okL m10_putAside 27 bb10_putAside_27 := okL_of _ _ (by decide +kernel) ⟨rfl, trivial⟩
def cd10_putAside (t : Nat) : Option (List PI) := match t with
  | 0 => some bb10_putAside_0
  | 27 => some bb10_putAside_27
  | _ => none
theorem kd10_putAside : ∀ t is, cd10_putAside t = some is → okL m10_putAside t is := by
  intro t is h
  unfold cd10_putAside at h
  split at h <;> cases h
  · exact oo10_putAside_0
  · exact oo10_putAside_27
theorem ff10_putAside : mi_r m10_putAside = none ∧ mi_l m10_putAside = 2 ∧ mi_h m10_putAside = [] ∧ (mi_rm m10_putAside).cells = 0 ∧ (mi_rm m10_putAside).slots = 0 ∧ (mi_rm m10_putAside).locals = 32 ∧ cd10_putAside 0 = some bb10_putAside_0 ∧ cd10_putAside 2 = none ∧ cd10_putAside 27 = some bb10_putAside_27 := ⟨rfl, rfl, rfl, rfl, rfl, rfl, rfl, rfl, rfl⟩
def bb10_takeBack_0 : List PI := [(1, .iconst 0, 0, 0, 0, 0, kZ), (1, .istore_n 1, 0, 0, 0, 0, kZ)]
set_option maxRecDepth 100000 in
theorem oo10_takeBack_0 : okL m10_takeBack 0 bb10_takeBack_0 := okL_of _ _ (by decide +kernel) ⟨trivial, ⟨trivial, trivial⟩⟩
def bb10_takeBack_2 : List PI := [(1, .iload_n 1, 0, 0, 0, 0, kZ), (3, .sipush 568, 0, 0, 0, 0, kZ), (3, .if_icmp .ge 21, 27, 0, 0, 0, kZ), (1, .aload_n 0, 0, 0, 0, 0, kZ), (3, .getfield 7, 10, 1, 0, 0, kZ), (1, .iload_n 1, 0, 0, 0, 0, kZ), (1, .aload_n 0, 0, 0, 0, 0, kZ), (3, .getfield 13, 10, 2, 0, 0, kZ), (1, .iload_n 1, 0, 0, 0, 0, kZ), (1, .iaload, 0, 0, 0, 0, kZ), (1, .iastore, 0, 0, 0, 0, kZ), (3, .iinc 1 1, 0, 0, 0, 0, kZ), (3, .goto (-22), 2, 0, 0, 0, kZ)]
set_option maxRecDepth 100000 in
theorem oo10_takeBack_2 : okL m10_takeBack 2 bb10_takeBack_2 := okL_of _ _ (by decide +kernel) ⟨trivial, ⟨trivial, ⟨rfl, ⟨trivial, ⟨lf_10_7, ⟨trivial, ⟨trivial, ⟨lf_10_13, ⟨trivial, ⟨trivial, ⟨trivial, ⟨trivial, ⟨rfl, trivial⟩⟩⟩⟩⟩⟩⟩⟩⟩⟩⟩⟩⟩
def bb10_takeBack_27 : List PI := [(1, .return_, 0, 0, 0, 0, kZ)]
set_option maxRecDepth 100000 in
theorem oo10_takeBack_27 : okL m10_takeBack 27 bb10_takeBack_27 := okL_of _ _ (by decide +kernel) ⟨rfl, trivial⟩
def cd10_takeBack (t : Nat) : Option (List PI) := match t with
  | 0 => some bb10_takeBack_0
  | 27 => some bb10_takeBack_27
  | _ => none
theorem kd10_takeBack : ∀ t is, cd10_takeBack t = some is → okL m10_takeBack t is := by
  intro t is h
  unfold cd10_takeBack at h
  split at h <;> cases h
  · exact oo10_takeBack_0
  · exact oo10_takeBack_27
theorem ff10_takeBack : mi_r m10_takeBack = none ∧ mi_l m10_takeBack = 2 ∧ mi_h m10_takeBack = [] ∧ (mi_rm m10_takeBack).cells = 0 ∧ (mi_rm m10_takeBack).slots = 0 ∧ (mi_rm m10_takeBack).locals = 32 ∧ cd10_takeBack 0 = some bb10_takeBack_0 ∧ cd10_takeBack 2 = none ∧ cd10_takeBack 27 = some bb10_takeBack_27 := ⟨rfl, rfl, rfl, rfl, rfl, rfl, rfl, rfl, rfl⟩
def bb10_findsRuns_0 : List PI := [(1, .iconst 0, 0, 0, 0, 0, kZ), (1, .istore_n 2, 0, 0, 0, 0, kZ), (1, .aload_n 0, 0, 0, 0, 0, kZ), (1, .iconst 1, 0, 0, 0, 0, kZ), (3, .putfield 47, 10, 14, 0, 0, kZ), (1, .aload_n 0, 0, 0, 0, 0, kZ), (3, .getfield 28, 10, 13, 0, 0, kZ), (1, .iconst 0, 0, 0, 0, 0, kZ), (1, .iconst 0, 0, 0, 0, 0, kZ), (1, .iastore, 0, 0, 0, 0, kZ), (1, .iconst 0, 0, 0, 0, 0, kZ), (1, .istore_n 3, 0, 0, 0, 0, kZ)]
set_option maxRecDepth 100000 in
theorem oo10_findsRuns_0 : okL m10_findsRuns 0 bb10_findsRuns_0 := okL_of _ _ (by decide +kernel) ⟨trivial, ⟨trivial, ⟨trivial, ⟨trivial, ⟨lp_10_47 _, ⟨trivial, ⟨lf_10_28, ⟨trivial, ⟨trivial, ⟨trivial, ⟨trivial, ⟨trivial, trivial⟩⟩⟩⟩⟩⟩⟩⟩⟩⟩⟩⟩
def bb10_findsRuns_16 : List PI := [(1, .iload_n 3, 0, 0, 0, 0, kZ), (1, .aload_n 0, 0, 0, 0, 0, kZ), (3, .getfield 7, 10, 1, 0, 0, kZ), (1, .iconst 0, 0, 0, 0, 0, kZ), (1, .iaload, 0, 0, 0, 0, kZ), (3, .if_icmp .ge 57, 80, 0, 0, 0, kZ), (1, .iload_n 1, 0, 0, 0, 0, kZ), (1, .iload_n 3, 0, 0, 0, 0, kZ), (1, .iushr, 0, 0, 0, 0, kZ), (1, .iconst 1, 0, 0, 0, 0, kZ), (1, .iand, 0, 0, 0, 0, kZ), (1, .iload_n 2, 0, 0, 0, 0, kZ), (3, .if_icmp .eq 27, 59, 0, 0, 0, kZ), (1, .iconst 1, 0, 0, 0, 0, kZ), (1, .iload_n 2, 0, 0, 0, 0, kZ), (1, .isub, 0, 0, 0, 0, kZ), (1, .istore_n 2, 0, 0, 0, 0, kZ), (1, .aload_n 0, 0, 0, 0, 0, kZ), (3, .getfield 28, 10, 13, 0, 0, kZ), (1, .aload_n 0, 0, 0, 0, 0, kZ), (3, .getfield 47, 10, 14, 0, 0, kZ), (1, .iconst 0, 0, 0, 0, 0, kZ), (1, .iastore, 0, 0, 0, 0, kZ), (1, .aload_n 0, 0, 0, 0, 0, kZ), (1, .dup, 0, 0, 0, 0, kZ), (3, .getfield 47, 10, 14, 0, 0, kZ), (1, .iconst 1, 0, 0, 0, 0, kZ), (1, .iadd, 0, 0, 0, 0, kZ), (3, .putfield 47, 10, 14, 0, 0, kZ)]
set_option maxRecDepth 100000 in
theorem oo10_findsRuns_16 : okL m10_findsRuns 16 bb10_findsRuns_16 := okL_of _ _ (by decide +kernel) ⟨trivial, ⟨trivial, ⟨lf_10_7, ⟨trivial, ⟨trivial, ⟨rfl, ⟨trivial, ⟨trivial, ⟨trivial, ⟨trivial, ⟨trivial, ⟨trivial, ⟨rfl, ⟨trivial, ⟨trivial, ⟨trivial, ⟨trivial, ⟨trivial, ⟨lf_10_28, ⟨trivial, ⟨lf_10_47, ⟨trivial, ⟨trivial, ⟨trivial, ⟨trivial, ⟨lf_10_47, ⟨trivial, ⟨trivial, ⟨lp_10_47 _, trivial⟩⟩⟩⟩⟩⟩⟩⟩⟩⟩⟩⟩⟩⟩⟩⟩⟩⟩⟩⟩⟩⟩⟩⟩⟩⟩⟩⟩⟩
def bb10_findsRuns_59 : List PI := [(1, .aload_n 0, 0, 0, 0, 0, kZ), (3, .getfield 28, 10, 13, 0, 0, kZ), (1, .aload_n 0, 0, 0, 0, 0, kZ), (3, .getfield 47, 10, 14, 0, 0, kZ), (1, .iconst 1, 0, 0, 0, 0, kZ), (1, .isub, 0, 0, 0, 0, kZ), (1, .dup2, 0, 0, 0, 0, kZ), (1, .iaload, 0, 0, 0, 0, kZ), (1, .iconst 1, 0, 0, 0, 0, kZ), (1, .iadd, 0, 0, 0, 0, kZ), (1, .iastore, 0, 0, 0, 0, kZ), (3, .iinc 3 1, 0, 0, 0, 0, kZ), (3, .goto (-61), 16, 0, 0, 0, kZ)]
set_option maxRecDepth 100000 in
theorem oo10_findsRuns_59 : okL m10_findsRuns 59 bb10_findsRuns_59 := okL_of _ _ (by decide +kernel) ⟨trivial, ⟨lf_10_28, ⟨trivial, ⟨lf_10_47, ⟨trivial, ⟨trivial, ⟨trivial, ⟨trivial, ⟨trivial, ⟨trivial, ⟨trivial, ⟨trivial, ⟨rfl, trivial⟩⟩⟩⟩⟩⟩⟩⟩⟩⟩⟩⟩⟩
def bb10_findsRuns_80 : List PI := [(1, .return_, 0, 0, 0, 0, kZ)]
set_option maxRecDepth 100000 in
theorem oo10_findsRuns_80 : okL m10_findsRuns 80 bb10_findsRuns_80 := okL_of _ _ (by decide +kernel) ⟨rfl, trivial⟩
def cd10_findsRuns (t : Nat) : Option (List PI) := match t with
  | 0 => some bb10_findsRuns_0
  | 59 => some bb10_findsRuns_59
  | 80 => some bb10_findsRuns_80
  | _ => none
theorem kd10_findsRuns : ∀ t is, cd10_findsRuns t = some is → okL m10_findsRuns t is := by
  intro t is h
  unfold cd10_findsRuns at h
  split at h <;> cases h
  · exact oo10_findsRuns_0
  · exact oo10_findsRuns_59
  · exact oo10_findsRuns_80
theorem ff10_findsRuns : mi_r m10_findsRuns = none ∧ mi_l m10_findsRuns = 4 ∧ mi_h m10_findsRuns = [] ∧ (mi_rm m10_findsRuns).cells = 0 ∧ (mi_rm m10_findsRuns).slots = 0 ∧ (mi_rm m10_findsRuns).locals = 32 ∧ cd10_findsRuns 0 = some bb10_findsRuns_0 ∧ cd10_findsRuns 16 = none ∧ cd10_findsRuns 59 = some bb10_findsRuns_59 ∧ cd10_findsRuns 80 = some bb10_findsRuns_80 := ⟨rfl, rfl, rfl, rfl, rfl, rfl, rfl, rfl, rfl, rfl⟩
def bb10_writes_0 : List PI := [(1, .aload_n 0, 0, 0, 0, 0, kZ), (3, .getfield 31, 10, 15, 0, 0, kZ), (1, .aload_n 0, 0, 0, 0, 0, kZ), (3, .getfield 50, 10, 16, 0, 0, kZ), (1, .iload_n 1, 0, 0, 0, 0, kZ), (1, .iastore, 0, 0, 0, 0, kZ), (1, .aload_n 0, 0, 0, 0, 0, kZ), (1, .dup, 0, 0, 0, 0, kZ), (3, .getfield 50, 10, 16, 0, 0, kZ), (1, .iconst 1, 0, 0, 0, 0, kZ), (1, .iadd, 0, 0, 0, 0, kZ), (3, .putfield 50, 10, 16, 0, 0, kZ), (1, .aload_n 0, 0, 0, 0, 0, kZ), (1, .dup, 0, 0, 0, 0, kZ), (3, .getfield 53, 10, 17, 0, 0, kZ), (1, .iload_n 1, 0, 0, 0, 0, kZ), (1, .iadd, 0, 0, 0, 0, kZ), (3, .putfield 53, 10, 17, 0, 0, kZ), (1, .iload_n 1, 0, 0, 0, 0, kZ), (2, .bipush 15, 0, 0, 0, 0, kZ), (3, .if_icmp .ne 23, 56, 0, 0, 0, kZ), (1, .aload_n 0, 0, 0, 0, 0, kZ), (3, .getfield 31, 10, 15, 0, 0, kZ), (1, .aload_n 0, 0, 0, 0, 0, kZ), (3, .getfield 50, 10, 16, 0, 0, kZ), (1, .iconst 1, 0, 0, 0, 0, kZ), (1, .iastore, 0, 0, 0, 0, kZ), (1, .aload_n 0, 0, 0, 0, 0, kZ), (1, .dup, 0, 0, 0, 0, kZ), (3, .getfield 50, 10, 16, 0, 0, kZ), (1, .iconst 1, 0, 0, 0, 0, kZ), (1, .iadd, 0, 0, 0, 0, kZ), (3, .putfield 50, 10, 16, 0, 0, kZ)]
set_option maxRecDepth 100000 in
theorem oo10_writes_0 : okL m10_writes 0 bb10_writes_0 := okL_of _ _ (by decide +kernel) ⟨trivial, ⟨lf_10_31, ⟨trivial, ⟨lf_10_50, ⟨trivial, ⟨trivial, ⟨trivial, ⟨trivial, ⟨lf_10_50, ⟨trivial, ⟨trivial, ⟨lp_10_50 _, ⟨trivial, ⟨trivial, ⟨lf_10_53, ⟨trivial, ⟨trivial, ⟨lp_10_53 _, ⟨trivial, ⟨trivial, ⟨rfl, ⟨trivial, ⟨lf_10_31, ⟨trivial, ⟨lf_10_50, ⟨trivial, ⟨trivial, ⟨trivial, ⟨trivial, ⟨lf_10_50, ⟨trivial, ⟨trivial, ⟨lp_10_50 _, trivial⟩⟩⟩⟩⟩⟩⟩⟩⟩⟩⟩⟩⟩⟩⟩⟩⟩⟩⟩⟩⟩⟩⟩⟩⟩⟩⟩⟩⟩⟩⟩⟩⟩
def bb10_writes_56 : List PI := [(1, .return_, 0, 0, 0, 0, kZ)]
set_option maxRecDepth 100000 in
theorem oo10_writes_56 : okL m10_writes 56 bb10_writes_56 := okL_of _ _ (by decide +kernel) ⟨rfl, trivial⟩
def cd10_writes (t : Nat) : Option (List PI) := match t with
  | 0 => some bb10_writes_0
  | 56 => some bb10_writes_56
  | _ => none
theorem kd10_writes : ∀ t is, cd10_writes t = some is → okL m10_writes t is := by
  intro t is h
  unfold cd10_writes at h
  split at h <;> cases h
  · exact oo10_writes_0
  · exact oo10_writes_56
theorem ff10_writes : mi_r m10_writes = none ∧ mi_l m10_writes = 2 ∧ mi_h m10_writes = [] ∧ (mi_rm m10_writes).cells = 0 ∧ (mi_rm m10_writes).slots = 0 ∧ (mi_rm m10_writes).locals = 32 ∧ cd10_writes 0 = some bb10_writes_0 ∧ cd10_writes 56 = some bb10_writes_56 := ⟨rfl, rfl, rfl, rfl, rfl, rfl, rfl, rfl⟩
def bb10_writesRuns_0 : List PI := [(1, .aload_n 0, 0, 0, 0, 0, kZ), (1, .iload_n 1, 0, 0, 0, 0, kZ), (3, .invokevirtual 56, 1, 10, 0, 0, m10_findsRuns), (1, .iconst 0, 0, 0, 0, 0, kZ), (1, .istore_n 2, 0, 0, 0, 0, kZ)]
set_option maxRecDepth 100000 in
theorem oo10_writesRuns_0 : okL m10_writesRuns 0 bb10_writesRuns_0 := okL_of _ _ (by decide +kernel) ⟨trivial, ⟨trivial, ⟨⟨mok_m10_findsRuns, ⟨by decide, by decide⟩, rfl, by decide, Or.inl lc_10_56⟩, ⟨trivial, ⟨trivial, trivial⟩⟩⟩⟩⟩
def bb10_writesRuns_7 : List PI := [(1, .iload_n 2, 0, 0, 0, 0, kZ), (1, .aload_n 0, 0, 0, 0, 0, kZ), (3, .getfield 47, 10, 14, 0, 0, kZ), (3, .if_icmp .ge 65, 77, 0, 0, 0, kZ), (1, .aload_n 0, 0, 0, 0, 0, kZ), (3, .getfield 28, 10, 13, 0, 0, kZ), (1, .iload_n 2, 0, 0, 0, 0, kZ), (1, .iaload, 0, 0, 0, 0, kZ), (2, .bipush 13, 0, 0, 0, 0, kZ), (3, .if_icmp .le 38, 61, 0, 0, 0, kZ), (1, .aload_n 0, 0, 0, 0, 0, kZ), (2, .bipush 14, 0, 0, 0, 0, kZ), (3, .invokevirtual 60, 1, 10, 0, 0, m10_writes), (1, .aload_n 0, 0, 0, 0, 0, kZ), (1, .aload_n 0, 0, 0, 0, 0, kZ), (3, .getfield 28, 10, 13, 0, 0, kZ), (1, .iload_n 2, 0, 0, 0, 0, kZ), (1, .iaload, 0, 0, 0, 0, kZ), (2, .bipush 16, 0, 0, 0, 0, kZ), (1, .idiv, 0, 0, 0, 0, kZ), (3, .invokevirtual 60, 1, 10, 0, 0, m10_writes), (1, .aload_n 0, 0, 0, 0, 0, kZ), (1, .aload_n 0, 0, 0, 0, 0, kZ), (3, .getfield 28, 10, 13, 0, 0, kZ), (1, .iload_n 2, 0, 0, 0, 0, kZ), (1, .iaload, 0, 0, 0, 0, kZ), (2, .bipush 16, 0, 0, 0, 0, kZ), (1, .irem, 0, 0, 0, 0, kZ), (3, .invokevirtual 60, 1, 10, 0, 0, m10_writes), (3, .goto 13, 71, 0, 0, 0, kZ)]
set_option maxRecDepth 100000 in
theorem oo10_writesRuns_7 : okL m10_writesRuns 7 bb10_writesRuns_7 := okL_of _ _ (by decide +kernel) ⟨trivial, ⟨trivial, ⟨lf_10_47, ⟨rfl, ⟨trivial, ⟨lf_10_28, ⟨trivial, ⟨trivial, ⟨trivial, ⟨rfl, ⟨trivial, ⟨trivial, ⟨⟨mok_m10_writes, ⟨by decide, by decide⟩, rfl, by decide, Or.inl lc_10_60⟩, ⟨trivial, ⟨trivial, ⟨lf_10_28, ⟨trivial, ⟨trivial, ⟨trivial, ⟨trivial, ⟨⟨mok_m10_writes, ⟨by decide, by decide⟩, rfl, by decide, Or.inl lc_10_60⟩, ⟨trivial, ⟨trivial, ⟨lf_10_28, ⟨trivial, ⟨trivial, ⟨trivial, ⟨trivial, ⟨⟨mok_m10_writes, ⟨by decide, by decide⟩, rfl, by decide, Or.inl lc_10_60⟩, ⟨rfl, trivial⟩⟩⟩⟩⟩⟩⟩⟩⟩⟩⟩⟩⟩⟩⟩⟩⟩⟩⟩⟩⟩⟩⟩⟩⟩⟩⟩⟩⟩⟩
def bb10_writesRuns_61 : List PI := [(1, .aload_n 0, 0, 0, 0, 0, kZ), (1, .aload_n 0, 0, 0, 0, 0, kZ), (3, .getfield 28, 10, 13, 0, 0, kZ), (1, .iload_n 2, 0, 0, 0, 0, kZ), (1, .iaload, 0, 0, 0, 0, kZ), (3, .invokevirtual 60, 1, 10, 0, 0, m10_writes)]
set_option maxRecDepth 100000 in
theorem oo10_writesRuns_61 : okL m10_writesRuns 61 bb10_writesRuns_61 := okL_of _ _ (by decide +kernel) ⟨trivial, ⟨trivial, ⟨lf_10_28, ⟨trivial, ⟨trivial, ⟨⟨mok_m10_writes, ⟨by decide, by decide⟩, rfl, by decide, Or.inl lc_10_60⟩, trivial⟩⟩⟩⟩⟩⟩
def bb10_writesRuns_71 : List PI := [(3, .iinc 2 1, 0, 0, 0, 0, kZ), (3, .goto (-67), 7, 0, 0, 0, kZ)]
set_option maxRecDepth 100000 in
theorem oo10_writesRuns_71 : okL m10_writesRuns 71 bb10_writesRuns_71 := okL_of _ _ (by decide +kernel) ⟨trivial, ⟨rfl, trivial⟩⟩
def bb10_writesRuns_77 : List PI := [(1, .return_, 0, 0, 0, 0, kZ)]
set_option maxRecDepth 100000 in
theorem oo10_writesRuns_77 : okL m10_writesRuns 77 bb10_writesRuns_77 := okL_of _ _ (by decide +kernel) ⟨rfl, trivial⟩
def cd10_writesRuns (t : Nat) : Option (List PI) := match t with
  | 0 => some bb10_writesRuns_0
  | 61 => some bb10_writesRuns_61
  | 71 => some bb10_writesRuns_71
  | 77 => some bb10_writesRuns_77
  | _ => none
theorem kd10_writesRuns : ∀ t is, cd10_writesRuns t = some is → okL m10_writesRuns t is := by
  intro t is h
  unfold cd10_writesRuns at h
  split at h <;> cases h
  · exact oo10_writesRuns_0
  · exact oo10_writesRuns_61
  · exact oo10_writesRuns_71
  · exact oo10_writesRuns_77
theorem ff10_writesRuns : mi_r m10_writesRuns = none ∧ mi_l m10_writesRuns = 3 ∧ mi_h m10_writesRuns = [] ∧ (mi_rm m10_writesRuns).cells = 0 ∧ (mi_rm m10_writesRuns).slots = 0 ∧ (mi_rm m10_writesRuns).locals = 55 ∧ cd10_writesRuns 0 = some bb10_writesRuns_0 ∧ cd10_writesRuns 7 = none ∧ cd10_writesRuns 61 = some bb10_writesRuns_61 ∧ cd10_writesRuns 71 = some bb10_writesRuns_71 ∧ cd10_writesRuns 77 = some bb10_writesRuns_77 ∧ (mi_rm m10_findsRuns).cells = 0 ∧ (mi_rm m10_findsRuns).slots = 0 ∧ (mi_rm m10_writes).cells = 0 ∧ (mi_rm m10_writes).slots = 0 := ⟨rfl, rfl, rfl, rfl, rfl, rfl, rfl, rfl, rfl, rfl, rfl, rfl, rfl, rfl, rfl⟩
def bb10_writesFours_0 : List PI := [(1, .iconst 0, 0, 0, 0, 0, kZ), (1, .istore_n 2, 0, 0, 0, 0, kZ)]
set_option maxRecDepth 100000 in
theorem oo10_writesFours_0 : okL m10_writesFours 0 bb10_writesFours_0 := okL_of _ _ (by decide +kernel) ⟨trivial, ⟨trivial, trivial⟩⟩
def bb10_writesFours_2 : List PI := [(1, .iload_n 2, 0, 0, 0, 0, kZ), (1, .aload_n 0, 0, 0, 0, 0, kZ), (3, .getfield 7, 10, 1, 0, 0, kZ), (1, .iconst 0, 0, 0, 0, 0, kZ), (1, .iaload, 0, 0, 0, 0, kZ), (3, .if_icmp .ge 64, 73, 0, 0, 0, kZ), (1, .iconst 0, 0, 0, 0, 0, kZ), (1, .istore_n 3, 0, 0, 0, 0, kZ), (1, .iconst 0, 0, 0, 0, 0, kZ), (2, .istore 4, 0, 0, 0, 0, kZ)]
set_option maxRecDepth 100000 in
theorem oo10_writesFours_2 : okL m10_writesFours 2 bb10_writesFours_2 := okL_of _ _ (by decide +kernel) ⟨trivial, ⟨trivial, ⟨lf_10_7, ⟨trivial, ⟨trivial, ⟨rfl, ⟨trivial, ⟨trivial, ⟨trivial, ⟨trivial, trivial⟩⟩⟩⟩⟩⟩⟩⟩⟩⟩
def bb10_writesFours_17 : List PI := [(2, .iload 4, 0, 0, 0, 0, kZ), (1, .iconst 4, 0, 0, 0, 0, kZ), (3, .if_icmp .ge 42, 62, 0, 0, 0, kZ), (1, .iload_n 3, 0, 0, 0, 0, kZ), (1, .iload_n 2, 0, 0, 0, 0, kZ), (2, .iload 4, 0, 0, 0, 0, kZ), (1, .iadd, 0, 0, 0, 0, kZ), (2, .bipush 32, 0, 0, 0, 0, kZ), (3, .if_icmp .ge 23, 53, 0, 0, 0, kZ), (1, .iload_n 1, 0, 0, 0, 0, kZ), (1, .iload_n 2, 0, 0, 0, 0, kZ), (2, .iload 4, 0, 0, 0, 0, kZ), (1, .iadd, 0, 0, 0, 0, kZ), (1, .iushr, 0, 0, 0, 0, kZ), (1, .iconst 1, 0, 0, 0, 0, kZ), (1, .iand, 0, 0, 0, 0, kZ), (1, .iconst 1, 0, 0, 0, 0, kZ), (3, .if_icmp .ne 11, 53, 0, 0, 0, kZ), (2, .bipush 8, 0, 0, 0, 0, kZ), (2, .iload 4, 0, 0, 0, 0, kZ), (1, .ishr, 0, 0, 0, 0, kZ), (3, .goto 4, 54, 0, 0, 0, kZ)]
set_option maxRecDepth 100000 in
theorem oo10_writesFours_17 : okL m10_writesFours 17 bb10_writesFours_17 := okL_of _ _ (by decide +kernel) ⟨trivial, ⟨trivial, ⟨rfl, ⟨trivial, ⟨trivial, ⟨trivial, ⟨trivial, ⟨trivial, ⟨rfl, ⟨trivial, ⟨trivial, ⟨trivial, ⟨trivial, ⟨trivial, ⟨trivial, ⟨trivial, ⟨trivial, ⟨rfl, ⟨trivial, ⟨trivial, ⟨trivial, ⟨rfl, trivial⟩⟩⟩⟩⟩⟩⟩⟩⟩⟩⟩⟩⟩⟩⟩⟩⟩⟩⟩⟩⟩⟩
def bb10_writesFours_53 : List PI := [(1, .iconst 0, 0, 0, 0, 0, kZ)]
set_option maxRecDepth 100000 in
theorem oo10_writesFours_53 : okL m10_writesFours 53 bb10_writesFours_53 := okL_of _ _ (by decide +kernel) ⟨trivial, trivial⟩
def bb10_writesFours_54 : List PI := [(1, .iadd, 0, 0, 0, 0, kZ), (1, .istore_n 3, 0, 0, 0, 0, kZ), (3, .iinc 4 1, 0, 0, 0, 0, kZ), (3, .goto (-42), 17, 0, 0, 0, kZ)]
set_option maxRecDepth 100000 in
theorem oo10_writesFours_54 : okL m10_writesFours 54 bb10_writesFours_54 := okL_of _ _ (by decide +kernel) ⟨trivial, ⟨trivial, ⟨trivial, ⟨rfl, trivial⟩⟩⟩⟩
def bb10_writesFours_62 : List PI := [(1, .aload_n 0, 0, 0, 0, 0, kZ), (1, .iload_n 3, 0, 0, 0, 0, kZ), (3, .invokevirtual 60, 1, 10, 0, 0, m10_writes), (3, .iinc 2 4, 0, 0, 0, 0, kZ), (3, .goto (-68), 2, 0, 0, 0, kZ)]
set_option maxRecDepth 100000 in
theorem oo10_writesFours_62 : okL m10_writesFours 62 bb10_writesFours_62 := okL_of _ _ (by decide +kernel) ⟨trivial, ⟨trivial, ⟨⟨mok_m10_writes, ⟨by decide, by decide⟩, rfl, by decide, Or.inl lc_10_60⟩, ⟨trivial, ⟨rfl, trivial⟩⟩⟩⟩⟩
def bb10_writesFours_73 : List PI := [(1, .return_, 0, 0, 0, 0, kZ)]
set_option maxRecDepth 100000 in
theorem oo10_writesFours_73 : okL m10_writesFours 73 bb10_writesFours_73 := okL_of _ _ (by decide +kernel) ⟨rfl, trivial⟩
def cd10_writesFours (t : Nat) : Option (List PI) := match t with
  | 0 => some bb10_writesFours_0
  | 53 => some bb10_writesFours_53
  | 54 => some bb10_writesFours_54
  | 62 => some bb10_writesFours_62
  | 73 => some bb10_writesFours_73
  | _ => none
theorem kd10_writesFours : ∀ t is, cd10_writesFours t = some is → okL m10_writesFours t is := by
  intro t is h
  unfold cd10_writesFours at h
  split at h <;> cases h
  · exact oo10_writesFours_0
  · exact oo10_writesFours_53
  · exact oo10_writesFours_54
  · exact oo10_writesFours_62
  · exact oo10_writesFours_73
theorem ff10_writesFours : mi_r m10_writesFours = none ∧ mi_l m10_writesFours = 5 ∧ mi_h m10_writesFours = [] ∧ (mi_rm m10_writesFours).cells = 0 ∧ (mi_rm m10_writesFours).slots = 0 ∧ (mi_rm m10_writesFours).locals = 53 ∧ cd10_writesFours 0 = some bb10_writesFours_0 ∧ cd10_writesFours 2 = none ∧ cd10_writesFours 17 = none ∧ cd10_writesFours 53 = some bb10_writesFours_53 ∧ cd10_writesFours 54 = some bb10_writesFours_54 ∧ cd10_writesFours 62 = some bb10_writesFours_62 ∧ cd10_writesFours 73 = some bb10_writesFours_73 ∧ (mi_rm m10_writes).cells = 0 ∧ (mi_rm m10_writes).slots = 0 := ⟨rfl, rfl, rfl, rfl, rfl, rfl, rfl, rfl, rfl, rfl, rfl, rfl, rfl, rfl, rfl⟩
def bb10_codes_0 : List PI := [(1, .aload_n 0, 0, 0, 0, 0, kZ), (3, .getfield 7, 10, 1, 0, 0, kZ), (2, .bipush 8, 0, 0, 0, 0, kZ), (1, .iload_n 1, 0, 0, 0, 0, kZ), (1, .iadd, 0, 0, 0, 0, kZ), (1, .iaload, 0, 0, 0, 0, kZ), (1, .istore_n 3, 0, 0, 0, 0, kZ), (1, .aload_n 0, 0, 0, 0, 0, kZ), (3, .getfield 31, 10, 15, 0, 0, kZ), (1, .iconst 0, 0, 0, 0, 0, kZ), (2, .bipush 15, 0, 0, 0, 0, kZ), (1, .iastore, 0, 0, 0, 0, kZ), (1, .aload_n 0, 0, 0, 0, 0, kZ), (3, .getfield 31, 10, 15, 0, 0, kZ), (1, .iconst 1, 0, 0, 0, 0, kZ), (1, .iconst 0, 0, 0, 0, 0, kZ), (1, .iastore, 0, 0, 0, 0, kZ), (1, .aload_n 0, 0, 0, 0, 0, kZ), (3, .getfield 31, 10, 15, 0, 0, kZ), (1, .iconst 2, 0, 0, 0, 0, kZ), (1, .iload_n 1, 0, 0, 0, 0, kZ), (1, .iastore, 0, 0, 0, 0, kZ), (1, .aload_n 0, 0, 0, 0, 0, kZ), (3, .getfield 31, 10, 15, 0, 0, kZ), (1, .iconst 3, 0, 0, 0, 0, kZ), (1, .iload_n 2, 0, 0, 0, 0, kZ), (1, .iastore, 0, 0, 0, 0, kZ), (1, .aload_n 0, 0, 0, 0, 0, kZ), (1, .iconst 4, 0, 0, 0, 0, kZ), (3, .putfield 50, 10, 16, 0, 0, kZ), (1, .aload_n 0, 0, 0, 0, 0, kZ), (1, .iload_n 1, 0, 0, 0, 0, kZ), (1, .iload_n 2, 0, 0, 0, 0, kZ), (1, .iadd, 0, 0, 0, 0, kZ), (3, .putfield 53, 10, 17, 0, 0, kZ), (1, .iload_n 2, 0, 0, 0, 0, kZ), (1, .iconst 1, 0, 0, 0, 0, kZ), (3, .if_icmp .ne 11, 64, 0, 0, 0, kZ), (1, .aload_n 0, 0, 0, 0, 0, kZ), (1, .iload_n 3, 0, 0, 0, 0, kZ), (3, .invokevirtual 63, 1, 10, 0, 0, m10_writesFours), (3, .goto 32, 93, 0, 0, 0, kZ)]
set_option maxRecDepth 100000 in
theorem oo10_codes_0 : okL m10_codes 0 bb10_codes_0 := okL_of _ _ (by decide +kernel) ⟨trivial, ⟨lf_10_7, ⟨trivial, ⟨trivial, ⟨trivial, ⟨trivial, ⟨trivial, ⟨trivial, ⟨lf_10_31, ⟨trivial, ⟨trivial, ⟨trivial, ⟨trivial, ⟨lf_10_31, ⟨trivial, ⟨trivial, ⟨trivial, ⟨trivial, ⟨lf_10_31, ⟨trivial, ⟨trivial, ⟨trivial, ⟨trivial, ⟨lf_10_31, ⟨trivial, ⟨trivial, ⟨trivial, ⟨trivial, ⟨trivial, ⟨lp_10_50 _, ⟨trivial, ⟨trivial, ⟨trivial, ⟨trivial, ⟨lp_10_53 _, ⟨trivial, ⟨trivial, ⟨rfl, ⟨trivial, ⟨trivial, ⟨⟨mok_m10_writesFours, ⟨by decide, by decide⟩, rfl, by decide, Or.inl lc_10_63⟩, ⟨rfl, trivial⟩⟩⟩⟩⟩⟩⟩⟩⟩⟩⟩⟩⟩⟩⟩⟩⟩⟩⟩⟩⟩⟩⟩⟩⟩⟩⟩⟩⟩⟩⟩⟩⟩⟩⟩⟩⟩⟩⟩⟩⟩⟩
def bb10_codes_64 : List PI := [(1, .aload_n 0, 0, 0, 0, 0, kZ), (1, .iload_n 2, 0, 0, 0, 0, kZ), (3, .ifCond .eq 7, 73, 0, 0, 0, kZ), (1, .iload_n 1, 0, 0, 0, 0, kZ), (3, .ifCond .ne 7, 77, 0, 0, 0, kZ)]
set_option maxRecDepth 100000 in
theorem oo10_codes_64 : okL m10_codes 64 bb10_codes_64 := okL_of _ _ (by decide +kernel) ⟨trivial, ⟨trivial, ⟨rfl, ⟨trivial, ⟨rfl, trivial⟩⟩⟩⟩⟩
def bb10_codes_73 : List PI := [(1, .iload_n 3, 0, 0, 0, 0, kZ), (3, .goto 16, 90, 0, 0, 0, kZ)]
set_option maxRecDepth 100000 in
theorem oo10_codes_73 : okL m10_codes 73 bb10_codes_73 := okL_of _ _ (by decide +kernel) ⟨trivial, ⟨rfl, trivial⟩⟩
def bb10_codes_77 : List PI := [(1, .iload_n 3, 0, 0, 0, 0, kZ), (1, .aload_n 0, 0, 0, 0, 0, kZ), (3, .getfield 7, 10, 1, 0, 0, kZ), (2, .bipush 8, 0, 0, 0, 0, kZ), (1, .iload_n 1, 0, 0, 0, 0, kZ), (1, .iadd, 0, 0, 0, 0, kZ), (1, .iconst 1, 0, 0, 0, 0, kZ), (1, .isub, 0, 0, 0, 0, kZ), (1, .iaload, 0, 0, 0, 0, kZ), (1, .ixor, 0, 0, 0, 0, kZ)]
set_option maxRecDepth 100000 in
theorem oo10_codes_77 : okL m10_codes 77 bb10_codes_77 := okL_of _ _ (by decide +kernel) ⟨trivial, ⟨trivial, ⟨lf_10_7, ⟨trivial, ⟨trivial, ⟨trivial, ⟨trivial, ⟨trivial, ⟨trivial, ⟨trivial, trivial⟩⟩⟩⟩⟩⟩⟩⟩⟩⟩
def bb10_codes_90 : List PI := [(3, .invokevirtual 66, 1, 10, 0, 0, m10_writesRuns)]
set_option maxRecDepth 100000 in
theorem oo10_codes_90 : okL m10_codes 90 bb10_codes_90 := okL_of _ _ (by decide +kernel) ⟨⟨mok_m10_writesRuns, ⟨by decide, by decide⟩, rfl, by decide, Or.inl lc_10_66⟩, trivial⟩
def bb10_codes_93 : List PI := [(1, .aload_n 0, 0, 0, 0, 0, kZ), (3, .getfield 31, 10, 15, 0, 0, kZ), (1, .aload_n 0, 0, 0, 0, 0, kZ), (3, .getfield 50, 10, 16, 0, 0, kZ), (1, .aload_n 0, 0, 0, 0, 0, kZ), (3, .getfield 53, 10, 17, 0, 0, kZ), (2, .bipush 15, 0, 0, 0, 0, kZ), (1, .irem, 0, 0, 0, 0, kZ), (1, .iastore, 0, 0, 0, 0, kZ), (1, .aload_n 0, 0, 0, 0, 0, kZ), (1, .dup, 0, 0, 0, 0, kZ), (3, .getfield 50, 10, 16, 0, 0, kZ), (1, .iconst 1, 0, 0, 0, 0, kZ), (1, .iadd, 0, 0, 0, 0, kZ), (3, .putfield 50, 10, 16, 0, 0, kZ), (1, .aload_n 0, 0, 0, 0, 0, kZ), (3, .getfield 50, 10, 16, 0, 0, kZ), (1, .ireturn, 0, 0, 0, 0, kZ)]
set_option maxRecDepth 100000 in
theorem oo10_codes_93 : okL m10_codes 93 bb10_codes_93 := okL_of _ _ (by decide +kernel) ⟨trivial, ⟨lf_10_31, ⟨trivial, ⟨lf_10_50, ⟨trivial, ⟨lf_10_53, ⟨trivial, ⟨trivial, ⟨trivial, ⟨trivial, ⟨trivial, ⟨lf_10_50, ⟨trivial, ⟨trivial, ⟨lp_10_50 _, ⟨trivial, ⟨lf_10_50, ⟨trivial, trivial⟩⟩⟩⟩⟩⟩⟩⟩⟩⟩⟩⟩⟩⟩⟩⟩⟩⟩
def cd10_codes (t : Nat) : Option (List PI) := match t with
  | 0 => some bb10_codes_0
  | 64 => some bb10_codes_64
  | 73 => some bb10_codes_73
  | 77 => some bb10_codes_77
  | 90 => some bb10_codes_90
  | 93 => some bb10_codes_93
  | _ => none
theorem kd10_codes : ∀ t is, cd10_codes t = some is → okL m10_codes t is := by
  intro t is h
  unfold cd10_codes at h
  split at h <;> cases h
  · exact oo10_codes_0
  · exact oo10_codes_64
  · exact oo10_codes_73
  · exact oo10_codes_77
  · exact oo10_codes_90
  · exact oo10_codes_93
theorem ff10_codes : mi_r m10_codes = (some .int) ∧ mi_l m10_codes = 4 ∧ mi_h m10_codes = [] ∧ (mi_rm m10_codes).cells = 0 ∧ (mi_rm m10_codes).slots = 0 ∧ (mi_rm m10_codes).locals = 77 ∧ cd10_codes 0 = some bb10_codes_0 ∧ cd10_codes 64 = some bb10_codes_64 ∧ cd10_codes 73 = some bb10_codes_73 ∧ cd10_codes 77 = some bb10_codes_77 ∧ cd10_codes 90 = some bb10_codes_90 ∧ cd10_codes 93 = some bb10_codes_93 ∧ (mi_rm m10_writesFours).cells = 0 ∧ (mi_rm m10_writesFours).slots = 0 ∧ (mi_rm m10_writesRuns).cells = 0 ∧ (mi_rm m10_writesRuns).slots = 0 := ⟨rfl, rfl, rfl, rfl, rfl, rfl, rfl, rfl, rfl, rfl, rfl, rfl, rfl, rfl, rfl, rfl⟩
def bb10_check_0 : List PI := [(1, .aload_n 0, 0, 0, 0, 0, kZ), (1, .iload_n 1, 0, 0, 0, 0, kZ), (1, .iload_n 2, 0, 0, 0, 0, kZ), (3, .invokevirtual 69, 2, 10, 0, 0, m10_codes), (1, .pop, 0, 0, 0, 0, kZ), (1, .aload_n 0, 0, 0, 0, 0, kZ), (3, .getfield 53, 10, 17, 0, 0, kZ), (2, .bipush 15, 0, 0, 0, 0, kZ), (1, .irem, 0, 0, 0, 0, kZ), (1, .ireturn, 0, 0, 0, 0, kZ)]
set_option maxRecDepth 100000 in
theorem oo10_check_0 : okL m10_check 0 bb10_check_0 := okL_of _ _ (by decide +kernel) ⟨trivial, ⟨trivial, ⟨trivial, ⟨⟨mok_m10_codes, ⟨by decide, by decide⟩, rfl, by decide, Or.inl lc_10_69⟩, ⟨trivial, ⟨trivial, ⟨lf_10_53, ⟨trivial, ⟨trivial, ⟨trivial, trivial⟩⟩⟩⟩⟩⟩⟩⟩⟩⟩
def cd10_check (t : Nat) : Option (List PI) := match t with
  | 0 => some bb10_check_0
  | _ => none
theorem kd10_check : ∀ t is, cd10_check t = some is → okL m10_check t is := by
  intro t is h
  unfold cd10_check at h
  split at h <;> cases h
  · exact oo10_check_0
theorem ff10_check : mi_r m10_check = (some .int) ∧ mi_l m10_check = 3 ∧ mi_h m10_check = [] ∧ (mi_rm m10_check).cells = 0 ∧ (mi_rm m10_check).slots = 0 ∧ (mi_rm m10_check).locals = 100 ∧ cd10_check 0 = some bb10_check_0 ∧ (mi_rm m10_codes).cells = 0 ∧ (mi_rm m10_codes).slots = 0 := ⟨rfl, rfl, rfl, rfl, rfl, rfl, rfl, rfl, rfl⟩
def bb10_bestMode_0 : List PI := [(1, .iconst 0, 0, 0, 0, 0, kZ), (1, .istore_n 2, 0, 0, 0, 0, kZ), (1, .iconst 1, 0, 0, 0, 0, kZ), (1, .istore_n 3, 0, 0, 0, 0, kZ)]
set_option maxRecDepth 100000 in
theorem oo10_bestMode_0 : okL m10_bestMode 0 bb10_bestMode_0 := okL_of _ _ (by decide +kernel) ⟨trivial, ⟨trivial, ⟨trivial, ⟨trivial, trivial⟩⟩⟩⟩
def bb10_bestMode_4 : List PI := [(1, .iload_n 3, 0, 0, 0, 0, kZ), (1, .iconst 3, 0, 0, 0, 0, kZ), (3, .if_icmp .ge 30, 36, 0, 0, 0, kZ), (1, .aload_n 0, 0, 0, 0, 0, kZ), (1, .iload_n 1, 0, 0, 0, 0, kZ), (1, .iload_n 3, 0, 0, 0, 0, kZ), (3, .invokevirtual 69, 2, 10, 0, 0, m10_codes), (1, .aload_n 0, 0, 0, 0, 0, kZ), (1, .iload_n 1, 0, 0, 0, 0, kZ), (1, .iload_n 2, 0, 0, 0, 0, kZ), (3, .invokevirtual 69, 2, 10, 0, 0, m10_codes), (3, .if_icmp .ge 7, 28, 0, 0, 0, kZ), (1, .iload_n 3, 0, 0, 0, 0, kZ), (3, .goto 4, 29, 0, 0, 0, kZ)]
set_option maxRecDepth 100000 in
theorem oo10_bestMode_4 : okL m10_bestMode 4 bb10_bestMode_4 := okL_of _ _ (by decide +kernel) ⟨trivial, ⟨trivial, ⟨rfl, ⟨trivial, ⟨trivial, ⟨trivial, ⟨⟨mok_m10_codes, ⟨by decide, by decide⟩, rfl, by decide, Or.inl lc_10_69⟩, ⟨trivial, ⟨trivial, ⟨trivial, ⟨⟨mok_m10_codes, ⟨by decide, by decide⟩, rfl, by decide, Or.inl lc_10_69⟩, ⟨rfl, ⟨trivial, ⟨rfl, trivial⟩⟩⟩⟩⟩⟩⟩⟩⟩⟩⟩⟩⟩⟩
def bb10_bestMode_28 : List PI := [(1, .iload_n 2, 0, 0, 0, 0, kZ)]
set_option maxRecDepth 100000 in
theorem oo10_bestMode_28 : okL m10_bestMode 28 bb10_bestMode_28 := okL_of _ _ (by decide +kernel) ⟨trivial, trivial⟩
def bb10_bestMode_29 : List PI := [(1, .istore_n 2, 0, 0, 0, 0, kZ), (3, .iinc 3 1, 0, 0, 0, 0, kZ), (3, .goto (-29), 4, 0, 0, 0, kZ)]
set_option maxRecDepth 100000 in
theorem oo10_bestMode_29 : okL m10_bestMode 29 bb10_bestMode_29 := okL_of _ _ (by decide +kernel) ⟨trivial, ⟨trivial, ⟨rfl, trivial⟩⟩⟩
def bb10_bestMode_36 : List PI := [(1, .aload_n 0, 0, 0, 0, 0, kZ), (3, .getfield 7, 10, 1, 0, 0, kZ), (1, .iconst 1, 0, 0, 0, 0, kZ), (1, .iaload, 0, 0, 0, 0, kZ), (1, .iconst 3, 0, 0, 0, 0, kZ), (3, .if_icmp .ge 12, 55, 0, 0, 0, kZ), (1, .aload_n 0, 0, 0, 0, 0, kZ), (3, .getfield 7, 10, 1, 0, 0, kZ), (1, .iconst 1, 0, 0, 0, 0, kZ), (1, .iaload, 0, 0, 0, 0, kZ), (3, .goto 4, 56, 0, 0, 0, kZ)]
set_option maxRecDepth 100000 in
theorem oo10_bestMode_36 : okL m10_bestMode 36 bb10_bestMode_36 := okL_of _ _ (by decide +kernel) ⟨trivial, ⟨lf_10_7, ⟨trivial, ⟨trivial, ⟨trivial, ⟨rfl, ⟨trivial, ⟨lf_10_7, ⟨trivial, ⟨trivial, ⟨rfl, trivial⟩⟩⟩⟩⟩⟩⟩⟩⟩⟩⟩
def bb10_bestMode_55 : List PI := [(1, .iload_n 2, 0, 0, 0, 0, kZ)]
set_option maxRecDepth 100000 in
theorem oo10_bestMode_55 : okL m10_bestMode 55 bb10_bestMode_55 := okL_of _ _ (by decide +kernel) ⟨trivial, trivial⟩
def bb10_bestMode_56 : List PI := [(1, .ireturn, 0, 0, 0, 0, kZ)]
set_option maxRecDepth 100000 in
theorem oo10_bestMode_56 : okL m10_bestMode 56 bb10_bestMode_56 := okL_of _ _ (by decide +kernel) ⟨trivial, trivial⟩
def cd10_bestMode (t : Nat) : Option (List PI) := match t with
  | 0 => some bb10_bestMode_0
  | 28 => some bb10_bestMode_28
  | 29 => some bb10_bestMode_29
  | 36 => some bb10_bestMode_36
  | 55 => some bb10_bestMode_55
  | 56 => some bb10_bestMode_56
  | _ => none
theorem kd10_bestMode : ∀ t is, cd10_bestMode t = some is → okL m10_bestMode t is := by
  intro t is h
  unfold cd10_bestMode at h
  split at h <;> cases h
  · exact oo10_bestMode_0
  · exact oo10_bestMode_28
  · exact oo10_bestMode_29
  · exact oo10_bestMode_36
  · exact oo10_bestMode_55
  · exact oo10_bestMode_56
theorem ff10_bestMode : mi_r m10_bestMode = (some .int) ∧ mi_l m10_bestMode = 4 ∧ mi_h m10_bestMode = [] ∧ (mi_rm m10_bestMode).cells = 0 ∧ (mi_rm m10_bestMode).slots = 0 ∧ (mi_rm m10_bestMode).locals = 100 ∧ cd10_bestMode 0 = some bb10_bestMode_0 ∧ cd10_bestMode 4 = none ∧ cd10_bestMode 28 = some bb10_bestMode_28 ∧ cd10_bestMode 29 = some bb10_bestMode_29 ∧ cd10_bestMode 36 = some bb10_bestMode_36 ∧ cd10_bestMode 55 = some bb10_bestMode_55 ∧ cd10_bestMode 56 = some bb10_bestMode_56 ∧ (mi_rm m10_codes).cells = 0 ∧ (mi_rm m10_codes).slots = 0 := ⟨rfl, rfl, rfl, rfl, rfl, rfl, rfl, rfl, rfl, rfl, rfl, rfl, rfl, rfl, rfl⟩
def bb10_sendsMany_0 : List PI := [(1, .iconst 0, 0, 0, 0, 0, kZ), (1, .istore_n 1, 0, 0, 0, 0, kZ), (1, .iconst 0, 0, 0, 0, 0, kZ), (1, .istore_n 2, 0, 0, 0, 0, kZ)]
set_option maxRecDepth 100000 in
theorem oo10_sendsMany_0 : okL m10_sendsMany 0 bb10_sendsMany_0 := okL_of _ _ (by decide +kernel) ⟨trivial, ⟨trivial, ⟨trivial, ⟨trivial, trivial⟩⟩⟩⟩
def bb10_sendsMany_4 : List PI := [(1, .iload_n 2, 0, 0, 0, 0, kZ), (1, .aload_n 0, 0, 0, 0, 0, kZ), (3, .getfield 7, 10, 1, 0, 0, kZ), (1, .iconst 2, 0, 0, 0, 0, kZ), (1, .iaload, 0, 0, 0, 0, kZ), (3, .if_icmp .ge 22, 33, 0, 0, 0, kZ), (1, .iload_n 1, 0, 0, 0, 0, kZ), (1, .aload_n 0, 0, 0, 0, 0, kZ), (1, .iload_n 2, 0, 0, 0, 0, kZ), (1, .aload_n 0, 0, 0, 0, 0, kZ), (1, .iload_n 2, 0, 0, 0, 0, kZ), (3, .invokevirtual 73, 1, 10, 0, 0, m10_bestMode), (3, .invokevirtual 69, 2, 10, 0, 0, m10_codes), (1, .iadd, 0, 0, 0, 0, kZ), (1, .istore_n 1, 0, 0, 0, 0, kZ), (3, .iinc 2 1, 0, 0, 0, 0, kZ), (3, .goto (-26), 4, 0, 0, 0, kZ)]
set_option maxRecDepth 100000 in
theorem oo10_sendsMany_4 : okL m10_sendsMany 4 bb10_sendsMany_4 := okL_of _ _ (by decide +kernel) ⟨trivial, ⟨trivial, ⟨lf_10_7, ⟨trivial, ⟨trivial, ⟨rfl, ⟨trivial, ⟨trivial, ⟨trivial, ⟨trivial, ⟨trivial, ⟨⟨mok_m10_bestMode, ⟨by decide, by decide⟩, rfl, by decide, Or.inl lc_10_73⟩, ⟨⟨mok_m10_codes, ⟨by decide, by decide⟩, rfl, by decide, Or.inl lc_10_69⟩, ⟨trivial, ⟨trivial, ⟨trivial, ⟨rfl, trivial⟩⟩⟩⟩⟩⟩⟩⟩⟩⟩⟩⟩⟩⟩⟩⟩⟩
def bb10_sendsMany_33 : List PI := [(1, .iload_n 1, 0, 0, 0, 0, kZ), (1, .ireturn, 0, 0, 0, 0, kZ)]
set_option maxRecDepth 100000 in
theorem oo10_sendsMany_33 : okL m10_sendsMany 33 bb10_sendsMany_33 := okL_of _ _ (by decide +kernel) ⟨trivial, ⟨trivial, trivial⟩⟩
def cd10_sendsMany (t : Nat) : Option (List PI) := match t with
  | 0 => some bb10_sendsMany_0
  | 33 => some bb10_sendsMany_33
  | _ => none
theorem kd10_sendsMany : ∀ t is, cd10_sendsMany t = some is → okL m10_sendsMany t is := by
  intro t is h
  unfold cd10_sendsMany at h
  split at h <;> cases h
  · exact oo10_sendsMany_0
  · exact oo10_sendsMany_33
theorem ff10_sendsMany : mi_r m10_sendsMany = (some .int) ∧ mi_l m10_sendsMany = 3 ∧ mi_h m10_sendsMany = [] ∧ (mi_rm m10_sendsMany).cells = 0 ∧ (mi_rm m10_sendsMany).slots = 0 ∧ (mi_rm m10_sendsMany).locals = 123 ∧ cd10_sendsMany 0 = some bb10_sendsMany_0 ∧ cd10_sendsMany 4 = none ∧ cd10_sendsMany 33 = some bb10_sendsMany_33 ∧ (mi_rm m10_bestMode).cells = 0 ∧ (mi_rm m10_bestMode).slots = 0 ∧ (mi_rm m10_codes).cells = 0 ∧ (mi_rm m10_codes).slots = 0 := ⟨rfl, rfl, rfl, rfl, rfl, rfl, rfl, rfl, rfl, rfl, rfl, rfl, rfl⟩
def bb10_stream_0 : List PI := [(1, .iload_n 1, 0, 0, 0, 0, kZ), (1, .aload_n 0, 0, 0, 0, 0, kZ), (3, .getfield 7, 10, 1, 0, 0, kZ), (1, .iconst 3, 0, 0, 0, 0, kZ), (1, .iaload, 0, 0, 0, 0, kZ), (3, .if_icmp .ge 15, 22, 0, 0, 0, kZ), (1, .aload_n 0, 0, 0, 0, 0, kZ), (3, .getfield 7, 10, 1, 0, 0, kZ), (2, .bipush 68, 0, 0, 0, 0, kZ), (1, .iload_n 1, 0, 0, 0, 0, kZ), (1, .iadd, 0, 0, 0, 0, kZ), (1, .iaload, 0, 0, 0, 0, kZ), (3, .goto 4, 23, 0, 0, 0, kZ)]
set_option maxRecDepth 100000 in
theorem oo10_stream_0 : okL m10_stream 0 bb10_stream_0 := okL_of _ _ (by decide +kernel) ⟨trivial, ⟨trivial, ⟨lf_10_7, ⟨trivial, ⟨trivial, ⟨rfl, ⟨trivial, ⟨lf_10_7, ⟨trivial, ⟨trivial, ⟨trivial, ⟨trivial, ⟨rfl, trivial⟩⟩⟩⟩⟩⟩⟩⟩⟩⟩⟩⟩⟩
def bb10_stream_22 : List PI := [(1, .iconst (-1), 0, 0, 0, 0, kZ)]
set_option maxRecDepth 100000 in
theorem oo10_stream_22 : okL m10_stream 22 bb10_stream_22 := okL_of _ _ (by decide +kernel) ⟨trivial, trivial⟩
def bb10_stream_23 : List PI := [(1, .ireturn, 0, 0, 0, 0, kZ)]
set_option maxRecDepth 100000 in
theorem oo10_stream_23 : okL m10_stream 23 bb10_stream_23 := okL_of _ _ (by decide +kernel) ⟨trivial, trivial⟩
def cd10_stream (t : Nat) : Option (List PI) := match t with
  | 0 => some bb10_stream_0
  | 22 => some bb10_stream_22
  | 23 => some bb10_stream_23
  | _ => none
theorem kd10_stream : ∀ t is, cd10_stream t = some is → okL m10_stream t is := by
  intro t is h
  unfold cd10_stream at h
  split at h <;> cases h
  · exact oo10_stream_0
  · exact oo10_stream_22
  · exact oo10_stream_23
theorem ff10_stream : mi_r m10_stream = (some .int) ∧ mi_l m10_stream = 2 ∧ mi_h m10_stream = [] ∧ (mi_rm m10_stream).cells = 0 ∧ (mi_rm m10_stream).slots = 0 ∧ (mi_rm m10_stream).locals = 32 ∧ cd10_stream 0 = some bb10_stream_0 ∧ cd10_stream 22 = some bb10_stream_22 ∧ cd10_stream 23 = some bb10_stream_23 := ⟨rfl, rfl, rfl, rfl, rfl, rfl, rfl, rfl, rfl⟩
def bb10_takes_0 : List PI := [(1, .aload_n 0, 0, 0, 0, 0, kZ), (1, .aload_n 0, 0, 0, 0, 0, kZ), (3, .getfield 77, 10, 18, 0, 0, kZ), (3, .invokevirtual 80, 1, 10, 0, 0, m10_stream), (1, .istore_n 1, 0, 0, 0, 0, kZ), (1, .aload_n 0, 0, 0, 0, 0, kZ), (1, .aload_n 0, 0, 0, 0, 0, kZ), (3, .getfield 83, 10, 19, 0, 0, kZ), (3, .ifCond .ne 12, 26, 0, 0, 0, kZ), (1, .iload_n 1, 0, 0, 0, 0, kZ), (1, .iconst (-1), 0, 0, 0, 0, kZ), (3, .if_icmp .ne 7, 26, 0, 0, 0, kZ), (1, .iconst 1, 0, 0, 0, 0, kZ), (3, .goto 7, 30, 0, 0, 0, kZ)]
set_option maxRecDepth 100000 in
theorem oo10_takes_0 : okL m10_takes 0 bb10_takes_0 := okL_of _ _ (by decide +kernel) ⟨trivial, ⟨trivial, ⟨lf_10_77, ⟨⟨mok_m10_stream, ⟨by decide, by decide⟩, rfl, by decide, Or.inl lc_10_80⟩, ⟨trivial, ⟨trivial, ⟨trivial, ⟨lf_10_83, ⟨rfl, ⟨trivial, ⟨trivial, ⟨rfl, ⟨trivial, ⟨rfl, trivial⟩⟩⟩⟩⟩⟩⟩⟩⟩⟩⟩⟩⟩⟩
def bb10_takes_26 : List PI := [(1, .aload_n 0, 0, 0, 0, 0, kZ), (3, .getfield 83, 10, 19, 0, 0, kZ)]
set_option maxRecDepth 100000 in
theorem oo10_takes_26 : okL m10_takes 26 bb10_takes_26 := okL_of _ _ (by decide +kernel) ⟨trivial, ⟨lf_10_83, trivial⟩⟩
def bb10_takes_30 : List PI := [(3, .putfield 83, 10, 19, 0, 0, kZ), (1, .aload_n 0, 0, 0, 0, 0, kZ), (1, .dup, 0, 0, 0, 0, kZ), (3, .getfield 77, 10, 18, 0, 0, kZ), (1, .iconst 1, 0, 0, 0, 0, kZ), (1, .iadd, 0, 0, 0, 0, kZ), (3, .putfield 77, 10, 18, 0, 0, kZ), (1, .iload_n 1, 0, 0, 0, 0, kZ), (1, .ireturn, 0, 0, 0, 0, kZ)]
set_option maxRecDepth 100000 in
theorem oo10_takes_30 : okL m10_takes 30 bb10_takes_30 := okL_of _ _ (by decide +kernel) ⟨lp_10_83 _, ⟨trivial, ⟨trivial, ⟨lf_10_77, ⟨trivial, ⟨trivial, ⟨lp_10_77 _, ⟨trivial, ⟨trivial, trivial⟩⟩⟩⟩⟩⟩⟩⟩⟩
def cd10_takes (t : Nat) : Option (List PI) := match t with
  | 0 => some bb10_takes_0
  | 26 => some bb10_takes_26
  | 30 => some bb10_takes_30
  | _ => none
theorem kd10_takes : ∀ t is, cd10_takes t = some is → okL m10_takes t is := by
  intro t is h
  unfold cd10_takes at h
  split at h <;> cases h
  · exact oo10_takes_0
  · exact oo10_takes_26
  · exact oo10_takes_30
theorem ff10_takes : mi_r m10_takes = (some .int) ∧ mi_l m10_takes = 2 ∧ mi_h m10_takes = [] ∧ (mi_rm m10_takes).cells = 0 ∧ (mi_rm m10_takes).slots = 0 ∧ (mi_rm m10_takes).locals = 53 ∧ cd10_takes 0 = some bb10_takes_0 ∧ cd10_takes 26 = some bb10_takes_26 ∧ cd10_takes 30 = some bb10_takes_30 ∧ (mi_rm m10_stream).cells = 0 ∧ (mi_rm m10_stream).slots = 0 := ⟨rfl, rfl, rfl, rfl, rfl, rfl, rfl, rfl, rfl, rfl, rfl⟩
def bb10_takesKernel_0 : List PI := [(1, .aload_n 0, 0, 0, 0, 0, kZ), (3, .invokevirtual 86, 0, 10, 0, 0, m10_takes), (1, .istore_n 1, 0, 0, 0, 0, kZ), (1, .aload_n 0, 0, 0, 0, 0, kZ), (3, .getfield 83, 10, 19, 0, 0, kZ), (3, .ifCond .ne 50, 59, 0, 0, 0, kZ), (1, .iload_n 1, 0, 0, 0, 0, kZ), (2, .bipush 15, 0, 0, 0, 0, kZ), (3, .if_icmp .ne 44, 59, 0, 0, 0, kZ), (1, .aload_n 0, 0, 0, 0, 0, kZ), (3, .invokevirtual 86, 0, 10, 0, 0, m10_takes), (1, .istore_n 2, 0, 0, 0, 0, kZ), (1, .aload_n 0, 0, 0, 0, 0, kZ), (1, .aload_n 0, 0, 0, 0, 0, kZ), (3, .getfield 83, 10, 19, 0, 0, kZ), (3, .ifCond .le 10, 38, 0, 0, 0, kZ), (1, .aload_n 0, 0, 0, 0, 0, kZ), (3, .getfield 83, 10, 19, 0, 0, kZ), (3, .goto 21, 56, 0, 0, 0, kZ)]
set_option maxRecDepth 100000 in
theorem oo10_takesKernel_0 : okL m10_takesKernel 0 bb10_takesKernel_0 := okL_of _ _ (by decide +kernel) ⟨trivial, ⟨⟨mok_m10_takes, ⟨by decide, by decide⟩, rfl, by decide, Or.inl lc_10_86⟩, ⟨trivial, ⟨trivial, ⟨lf_10_83, ⟨rfl, ⟨trivial, ⟨trivial, ⟨rfl, ⟨trivial, ⟨⟨mok_m10_takes, ⟨by decide, by decide⟩, rfl, by decide, Or.inl lc_10_86⟩, ⟨trivial, ⟨trivial, ⟨trivial, ⟨lf_10_83, ⟨rfl, ⟨trivial, ⟨lf_10_83, ⟨rfl, trivial⟩⟩⟩⟩⟩⟩⟩⟩⟩⟩⟩⟩⟩⟩⟩⟩⟩⟩⟩
def bb10_takesKernel_38 : List PI := [(1, .iload_n 2, 0, 0, 0, 0, kZ), (3, .ifCond .ne 7, 46, 0, 0, 0, kZ), (1, .iconst 4, 0, 0, 0, 0, kZ), (3, .goto 13, 56, 0, 0, 0, kZ)]
set_option maxRecDepth 100000 in
theorem oo10_takesKernel_38 : okL m10_takesKernel 38 bb10_takesKernel_38 := okL_of _ _ (by decide +kernel) ⟨trivial, ⟨rfl, ⟨trivial, ⟨rfl, trivial⟩⟩⟩⟩
def bb10_takesKernel_46 : List PI := [(1, .iload_n 2, 0, 0, 0, 0, kZ), (1, .iconst 1, 0, 0, 0, 0, kZ), (3, .if_icmp .ne 7, 55, 0, 0, 0, kZ), (1, .iconst 0, 0, 0, 0, 0, kZ), (3, .goto 4, 56, 0, 0, 0, kZ)]
set_option maxRecDepth 100000 in
theorem oo10_takesKernel_46 : okL m10_takesKernel 46 bb10_takesKernel_46 := okL_of _ _ (by decide +kernel) ⟨trivial, ⟨trivial, ⟨rfl, ⟨trivial, ⟨rfl, trivial⟩⟩⟩⟩⟩
def bb10_takesKernel_55 : List PI := [(1, .iconst 5, 0, 0, 0, 0, kZ)]
set_option maxRecDepth 100000 in
theorem oo10_takesKernel_55 : okL m10_takesKernel 55 bb10_takesKernel_55 := okL_of _ _ (by decide +kernel) ⟨trivial, trivial⟩
def bb10_takesKernel_56 : List PI := [(3, .putfield 83, 10, 19, 0, 0, kZ)]
set_option maxRecDepth 100000 in
theorem oo10_takesKernel_56 : okL m10_takesKernel 56 bb10_takesKernel_56 := okL_of _ _ (by decide +kernel) ⟨lp_10_83 _, trivial⟩
def bb10_takesKernel_59 : List PI := [(1, .aload_n 0, 0, 0, 0, 0, kZ), (1, .dup, 0, 0, 0, 0, kZ), (3, .getfield 53, 10, 17, 0, 0, kZ), (1, .iload_n 1, 0, 0, 0, 0, kZ), (1, .iadd, 0, 0, 0, 0, kZ), (3, .putfield 53, 10, 17, 0, 0, kZ), (1, .iload_n 1, 0, 0, 0, 0, kZ), (1, .ireturn, 0, 0, 0, 0, kZ)]
set_option maxRecDepth 100000 in
theorem oo10_takesKernel_59 : okL m10_takesKernel 59 bb10_takesKernel_59 := okL_of _ _ (by decide +kernel) ⟨trivial, ⟨trivial, ⟨lf_10_53, ⟨trivial, ⟨trivial, ⟨lp_10_53 _, ⟨trivial, ⟨trivial, trivial⟩⟩⟩⟩⟩⟩⟩⟩
def cd10_takesKernel (t : Nat) : Option (List PI) := match t with
  | 0 => some bb10_takesKernel_0
  | 38 => some bb10_takesKernel_38
  | 46 => some bb10_takesKernel_46
  | 55 => some bb10_takesKernel_55
  | 56 => some bb10_takesKernel_56
  | 59 => some bb10_takesKernel_59
  | _ => none
theorem kd10_takesKernel : ∀ t is, cd10_takesKernel t = some is → okL m10_takesKernel t is := by
  intro t is h
  unfold cd10_takesKernel at h
  split at h <;> cases h
  · exact oo10_takesKernel_0
  · exact oo10_takesKernel_38
  · exact oo10_takesKernel_46
  · exact oo10_takesKernel_55
  · exact oo10_takesKernel_56
  · exact oo10_takesKernel_59
theorem ff10_takesKernel : mi_r m10_takesKernel = (some .int) ∧ mi_l m10_takesKernel = 3 ∧ mi_h m10_takesKernel = [] ∧ (mi_rm m10_takesKernel).cells = 0 ∧ (mi_rm m10_takesKernel).slots = 0 ∧ (mi_rm m10_takesKernel).locals = 74 ∧ cd10_takesKernel 0 = some bb10_takesKernel_0 ∧ cd10_takesKernel 38 = some bb10_takesKernel_38 ∧ cd10_takesKernel 46 = some bb10_takesKernel_46 ∧ cd10_takesKernel 55 = some bb10_takesKernel_55 ∧ cd10_takesKernel 56 = some bb10_takesKernel_56 ∧ cd10_takesKernel 59 = some bb10_takesKernel_59 ∧ (mi_rm m10_takes).cells = 0 ∧ (mi_rm m10_takes).slots = 0 := ⟨rfl, rfl, rfl, rfl, rfl, rfl, rfl, rfl, rfl, rfl, rfl, rfl, rfl, rfl⟩
def bb10_takesRun_0 : List PI := [(1, .aload_n 0, 0, 0, 0, 0, kZ), (3, .invokevirtual 90, 0, 10, 0, 0, m10_takesKernel), (1, .istore_n 1, 0, 0, 0, 0, kZ), (1, .aload_n 0, 0, 0, 0, 0, kZ), (3, .getfield 83, 10, 19, 0, 0, kZ), (3, .ifCond .ne 15, 24, 0, 0, 0, kZ), (1, .iload_n 1, 0, 0, 0, 0, kZ), (2, .bipush 15, 0, 0, 0, 0, kZ), (3, .if_icmp .ne 9, 24, 0, 0, 0, kZ), (1, .aload_n 0, 0, 0, 0, 0, kZ), (2, .bipush 6, 0, 0, 0, 0, kZ), (3, .putfield 83, 10, 19, 0, 0, kZ)]
set_option maxRecDepth 100000 in
theorem oo10_takesRun_0 : okL m10_takesRun 0 bb10_takesRun_0 := okL_of _ _ (by decide +kernel) ⟨trivial, ⟨⟨mok_m10_takesKernel, ⟨by decide, by decide⟩, rfl, by decide, Or.inl lc_10_90⟩, ⟨trivial, ⟨trivial, ⟨lf_10_83, ⟨rfl, ⟨trivial, ⟨trivial, ⟨rfl, ⟨trivial, ⟨trivial, ⟨lp_10_83 _, trivial⟩⟩⟩⟩⟩⟩⟩⟩⟩⟩⟩⟩
def bb10_takesRun_24 : List PI := [(1, .aload_n 0, 0, 0, 0, 0, kZ), (3, .getfield 83, 10, 19, 0, 0, kZ), (3, .ifCond .ne 37, 65, 0, 0, 0, kZ), (1, .iload_n 1, 0, 0, 0, 0, kZ), (2, .bipush 14, 0, 0, 0, 0, kZ), (3, .if_icmp .ne 31, 65, 0, 0, 0, kZ), (1, .aload_n 0, 0, 0, 0, 0, kZ), (3, .invokevirtual 90, 0, 10, 0, 0, m10_takesKernel), (1, .istore_n 2, 0, 0, 0, 0, kZ), (1, .aload_n 0, 0, 0, 0, 0, kZ), (3, .getfield 83, 10, 19, 0, 0, kZ), (3, .ifCond .ne 10, 56, 0, 0, 0, kZ), (1, .aload_n 0, 0, 0, 0, 0, kZ), (3, .invokevirtual 90, 0, 10, 0, 0, m10_takesKernel), (3, .goto 4, 57, 0, 0, 0, kZ)]
set_option maxRecDepth 100000 in
theorem oo10_takesRun_24 : okL m10_takesRun 24 bb10_takesRun_24 := okL_of _ _ (by decide +kernel) ⟨trivial, ⟨lf_10_83, ⟨rfl, ⟨trivial, ⟨trivial, ⟨rfl, ⟨trivial, ⟨⟨mok_m10_takesKernel, ⟨by decide, by decide⟩, rfl, by decide, Or.inl lc_10_90⟩, ⟨trivial, ⟨trivial, ⟨lf_10_83, ⟨rfl, ⟨trivial, ⟨⟨mok_m10_takesKernel, ⟨by decide, by decide⟩, rfl, by decide, Or.inl lc_10_90⟩, ⟨rfl, trivial⟩⟩⟩⟩⟩⟩⟩⟩⟩⟩⟩⟩⟩⟩⟩
def bb10_takesRun_56 : List PI := [(1, .iconst 0, 0, 0, 0, 0, kZ)]
set_option maxRecDepth 100000 in
theorem oo10_takesRun_56 : okL m10_takesRun 56 bb10_takesRun_56 := okL_of _ _ (by decide +kernel) ⟨trivial, trivial⟩
def bb10_takesRun_57 : List PI := [(1, .istore_n 3, 0, 0, 0, 0, kZ), (2, .bipush 16, 0, 0, 0, 0, kZ), (1, .iload_n 2, 0, 0, 0, 0, kZ), (1, .imul, 0, 0, 0, 0, kZ), (1, .iload_n 3, 0, 0, 0, 0, kZ), (1, .iadd, 0, 0, 0, 0, kZ), (1, .istore_n 1, 0, 0, 0, 0, kZ)]
set_option maxRecDepth 100000 in
theorem oo10_takesRun_57 : okL m10_takesRun 57 bb10_takesRun_57 := okL_of _ _ (by decide +kernel) ⟨trivial, ⟨trivial, ⟨trivial, ⟨trivial, ⟨trivial, ⟨trivial, ⟨trivial, trivial⟩⟩⟩⟩⟩⟩⟩
def bb10_takesRun_65 : List PI := [(1, .iload_n 1, 0, 0, 0, 0, kZ), (1, .ireturn, 0, 0, 0, 0, kZ)]
set_option maxRecDepth 100000 in
theorem oo10_takesRun_65 : okL m10_takesRun 65 bb10_takesRun_65 := okL_of _ _ (by decide +kernel) ⟨trivial, ⟨trivial, trivial⟩⟩
def cd10_takesRun (t : Nat) : Option (List PI) := match t with
  | 0 => some bb10_takesRun_0
  | 24 => some bb10_takesRun_24
  | 56 => some bb10_takesRun_56
  | 57 => some bb10_takesRun_57
  | 65 => some bb10_takesRun_65
  | _ => none
theorem kd10_takesRun : ∀ t is, cd10_takesRun t = some is → okL m10_takesRun t is := by
  intro t is h
  unfold cd10_takesRun at h
  split at h <;> cases h
  · exact oo10_takesRun_0
  · exact oo10_takesRun_24
  · exact oo10_takesRun_56
  · exact oo10_takesRun_57
  · exact oo10_takesRun_65
theorem ff10_takesRun : mi_r m10_takesRun = (some .int) ∧ mi_l m10_takesRun = 4 ∧ mi_h m10_takesRun = [] ∧ (mi_rm m10_takesRun).cells = 0 ∧ (mi_rm m10_takesRun).slots = 0 ∧ (mi_rm m10_takesRun).locals = 96 ∧ cd10_takesRun 0 = some bb10_takesRun_0 ∧ cd10_takesRun 24 = some bb10_takesRun_24 ∧ cd10_takesRun 56 = some bb10_takesRun_56 ∧ cd10_takesRun 57 = some bb10_takesRun_57 ∧ cd10_takesRun 65 = some bb10_takesRun_65 ∧ (mi_rm m10_takesKernel).cells = 0 ∧ (mi_rm m10_takesKernel).slots = 0 := ⟨rfl, rfl, rfl, rfl, rfl, rfl, rfl, rfl, rfl, rfl, rfl, rfl, rfl⟩
def bb10_takesRuns_0 : List PI := [(1, .iconst 0, 0, 0, 0, 0, kZ), (1, .istore_n 1, 0, 0, 0, 0, kZ), (1, .iconst 0, 0, 0, 0, 0, kZ), (1, .istore_n 2, 0, 0, 0, 0, kZ)]
set_option maxRecDepth 100000 in
theorem oo10_takesRuns_0 : okL m10_takesRuns 0 bb10_takesRuns_0 := okL_of _ _ (by decide +kernel) ⟨trivial, ⟨trivial, ⟨trivial, ⟨trivial, trivial⟩⟩⟩⟩
def bb10_takesRuns_4 : List PI := [(1, .aload_n 0, 0, 0, 0, 0, kZ), (3, .getfield 83, 10, 19, 0, 0, kZ), (3, .ifCond .ne 94, 102, 0, 0, 0, kZ), (1, .iload_n 1, 0, 0, 0, 0, kZ), (1, .aload_n 0, 0, 0, 0, 0, kZ), (3, .getfield 7, 10, 1, 0, 0, kZ), (1, .iconst 0, 0, 0, 0, 0, kZ), (1, .iaload, 0, 0, 0, 0, kZ), (3, .if_icmp .ge 84, 102, 0, 0, 0, kZ), (1, .aload_n 0, 0, 0, 0, 0, kZ), (3, .invokevirtual 93, 0, 10, 0, 0, m10_takesRun), (1, .istore_n 3, 0, 0, 0, 0, kZ), (1, .aload_n 0, 0, 0, 0, 0, kZ), (1, .aload_n 0, 0, 0, 0, 0, kZ), (3, .getfield 83, 10, 19, 0, 0, kZ), (3, .ifCond .ne 20, 51, 0, 0, 0, kZ), (1, .iload_n 1, 0, 0, 0, 0, kZ), (1, .iload_n 3, 0, 0, 0, 0, kZ), (1, .iadd, 0, 0, 0, 0, kZ), (1, .aload_n 0, 0, 0, 0, 0, kZ), (3, .getfield 7, 10, 1, 0, 0, kZ), (1, .iconst 0, 0, 0, 0, 0, kZ), (1, .iaload, 0, 0, 0, 0, kZ), (3, .if_icmp .le 8, 51, 0, 0, 0, kZ), (2, .bipush 6, 0, 0, 0, 0, kZ), (3, .goto 7, 55, 0, 0, 0, kZ)]
set_option maxRecDepth 100000 in
theorem oo10_takesRuns_4 : okL m10_takesRuns 4 bb10_takesRuns_4 := okL_of _ _ (by decide +kernel) ⟨trivial, ⟨lf_10_83, ⟨rfl, ⟨trivial, ⟨trivial, ⟨lf_10_7, ⟨trivial, ⟨trivial, ⟨rfl, ⟨trivial, ⟨⟨mok_m10_takesRun, ⟨by decide, by decide⟩, rfl, by decide, Or.inl lc_10_93⟩, ⟨trivial, ⟨trivial, ⟨trivial, ⟨lf_10_83, ⟨rfl, ⟨trivial, ⟨trivial, ⟨trivial, ⟨trivial, ⟨lf_10_7, ⟨trivial, ⟨trivial, ⟨rfl, ⟨trivial, ⟨rfl, trivial⟩⟩⟩⟩⟩⟩⟩⟩⟩⟩⟩⟩⟩⟩⟩⟩⟩⟩⟩⟩⟩⟩⟩⟩⟩⟩
def bb10_takesRuns_51 : List PI := [(1, .aload_n 0, 0, 0, 0, 0, kZ), (3, .getfield 83, 10, 19, 0, 0, kZ)]
set_option maxRecDepth 100000 in
theorem oo10_takesRuns_51 : okL m10_takesRuns 51 bb10_takesRuns_51 := okL_of _ _ (by decide +kernel) ⟨trivial, ⟨lf_10_83, trivial⟩⟩
def bb10_takesRuns_55 : List PI := [(3, .putfield 83, 10, 19, 0, 0, kZ), (1, .iconst 0, 0, 0, 0, 0, kZ), (2, .istore 4, 0, 0, 0, 0, kZ)]
set_option maxRecDepth 100000 in
theorem oo10_takesRuns_55 : okL m10_takesRuns 55 bb10_takesRuns_55 := okL_of _ _ (by decide +kernel) ⟨lp_10_83 _, ⟨trivial, ⟨trivial, trivial⟩⟩⟩
def bb10_takesRuns_61 : List PI := [(2, .iload 4, 0, 0, 0, 0, kZ), (1, .iload_n 3, 0, 0, 0, 0, kZ), (3, .if_icmp .ge 31, 95, 0, 0, 0, kZ), (1, .aload_n 0, 0, 0, 0, 0, kZ), (3, .getfield 83, 10, 19, 0, 0, kZ), (3, .ifCond .ne 24, 95, 0, 0, 0, kZ), (1, .aload_n 0, 0, 0, 0, 0, kZ), (1, .dup, 0, 0, 0, 0, kZ), (3, .getfield 96, 10, 20, 0, 0, kZ), (1, .iload_n 2, 0, 0, 0, 0, kZ), (1, .iload_n 1, 0, 0, 0, 0, kZ), (1, .ishl, 0, 0, 0, 0, kZ), (1, .ior, 0, 0, 0, 0, kZ), (3, .putfield 96, 10, 20, 0, 0, kZ), (3, .iinc 1 1, 0, 0, 0, 0, kZ), (3, .iinc 4 1, 0, 0, 0, 0, kZ), (3, .goto (-31), 61, 0, 0, 0, kZ)]
set_option maxRecDepth 100000 in
theorem oo10_takesRuns_61 : okL m10_takesRuns 61 bb10_takesRuns_61 := okL_of _ _ (by decide +kernel) ⟨trivial, ⟨trivial, ⟨rfl, ⟨trivial, ⟨lf_10_83, ⟨rfl, ⟨trivial, ⟨trivial, ⟨lf_10_96, ⟨trivial, ⟨trivial, ⟨trivial, ⟨trivial, ⟨lp_10_96 _, ⟨trivial, ⟨trivial, ⟨rfl, trivial⟩⟩⟩⟩⟩⟩⟩⟩⟩⟩⟩⟩⟩⟩⟩⟩⟩
def bb10_takesRuns_95 : List PI := [(1, .iconst 1, 0, 0, 0, 0, kZ), (1, .iload_n 2, 0, 0, 0, 0, kZ), (1, .isub, 0, 0, 0, 0, kZ), (1, .istore_n 2, 0, 0, 0, 0, kZ), (3, .goto (-95), 4, 0, 0, 0, kZ)]
set_option maxRecDepth 100000 in
theorem oo10_takesRuns_95 : okL m10_takesRuns 95 bb10_takesRuns_95 := okL_of _ _ (by decide +kernel) ⟨trivial, ⟨trivial, ⟨trivial, ⟨trivial, ⟨rfl, trivial⟩⟩⟩⟩⟩
def bb10_takesRuns_102 : List PI := [(1, .return_, 0, 0, 0, 0, kZ)]
set_option maxRecDepth 100000 in
theorem oo10_takesRuns_102 : okL m10_takesRuns 102 bb10_takesRuns_102 := okL_of _ _ (by decide +kernel) ⟨rfl, trivial⟩
def cd10_takesRuns (t : Nat) : Option (List PI) := match t with
  | 0 => some bb10_takesRuns_0
  | 51 => some bb10_takesRuns_51
  | 55 => some bb10_takesRuns_55
  | 95 => some bb10_takesRuns_95
  | 102 => some bb10_takesRuns_102
  | _ => none
theorem kd10_takesRuns : ∀ t is, cd10_takesRuns t = some is → okL m10_takesRuns t is := by
  intro t is h
  unfold cd10_takesRuns at h
  split at h <;> cases h
  · exact oo10_takesRuns_0
  · exact oo10_takesRuns_51
  · exact oo10_takesRuns_55
  · exact oo10_takesRuns_95
  · exact oo10_takesRuns_102
theorem ff10_takesRuns : mi_r m10_takesRuns = none ∧ mi_l m10_takesRuns = 5 ∧ mi_h m10_takesRuns = [] ∧ (mi_rm m10_takesRuns).cells = 0 ∧ (mi_rm m10_takesRuns).slots = 0 ∧ (mi_rm m10_takesRuns).locals = 119 ∧ cd10_takesRuns 0 = some bb10_takesRuns_0 ∧ cd10_takesRuns 4 = none ∧ cd10_takesRuns 51 = some bb10_takesRuns_51 ∧ cd10_takesRuns 55 = some bb10_takesRuns_55 ∧ cd10_takesRuns 61 = none ∧ cd10_takesRuns 95 = some bb10_takesRuns_95 ∧ cd10_takesRuns 102 = some bb10_takesRuns_102 ∧ (mi_rm m10_takesRun).cells = 0 ∧ (mi_rm m10_takesRun).slots = 0 := ⟨rfl, rfl, rfl, rfl, rfl, rfl, rfl, rfl, rfl, rfl, rfl, rfl, rfl, rfl, rfl⟩
def bb10_takesFours_0 : List PI := [(1, .iconst 0, 0, 0, 0, 0, kZ), (1, .istore_n 1, 0, 0, 0, 0, kZ)]
set_option maxRecDepth 100000 in
theorem oo10_takesFours_0 : okL m10_takesFours 0 bb10_takesFours_0 := okL_of _ _ (by decide +kernel) ⟨trivial, ⟨trivial, trivial⟩⟩
def bb10_takesFours_2 : List PI := [(1, .iload_n 1, 0, 0, 0, 0, kZ), (1, .aload_n 0, 0, 0, 0, 0, kZ), (3, .getfield 7, 10, 1, 0, 0, kZ), (1, .iconst 0, 0, 0, 0, 0, kZ), (1, .iaload, 0, 0, 0, 0, kZ), (3, .if_icmp .ge 116, 125, 0, 0, 0, kZ), (1, .aload_n 0, 0, 0, 0, 0, kZ), (3, .getfield 83, 10, 19, 0, 0, kZ), (3, .ifCond .ne 109, 125, 0, 0, 0, kZ), (1, .aload_n 0, 0, 0, 0, 0, kZ), (3, .invokevirtual 90, 0, 10, 0, 0, m10_takesKernel), (1, .istore_n 2, 0, 0, 0, 0, kZ), (1, .iconst 0, 0, 0, 0, 0, kZ), (1, .istore_n 3, 0, 0, 0, 0, kZ)]
set_option maxRecDepth 100000 in
theorem oo10_takesFours_2 : okL m10_takesFours 2 bb10_takesFours_2 := okL_of _ _ (by decide +kernel) ⟨trivial, ⟨trivial, ⟨lf_10_7, ⟨trivial, ⟨trivial, ⟨rfl, ⟨trivial, ⟨lf_10_83, ⟨rfl, ⟨trivial, ⟨⟨mok_m10_takesKernel, ⟨by decide, by decide⟩, rfl, by decide, Or.inl lc_10_90⟩, ⟨trivial, ⟨trivial, ⟨trivial, trivial⟩⟩⟩⟩⟩⟩⟩⟩⟩⟩⟩⟩⟩⟩
def bb10_takesFours_26 : List PI := [(1, .iload_n 3, 0, 0, 0, 0, kZ), (1, .iconst 4, 0, 0, 0, 0, kZ), (3, .if_icmp .ge 91, 119, 0, 0, 0, kZ), (1, .aload_n 0, 0, 0, 0, 0, kZ), (3, .getfield 83, 10, 19, 0, 0, kZ), (3, .ifCond .ne 84, 119, 0, 0, 0, kZ), (1, .iload_n 2, 0, 0, 0, 0, kZ), (1, .iconst 3, 0, 0, 0, 0, kZ), (1, .iload_n 3, 0, 0, 0, 0, kZ), (1, .isub, 0, 0, 0, 0, kZ), (1, .ishr, 0, 0, 0, 0, kZ), (1, .iconst 1, 0, 0, 0, 0, kZ), (1, .iand, 0, 0, 0, 0, kZ), (1, .iconst 1, 0, 0, 0, 0, kZ), (3, .if_icmp .ne 7, 53, 0, 0, 0, kZ), (1, .iconst 1, 0, 0, 0, 0, kZ), (3, .goto 4, 54, 0, 0, 0, kZ)]
set_option maxRecDepth 100000 in
theorem oo10_takesFours_26 : okL m10_takesFours 26 bb10_takesFours_26 := okL_of _ _ (by decide +kernel) ⟨trivial, ⟨trivial, ⟨rfl, ⟨trivial, ⟨lf_10_83, ⟨rfl, ⟨trivial, ⟨trivial, ⟨trivial, ⟨trivial, ⟨trivial, ⟨trivial, ⟨trivial, ⟨trivial, ⟨rfl, ⟨trivial, ⟨rfl, trivial⟩⟩⟩⟩⟩⟩⟩⟩⟩⟩⟩⟩⟩⟩⟩⟩⟩
def bb10_takesFours_53 : List PI := [(1, .iconst 0, 0, 0, 0, 0, kZ)]
set_option maxRecDepth 100000 in
theorem oo10_takesFours_53 : okL m10_takesFours 53 bb10_takesFours_53 := okL_of _ _ (by decide +kernel) ⟨trivial, trivial⟩
def bb10_takesFours_54 : List PI := [(2, .istore 4, 0, 0, 0, 0, kZ), (1, .aload_n 0, 0, 0, 0, 0, kZ), (2, .iload 4, 0, 0, 0, 0, kZ), (3, .ifCond .eq 20, 79, 0, 0, 0, kZ), (1, .iload_n 1, 0, 0, 0, 0, kZ), (1, .iload_n 3, 0, 0, 0, 0, kZ), (1, .iadd, 0, 0, 0, 0, kZ), (1, .aload_n 0, 0, 0, 0, 0, kZ), (3, .getfield 7, 10, 1, 0, 0, kZ), (1, .iconst 0, 0, 0, 0, 0, kZ), (1, .iaload, 0, 0, 0, 0, kZ), (3, .if_icmp .lt 8, 79, 0, 0, 0, kZ), (2, .bipush 6, 0, 0, 0, 0, kZ), (3, .goto 4, 80, 0, 0, 0, kZ)]
set_option maxRecDepth 100000 in
theorem oo10_takesFours_54 : okL m10_takesFours 54 bb10_takesFours_54 := okL_of _ _ (by decide +kernel) ⟨trivial, ⟨trivial, ⟨trivial, ⟨rfl, ⟨trivial, ⟨trivial, ⟨trivial, ⟨trivial, ⟨lf_10_7, ⟨trivial, ⟨trivial, ⟨rfl, ⟨trivial, ⟨rfl, trivial⟩⟩⟩⟩⟩⟩⟩⟩⟩⟩⟩⟩⟩⟩
def bb10_takesFours_79 : List PI := [(1, .iconst 0, 0, 0, 0, 0, kZ)]
set_option maxRecDepth 100000 in
theorem oo10_takesFours_79 : okL m10_takesFours 79 bb10_takesFours_79 := okL_of _ _ (by decide +kernel) ⟨trivial, trivial⟩
def bb10_takesFours_80 : List PI := [(3, .putfield 83, 10, 19, 0, 0, kZ), (1, .aload_n 0, 0, 0, 0, 0, kZ), (1, .dup, 0, 0, 0, 0, kZ), (3, .getfield 96, 10, 20, 0, 0, kZ), (2, .iload 4, 0, 0, 0, 0, kZ), (3, .ifCond .eq 18, 108, 0, 0, 0, kZ), (1, .aload_n 0, 0, 0, 0, 0, kZ), (3, .getfield 83, 10, 19, 0, 0, kZ), (3, .ifCond .ne 11, 108, 0, 0, 0, kZ), (1, .iconst 1, 0, 0, 0, 0, kZ), (1, .iload_n 1, 0, 0, 0, 0, kZ), (1, .iload_n 3, 0, 0, 0, 0, kZ), (1, .iadd, 0, 0, 0, 0, kZ), (1, .ishl, 0, 0, 0, 0, kZ), (3, .goto 4, 109, 0, 0, 0, kZ)]
set_option maxRecDepth 100000 in
theorem oo10_takesFours_80 : okL m10_takesFours 80 bb10_takesFours_80 := okL_of _ _ (by decide +kernel) ⟨lp_10_83 _, ⟨trivial, ⟨trivial, ⟨lf_10_96, ⟨trivial, ⟨rfl, ⟨trivial, ⟨lf_10_83, ⟨rfl, ⟨trivial, ⟨trivial, ⟨trivial, ⟨trivial, ⟨trivial, ⟨rfl, trivial⟩⟩⟩⟩⟩⟩⟩⟩⟩⟩⟩⟩⟩⟩⟩
def bb10_takesFours_108 : List PI := [(1, .iconst 0, 0, 0, 0, 0, kZ)]
set_option maxRecDepth 100000 in
theorem oo10_takesFours_108 : okL m10_takesFours 108 bb10_takesFours_108 := okL_of _ _ (by decide +kernel) ⟨trivial, trivial⟩
def bb10_takesFours_109 : List PI := [(1, .ior, 0, 0, 0, 0, kZ), (3, .putfield 96, 10, 20, 0, 0, kZ), (3, .iinc 3 1, 0, 0, 0, 0, kZ), (3, .goto (-90), 26, 0, 0, 0, kZ)]
set_option maxRecDepth 100000 in
theorem oo10_takesFours_109 : okL m10_takesFours 109 bb10_takesFours_109 := okL_of _ _ (by decide +kernel) ⟨trivial, ⟨lp_10_96 _, ⟨trivial, ⟨rfl, trivial⟩⟩⟩⟩
def bb10_takesFours_119 : List PI := [(3, .iinc 1 4, 0, 0, 0, 0, kZ), (3, .goto (-120), 2, 0, 0, 0, kZ)]
set_option maxRecDepth 100000 in
theorem oo10_takesFours_119 : okL m10_takesFours 119 bb10_takesFours_119 := okL_of _ _ (by decide +kernel) ⟨trivial, ⟨rfl, trivial⟩⟩
def bb10_takesFours_125 : List PI := [(1, .return_, 0, 0, 0, 0, kZ)]
set_option maxRecDepth 100000 in
theorem oo10_takesFours_125 : okL m10_takesFours 125 bb10_takesFours_125 := okL_of _ _ (by decide +kernel) ⟨rfl, trivial⟩
def cd10_takesFours (t : Nat) : Option (List PI) := match t with
  | 0 => some bb10_takesFours_0
  | 53 => some bb10_takesFours_53
  | 54 => some bb10_takesFours_54
  | 79 => some bb10_takesFours_79
  | 80 => some bb10_takesFours_80
  | 108 => some bb10_takesFours_108
  | 109 => some bb10_takesFours_109
  | 119 => some bb10_takesFours_119
  | 125 => some bb10_takesFours_125
  | _ => none
theorem kd10_takesFours : ∀ t is, cd10_takesFours t = some is → okL m10_takesFours t is := by
  intro t is h
  unfold cd10_takesFours at h
  split at h <;> cases h
  · exact oo10_takesFours_0
  · exact oo10_takesFours_53
  · exact oo10_takesFours_54
  · exact oo10_takesFours_79
  · exact oo10_takesFours_80
  · exact oo10_takesFours_108
  · exact oo10_takesFours_109
  · exact oo10_takesFours_119
  · exact oo10_takesFours_125
theorem ff10_takesFours : mi_r m10_takesFours = none ∧ mi_l m10_takesFours = 5 ∧ mi_h m10_takesFours = [] ∧ (mi_rm m10_takesFours).cells = 0 ∧ (mi_rm m10_takesFours).slots = 0 ∧ (mi_rm m10_takesFours).locals = 96 ∧ cd10_takesFours 0 = some bb10_takesFours_0 ∧ cd10_takesFours 2 = none ∧ cd10_takesFours 26 = none ∧ cd10_takesFours 53 = some bb10_takesFours_53 ∧ cd10_takesFours 54 = some bb10_takesFours_54 ∧ cd10_takesFours 79 = some bb10_takesFours_79 ∧ cd10_takesFours 80 = some bb10_takesFours_80 ∧ cd10_takesFours 108 = some bb10_takesFours_108 ∧ cd10_takesFours 109 = some bb10_takesFours_109 ∧ cd10_takesFours 119 = some bb10_takesFours_119 ∧ cd10_takesFours 125 = some bb10_takesFours_125 ∧ (mi_rm m10_takesKernel).cells = 0 ∧ (mi_rm m10_takesKernel).slots = 0 := ⟨rfl, rfl, rfl, rfl, rfl, rfl, rfl, rfl, rfl, rfl, rfl, rfl, rfl, rfl, rfl, rfl, rfl, rfl, rfl⟩
def bb10_takesCode_0 : List PI := [(1, .aload_n 0, 0, 0, 0, 0, kZ), (1, .iconst 0, 0, 0, 0, 0, kZ), (3, .putfield 83, 10, 19, 0, 0, kZ), (1, .aload_n 0, 0, 0, 0, 0, kZ), (1, .iconst 0, 0, 0, 0, 0, kZ), (3, .putfield 53, 10, 17, 0, 0, kZ), (1, .aload_n 0, 0, 0, 0, 0, kZ), (1, .iconst 0, 0, 0, 0, 0, kZ), (3, .putfield 96, 10, 20, 0, 0, kZ), (1, .aload_n 0, 0, 0, 0, 0, kZ), (3, .invokevirtual 86, 0, 10, 0, 0, m10_takes), (1, .istore_n 1, 0, 0, 0, 0, kZ), (1, .aload_n 0, 0, 0, 0, 0, kZ), (1, .aload_n 0, 0, 0, 0, 0, kZ), (3, .getfield 83, 10, 19, 0, 0, kZ), (3, .ifCond .ne 13, 38, 0, 0, 0, kZ), (1, .iload_n 1, 0, 0, 0, 0, kZ), (2, .bipush 9, 0, 0, 0, 0, kZ), (3, .if_icmp .le 7, 38, 0, 0, 0, kZ), (1, .iconst 2, 0, 0, 0, 0, kZ), (3, .goto 7, 42, 0, 0, 0, kZ)]
set_option maxRecDepth 100000 in
theorem oo10_takesCode_0 : okL m10_takesCode 0 bb10_takesCode_0 := okL_of _ _ (by decide +kernel) ⟨trivial, ⟨trivial, ⟨lp_10_83 _, ⟨trivial, ⟨trivial, ⟨lp_10_53 _, ⟨trivial, ⟨trivial, ⟨lp_10_96 _, ⟨trivial, ⟨⟨mok_m10_takes, ⟨by decide, by decide⟩, rfl, by decide, Or.inl lc_10_86⟩, ⟨trivial, ⟨trivial, ⟨trivial, ⟨lf_10_83, ⟨rfl, ⟨trivial, ⟨trivial, ⟨rfl, ⟨trivial, ⟨rfl, trivial⟩⟩⟩⟩⟩⟩⟩⟩⟩⟩⟩⟩⟩⟩⟩⟩⟩⟩⟩⟩⟩
def bb10_takesCode_38 : List PI := [(1, .aload_n 0, 0, 0, 0, 0, kZ), (3, .getfield 83, 10, 19, 0, 0, kZ)]
set_option maxRecDepth 100000 in
theorem oo10_takesCode_38 : okL m10_takesCode 38 bb10_takesCode_38 := okL_of _ _ (by decide +kernel) ⟨trivial, ⟨lf_10_83, trivial⟩⟩
def bb10_takesCode_42 : List PI := [(3, .putfield 83, 10, 19, 0, 0, kZ), (1, .aload_n 0, 0, 0, 0, 0, kZ), (3, .getfield 83, 10, 19, 0, 0, kZ), (3, .ifCond .ne 10, 59, 0, 0, 0, kZ), (1, .aload_n 0, 0, 0, 0, 0, kZ), (3, .invokevirtual 86, 0, 10, 0, 0, m10_takes), (3, .goto 4, 60, 0, 0, 0, kZ)]
set_option maxRecDepth 100000 in
theorem oo10_takesCode_42 : okL m10_takesCode 42 bb10_takesCode_42 := okL_of _ _ (by decide +kernel) ⟨lp_10_83 _, ⟨trivial, ⟨lf_10_83, ⟨rfl, ⟨trivial, ⟨⟨mok_m10_takes, ⟨by decide, by decide⟩, rfl, by decide, Or.inl lc_10_86⟩, ⟨rfl, trivial⟩⟩⟩⟩⟩⟩⟩
def bb10_takesCode_59 : List PI := [(1, .iconst 0, 0, 0, 0, 0, kZ)]
set_option maxRecDepth 100000 in
theorem oo10_takesCode_59 : okL m10_takesCode 59 bb10_takesCode_59 := okL_of _ _ (by decide +kernel) ⟨trivial, trivial⟩
def bb10_takesCode_60 : List PI := [(1, .istore_n 2, 0, 0, 0, 0, kZ), (1, .aload_n 0, 0, 0, 0, 0, kZ), (1, .aload_n 0, 0, 0, 0, 0, kZ), (3, .getfield 83, 10, 19, 0, 0, kZ), (3, .ifCond .ne 12, 78, 0, 0, 0, kZ), (1, .iload_n 2, 0, 0, 0, 0, kZ), (1, .iconst 2, 0, 0, 0, 0, kZ), (3, .if_icmp .le 7, 78, 0, 0, 0, kZ), (1, .iconst 3, 0, 0, 0, 0, kZ), (3, .goto 7, 82, 0, 0, 0, kZ)]
set_option maxRecDepth 100000 in
theorem oo10_takesCode_60 : okL m10_takesCode 60 bb10_takesCode_60 := okL_of _ _ (by decide +kernel) ⟨trivial, ⟨trivial, ⟨trivial, ⟨lf_10_83, ⟨rfl, ⟨trivial, ⟨trivial, ⟨rfl, ⟨trivial, ⟨rfl, trivial⟩⟩⟩⟩⟩⟩⟩⟩⟩⟩
def bb10_takesCode_78 : List PI := [(1, .aload_n 0, 0, 0, 0, 0, kZ), (3, .getfield 83, 10, 19, 0, 0, kZ)]
set_option maxRecDepth 100000 in
theorem oo10_takesCode_78 : okL m10_takesCode 78 bb10_takesCode_78 := okL_of _ _ (by decide +kernel) ⟨trivial, ⟨lf_10_83, trivial⟩⟩
def bb10_takesCode_82 : List PI := [(3, .putfield 83, 10, 19, 0, 0, kZ), (1, .aload_n 0, 0, 0, 0, 0, kZ), (3, .getfield 83, 10, 19, 0, 0, kZ), (3, .ifCond .ne 16, 105, 0, 0, 0, kZ), (1, .iload_n 2, 0, 0, 0, 0, kZ), (1, .iconst 2, 0, 0, 0, 0, kZ), (3, .if_icmp .ne 11, 105, 0, 0, 0, kZ), (1, .iload_n 1, 0, 0, 0, 0, kZ), (3, .ifCond .le 7, 105, 0, 0, 0, kZ), (1, .iconst 1, 0, 0, 0, 0, kZ), (3, .goto 4, 106, 0, 0, 0, kZ)]
set_option maxRecDepth 100000 in
theorem oo10_takesCode_82 : okL m10_takesCode 82 bb10_takesCode_82 := okL_of _ _ (by decide +kernel) ⟨lp_10_83 _, ⟨trivial, ⟨lf_10_83, ⟨rfl, ⟨trivial, ⟨trivial, ⟨rfl, ⟨trivial, ⟨rfl, ⟨trivial, ⟨rfl, trivial⟩⟩⟩⟩⟩⟩⟩⟩⟩⟩⟩
def bb10_takesCode_105 : List PI := [(1, .iconst 0, 0, 0, 0, 0, kZ)]
set_option maxRecDepth 100000 in
theorem oo10_takesCode_105 : okL m10_takesCode 105 bb10_takesCode_105 := okL_of _ _ (by decide +kernel) ⟨trivial, trivial⟩
def bb10_takesCode_106 : List PI := [(1, .istore_n 3, 0, 0, 0, 0, kZ), (1, .aload_n 0, 0, 0, 0, 0, kZ), (1, .iload_n 3, 0, 0, 0, 0, kZ), (3, .ifCond .eq 23, 132, 0, 0, 0, kZ), (1, .aload_n 0, 0, 0, 0, 0, kZ), (3, .getfield 7, 10, 1, 0, 0, kZ), (1, .iconst 4, 0, 0, 0, 0, kZ), (1, .iaload, 0, 0, 0, 0, kZ), (1, .iload_n 1, 0, 0, 0, 0, kZ), (1, .iconst 1, 0, 0, 0, 0, kZ), (1, .isub, 0, 0, 0, 0, kZ), (1, .ishr, 0, 0, 0, 0, kZ), (1, .iconst 1, 0, 0, 0, 0, kZ), (1, .iand, 0, 0, 0, 0, kZ), (3, .ifCond .ne 8, 132, 0, 0, 0, kZ), (2, .bipush 7, 0, 0, 0, 0, kZ), (3, .goto 7, 136, 0, 0, 0, kZ)]
set_option maxRecDepth 100000 in
theorem oo10_takesCode_106 : okL m10_takesCode 106 bb10_takesCode_106 := okL_of _ _ (by decide +kernel) ⟨trivial, ⟨trivial, ⟨trivial, ⟨rfl, ⟨trivial, ⟨lf_10_7, ⟨trivial, ⟨trivial, ⟨trivial, ⟨trivial, ⟨trivial, ⟨trivial, ⟨trivial, ⟨trivial, ⟨rfl, ⟨trivial, ⟨rfl, trivial⟩⟩⟩⟩⟩⟩⟩⟩⟩⟩⟩⟩⟩⟩⟩⟩⟩
def bb10_takesCode_132 : List PI := [(1, .aload_n 0, 0, 0, 0, 0, kZ), (3, .getfield 83, 10, 19, 0, 0, kZ)]
set_option maxRecDepth 100000 in
theorem oo10_takesCode_132 : okL m10_takesCode 132 bb10_takesCode_132 := okL_of _ _ (by decide +kernel) ⟨trivial, ⟨lf_10_83, trivial⟩⟩
def bb10_takesCode_136 : List PI := [(3, .putfield 83, 10, 19, 0, 0, kZ), (1, .aload_n 0, 0, 0, 0, 0, kZ), (1, .iload_n 1, 0, 0, 0, 0, kZ), (1, .iload_n 2, 0, 0, 0, 0, kZ), (1, .iadd, 0, 0, 0, 0, kZ), (3, .putfield 53, 10, 17, 0, 0, kZ), (1, .aload_n 0, 0, 0, 0, 0, kZ), (3, .getfield 83, 10, 19, 0, 0, kZ), (3, .ifCond .ne 15, 165, 0, 0, 0, kZ), (1, .iload_n 2, 0, 0, 0, 0, kZ), (1, .iconst 1, 0, 0, 0, 0, kZ), (3, .if_icmp .ne 10, 165, 0, 0, 0, kZ), (1, .aload_n 0, 0, 0, 0, 0, kZ), (3, .invokevirtual 99, 0, 10, 0, 0, m10_takesFours), (3, .goto 14, 176, 0, 0, 0, kZ)]
set_option maxRecDepth 100000 in
theorem oo10_takesCode_136 : okL m10_takesCode 136 bb10_takesCode_136 := okL_of _ _ (by decide +kernel) ⟨lp_10_83 _, ⟨trivial, ⟨trivial, ⟨trivial, ⟨trivial, ⟨lp_10_53 _, ⟨trivial, ⟨lf_10_83, ⟨rfl, ⟨trivial, ⟨trivial, ⟨rfl, ⟨trivial, ⟨⟨mok_m10_takesFours, ⟨by decide, by decide⟩, rfl, by decide, Or.inl lc_10_99⟩, ⟨rfl, trivial⟩⟩⟩⟩⟩⟩⟩⟩⟩⟩⟩⟩⟩⟩⟩
def bb10_takesCode_165 : List PI := [(1, .aload_n 0, 0, 0, 0, 0, kZ), (3, .getfield 83, 10, 19, 0, 0, kZ), (3, .ifCond .ne 7, 176, 0, 0, 0, kZ), (1, .aload_n 0, 0, 0, 0, 0, kZ), (3, .invokevirtual 102, 0, 10, 0, 0, m10_takesRuns)]
set_option maxRecDepth 100000 in
theorem oo10_takesCode_165 : okL m10_takesCode 165 bb10_takesCode_165 := okL_of _ _ (by decide +kernel) ⟨trivial, ⟨lf_10_83, ⟨rfl, ⟨trivial, ⟨⟨mok_m10_takesRuns, ⟨by decide, by decide⟩, rfl, by decide, Or.inl lc_10_102⟩, trivial⟩⟩⟩⟩⟩
def bb10_takesCode_176 : List PI := [(1, .aload_n 0, 0, 0, 0, 0, kZ), (3, .getfield 53, 10, 17, 0, 0, kZ), (2, .bipush 15, 0, 0, 0, 0, kZ), (1, .irem, 0, 0, 0, 0, kZ), (2, .istore 4, 0, 0, 0, 0, kZ), (1, .aload_n 0, 0, 0, 0, 0, kZ), (3, .getfield 83, 10, 19, 0, 0, kZ), (3, .ifCond .ne 10, 199, 0, 0, 0, kZ), (1, .aload_n 0, 0, 0, 0, 0, kZ), (3, .invokevirtual 86, 0, 10, 0, 0, m10_takes), (3, .goto 4, 200, 0, 0, 0, kZ)]
set_option maxRecDepth 100000 in
theorem oo10_takesCode_176 : okL m10_takesCode 176 bb10_takesCode_176 := okL_of _ _ (by decide +kernel) ⟨trivial, ⟨lf_10_53, ⟨trivial, ⟨trivial, ⟨trivial, ⟨trivial, ⟨lf_10_83, ⟨rfl, ⟨trivial, ⟨⟨mok_m10_takes, ⟨by decide, by decide⟩, rfl, by decide, Or.inl lc_10_86⟩, ⟨rfl, trivial⟩⟩⟩⟩⟩⟩⟩⟩⟩⟩⟩
def bb10_takesCode_199 : List PI := [(1, .iconst 0, 0, 0, 0, 0, kZ)]
set_option maxRecDepth 100000 in
theorem oo10_takesCode_199 : okL m10_takesCode 199 bb10_takesCode_199 := okL_of _ _ (by decide +kernel) ⟨trivial, trivial⟩
def bb10_takesCode_200 : List PI := [(2, .istore 5, 0, 0, 0, 0, kZ), (1, .aload_n 0, 0, 0, 0, 0, kZ), (1, .aload_n 0, 0, 0, 0, 0, kZ), (3, .getfield 83, 10, 19, 0, 0, kZ), (3, .ifCond .ne 15, 222, 0, 0, 0, kZ), (2, .iload 5, 0, 0, 0, 0, kZ), (2, .iload 4, 0, 0, 0, 0, kZ), (3, .if_icmp .eq 8, 222, 0, 0, 0, kZ), (2, .bipush 8, 0, 0, 0, 0, kZ), (3, .goto 7, 226, 0, 0, 0, kZ)]
set_option maxRecDepth 100000 in
theorem oo10_takesCode_200 : okL m10_takesCode 200 bb10_takesCode_200 := okL_of _ _ (by decide +kernel) ⟨trivial, ⟨trivial, ⟨trivial, ⟨lf_10_83, ⟨rfl, ⟨trivial, ⟨trivial, ⟨rfl, ⟨trivial, ⟨rfl, trivial⟩⟩⟩⟩⟩⟩⟩⟩⟩⟩
def bb10_takesCode_222 : List PI := [(1, .aload_n 0, 0, 0, 0, 0, kZ), (3, .getfield 83, 10, 19, 0, 0, kZ)]
set_option maxRecDepth 100000 in
theorem oo10_takesCode_222 : okL m10_takesCode 222 bb10_takesCode_222 := okL_of _ _ (by decide +kernel) ⟨trivial, ⟨lf_10_83, trivial⟩⟩
def bb10_takesCode_226 : List PI := [(3, .putfield 83, 10, 19, 0, 0, kZ), (1, .aload_n 0, 0, 0, 0, 0, kZ), (3, .getfield 83, 10, 19, 0, 0, kZ), (3, .ifCond .ne 51, 284, 0, 0, 0, kZ), (1, .aload_n 0, 0, 0, 0, 0, kZ), (3, .getfield 7, 10, 1, 0, 0, kZ), (2, .bipush 18, 0, 0, 0, 0, kZ), (1, .iload_n 1, 0, 0, 0, 0, kZ), (1, .iadd, 0, 0, 0, 0, kZ), (1, .iload_n 3, 0, 0, 0, 0, kZ), (3, .ifCond .eq 22, 267, 0, 0, 0, kZ), (1, .aload_n 0, 0, 0, 0, 0, kZ), (3, .getfield 96, 10, 20, 0, 0, kZ), (1, .aload_n 0, 0, 0, 0, 0, kZ), (3, .getfield 7, 10, 1, 0, 0, kZ), (2, .bipush 18, 0, 0, 0, 0, kZ), (1, .iload_n 1, 0, 0, 0, 0, kZ), (1, .iadd, 0, 0, 0, 0, kZ), (1, .iconst 1, 0, 0, 0, 0, kZ), (1, .isub, 0, 0, 0, 0, kZ), (1, .iaload, 0, 0, 0, 0, kZ), (1, .ixor, 0, 0, 0, 0, kZ), (3, .goto 7, 271, 0, 0, 0, kZ)]
set_option maxRecDepth 100000 in
theorem oo10_takesCode_226 : okL m10_takesCode 226 bb10_takesCode_226 := okL_of _ _ (by decide +kernel) ⟨lp_10_83 _, ⟨trivial, ⟨lf_10_83, ⟨rfl, ⟨trivial, ⟨lf_10_7, ⟨trivial, ⟨trivial, ⟨trivial, ⟨trivial, ⟨rfl, ⟨trivial, ⟨lf_10_96, ⟨trivial, ⟨lf_10_7, ⟨trivial, ⟨trivial, ⟨trivial, ⟨trivial, ⟨trivial, ⟨trivial, ⟨trivial, ⟨rfl, trivial⟩⟩⟩⟩⟩⟩⟩⟩⟩⟩⟩⟩⟩⟩⟩⟩⟩⟩⟩⟩⟩⟩⟩
def bb10_takesCode_267 : List PI := [(1, .aload_n 0, 0, 0, 0, 0, kZ), (3, .getfield 96, 10, 20, 0, 0, kZ)]
set_option maxRecDepth 100000 in
theorem oo10_takesCode_267 : okL m10_takesCode 267 bb10_takesCode_267 := okL_of _ _ (by decide +kernel) ⟨trivial, ⟨lf_10_96, trivial⟩⟩
def bb10_takesCode_271 : List PI := [(1, .iastore, 0, 0, 0, 0, kZ), (1, .aload_n 0, 0, 0, 0, 0, kZ), (3, .getfield 7, 10, 1, 0, 0, kZ), (1, .iconst 4, 0, 0, 0, 0, kZ), (1, .dup2, 0, 0, 0, 0, kZ), (1, .iaload, 0, 0, 0, 0, kZ), (1, .iconst 1, 0, 0, 0, 0, kZ), (1, .iload_n 1, 0, 0, 0, 0, kZ), (1, .ishl, 0, 0, 0, 0, kZ), (1, .ior, 0, 0, 0, 0, kZ), (1, .iastore, 0, 0, 0, 0, kZ)]
set_option maxRecDepth 100000 in
theorem oo10_takesCode_271 : okL m10_takesCode 271 bb10_takesCode_271 := okL_of _ _ (by decide +kernel) ⟨trivial, ⟨trivial, ⟨lf_10_7, ⟨trivial, ⟨trivial, ⟨trivial, ⟨trivial, ⟨trivial, ⟨trivial, ⟨trivial, ⟨trivial, trivial⟩⟩⟩⟩⟩⟩⟩⟩⟩⟩⟩
def bb10_takesCode_284 : List PI := [(1, .aload_n 0, 0, 0, 0, 0, kZ), (3, .getfield 83, 10, 19, 0, 0, kZ), (1, .ireturn, 0, 0, 0, 0, kZ)]
set_option maxRecDepth 100000 in
theorem oo10_takesCode_284 : okL m10_takesCode 284 bb10_takesCode_284 := okL_of _ _ (by decide +kernel) ⟨trivial, ⟨lf_10_83, ⟨trivial, trivial⟩⟩⟩
def cd10_takesCode (t : Nat) : Option (List PI) := match t with
  | 0 => some bb10_takesCode_0
  | 38 => some bb10_takesCode_38
  | 42 => some bb10_takesCode_42
  | 59 => some bb10_takesCode_59
  | 60 => some bb10_takesCode_60
  | 78 => some bb10_takesCode_78
  | 82 => some bb10_takesCode_82
  | 105 => some bb10_takesCode_105
  | 106 => some bb10_takesCode_106
  | 132 => some bb10_takesCode_132
  | 136 => some bb10_takesCode_136
  | 165 => some bb10_takesCode_165
  | 176 => some bb10_takesCode_176
  | 199 => some bb10_takesCode_199
  | 200 => some bb10_takesCode_200
  | 222 => some bb10_takesCode_222
  | 226 => some bb10_takesCode_226
  | 267 => some bb10_takesCode_267
  | 271 => some bb10_takesCode_271
  | 284 => some bb10_takesCode_284
  | _ => none
theorem kd10_takesCode : ∀ t is, cd10_takesCode t = some is → okL m10_takesCode t is := by
  intro t is h
  unfold cd10_takesCode at h
  split at h <;> cases h
  · exact oo10_takesCode_0
  · exact oo10_takesCode_38
  · exact oo10_takesCode_42
  · exact oo10_takesCode_59
  · exact oo10_takesCode_60
  · exact oo10_takesCode_78
  · exact oo10_takesCode_82
  · exact oo10_takesCode_105
  · exact oo10_takesCode_106
  · exact oo10_takesCode_132
  · exact oo10_takesCode_136
  · exact oo10_takesCode_165
  · exact oo10_takesCode_176
  · exact oo10_takesCode_199
  · exact oo10_takesCode_200
  · exact oo10_takesCode_222
  · exact oo10_takesCode_226
  · exact oo10_takesCode_267
  · exact oo10_takesCode_271
  · exact oo10_takesCode_284
theorem ff10_takesCode : mi_r m10_takesCode = (some .int) ∧ mi_l m10_takesCode = 6 ∧ mi_h m10_takesCode = [] ∧ (mi_rm m10_takesCode).cells = 0 ∧ (mi_rm m10_takesCode).slots = 0 ∧ (mi_rm m10_takesCode).locals = 143 ∧ cd10_takesCode 0 = some bb10_takesCode_0 ∧ cd10_takesCode 38 = some bb10_takesCode_38 ∧ cd10_takesCode 42 = some bb10_takesCode_42 ∧ cd10_takesCode 59 = some bb10_takesCode_59 ∧ cd10_takesCode 60 = some bb10_takesCode_60 ∧ cd10_takesCode 78 = some bb10_takesCode_78 ∧ cd10_takesCode 82 = some bb10_takesCode_82 ∧ cd10_takesCode 105 = some bb10_takesCode_105 ∧ cd10_takesCode 106 = some bb10_takesCode_106 ∧ cd10_takesCode 132 = some bb10_takesCode_132 ∧ cd10_takesCode 136 = some bb10_takesCode_136 ∧ cd10_takesCode 165 = some bb10_takesCode_165 ∧ cd10_takesCode 176 = some bb10_takesCode_176 ∧ cd10_takesCode 199 = some bb10_takesCode_199 ∧ cd10_takesCode 200 = some bb10_takesCode_200 ∧ cd10_takesCode 222 = some bb10_takesCode_222 ∧ cd10_takesCode 226 = some bb10_takesCode_226 ∧ cd10_takesCode 267 = some bb10_takesCode_267 ∧ cd10_takesCode 271 = some bb10_takesCode_271 ∧ cd10_takesCode 284 = some bb10_takesCode_284 ∧ (mi_rm m10_takes).cells = 0 ∧ (mi_rm m10_takes).slots = 0 ∧ (mi_rm m10_takesFours).cells = 0 ∧ (mi_rm m10_takesFours).slots = 0 ∧ (mi_rm m10_takesRuns).cells = 0 ∧ (mi_rm m10_takesRuns).slots = 0 := ⟨rfl, rfl, rfl, rfl, rfl, rfl, rfl, rfl, rfl, rfl, rfl, rfl, rfl, rfl, rfl, rfl, rfl, rfl, rfl, rfl, rfl, rfl, rfl, rfl, rfl, rfl, rfl, rfl, rfl, rfl, rfl, rfl⟩
def bb10_isMarker_0 : List PI := [(1, .aload_n 0, 0, 0, 0, 0, kZ), (1, .iload_n 1, 0, 0, 0, 0, kZ), (3, .invokevirtual 80, 1, 10, 0, 0, m10_stream), (2, .bipush 15, 0, 0, 0, 0, kZ), (3, .if_icmp .ne 17, 24, 0, 0, 0, kZ), (1, .aload_n 0, 0, 0, 0, 0, kZ), (1, .iload_n 1, 0, 0, 0, 0, kZ), (1, .iconst 1, 0, 0, 0, 0, kZ), (1, .iadd, 0, 0, 0, 0, kZ), (3, .invokevirtual 80, 1, 10, 0, 0, m10_stream), (3, .ifCond .ne 7, 24, 0, 0, 0, kZ), (1, .iconst 1, 0, 0, 0, 0, kZ), (3, .goto 4, 25, 0, 0, 0, kZ)]
set_option maxRecDepth 100000 in
theorem oo10_isMarker_0 : okL m10_isMarker 0 bb10_isMarker_0 := okL_of _ _ (by decide +kernel) ⟨trivial, ⟨trivial, ⟨⟨mok_m10_stream, ⟨by decide, by decide⟩, rfl, by decide, Or.inl lc_10_80⟩, ⟨trivial, ⟨rfl, ⟨trivial, ⟨trivial, ⟨trivial, ⟨trivial, ⟨⟨mok_m10_stream, ⟨by decide, by decide⟩, rfl, by decide, Or.inl lc_10_80⟩, ⟨rfl, ⟨trivial, ⟨rfl, trivial⟩⟩⟩⟩⟩⟩⟩⟩⟩⟩⟩⟩⟩
def bb10_isMarker_24 : List PI := [(1, .iconst 0, 0, 0, 0, 0, kZ)]
set_option maxRecDepth 100000 in
theorem oo10_isMarker_24 : okL m10_isMarker 24 bb10_isMarker_24 := okL_of _ _ (by decide +kernel) ⟨trivial, trivial⟩
def bb10_isMarker_25 : List PI := [(1, .ireturn, 0, 0, 0, 0, kZ)]
set_option maxRecDepth 100000 in
theorem oo10_isMarker_25 : okL m10_isMarker 25 bb10_isMarker_25 := okL_of _ _ (by decide +kernel) ⟨trivial, trivial⟩
def cd10_isMarker (t : Nat) : Option (List PI) := match t with
  | 0 => some bb10_isMarker_0
  | 24 => some bb10_isMarker_24
  | 25 => some bb10_isMarker_25
  | _ => none
theorem kd10_isMarker : ∀ t is, cd10_isMarker t = some is → okL m10_isMarker t is := by
  intro t is h
  unfold cd10_isMarker at h
  split at h <;> cases h
  · exact oo10_isMarker_0
  · exact oo10_isMarker_24
  · exact oo10_isMarker_25
theorem ff10_isMarker : mi_r m10_isMarker = (some .boolean) ∧ mi_l m10_isMarker = 2 ∧ mi_h m10_isMarker = [] ∧ (mi_rm m10_isMarker).cells = 0 ∧ (mi_rm m10_isMarker).slots = 0 ∧ (mi_rm m10_isMarker).locals = 53 ∧ cd10_isMarker 0 = some bb10_isMarker_0 ∧ cd10_isMarker 24 = some bb10_isMarker_24 ∧ cd10_isMarker 25 = some bb10_isMarker_25 ∧ (mi_rm m10_stream).cells = 0 ∧ (mi_rm m10_stream).slots = 0 := ⟨rfl, rfl, rfl, rfl, rfl, rfl, rfl, rfl, rfl, rfl, rfl⟩
def bb10_notes_0 : List PI := [(1, .aload_n 0, 0, 0, 0, 0, kZ), (3, .getfield 7, 10, 1, 0, 0, kZ), (1, .iconst 5, 0, 0, 0, 0, kZ), (1, .iaload, 0, 0, 0, 0, kZ), (2, .bipush 20, 0, 0, 0, 0, kZ), (3, .if_icmp .ge 49, 57, 0, 0, 0, kZ), (1, .aload_n 0, 0, 0, 0, 0, kZ), (3, .getfield 7, 10, 1, 0, 0, kZ), (2, .bipush 28, 0, 0, 0, 0, kZ), (1, .iconst 2, 0, 0, 0, 0, kZ), (1, .aload_n 0, 0, 0, 0, 0, kZ), (3, .getfield 7, 10, 1, 0, 0, kZ), (1, .iconst 5, 0, 0, 0, 0, kZ), (1, .iaload, 0, 0, 0, 0, kZ), (1, .imul, 0, 0, 0, 0, kZ), (1, .iadd, 0, 0, 0, 0, kZ), (1, .iload_n 1, 0, 0, 0, 0, kZ), (1, .iastore, 0, 0, 0, 0, kZ), (1, .aload_n 0, 0, 0, 0, 0, kZ), (3, .getfield 7, 10, 1, 0, 0, kZ), (2, .bipush 28, 0, 0, 0, 0, kZ), (1, .iconst 2, 0, 0, 0, 0, kZ), (1, .aload_n 0, 0, 0, 0, 0, kZ), (3, .getfield 7, 10, 1, 0, 0, kZ), (1, .iconst 5, 0, 0, 0, 0, kZ), (1, .iaload, 0, 0, 0, 0, kZ), (1, .imul, 0, 0, 0, 0, kZ), (1, .iadd, 0, 0, 0, 0, kZ), (1, .iconst 1, 0, 0, 0, 0, kZ), (1, .iadd, 0, 0, 0, 0, kZ), (1, .iload_n 2, 0, 0, 0, 0, kZ), (1, .iastore, 0, 0, 0, 0, kZ), (1, .aload_n 0, 0, 0, 0, 0, kZ), (3, .getfield 7, 10, 1, 0, 0, kZ), (1, .iconst 5, 0, 0, 0, 0, kZ), (1, .dup2, 0, 0, 0, 0, kZ), (1, .iaload, 0, 0, 0, 0, kZ), (1, .iconst 1, 0, 0, 0, 0, kZ), (1, .iadd, 0, 0, 0, 0, kZ), (1, .iastore, 0, 0, 0, 0, kZ)]
set_option maxRecDepth 100000 in
theorem oo10_notes_0 : okL m10_notes 0 bb10_notes_0 := okL_of _ _ (by decide +kernel) ⟨trivial, ⟨lf_10_7, ⟨trivial, ⟨trivial, ⟨trivial, ⟨rfl, ⟨trivial, ⟨lf_10_7, ⟨trivial, ⟨trivial, ⟨trivial, ⟨lf_10_7, ⟨trivial, ⟨trivial, ⟨trivial, ⟨trivial, ⟨trivial, ⟨trivial, ⟨trivial, ⟨lf_10_7, ⟨trivial, ⟨trivial, ⟨trivial, ⟨lf_10_7, ⟨trivial, ⟨trivial, ⟨trivial, ⟨trivial, ⟨trivial, ⟨trivial, ⟨trivial, ⟨trivial, ⟨trivial, ⟨lf_10_7, ⟨trivial, ⟨trivial, ⟨trivial, ⟨trivial, ⟨trivial, ⟨trivial, trivial⟩⟩⟩⟩⟩⟩⟩⟩⟩⟩⟩⟩⟩⟩⟩⟩⟩⟩⟩⟩⟩⟩⟩⟩⟩⟩⟩⟩⟩⟩⟩⟩⟩⟩⟩⟩⟩⟩⟩⟩
def bb10_notes_57 : List PI := [(1, .return_, 0, 0, 0, 0, kZ)]
set_option maxRecDepth 100000 in
theorem oo10_notes_57 : okL m10_notes 57 bb10_notes_57 := okL_of _ _ (by decide +kernel) ⟨rfl, trivial⟩
def cd10_notes (t : Nat) : Option (List PI) := match t with
  | 0 => some bb10_notes_0
  | 57 => some bb10_notes_57
  | _ => none
theorem kd10_notes : ∀ t is, cd10_notes t = some is → okL m10_notes t is := by
  intro t is h
  unfold cd10_notes at h
  split at h <;> cases h
  · exact oo10_notes_0
  · exact oo10_notes_57
theorem ff10_notes : mi_r m10_notes = none ∧ mi_l m10_notes = 3 ∧ mi_h m10_notes = [] ∧ (mi_rm m10_notes).cells = 0 ∧ (mi_rm m10_notes).slots = 0 ∧ (mi_rm m10_notes).locals = 32 ∧ cd10_notes 0 = some bb10_notes_0 ∧ cd10_notes 57 = some bb10_notes_57 := ⟨rfl, rfl, rfl, rfl, rfl, rfl, rfl, rfl⟩
def bb10_gotMany_0 : List PI := [(1, .aload_n 0, 0, 0, 0, 0, kZ), (3, .getfield 7, 10, 1, 0, 0, kZ), (1, .iconst 4, 0, 0, 0, 0, kZ), (1, .iaload, 0, 0, 0, 0, kZ), (3, .invokestatic 105, 1, 10, 0, 0, m10_bits), (1, .ireturn, 0, 0, 0, 0, kZ)]
set_option maxRecDepth 100000 in
theorem oo10_gotMany_0 : okL m10_gotMany 0 bb10_gotMany_0 := okL_of _ _ (by decide +kernel) ⟨trivial, ⟨lf_10_7, ⟨trivial, ⟨trivial, ⟨⟨mok_m10_bits, ⟨by decide, by decide⟩, rfl, Or.inl lc_10_105⟩, ⟨trivial, trivial⟩⟩⟩⟩⟩⟩
def cd10_gotMany (t : Nat) : Option (List PI) := match t with
  | 0 => some bb10_gotMany_0
  | _ => none
theorem kd10_gotMany : ∀ t is, cd10_gotMany t = some is → okL m10_gotMany t is := by
  intro t is h
  unfold cd10_gotMany at h
  split at h <;> cases h
  · exact oo10_gotMany_0
theorem ff10_gotMany : mi_r m10_gotMany = (some .int) ∧ mi_l m10_gotMany = 1 ∧ mi_h m10_gotMany = [] ∧ (mi_rm m10_gotMany).cells = 0 ∧ (mi_rm m10_gotMany).slots = 0 ∧ (mi_rm m10_gotMany).locals = 54 ∧ cd10_gotMany 0 = some bb10_gotMany_0 ∧ (mi_rm m10_bits).cells = 0 ∧ (mi_rm m10_bits).slots = 0 := ⟨rfl, rfl, rfl, rfl, rfl, rfl, rfl, rfl, rfl⟩
def bb10_forgets_0 : List PI := [(1, .aload_n 0, 0, 0, 0, 0, kZ), (3, .getfield 7, 10, 1, 0, 0, kZ), (1, .iconst 4, 0, 0, 0, 0, kZ), (1, .iconst 0, 0, 0, 0, 0, kZ), (1, .iastore, 0, 0, 0, 0, kZ), (1, .aload_n 0, 0, 0, 0, 0, kZ), (3, .getfield 7, 10, 1, 0, 0, kZ), (1, .iconst 5, 0, 0, 0, 0, kZ), (1, .iconst 0, 0, 0, 0, 0, kZ), (1, .iastore, 0, 0, 0, 0, kZ), (1, .iconst 0, 0, 0, 0, 0, kZ), (1, .istore_n 1, 0, 0, 0, 0, kZ)]
set_option maxRecDepth 100000 in
theorem oo10_forgets_0 : okL m10_forgets 0 bb10_forgets_0 := okL_of _ _ (by decide +kernel) ⟨trivial, ⟨lf_10_7, ⟨trivial, ⟨trivial, ⟨trivial, ⟨trivial, ⟨lf_10_7, ⟨trivial, ⟨trivial, ⟨trivial, ⟨trivial, ⟨trivial, trivial⟩⟩⟩⟩⟩⟩⟩⟩⟩⟩⟩⟩
def bb10_forgets_16 : List PI := [(1, .iload_n 1, 0, 0, 0, 0, kZ), (2, .bipush 10, 0, 0, 0, 0, kZ), (3, .if_icmp .ge 19, 38, 0, 0, 0, kZ), (1, .aload_n 0, 0, 0, 0, 0, kZ), (3, .getfield 7, 10, 1, 0, 0, kZ), (2, .bipush 18, 0, 0, 0, 0, kZ), (1, .iload_n 1, 0, 0, 0, 0, kZ), (1, .iadd, 0, 0, 0, 0, kZ), (1, .iconst 0, 0, 0, 0, 0, kZ), (1, .iastore, 0, 0, 0, 0, kZ), (3, .iinc 1 1, 0, 0, 0, 0, kZ), (3, .goto (-19), 16, 0, 0, 0, kZ)]
set_option maxRecDepth 100000 in
theorem oo10_forgets_16 : okL m10_forgets 16 bb10_forgets_16 := okL_of _ _ (by decide +kernel) ⟨trivial, ⟨trivial, ⟨rfl, ⟨trivial, ⟨lf_10_7, ⟨trivial, ⟨trivial, ⟨trivial, ⟨trivial, ⟨trivial, ⟨trivial, ⟨rfl, trivial⟩⟩⟩⟩⟩⟩⟩⟩⟩⟩⟩⟩
def bb10_forgets_38 : List PI := [(1, .return_, 0, 0, 0, 0, kZ)]
set_option maxRecDepth 100000 in
theorem oo10_forgets_38 : okL m10_forgets 38 bb10_forgets_38 := okL_of _ _ (by decide +kernel) ⟨rfl, trivial⟩
def cd10_forgets (t : Nat) : Option (List PI) := match t with
  | 0 => some bb10_forgets_0
  | 38 => some bb10_forgets_38
  | _ => none
theorem kd10_forgets : ∀ t is, cd10_forgets t = some is → okL m10_forgets t is := by
  intro t is h
  unfold cd10_forgets at h
  split at h <;> cases h
  · exact oo10_forgets_0
  · exact oo10_forgets_38
theorem ff10_forgets : mi_r m10_forgets = none ∧ mi_l m10_forgets = 2 ∧ mi_h m10_forgets = [] ∧ (mi_rm m10_forgets).cells = 0 ∧ (mi_rm m10_forgets).slots = 0 ∧ (mi_rm m10_forgets).locals = 32 ∧ cd10_forgets 0 = some bb10_forgets_0 ∧ cd10_forgets 16 = none ∧ cd10_forgets 38 = some bb10_forgets_38 := ⟨rfl, rfl, rfl, rfl, rfl, rfl, rfl, rfl, rfl⟩
def bb10_readsStream_0 : List PI := [(1, .aload_n 0, 0, 0, 0, 0, kZ), (3, .invokevirtual 108, 0, 10, 0, 0, m10_forgets), (1, .iconst 0, 0, 0, 0, 0, kZ), (1, .istore_n 1, 0, 0, 0, 0, kZ)]
set_option maxRecDepth 100000 in
theorem oo10_readsStream_0 : okL m10_readsStream 0 bb10_readsStream_0 := okL_of _ _ (by decide +kernel) ⟨trivial, ⟨⟨mok_m10_forgets, ⟨by decide, by decide⟩, rfl, by decide, Or.inl lc_10_108⟩, ⟨trivial, ⟨trivial, trivial⟩⟩⟩⟩
def bb10_readsStream_6 : List PI := [(1, .iload_n 1, 0, 0, 0, 0, kZ), (1, .aload_n 0, 0, 0, 0, 0, kZ), (3, .getfield 7, 10, 1, 0, 0, kZ), (1, .iconst 3, 0, 0, 0, 0, kZ), (1, .iaload, 0, 0, 0, 0, kZ), (3, .if_icmp .ge 53, 66, 0, 0, 0, kZ), (1, .aload_n 0, 0, 0, 0, 0, kZ), (1, .iload_n 1, 0, 0, 0, 0, kZ), (3, .invokevirtual 111, 1, 10, 0, 0, m10_isMarker), (3, .ifCond .eq 39, 60, 0, 0, 0, kZ), (1, .aload_n 0, 0, 0, 0, 0, kZ), (1, .iload_n 1, 0, 0, 0, 0, kZ), (1, .iconst 2, 0, 0, 0, 0, kZ), (1, .iadd, 0, 0, 0, 0, kZ), (3, .putfield 77, 10, 18, 0, 0, kZ), (1, .aload_n 0, 0, 0, 0, 0, kZ), (3, .invokevirtual 115, 0, 10, 0, 0, m10_takesCode), (1, .istore_n 2, 0, 0, 0, 0, kZ), (1, .iload_n 2, 0, 0, 0, 0, kZ), (3, .ifCond .le 15, 52, 0, 0, 0, kZ), (1, .aload_n 0, 0, 0, 0, 0, kZ), (1, .iload_n 1, 0, 0, 0, 0, kZ), (1, .iload_n 2, 0, 0, 0, 0, kZ), (3, .invokevirtual 118, 2, 10, 0, 0, m10_notes), (3, .iinc 1 2, 0, 0, 0, 0, kZ), (3, .goto 8, 57, 0, 0, 0, kZ)]
set_option maxRecDepth 100000 in
theorem oo10_readsStream_6 : okL m10_readsStream 6 bb10_readsStream_6 := okL_of _ _ (by decide +kernel) ⟨trivial, ⟨trivial, ⟨lf_10_7, ⟨trivial, ⟨trivial, ⟨rfl, ⟨trivial, ⟨trivial, ⟨⟨mok_m10_isMarker, ⟨by decide, by decide⟩, rfl, by decide, Or.inl lc_10_111⟩, ⟨rfl, ⟨trivial, ⟨trivial, ⟨trivial, ⟨trivial, ⟨lp_10_77 _, ⟨trivial, ⟨⟨mok_m10_takesCode, ⟨by decide, by decide⟩, rfl, by decide, Or.inl lc_10_115⟩, ⟨trivial, ⟨trivial, ⟨rfl, ⟨trivial, ⟨trivial, ⟨trivial, ⟨⟨mok_m10_notes, ⟨by decide, by decide⟩, rfl, by decide, Or.inl lc_10_118⟩, ⟨trivial, ⟨rfl, trivial⟩⟩⟩⟩⟩⟩⟩⟩⟩⟩⟩⟩⟩⟩⟩⟩⟩⟩⟩⟩⟩⟩⟩⟩⟩⟩
def bb10_readsStream_52 : List PI := [(1, .aload_n 0, 0, 0, 0, 0, kZ), (3, .getfield 77, 10, 18, 0, 0, kZ), (1, .istore_n 1, 0, 0, 0, 0, kZ)]
set_option maxRecDepth 100000 in
theorem oo10_readsStream_52 : okL m10_readsStream 52 bb10_readsStream_52 := okL_of _ _ (by decide +kernel) ⟨trivial, ⟨lf_10_77, ⟨trivial, trivial⟩⟩⟩
def bb10_readsStream_57 : List PI := [(3, .goto (-51), 6, 0, 0, 0, kZ)]
set_option maxRecDepth 100000 in
theorem oo10_readsStream_57 : okL m10_readsStream 57 bb10_readsStream_57 := okL_of _ _ (by decide +kernel) ⟨rfl, trivial⟩
def bb10_readsStream_60 : List PI := [(3, .iinc 1 1, 0, 0, 0, 0, kZ), (3, .goto (-57), 6, 0, 0, 0, kZ)]
set_option maxRecDepth 100000 in
theorem oo10_readsStream_60 : okL m10_readsStream 60 bb10_readsStream_60 := okL_of _ _ (by decide +kernel) ⟨trivial, ⟨rfl, trivial⟩⟩
def bb10_readsStream_66 : List PI := [(1, .aload_n 0, 0, 0, 0, 0, kZ), (3, .invokevirtual 122, 0, 10, 0, 0, m10_gotMany), (1, .ireturn, 0, 0, 0, 0, kZ)]
set_option maxRecDepth 100000 in
theorem oo10_readsStream_66 : okL m10_readsStream 66 bb10_readsStream_66 := okL_of _ _ (by decide +kernel) ⟨trivial, ⟨⟨mok_m10_gotMany, ⟨by decide, by decide⟩, rfl, by decide, Or.inl lc_10_122⟩, ⟨trivial, trivial⟩⟩⟩
def cd10_readsStream (t : Nat) : Option (List PI) := match t with
  | 0 => some bb10_readsStream_0
  | 52 => some bb10_readsStream_52
  | 57 => some bb10_readsStream_57
  | 60 => some bb10_readsStream_60
  | 66 => some bb10_readsStream_66
  | _ => none
theorem kd10_readsStream : ∀ t is, cd10_readsStream t = some is → okL m10_readsStream t is := by
  intro t is h
  unfold cd10_readsStream at h
  split at h <;> cases h
  · exact oo10_readsStream_0
  · exact oo10_readsStream_52
  · exact oo10_readsStream_57
  · exact oo10_readsStream_60
  · exact oo10_readsStream_66
theorem ff10_readsStream : mi_r m10_readsStream = (some .int) ∧ mi_l m10_readsStream = 3 ∧ mi_h m10_readsStream = [] ∧ (mi_rm m10_readsStream).cells = 0 ∧ (mi_rm m10_readsStream).slots = 0 ∧ (mi_rm m10_readsStream).locals = 168 ∧ cd10_readsStream 0 = some bb10_readsStream_0 ∧ cd10_readsStream 6 = none ∧ cd10_readsStream 52 = some bb10_readsStream_52 ∧ cd10_readsStream 57 = some bb10_readsStream_57 ∧ cd10_readsStream 60 = some bb10_readsStream_60 ∧ cd10_readsStream 66 = some bb10_readsStream_66 ∧ (mi_rm m10_forgets).cells = 0 ∧ (mi_rm m10_forgets).slots = 0 ∧ (mi_rm m10_gotMany).cells = 0 ∧ (mi_rm m10_gotMany).slots = 0 ∧ (mi_rm m10_isMarker).cells = 0 ∧ (mi_rm m10_isMarker).slots = 0 ∧ (mi_rm m10_notes).cells = 0 ∧ (mi_rm m10_notes).slots = 0 ∧ (mi_rm m10_takesCode).cells = 0 ∧ (mi_rm m10_takesCode).slots = 0 := ⟨rfl, rfl, rfl, rfl, rfl, rfl, rfl, rfl, rfl, rfl, rfl, rfl, rfl, rfl, rfl, rfl, rfl, rfl, rfl, rfl, rfl, rfl⟩
def bb10_rightMany_0 : List PI := [(1, .iconst 0, 0, 0, 0, 0, kZ), (1, .istore_n 1, 0, 0, 0, 0, kZ), (1, .iconst 0, 0, 0, 0, 0, kZ), (1, .istore_n 2, 0, 0, 0, 0, kZ)]
set_option maxRecDepth 100000 in
theorem oo10_rightMany_0 : okL m10_rightMany 0 bb10_rightMany_0 := okL_of _ _ (by decide +kernel) ⟨trivial, ⟨trivial, ⟨trivial, ⟨trivial, trivial⟩⟩⟩⟩
def bb10_rightMany_4 : List PI := [(1, .iload_n 2, 0, 0, 0, 0, kZ), (1, .aload_n 0, 0, 0, 0, 0, kZ), (3, .getfield 7, 10, 1, 0, 0, kZ), (1, .iconst 2, 0, 0, 0, 0, kZ), (1, .iaload, 0, 0, 0, 0, kZ), (3, .if_icmp .ge 52, 63, 0, 0, 0, kZ), (1, .iload_n 1, 0, 0, 0, 0, kZ), (1, .aload_n 0, 0, 0, 0, 0, kZ), (3, .getfield 7, 10, 1, 0, 0, kZ), (1, .iconst 4, 0, 0, 0, 0, kZ), (1, .iaload, 0, 0, 0, 0, kZ), (1, .iload_n 2, 0, 0, 0, 0, kZ), (1, .ishr, 0, 0, 0, 0, kZ), (1, .iconst 1, 0, 0, 0, 0, kZ), (1, .iand, 0, 0, 0, 0, kZ), (1, .iconst 1, 0, 0, 0, 0, kZ), (3, .if_icmp .ne 28, 54, 0, 0, 0, kZ), (1, .aload_n 0, 0, 0, 0, 0, kZ), (3, .getfield 7, 10, 1, 0, 0, kZ), (2, .bipush 18, 0, 0, 0, 0, kZ), (1, .iload_n 2, 0, 0, 0, 0, kZ), (1, .iadd, 0, 0, 0, 0, kZ), (1, .iaload, 0, 0, 0, 0, kZ), (1, .aload_n 0, 0, 0, 0, 0, kZ), (3, .getfield 7, 10, 1, 0, 0, kZ), (2, .bipush 8, 0, 0, 0, 0, kZ), (1, .iload_n 2, 0, 0, 0, 0, kZ), (1, .iadd, 0, 0, 0, 0, kZ), (1, .iaload, 0, 0, 0, 0, kZ), (3, .if_icmp .ne 7, 54, 0, 0, 0, kZ), (1, .iconst 1, 0, 0, 0, 0, kZ), (3, .goto 4, 55, 0, 0, 0, kZ)]
set_option maxRecDepth 100000 in
theorem oo10_rightMany_4 : okL m10_rightMany 4 bb10_rightMany_4 := okL_of _ _ (by decide +kernel) ⟨trivial, ⟨trivial, ⟨lf_10_7, ⟨trivial, ⟨trivial, ⟨rfl, ⟨trivial, ⟨trivial, ⟨lf_10_7, ⟨trivial, ⟨trivial, ⟨trivial, ⟨trivial, ⟨trivial, ⟨trivial, ⟨trivial, ⟨rfl, ⟨trivial, ⟨lf_10_7, ⟨trivial, ⟨trivial, ⟨trivial, ⟨trivial, ⟨trivial, ⟨lf_10_7, ⟨trivial, ⟨trivial, ⟨trivial, ⟨trivial, ⟨rfl, ⟨trivial, ⟨rfl, trivial⟩⟩⟩⟩⟩⟩⟩⟩⟩⟩⟩⟩⟩⟩⟩⟩⟩⟩⟩⟩⟩⟩⟩⟩⟩⟩⟩⟩⟩⟩⟩⟩
def bb10_rightMany_54 : List PI := [(1, .iconst 0, 0, 0, 0, 0, kZ)]
set_option maxRecDepth 100000 in
theorem oo10_rightMany_54 : okL m10_rightMany 54 bb10_rightMany_54 := okL_of _ _ (by decide +kernel) ⟨trivial, trivial⟩
def bb10_rightMany_55 : List PI := [(1, .iadd, 0, 0, 0, 0, kZ), (1, .istore_n 1, 0, 0, 0, 0, kZ), (3, .iinc 2 1, 0, 0, 0, 0, kZ), (3, .goto (-56), 4, 0, 0, 0, kZ)]
set_option maxRecDepth 100000 in
theorem oo10_rightMany_55 : okL m10_rightMany 55 bb10_rightMany_55 := okL_of _ _ (by decide +kernel) ⟨trivial, ⟨trivial, ⟨trivial, ⟨rfl, trivial⟩⟩⟩⟩
def bb10_rightMany_63 : List PI := [(1, .iload_n 1, 0, 0, 0, 0, kZ), (1, .ireturn, 0, 0, 0, 0, kZ)]
set_option maxRecDepth 100000 in
theorem oo10_rightMany_63 : okL m10_rightMany 63 bb10_rightMany_63 := okL_of _ _ (by decide +kernel) ⟨trivial, ⟨trivial, trivial⟩⟩
def cd10_rightMany (t : Nat) : Option (List PI) := match t with
  | 0 => some bb10_rightMany_0
  | 54 => some bb10_rightMany_54
  | 55 => some bb10_rightMany_55
  | 63 => some bb10_rightMany_63
  | _ => none
theorem kd10_rightMany : ∀ t is, cd10_rightMany t = some is → okL m10_rightMany t is := by
  intro t is h
  unfold cd10_rightMany at h
  split at h <;> cases h
  · exact oo10_rightMany_0
  · exact oo10_rightMany_54
  · exact oo10_rightMany_55
  · exact oo10_rightMany_63
theorem ff10_rightMany : mi_r m10_rightMany = (some .int) ∧ mi_l m10_rightMany = 3 ∧ mi_h m10_rightMany = [] ∧ (mi_rm m10_rightMany).cells = 0 ∧ (mi_rm m10_rightMany).slots = 0 ∧ (mi_rm m10_rightMany).locals = 32 ∧ cd10_rightMany 0 = some bb10_rightMany_0 ∧ cd10_rightMany 4 = none ∧ cd10_rightMany 54 = some bb10_rightMany_54 ∧ cd10_rightMany 55 = some bb10_rightMany_55 ∧ cd10_rightMany 63 = some bb10_rightMany_63 := ⟨rfl, rfl, rfl, rfl, rfl, rfl, rfl, rfl, rfl, rfl, rfl⟩
def bb10_setWidth_0 : List PI := [(1, .aload_n 0, 0, 0, 0, 0, kZ), (1, .iconst 0, 0, 0, 0, 0, kZ), (3, .putfield 34, 10, 0, 0, 0, kZ), (1, .iload_n 1, 0, 0, 0, 0, kZ), (2, .bipush 8, 0, 0, 0, 0, kZ), (2, .bipush 32, 0, 0, 0, 0, kZ), (3, .invokestatic 38, 3, 10, 0, 0, m10_in), (3, .ifCond .ne 9, 22, 0, 0, 0, kZ), (1, .aload_n 0, 0, 0, 0, 0, kZ), (1, .iconst 1, 0, 0, 0, 0, kZ), (3, .invokevirtual 125, 1, 10, 0, 0, m10_fails), (1, .ireturn, 0, 0, 0, 0, kZ)]
set_option maxRecDepth 100000 in
theorem oo10_setWidth_0 : okL m10_setWidth 0 bb10_setWidth_0 := okL_of _ _ (by decide +kernel) ⟨trivial, ⟨trivial, ⟨lp_10_34 _, ⟨trivial, ⟨trivial, ⟨trivial, ⟨⟨mok_m10_in, ⟨by decide, by decide⟩, rfl, Or.inl lc_10_38⟩, ⟨rfl, ⟨trivial, ⟨trivial, ⟨⟨mok_m10_fails, ⟨by decide, by decide⟩, rfl, by decide, Or.inl lc_10_125⟩, ⟨trivial, trivial⟩⟩⟩⟩⟩⟩⟩⟩⟩⟩⟩⟩
def bb10_setWidth_22 : List PI := [(1, .aload_n 0, 0, 0, 0, 0, kZ), (3, .invokevirtual 128, 0, 10, 0, 0, m10_records), (1, .aload_n 0, 0, 0, 0, 0, kZ), (3, .getfield 7, 10, 1, 0, 0, kZ), (1, .iconst 0, 0, 0, 0, 0, kZ), (1, .iaload, 0, 0, 0, 0, kZ), (1, .istore_n 2, 0, 0, 0, 0, kZ), (1, .aload_n 0, 0, 0, 0, 0, kZ), (3, .getfield 7, 10, 1, 0, 0, kZ), (1, .iconst 0, 0, 0, 0, 0, kZ), (1, .iload_n 1, 0, 0, 0, 0, kZ), (1, .iastore, 0, 0, 0, 0, kZ), (1, .aload_n 0, 0, 0, 0, 0, kZ), (3, .getfield 7, 10, 1, 0, 0, kZ), (1, .iconst 2, 0, 0, 0, 0, kZ), (1, .iconst 0, 0, 0, 0, 0, kZ), (1, .iastore, 0, 0, 0, 0, kZ), (1, .aload_n 0, 0, 0, 0, 0, kZ), (3, .getfield 7, 10, 1, 0, 0, kZ), (1, .iconst 3, 0, 0, 0, 0, kZ), (1, .iconst 0, 0, 0, 0, 0, kZ), (1, .iastore, 0, 0, 0, 0, kZ), (1, .aload_n 0, 0, 0, 0, 0, kZ), (3, .invokevirtual 108, 0, 10, 0, 0, m10_forgets), (1, .iload_n 2, 0, 0, 0, 0, kZ), (1, .ireturn, 0, 0, 0, 0, kZ)]
set_option maxRecDepth 100000 in
theorem oo10_setWidth_22 : okL m10_setWidth 22 bb10_setWidth_22 := okL_of _ _ (by decide +kernel) ⟨trivial, ⟨⟨mok_m10_records, ⟨by decide, by decide⟩, rfl, by decide, Or.inl lc_10_128⟩, ⟨trivial, ⟨lf_10_7, ⟨trivial, ⟨trivial, ⟨trivial, ⟨trivial, ⟨lf_10_7, ⟨trivial, ⟨trivial, ⟨trivial, ⟨trivial, ⟨lf_10_7, ⟨trivial, ⟨trivial, ⟨trivial, ⟨trivial, ⟨lf_10_7, ⟨trivial, ⟨trivial, ⟨trivial, ⟨trivial, ⟨⟨mok_m10_forgets, ⟨by decide, by decide⟩, rfl, by decide, Or.inl lc_10_108⟩, ⟨trivial, ⟨trivial, trivial⟩⟩⟩⟩⟩⟩⟩⟩⟩⟩⟩⟩⟩⟩⟩⟩⟩⟩⟩⟩⟩⟩⟩⟩⟩⟩
def cd10_setWidth (t : Nat) : Option (List PI) := match t with
  | 0 => some bb10_setWidth_0
  | 22 => some bb10_setWidth_22
  | _ => none
theorem kd10_setWidth : ∀ t is, cd10_setWidth t = some is → okL m10_setWidth t is := by
  intro t is h
  unfold cd10_setWidth at h
  split at h <;> cases h
  · exact oo10_setWidth_0
  · exact oo10_setWidth_22
theorem ff10_setWidth : mi_r m10_setWidth = (some .int) ∧ mi_l m10_setWidth = 3 ∧ mi_h m10_setWidth = [] ∧ (mi_rm m10_setWidth).cells = 0 ∧ (mi_rm m10_setWidth).slots = 0 ∧ (mi_rm m10_setWidth).locals = 54 ∧ cd10_setWidth 0 = some bb10_setWidth_0 ∧ cd10_setWidth 22 = some bb10_setWidth_22 ∧ (mi_rm m10_fails).cells = 0 ∧ (mi_rm m10_fails).slots = 0 ∧ (mi_rm m10_forgets).cells = 0 ∧ (mi_rm m10_forgets).slots = 0 ∧ (mi_rm m10_in).cells = 0 ∧ (mi_rm m10_in).slots = 0 ∧ (mi_rm m10_records).cells = 0 ∧ (mi_rm m10_records).slots = 0 := ⟨rfl, rfl, rfl, rfl, rfl, rfl, rfl, rfl, rfl, rfl, rfl, rfl, rfl, rfl, rfl, rfl⟩
def bb10_arePixels_0 : List PI := [(1, .lload_n 1, 0, 0, 0, 0, kZ), (1, .aload_n 0, 0, 0, 0, 0, kZ), (3, .getfield 7, 10, 1, 0, 0, kZ), (1, .iconst 0, 0, 0, 0, 0, kZ), (1, .iaload, 0, 0, 0, 0, kZ), (1, .lushr, 0, 0, 0, 0, kZ), (1, .lconst 0, 0, 0, 0, 0, kZ), (1, .lcmp, 0, 0, 0, 0, kZ), (3, .ifCond .ne 7, 17, 0, 0, 0, kZ), (1, .iconst 1, 0, 0, 0, 0, kZ), (3, .goto 4, 18, 0, 0, 0, kZ)]
set_option maxRecDepth 100000 in
theorem oo10_arePixels_0 : okL m10_arePixels 0 bb10_arePixels_0 := okL_of _ _ (by decide +kernel) ⟨trivial, ⟨trivial, ⟨lf_10_7, ⟨trivial, ⟨trivial, ⟨trivial, ⟨trivial, ⟨trivial, ⟨rfl, ⟨trivial, ⟨rfl, trivial⟩⟩⟩⟩⟩⟩⟩⟩⟩⟩⟩
def bb10_arePixels_17 : List PI := [(1, .iconst 0, 0, 0, 0, 0, kZ)]
set_option maxRecDepth 100000 in
theorem oo10_arePixels_17 : okL m10_arePixels 17 bb10_arePixels_17 := okL_of _ _ (by decide +kernel) ⟨trivial, trivial⟩
def bb10_arePixels_18 : List PI := [(1, .ireturn, 0, 0, 0, 0, kZ)]
set_option maxRecDepth 100000 in
theorem oo10_arePixels_18 : okL m10_arePixels 18 bb10_arePixels_18 := okL_of _ _ (by decide +kernel) ⟨trivial, trivial⟩
def cd10_arePixels (t : Nat) : Option (List PI) := match t with
  | 0 => some bb10_arePixels_0
  | 17 => some bb10_arePixels_17
  | 18 => some bb10_arePixels_18
  | _ => none
theorem kd10_arePixels : ∀ t is, cd10_arePixels t = some is → okL m10_arePixels t is := by
  intro t is h
  unfold cd10_arePixels at h
  split at h <;> cases h
  · exact oo10_arePixels_0
  · exact oo10_arePixels_17
  · exact oo10_arePixels_18
theorem ff10_arePixels : mi_r m10_arePixels = (some .boolean) ∧ mi_l m10_arePixels = 3 ∧ mi_h m10_arePixels = [] ∧ (mi_rm m10_arePixels).cells = 0 ∧ (mi_rm m10_arePixels).slots = 0 ∧ (mi_rm m10_arePixels).locals = 32 ∧ cd10_arePixels 0 = some bb10_arePixels_0 ∧ cd10_arePixels 17 = some bb10_arePixels_17 ∧ cd10_arePixels 18 = some bb10_arePixels_18 := ⟨rfl, rfl, rfl, rfl, rfl, rfl, rfl, rfl, rfl⟩
def bb10_addsLine_0 : List PI := [(1, .aload_n 0, 0, 0, 0, 0, kZ), (3, .getfield 7, 10, 1, 0, 0, kZ), (2, .bipush 8, 0, 0, 0, 0, kZ), (1, .aload_n 0, 0, 0, 0, 0, kZ), (3, .getfield 7, 10, 1, 0, 0, kZ), (1, .iconst 2, 0, 0, 0, 0, kZ), (1, .iaload, 0, 0, 0, 0, kZ), (1, .iadd, 0, 0, 0, 0, kZ), (1, .iload_n 1, 0, 0, 0, 0, kZ), (1, .iastore, 0, 0, 0, 0, kZ), (1, .aload_n 0, 0, 0, 0, 0, kZ), (3, .getfield 7, 10, 1, 0, 0, kZ), (1, .iconst 2, 0, 0, 0, 0, kZ), (1, .dup2, 0, 0, 0, 0, kZ), (1, .iaload, 0, 0, 0, 0, kZ), (1, .iconst 1, 0, 0, 0, 0, kZ), (1, .iadd, 0, 0, 0, 0, kZ), (1, .iastore, 0, 0, 0, 0, kZ), (1, .aload_n 0, 0, 0, 0, 0, kZ), (3, .getfield 7, 10, 1, 0, 0, kZ), (1, .iconst 2, 0, 0, 0, 0, kZ), (1, .iaload, 0, 0, 0, 0, kZ), (1, .iconst 1, 0, 0, 0, 0, kZ), (1, .isub, 0, 0, 0, 0, kZ), (1, .ireturn, 0, 0, 0, 0, kZ)]
set_option maxRecDepth 100000 in
theorem oo10_addsLine_0 : okL m10_addsLine 0 bb10_addsLine_0 := okL_of _ _ (by decide +kernel) ⟨trivial, ⟨lf_10_7, ⟨trivial, ⟨trivial, ⟨lf_10_7, ⟨trivial, ⟨trivial, ⟨trivial, ⟨trivial, ⟨trivial, ⟨trivial, ⟨lf_10_7, ⟨trivial, ⟨trivial, ⟨trivial, ⟨trivial, ⟨trivial, ⟨trivial, ⟨trivial, ⟨lf_10_7, ⟨trivial, ⟨trivial, ⟨trivial, ⟨trivial, ⟨trivial, trivial⟩⟩⟩⟩⟩⟩⟩⟩⟩⟩⟩⟩⟩⟩⟩⟩⟩⟩⟩⟩⟩⟩⟩⟩⟩
def cd10_addsLine (t : Nat) : Option (List PI) := match t with
  | 0 => some bb10_addsLine_0
  | _ => none
theorem kd10_addsLine : ∀ t is, cd10_addsLine t = some is → okL m10_addsLine t is := by
  intro t is h
  unfold cd10_addsLine at h
  split at h <;> cases h
  · exact oo10_addsLine_0
theorem ff10_addsLine : mi_r m10_addsLine = (some .int) ∧ mi_l m10_addsLine = 2 ∧ mi_h m10_addsLine = [] ∧ (mi_rm m10_addsLine).cells = 0 ∧ (mi_rm m10_addsLine).slots = 0 ∧ (mi_rm m10_addsLine).locals = 32 ∧ cd10_addsLine 0 = some bb10_addsLine_0 := ⟨rfl, rfl, rfl, rfl, rfl, rfl, rfl⟩
def bb10_addLine_0 : List PI := [(1, .aload_n 0, 0, 0, 0, 0, kZ), (1, .iconst 0, 0, 0, 0, 0, kZ), (3, .putfield 34, 10, 0, 0, 0, kZ), (1, .aload_n 0, 0, 0, 0, 0, kZ), (1, .lload_n 1, 0, 0, 0, 0, kZ), (3, .invokevirtual 131, 1, 10, 0, 0, m10_arePixels), (3, .ifCond .ne 9, 19, 0, 0, 0, kZ), (1, .aload_n 0, 0, 0, 0, 0, kZ), (1, .iconst 1, 0, 0, 0, 0, kZ), (3, .invokevirtual 125, 1, 10, 0, 0, m10_fails), (1, .ireturn, 0, 0, 0, 0, kZ)]
set_option maxRecDepth 100000 in
theorem oo10_addLine_0 : okL m10_addLine 0 bb10_addLine_0 := okL_of _ _ (by decide +kernel) ⟨trivial, ⟨trivial, ⟨lp_10_34 _, ⟨trivial, ⟨trivial, ⟨⟨mok_m10_arePixels, ⟨by decide, by decide⟩, rfl, by decide, Or.inl lc_10_131⟩, ⟨rfl, ⟨trivial, ⟨trivial, ⟨⟨mok_m10_fails, ⟨by decide, by decide⟩, rfl, by decide, Or.inl lc_10_125⟩, ⟨trivial, trivial⟩⟩⟩⟩⟩⟩⟩⟩⟩⟩⟩
def bb10_addLine_19 : List PI := [(1, .aload_n 0, 0, 0, 0, 0, kZ), (3, .getfield 7, 10, 1, 0, 0, kZ), (1, .iconst 2, 0, 0, 0, 0, kZ), (1, .iaload, 0, 0, 0, 0, kZ), (2, .bipush 10, 0, 0, 0, 0, kZ), (3, .if_icmp .ne 9, 36, 0, 0, 0, kZ), (1, .aload_n 0, 0, 0, 0, 0, kZ), (1, .iconst 2, 0, 0, 0, 0, kZ), (3, .invokevirtual 125, 1, 10, 0, 0, m10_fails), (1, .ireturn, 0, 0, 0, 0, kZ)]
set_option maxRecDepth 100000 in
theorem oo10_addLine_19 : okL m10_addLine 19 bb10_addLine_19 := okL_of _ _ (by decide +kernel) ⟨trivial, ⟨lf_10_7, ⟨trivial, ⟨trivial, ⟨trivial, ⟨rfl, ⟨trivial, ⟨trivial, ⟨⟨mok_m10_fails, ⟨by decide, by decide⟩, rfl, by decide, Or.inl lc_10_125⟩, ⟨trivial, trivial⟩⟩⟩⟩⟩⟩⟩⟩⟩⟩
def bb10_addLine_36 : List PI := [(1, .aload_n 0, 0, 0, 0, 0, kZ), (3, .invokevirtual 128, 0, 10, 0, 0, m10_records), (1, .aload_n 0, 0, 0, 0, 0, kZ), (1, .lload_n 1, 0, 0, 0, 0, kZ), (1, .l2i, 0, 0, 0, 0, kZ), (3, .invokevirtual 135, 1, 10, 0, 0, m10_addsLine), (1, .ireturn, 0, 0, 0, 0, kZ)]
set_option maxRecDepth 100000 in
theorem oo10_addLine_36 : okL m10_addLine 36 bb10_addLine_36 := okL_of _ _ (by decide +kernel) ⟨trivial, ⟨⟨mok_m10_records, ⟨by decide, by decide⟩, rfl, by decide, Or.inl lc_10_128⟩, ⟨trivial, ⟨trivial, ⟨trivial, ⟨⟨mok_m10_addsLine, ⟨by decide, by decide⟩, rfl, by decide, Or.inl lc_10_135⟩, ⟨trivial, trivial⟩⟩⟩⟩⟩⟩⟩
def cd10_addLine (t : Nat) : Option (List PI) := match t with
  | 0 => some bb10_addLine_0
  | 19 => some bb10_addLine_19
  | 36 => some bb10_addLine_36
  | _ => none
theorem kd10_addLine : ∀ t is, cd10_addLine t = some is → okL m10_addLine t is := by
  intro t is h
  unfold cd10_addLine at h
  split at h <;> cases h
  · exact oo10_addLine_0
  · exact oo10_addLine_19
  · exact oo10_addLine_36
theorem ff10_addLine : mi_r m10_addLine = (some .int) ∧ mi_l m10_addLine = 3 ∧ mi_h m10_addLine = [] ∧ (mi_rm m10_addLine).cells = 0 ∧ (mi_rm m10_addLine).slots = 0 ∧ (mi_rm m10_addLine).locals = 54 ∧ cd10_addLine 0 = some bb10_addLine_0 ∧ cd10_addLine 19 = some bb10_addLine_19 ∧ cd10_addLine 36 = some bb10_addLine_36 ∧ (mi_rm m10_addsLine).cells = 0 ∧ (mi_rm m10_addsLine).slots = 0 ∧ (mi_rm m10_arePixels).cells = 0 ∧ (mi_rm m10_arePixels).slots = 0 ∧ (mi_rm m10_fails).cells = 0 ∧ (mi_rm m10_fails).slots = 0 ∧ (mi_rm m10_records).cells = 0 ∧ (mi_rm m10_records).slots = 0 := ⟨rfl, rfl, rfl, rfl, rfl, rfl, rfl, rfl, rfl, rfl, rfl, rfl, rfl, rfl, rfl, rfl, rfl⟩
def bb10_setLine_0 : List PI := [(1, .aload_n 0, 0, 0, 0, 0, kZ), (1, .iconst 0, 0, 0, 0, 0, kZ), (3, .putfield 34, 10, 0, 0, 0, kZ), (1, .aload_n 0, 0, 0, 0, 0, kZ), (1, .iload_n 1, 0, 0, 0, 0, kZ), (3, .invokevirtual 138, 1, 10, 0, 0, m10_isLine), (3, .ifCond .ne 10, 20, 0, 0, 0, kZ), (1, .aload_n 0, 0, 0, 0, 0, kZ), (1, .iconst 1, 0, 0, 0, 0, kZ), (3, .invokevirtual 125, 1, 10, 0, 0, m10_fails), (1, .i2l, 0, 0, 0, 0, kZ), (1, .lreturn, 0, 0, 0, 0, kZ)]
set_option maxRecDepth 100000 in
theorem oo10_setLine_0 : okL m10_setLine 0 bb10_setLine_0 := okL_of _ _ (by decide +kernel) ⟨trivial, ⟨trivial, ⟨lp_10_34 _, ⟨trivial, ⟨trivial, ⟨⟨mok_m10_isLine, ⟨by decide, by decide⟩, rfl, by decide, Or.inl lc_10_138⟩, ⟨rfl, ⟨trivial, ⟨trivial, ⟨⟨mok_m10_fails, ⟨by decide, by decide⟩, rfl, by decide, Or.inl lc_10_125⟩, ⟨trivial, ⟨rfl, trivial⟩⟩⟩⟩⟩⟩⟩⟩⟩⟩⟩⟩
def bb10_setLine_20 : List PI := [(1, .aload_n 0, 0, 0, 0, 0, kZ), (1, .lload_n 2, 0, 0, 0, 0, kZ), (3, .invokevirtual 131, 1, 10, 0, 0, m10_arePixels), (3, .ifCond .ne 10, 35, 0, 0, 0, kZ), (1, .aload_n 0, 0, 0, 0, 0, kZ), (1, .iconst 2, 0, 0, 0, 0, kZ), (3, .invokevirtual 125, 1, 10, 0, 0, m10_fails), (1, .i2l, 0, 0, 0, 0, kZ), (1, .lreturn, 0, 0, 0, 0, kZ)]
set_option maxRecDepth 100000 in
theorem oo10_setLine_20 : okL m10_setLine 20 bb10_setLine_20 := okL_of _ _ (by decide +kernel) ⟨trivial, ⟨trivial, ⟨⟨mok_m10_arePixels, ⟨by decide, by decide⟩, rfl, by decide, Or.inl lc_10_131⟩, ⟨rfl, ⟨trivial, ⟨trivial, ⟨⟨mok_m10_fails, ⟨by decide, by decide⟩, rfl, by decide, Or.inl lc_10_125⟩, ⟨trivial, ⟨rfl, trivial⟩⟩⟩⟩⟩⟩⟩⟩⟩
def bb10_setLine_35 : List PI := [(1, .aload_n 0, 0, 0, 0, 0, kZ), (3, .invokevirtual 128, 0, 10, 0, 0, m10_records), (1, .aload_n 0, 0, 0, 0, 0, kZ), (3, .getfield 7, 10, 1, 0, 0, kZ), (2, .bipush 8, 0, 0, 0, 0, kZ), (1, .iload_n 1, 0, 0, 0, 0, kZ), (1, .iadd, 0, 0, 0, 0, kZ), (1, .iaload, 0, 0, 0, 0, kZ), (3, .invokestatic 141, 1, 10, 0, 0, m10_asLong), (2, .lstore 4, 0, 0, 0, 0, kZ), (1, .aload_n 0, 0, 0, 0, 0, kZ), (3, .getfield 7, 10, 1, 0, 0, kZ), (2, .bipush 8, 0, 0, 0, 0, kZ), (1, .iload_n 1, 0, 0, 0, 0, kZ), (1, .iadd, 0, 0, 0, 0, kZ), (1, .lload_n 2, 0, 0, 0, 0, kZ), (1, .l2i, 0, 0, 0, 0, kZ), (1, .iastore, 0, 0, 0, 0, kZ), (2, .lload 4, 0, 0, 0, 0, kZ), (1, .lreturn, 0, 0, 0, 0, kZ)]
set_option maxRecDepth 100000 in
theorem oo10_setLine_35 : okL m10_setLine 35 bb10_setLine_35 := okL_of _ _ (by decide +kernel) ⟨trivial, ⟨⟨mok_m10_records, ⟨by decide, by decide⟩, rfl, by decide, Or.inl lc_10_128⟩, ⟨trivial, ⟨lf_10_7, ⟨trivial, ⟨trivial, ⟨trivial, ⟨trivial, ⟨⟨mok_m10_asLong, ⟨by decide, by decide⟩, rfl, Or.inl lc_10_141⟩, ⟨trivial, ⟨trivial, ⟨lf_10_7, ⟨trivial, ⟨trivial, ⟨trivial, ⟨trivial, ⟨trivial, ⟨trivial, ⟨trivial, ⟨rfl, trivial⟩⟩⟩⟩⟩⟩⟩⟩⟩⟩⟩⟩⟩⟩⟩⟩⟩⟩⟩⟩
def cd10_setLine (t : Nat) : Option (List PI) := match t with
  | 0 => some bb10_setLine_0
  | 20 => some bb10_setLine_20
  | 35 => some bb10_setLine_35
  | _ => none
theorem kd10_setLine : ∀ t is, cd10_setLine t = some is → okL m10_setLine t is := by
  intro t is h
  unfold cd10_setLine at h
  split at h <;> cases h
  · exact oo10_setLine_0
  · exact oo10_setLine_20
  · exact oo10_setLine_35
theorem ff10_setLine : mi_r m10_setLine = (some .long) ∧ mi_l m10_setLine = 6 ∧ mi_h m10_setLine = [] ∧ (mi_rm m10_setLine).cells = 0 ∧ (mi_rm m10_setLine).slots = 0 ∧ (mi_rm m10_setLine).locals = 75 ∧ cd10_setLine 0 = some bb10_setLine_0 ∧ cd10_setLine 20 = some bb10_setLine_20 ∧ cd10_setLine 35 = some bb10_setLine_35 ∧ (mi_rm m10_arePixels).cells = 0 ∧ (mi_rm m10_arePixels).slots = 0 ∧ (mi_rm m10_asLong).cells = 0 ∧ (mi_rm m10_asLong).slots = 0 ∧ (mi_rm m10_fails).cells = 0 ∧ (mi_rm m10_fails).slots = 0 ∧ (mi_rm m10_isLine).cells = 0 ∧ (mi_rm m10_isLine).slots = 0 ∧ (mi_rm m10_records).cells = 0 ∧ (mi_rm m10_records).slots = 0 := ⟨rfl, rfl, rfl, rfl, rfl, rfl, rfl, rfl, rfl, rfl, rfl, rfl, rfl, rfl, rfl, rfl, rfl, rfl, rfl⟩
def bb10_dropLast_0 : List PI := [(1, .aload_n 0, 0, 0, 0, 0, kZ), (1, .iconst 0, 0, 0, 0, 0, kZ), (3, .putfield 34, 10, 0, 0, 0, kZ), (1, .aload_n 0, 0, 0, 0, 0, kZ), (3, .getfield 7, 10, 1, 0, 0, kZ), (1, .iconst 2, 0, 0, 0, 0, kZ), (1, .iaload, 0, 0, 0, 0, kZ), (3, .ifCond .ne 9, 20, 0, 0, 0, kZ), (1, .aload_n 0, 0, 0, 0, 0, kZ), (1, .iconst 1, 0, 0, 0, 0, kZ), (3, .invokevirtual 125, 1, 10, 0, 0, m10_fails), (1, .ireturn, 0, 0, 0, 0, kZ)]
set_option maxRecDepth 100000 in
theorem oo10_dropLast_0 : okL m10_dropLast 0 bb10_dropLast_0 := okL_of _ _ (by decide +kernel) ⟨trivial, ⟨trivial, ⟨lp_10_34 _, ⟨trivial, ⟨lf_10_7, ⟨trivial, ⟨trivial, ⟨rfl, ⟨trivial, ⟨trivial, ⟨⟨mok_m10_fails, ⟨by decide, by decide⟩, rfl, by decide, Or.inl lc_10_125⟩, ⟨trivial, trivial⟩⟩⟩⟩⟩⟩⟩⟩⟩⟩⟩⟩
def bb10_dropLast_20 : List PI := [(1, .aload_n 0, 0, 0, 0, 0, kZ), (3, .invokevirtual 128, 0, 10, 0, 0, m10_records), (1, .aload_n 0, 0, 0, 0, 0, kZ), (3, .getfield 7, 10, 1, 0, 0, kZ), (1, .iconst 2, 0, 0, 0, 0, kZ), (1, .dup2, 0, 0, 0, 0, kZ), (1, .iaload, 0, 0, 0, 0, kZ), (1, .iconst 1, 0, 0, 0, 0, kZ), (1, .isub, 0, 0, 0, 0, kZ), (1, .iastore, 0, 0, 0, 0, kZ), (1, .aload_n 0, 0, 0, 0, 0, kZ), (3, .getfield 7, 10, 1, 0, 0, kZ), (1, .iconst 2, 0, 0, 0, 0, kZ), (1, .iaload, 0, 0, 0, 0, kZ), (1, .ireturn, 0, 0, 0, 0, kZ)]
set_option maxRecDepth 100000 in
theorem oo10_dropLast_20 : okL m10_dropLast 20 bb10_dropLast_20 := okL_of _ _ (by decide +kernel) ⟨trivial, ⟨⟨mok_m10_records, ⟨by decide, by decide⟩, rfl, by decide, Or.inl lc_10_128⟩, ⟨trivial, ⟨lf_10_7, ⟨trivial, ⟨trivial, ⟨trivial, ⟨trivial, ⟨trivial, ⟨trivial, ⟨trivial, ⟨lf_10_7, ⟨trivial, ⟨trivial, ⟨trivial, trivial⟩⟩⟩⟩⟩⟩⟩⟩⟩⟩⟩⟩⟩⟩⟩
def cd10_dropLast (t : Nat) : Option (List PI) := match t with
  | 0 => some bb10_dropLast_0
  | 20 => some bb10_dropLast_20
  | _ => none
theorem kd10_dropLast : ∀ t is, cd10_dropLast t = some is → okL m10_dropLast t is := by
  intro t is h
  unfold cd10_dropLast at h
  split at h <;> cases h
  · exact oo10_dropLast_0
  · exact oo10_dropLast_20
theorem ff10_dropLast : mi_r m10_dropLast = (some .int) ∧ mi_l m10_dropLast = 1 ∧ mi_h m10_dropLast = [] ∧ (mi_rm m10_dropLast).cells = 0 ∧ (mi_rm m10_dropLast).slots = 0 ∧ (mi_rm m10_dropLast).locals = 53 ∧ cd10_dropLast 0 = some bb10_dropLast_0 ∧ cd10_dropLast 20 = some bb10_dropLast_20 ∧ (mi_rm m10_fails).cells = 0 ∧ (mi_rm m10_fails).slots = 0 ∧ (mi_rm m10_records).cells = 0 ∧ (mi_rm m10_records).slots = 0 := ⟨rfl, rfl, rfl, rfl, rfl, rfl, rfl, rfl, rfl, rfl, rfl, rfl⟩
def bb10_setStyle_0 : List PI := [(1, .aload_n 0, 0, 0, 0, 0, kZ), (1, .iconst 0, 0, 0, 0, 0, kZ), (3, .putfield 34, 10, 0, 0, 0, kZ), (1, .iload_n 1, 0, 0, 0, 0, kZ), (1, .iconst 0, 0, 0, 0, 0, kZ), (1, .iconst 3, 0, 0, 0, 0, kZ), (3, .invokestatic 38, 3, 10, 0, 0, m10_in), (3, .ifCond .ne 9, 20, 0, 0, 0, kZ), (1, .aload_n 0, 0, 0, 0, 0, kZ), (1, .iconst 1, 0, 0, 0, 0, kZ), (3, .invokevirtual 125, 1, 10, 0, 0, m10_fails), (1, .ireturn, 0, 0, 0, 0, kZ)]
set_option maxRecDepth 100000 in
theorem oo10_setStyle_0 : okL m10_setStyle 0 bb10_setStyle_0 := okL_of _ _ (by decide +kernel) ⟨trivial, ⟨trivial, ⟨lp_10_34 _, ⟨trivial, ⟨trivial, ⟨trivial, ⟨⟨mok_m10_in, ⟨by decide, by decide⟩, rfl, Or.inl lc_10_38⟩, ⟨rfl, ⟨trivial, ⟨trivial, ⟨⟨mok_m10_fails, ⟨by decide, by decide⟩, rfl, by decide, Or.inl lc_10_125⟩, ⟨trivial, trivial⟩⟩⟩⟩⟩⟩⟩⟩⟩⟩⟩⟩
def bb10_setStyle_20 : List PI := [(1, .aload_n 0, 0, 0, 0, 0, kZ), (3, .invokevirtual 128, 0, 10, 0, 0, m10_records), (1, .aload_n 0, 0, 0, 0, 0, kZ), (3, .getfield 7, 10, 1, 0, 0, kZ), (1, .iconst 1, 0, 0, 0, 0, kZ), (1, .iaload, 0, 0, 0, 0, kZ), (1, .istore_n 2, 0, 0, 0, 0, kZ), (1, .aload_n 0, 0, 0, 0, 0, kZ), (3, .getfield 7, 10, 1, 0, 0, kZ), (1, .iconst 1, 0, 0, 0, 0, kZ), (1, .iload_n 1, 0, 0, 0, 0, kZ), (1, .iastore, 0, 0, 0, 0, kZ), (1, .iload_n 2, 0, 0, 0, 0, kZ), (1, .ireturn, 0, 0, 0, 0, kZ)]
set_option maxRecDepth 100000 in
theorem oo10_setStyle_20 : okL m10_setStyle 20 bb10_setStyle_20 := okL_of _ _ (by decide +kernel) ⟨trivial, ⟨⟨mok_m10_records, ⟨by decide, by decide⟩, rfl, by decide, Or.inl lc_10_128⟩, ⟨trivial, ⟨lf_10_7, ⟨trivial, ⟨trivial, ⟨trivial, ⟨trivial, ⟨lf_10_7, ⟨trivial, ⟨trivial, ⟨trivial, ⟨trivial, ⟨trivial, trivial⟩⟩⟩⟩⟩⟩⟩⟩⟩⟩⟩⟩⟩⟩
def cd10_setStyle (t : Nat) : Option (List PI) := match t with
  | 0 => some bb10_setStyle_0
  | 20 => some bb10_setStyle_20
  | _ => none
theorem kd10_setStyle : ∀ t is, cd10_setStyle t = some is → okL m10_setStyle t is := by
  intro t is h
  unfold cd10_setStyle at h
  split at h <;> cases h
  · exact oo10_setStyle_0
  · exact oo10_setStyle_20
theorem ff10_setStyle : mi_r m10_setStyle = (some .int) ∧ mi_l m10_setStyle = 3 ∧ mi_h m10_setStyle = [] ∧ (mi_rm m10_setStyle).cells = 0 ∧ (mi_rm m10_setStyle).slots = 0 ∧ (mi_rm m10_setStyle).locals = 54 ∧ cd10_setStyle 0 = some bb10_setStyle_0 ∧ cd10_setStyle 20 = some bb10_setStyle_20 ∧ (mi_rm m10_fails).cells = 0 ∧ (mi_rm m10_fails).slots = 0 ∧ (mi_rm m10_in).cells = 0 ∧ (mi_rm m10_in).slots = 0 ∧ (mi_rm m10_records).cells = 0 ∧ (mi_rm m10_records).slots = 0 := ⟨rfl, rfl, rfl, rfl, rfl, rfl, rfl, rfl, rfl, rfl, rfl, rfl, rfl, rfl⟩
def bb10_sends_0 : List PI := [(1, .aload_n 0, 0, 0, 0, 0, kZ), (3, .getfield 7, 10, 1, 0, 0, kZ), (1, .iconst 3, 0, 0, 0, 0, kZ), (1, .iconst 0, 0, 0, 0, 0, kZ), (1, .iastore, 0, 0, 0, 0, kZ), (1, .iconst 0, 0, 0, 0, 0, kZ), (1, .istore_n 1, 0, 0, 0, 0, kZ)]
set_option maxRecDepth 100000 in
theorem oo10_sends_0 : okL m10_sends 0 bb10_sends_0 := okL_of _ _ (by decide +kernel) ⟨trivial, ⟨lf_10_7, ⟨trivial, ⟨trivial, ⟨trivial, ⟨trivial, ⟨trivial, trivial⟩⟩⟩⟩⟩⟩⟩
def bb10_sends_9 : List PI := [(1, .iload_n 1, 0, 0, 0, 0, kZ), (1, .aload_n 0, 0, 0, 0, 0, kZ), (3, .getfield 7, 10, 1, 0, 0, kZ), (1, .iconst 2, 0, 0, 0, 0, kZ), (1, .iaload, 0, 0, 0, 0, kZ), (3, .if_icmp .ge 66, 82, 0, 0, 0, kZ), (1, .aload_n 0, 0, 0, 0, 0, kZ), (1, .iload_n 1, 0, 0, 0, 0, kZ), (1, .aload_n 0, 0, 0, 0, 0, kZ), (1, .iload_n 1, 0, 0, 0, 0, kZ), (3, .invokevirtual 73, 1, 10, 0, 0, m10_bestMode), (3, .invokevirtual 69, 2, 10, 0, 0, m10_codes), (1, .pop, 0, 0, 0, 0, kZ), (1, .iconst 0, 0, 0, 0, 0, kZ), (1, .istore_n 2, 0, 0, 0, 0, kZ)]
set_option maxRecDepth 100000 in
theorem oo10_sends_9 : okL m10_sends 9 bb10_sends_9 := okL_of _ _ (by decide +kernel) ⟨trivial, ⟨trivial, ⟨lf_10_7, ⟨trivial, ⟨trivial, ⟨rfl, ⟨trivial, ⟨trivial, ⟨trivial, ⟨trivial, ⟨⟨mok_m10_bestMode, ⟨by decide, by decide⟩, rfl, by decide, Or.inl lc_10_73⟩, ⟨⟨mok_m10_codes, ⟨by decide, by decide⟩, rfl, by decide, Or.inl lc_10_69⟩, ⟨trivial, ⟨trivial, ⟨trivial, trivial⟩⟩⟩⟩⟩⟩⟩⟩⟩⟩⟩⟩⟩⟩⟩
def bb10_sends_32 : List PI := [(1, .iload_n 2, 0, 0, 0, 0, kZ), (1, .aload_n 0, 0, 0, 0, 0, kZ), (3, .getfield 50, 10, 16, 0, 0, kZ), (3, .if_icmp .ge 39, 76, 0, 0, 0, kZ), (1, .aload_n 0, 0, 0, 0, 0, kZ), (3, .getfield 7, 10, 1, 0, 0, kZ), (2, .bipush 68, 0, 0, 0, 0, kZ), (1, .aload_n 0, 0, 0, 0, 0, kZ), (3, .getfield 7, 10, 1, 0, 0, kZ), (1, .iconst 3, 0, 0, 0, 0, kZ), (1, .iaload, 0, 0, 0, 0, kZ), (1, .iadd, 0, 0, 0, 0, kZ), (1, .aload_n 0, 0, 0, 0, 0, kZ), (3, .getfield 31, 10, 15, 0, 0, kZ), (1, .iload_n 2, 0, 0, 0, 0, kZ), (1, .iaload, 0, 0, 0, 0, kZ), (1, .iastore, 0, 0, 0, 0, kZ), (1, .aload_n 0, 0, 0, 0, 0, kZ), (3, .getfield 7, 10, 1, 0, 0, kZ), (1, .iconst 3, 0, 0, 0, 0, kZ), (1, .dup2, 0, 0, 0, 0, kZ), (1, .iaload, 0, 0, 0, 0, kZ), (1, .iconst 1, 0, 0, 0, 0, kZ), (1, .iadd, 0, 0, 0, 0, kZ), (1, .iastore, 0, 0, 0, 0, kZ), (3, .iinc 2 1, 0, 0, 0, 0, kZ), (3, .goto (-41), 32, 0, 0, 0, kZ)]
set_option maxRecDepth 100000 in
theorem oo10_sends_32 : okL m10_sends 32 bb10_sends_32 := okL_of _ _ (by decide +kernel) ⟨trivial, ⟨trivial, ⟨lf_10_50, ⟨rfl, ⟨trivial, ⟨lf_10_7, ⟨trivial, ⟨trivial, ⟨lf_10_7, ⟨trivial, ⟨trivial, ⟨trivial, ⟨trivial, ⟨lf_10_31, ⟨trivial, ⟨trivial, ⟨trivial, ⟨trivial, ⟨lf_10_7, ⟨trivial, ⟨trivial, ⟨trivial, ⟨trivial, ⟨trivial, ⟨trivial, ⟨trivial, ⟨rfl, trivial⟩⟩⟩⟩⟩⟩⟩⟩⟩⟩⟩⟩⟩⟩⟩⟩⟩⟩⟩⟩⟩⟩⟩⟩⟩⟩⟩
def bb10_sends_76 : List PI := [(3, .iinc 1 1, 0, 0, 0, 0, kZ), (3, .goto (-70), 9, 0, 0, 0, kZ)]
set_option maxRecDepth 100000 in
theorem oo10_sends_76 : okL m10_sends 76 bb10_sends_76 := okL_of _ _ (by decide +kernel) ⟨trivial, ⟨rfl, trivial⟩⟩
def bb10_sends_82 : List PI := [(1, .aload_n 0, 0, 0, 0, 0, kZ), (3, .getfield 7, 10, 1, 0, 0, kZ), (1, .iconst 3, 0, 0, 0, 0, kZ), (1, .iaload, 0, 0, 0, 0, kZ), (1, .ireturn, 0, 0, 0, 0, kZ)]
set_option maxRecDepth 100000 in
theorem oo10_sends_82 : okL m10_sends 82 bb10_sends_82 := okL_of _ _ (by decide +kernel) ⟨trivial, ⟨lf_10_7, ⟨trivial, ⟨trivial, ⟨trivial, trivial⟩⟩⟩⟩⟩
def cd10_sends (t : Nat) : Option (List PI) := match t with
  | 0 => some bb10_sends_0
  | 76 => some bb10_sends_76
  | 82 => some bb10_sends_82
  | _ => none
theorem kd10_sends : ∀ t is, cd10_sends t = some is → okL m10_sends t is := by
  intro t is h
  unfold cd10_sends at h
  split at h <;> cases h
  · exact oo10_sends_0
  · exact oo10_sends_76
  · exact oo10_sends_82
theorem ff10_sends : mi_r m10_sends = (some .int) ∧ mi_l m10_sends = 3 ∧ mi_h m10_sends = [] ∧ (mi_rm m10_sends).cells = 0 ∧ (mi_rm m10_sends).slots = 0 ∧ (mi_rm m10_sends).locals = 123 ∧ cd10_sends 0 = some bb10_sends_0 ∧ cd10_sends 9 = none ∧ cd10_sends 32 = none ∧ cd10_sends 76 = some bb10_sends_76 ∧ cd10_sends 82 = some bb10_sends_82 ∧ (mi_rm m10_bestMode).cells = 0 ∧ (mi_rm m10_bestMode).slots = 0 ∧ (mi_rm m10_codes).cells = 0 ∧ (mi_rm m10_codes).slots = 0 := ⟨rfl, rfl, rfl, rfl, rfl, rfl, rfl, rfl, rfl, rfl, rfl, rfl, rfl, rfl, rfl⟩
def bb10_send_0 : List PI := [(1, .aload_n 0, 0, 0, 0, 0, kZ), (1, .iconst 0, 0, 0, 0, 0, kZ), (3, .putfield 34, 10, 0, 0, 0, kZ), (1, .aload_n 0, 0, 0, 0, 0, kZ), (3, .invokevirtual 128, 0, 10, 0, 0, m10_records), (1, .aload_n 0, 0, 0, 0, 0, kZ), (3, .invokevirtual 145, 0, 10, 0, 0, m10_sends), (1, .ireturn, 0, 0, 0, 0, kZ)]
set_option maxRecDepth 100000 in
theorem oo10_send_0 : okL m10_send 0 bb10_send_0 := okL_of _ _ (by decide +kernel) ⟨trivial, ⟨trivial, ⟨lp_10_34 _, ⟨trivial, ⟨⟨mok_m10_records, ⟨by decide, by decide⟩, rfl, by decide, Or.inl lc_10_128⟩, ⟨trivial, ⟨⟨mok_m10_sends, ⟨by decide, by decide⟩, rfl, by decide, Or.inl lc_10_145⟩, ⟨trivial, trivial⟩⟩⟩⟩⟩⟩⟩⟩
def cd10_send (t : Nat) : Option (List PI) := match t with
  | 0 => some bb10_send_0
  | _ => none
theorem kd10_send : ∀ t is, cd10_send t = some is → okL m10_send t is := by
  intro t is h
  unfold cd10_send at h
  split at h <;> cases h
  · exact oo10_send_0
theorem ff10_send : mi_r m10_send = (some .int) ∧ mi_l m10_send = 1 ∧ mi_h m10_send = [] ∧ (mi_rm m10_send).cells = 0 ∧ (mi_rm m10_send).slots = 0 ∧ (mi_rm m10_send).locals = 145 ∧ cd10_send 0 = some bb10_send_0 ∧ (mi_rm m10_records).cells = 0 ∧ (mi_rm m10_records).slots = 0 ∧ (mi_rm m10_sends).cells = 0 ∧ (mi_rm m10_sends).slots = 0 := ⟨rfl, rfl, rfl, rfl, rfl, rfl, rfl, rfl, rfl, rfl, rfl⟩
def bb10_replaces_0 : List PI := [(1, .aload_n 0, 0, 0, 0, 0, kZ), (3, .getfield 7, 10, 1, 0, 0, kZ), (2, .bipush 68, 0, 0, 0, 0, kZ), (1, .iload_n 1, 0, 0, 0, 0, kZ), (1, .iadd, 0, 0, 0, 0, kZ), (1, .iaload, 0, 0, 0, 0, kZ), (1, .istore_n 3, 0, 0, 0, 0, kZ), (1, .aload_n 0, 0, 0, 0, 0, kZ), (3, .getfield 7, 10, 1, 0, 0, kZ), (2, .bipush 68, 0, 0, 0, 0, kZ), (1, .iload_n 1, 0, 0, 0, 0, kZ), (1, .iadd, 0, 0, 0, 0, kZ), (1, .iload_n 2, 0, 0, 0, 0, kZ), (1, .iastore, 0, 0, 0, 0, kZ), (1, .iload_n 3, 0, 0, 0, 0, kZ), (1, .ireturn, 0, 0, 0, 0, kZ)]
set_option maxRecDepth 100000 in
theorem oo10_replaces_0 : okL m10_replaces 0 bb10_replaces_0 := okL_of _ _ (by decide +kernel) ⟨trivial, ⟨lf_10_7, ⟨trivial, ⟨trivial, ⟨trivial, ⟨trivial, ⟨trivial, ⟨trivial, ⟨lf_10_7, ⟨trivial, ⟨trivial, ⟨trivial, ⟨trivial, ⟨trivial, ⟨trivial, ⟨trivial, trivial⟩⟩⟩⟩⟩⟩⟩⟩⟩⟩⟩⟩⟩⟩⟩⟩
def cd10_replaces (t : Nat) : Option (List PI) := match t with
  | 0 => some bb10_replaces_0
  | _ => none
theorem kd10_replaces : ∀ t is, cd10_replaces t = some is → okL m10_replaces t is := by
  intro t is h
  unfold cd10_replaces at h
  split at h <;> cases h
  · exact oo10_replaces_0
theorem ff10_replaces : mi_r m10_replaces = (some .int) ∧ mi_l m10_replaces = 4 ∧ mi_h m10_replaces = [] ∧ (mi_rm m10_replaces).cells = 0 ∧ (mi_rm m10_replaces).slots = 0 ∧ (mi_rm m10_replaces).locals = 32 ∧ cd10_replaces 0 = some bb10_replaces_0 := ⟨rfl, rfl, rfl, rfl, rfl, rfl, rfl⟩
def bb10_replace_0 : List PI := [(1, .aload_n 0, 0, 0, 0, 0, kZ), (1, .iconst 0, 0, 0, 0, 0, kZ), (3, .putfield 34, 10, 0, 0, 0, kZ), (1, .aload_n 0, 0, 0, 0, 0, kZ), (1, .iload_n 1, 0, 0, 0, 0, kZ), (3, .invokevirtual 148, 1, 10, 0, 0, m10_isPlace), (3, .ifCond .ne 9, 19, 0, 0, 0, kZ), (1, .aload_n 0, 0, 0, 0, 0, kZ), (1, .iconst 1, 0, 0, 0, 0, kZ), (3, .invokevirtual 125, 1, 10, 0, 0, m10_fails), (1, .ireturn, 0, 0, 0, 0, kZ)]
set_option maxRecDepth 100000 in
theorem oo10_replace_0 : okL m10_replace 0 bb10_replace_0 := okL_of _ _ (by decide +kernel) ⟨trivial, ⟨trivial, ⟨lp_10_34 _, ⟨trivial, ⟨trivial, ⟨⟨mok_m10_isPlace, ⟨by decide, by decide⟩, rfl, by decide, Or.inl lc_10_148⟩, ⟨rfl, ⟨trivial, ⟨trivial, ⟨⟨mok_m10_fails, ⟨by decide, by decide⟩, rfl, by decide, Or.inl lc_10_125⟩, ⟨trivial, trivial⟩⟩⟩⟩⟩⟩⟩⟩⟩⟩⟩
def bb10_replace_19 : List PI := [(1, .iload_n 2, 0, 0, 0, 0, kZ), (3, .invokestatic 151, 1, 10, 0, 0, m10_isNumber), (3, .ifCond .ne 9, 32, 0, 0, 0, kZ), (1, .aload_n 0, 0, 0, 0, 0, kZ), (1, .iconst 2, 0, 0, 0, 0, kZ), (3, .invokevirtual 125, 1, 10, 0, 0, m10_fails), (1, .ireturn, 0, 0, 0, 0, kZ)]
set_option maxRecDepth 100000 in
theorem oo10_replace_19 : okL m10_replace 19 bb10_replace_19 := okL_of _ _ (by decide +kernel) ⟨trivial, ⟨⟨mok_m10_isNumber, ⟨by decide, by decide⟩, rfl, Or.inl lc_10_151⟩, ⟨rfl, ⟨trivial, ⟨trivial, ⟨⟨mok_m10_fails, ⟨by decide, by decide⟩, rfl, by decide, Or.inl lc_10_125⟩, ⟨trivial, trivial⟩⟩⟩⟩⟩⟩⟩
def bb10_replace_32 : List PI := [(1, .aload_n 0, 0, 0, 0, 0, kZ), (3, .invokevirtual 128, 0, 10, 0, 0, m10_records), (1, .aload_n 0, 0, 0, 0, 0, kZ), (1, .iload_n 1, 0, 0, 0, 0, kZ), (1, .iload_n 2, 0, 0, 0, 0, kZ), (3, .invokevirtual 154, 2, 10, 0, 0, m10_replaces), (1, .ireturn, 0, 0, 0, 0, kZ)]
set_option maxRecDepth 100000 in
theorem oo10_replace_32 : okL m10_replace 32 bb10_replace_32 := okL_of _ _ (by decide +kernel) ⟨trivial, ⟨⟨mok_m10_records, ⟨by decide, by decide⟩, rfl, by decide, Or.inl lc_10_128⟩, ⟨trivial, ⟨trivial, ⟨trivial, ⟨⟨mok_m10_replaces, ⟨by decide, by decide⟩, rfl, by decide, Or.inl lc_10_154⟩, ⟨trivial, trivial⟩⟩⟩⟩⟩⟩⟩
def cd10_replace (t : Nat) : Option (List PI) := match t with
  | 0 => some bb10_replace_0
  | 19 => some bb10_replace_19
  | 32 => some bb10_replace_32
  | _ => none
theorem kd10_replace : ∀ t is, cd10_replace t = some is → okL m10_replace t is := by
  intro t is h
  unfold cd10_replace at h
  split at h <;> cases h
  · exact oo10_replace_0
  · exact oo10_replace_19
  · exact oo10_replace_32
theorem ff10_replace : mi_r m10_replace = (some .int) ∧ mi_l m10_replace = 3 ∧ mi_h m10_replace = [] ∧ (mi_rm m10_replace).cells = 0 ∧ (mi_rm m10_replace).slots = 0 ∧ (mi_rm m10_replace).locals = 75 ∧ cd10_replace 0 = some bb10_replace_0 ∧ cd10_replace 19 = some bb10_replace_19 ∧ cd10_replace 32 = some bb10_replace_32 ∧ (mi_rm m10_fails).cells = 0 ∧ (mi_rm m10_fails).slots = 0 ∧ (mi_rm m10_isNumber).cells = 0 ∧ (mi_rm m10_isNumber).slots = 0 ∧ (mi_rm m10_isPlace).cells = 0 ∧ (mi_rm m10_isPlace).slots = 0 ∧ (mi_rm m10_records).cells = 0 ∧ (mi_rm m10_records).slots = 0 ∧ (mi_rm m10_replaces).cells = 0 ∧ (mi_rm m10_replaces).slots = 0 := ⟨rfl, rfl, rfl, rfl, rfl, rfl, rfl, rfl, rfl, rfl, rfl, rfl, rfl, rfl, rfl, rfl, rfl, rfl, rfl⟩
def bb10_lose_0 : List PI := [(1, .aload_n 0, 0, 0, 0, 0, kZ), (1, .iconst 0, 0, 0, 0, 0, kZ), (3, .putfield 34, 10, 0, 0, 0, kZ), (1, .aload_n 0, 0, 0, 0, 0, kZ), (1, .iload_n 1, 0, 0, 0, 0, kZ), (3, .invokevirtual 148, 1, 10, 0, 0, m10_isPlace), (3, .ifCond .ne 9, 19, 0, 0, 0, kZ), (1, .aload_n 0, 0, 0, 0, 0, kZ), (1, .iconst 1, 0, 0, 0, 0, kZ), (3, .invokevirtual 125, 1, 10, 0, 0, m10_fails), (1, .ireturn, 0, 0, 0, 0, kZ)]
set_option maxRecDepth 100000 in
theorem oo10_lose_0 : okL m10_lose 0 bb10_lose_0 := okL_of _ _ (by decide +kernel) ⟨trivial, ⟨trivial, ⟨lp_10_34 _, ⟨trivial, ⟨trivial, ⟨⟨mok_m10_isPlace, ⟨by decide, by decide⟩, rfl, by decide, Or.inl lc_10_148⟩, ⟨rfl, ⟨trivial, ⟨trivial, ⟨⟨mok_m10_fails, ⟨by decide, by decide⟩, rfl, by decide, Or.inl lc_10_125⟩, ⟨trivial, trivial⟩⟩⟩⟩⟩⟩⟩⟩⟩⟩⟩
def bb10_lose_19 : List PI := [(1, .aload_n 0, 0, 0, 0, 0, kZ), (3, .invokevirtual 128, 0, 10, 0, 0, m10_records), (1, .aload_n 0, 0, 0, 0, 0, kZ), (3, .getfield 7, 10, 1, 0, 0, kZ), (2, .bipush 68, 0, 0, 0, 0, kZ), (1, .iload_n 1, 0, 0, 0, 0, kZ), (1, .iadd, 0, 0, 0, 0, kZ), (1, .iaload, 0, 0, 0, 0, kZ), (1, .istore_n 2, 0, 0, 0, 0, kZ), (1, .aload_n 0, 0, 0, 0, 0, kZ), (3, .getfield 7, 10, 1, 0, 0, kZ), (1, .iconst 3, 0, 0, 0, 0, kZ), (1, .dup2, 0, 0, 0, 0, kZ), (1, .iaload, 0, 0, 0, 0, kZ), (1, .iconst 1, 0, 0, 0, 0, kZ), (1, .isub, 0, 0, 0, 0, kZ), (1, .iastore, 0, 0, 0, 0, kZ), (1, .iload_n 1, 0, 0, 0, 0, kZ), (1, .istore_n 3, 0, 0, 0, 0, kZ)]
set_option maxRecDepth 100000 in
theorem oo10_lose_19 : okL m10_lose 19 bb10_lose_19 := okL_of _ _ (by decide +kernel) ⟨trivial, ⟨⟨mok_m10_records, ⟨by decide, by decide⟩, rfl, by decide, Or.inl lc_10_128⟩, ⟨trivial, ⟨lf_10_7, ⟨trivial, ⟨trivial, ⟨trivial, ⟨trivial, ⟨trivial, ⟨trivial, ⟨lf_10_7, ⟨trivial, ⟨trivial, ⟨trivial, ⟨trivial, ⟨trivial, ⟨trivial, ⟨trivial, ⟨trivial, trivial⟩⟩⟩⟩⟩⟩⟩⟩⟩⟩⟩⟩⟩⟩⟩⟩⟩⟩⟩
def bb10_lose_45 : List PI := [(1, .iload_n 3, 0, 0, 0, 0, kZ), (1, .aload_n 0, 0, 0, 0, 0, kZ), (3, .getfield 7, 10, 1, 0, 0, kZ), (1, .iconst 3, 0, 0, 0, 0, kZ), (1, .iaload, 0, 0, 0, 0, kZ), (3, .if_icmp .ge 29, 81, 0, 0, 0, kZ), (1, .aload_n 0, 0, 0, 0, 0, kZ), (3, .getfield 7, 10, 1, 0, 0, kZ), (2, .bipush 68, 0, 0, 0, 0, kZ), (1, .iload_n 3, 0, 0, 0, 0, kZ), (1, .iadd, 0, 0, 0, 0, kZ), (1, .aload_n 0, 0, 0, 0, 0, kZ), (3, .getfield 7, 10, 1, 0, 0, kZ), (2, .bipush 68, 0, 0, 0, 0, kZ), (1, .iload_n 3, 0, 0, 0, 0, kZ), (1, .iadd, 0, 0, 0, 0, kZ), (1, .iconst 1, 0, 0, 0, 0, kZ), (1, .iadd, 0, 0, 0, 0, kZ), (1, .iaload, 0, 0, 0, 0, kZ), (1, .iastore, 0, 0, 0, 0, kZ), (3, .iinc 3 1, 0, 0, 0, 0, kZ), (3, .goto (-33), 45, 0, 0, 0, kZ)]
set_option maxRecDepth 100000 in
theorem oo10_lose_45 : okL m10_lose 45 bb10_lose_45 := okL_of _ _ (by decide +kernel) ⟨trivial, ⟨trivial, ⟨lf_10_7, ⟨trivial, ⟨trivial, ⟨rfl, ⟨trivial, ⟨lf_10_7, ⟨trivial, ⟨trivial, ⟨trivial, ⟨trivial, ⟨lf_10_7, ⟨trivial, ⟨trivial, ⟨trivial, ⟨trivial, ⟨trivial, ⟨trivial, ⟨trivial, ⟨trivial, ⟨rfl, trivial⟩⟩⟩⟩⟩⟩⟩⟩⟩⟩⟩⟩⟩⟩⟩⟩⟩⟩⟩⟩⟩⟩
def bb10_lose_81 : List PI := [(1, .iload_n 2, 0, 0, 0, 0, kZ), (1, .ireturn, 0, 0, 0, 0, kZ)]
set_option maxRecDepth 100000 in
theorem oo10_lose_81 : okL m10_lose 81 bb10_lose_81 := okL_of _ _ (by decide +kernel) ⟨trivial, ⟨trivial, trivial⟩⟩
def cd10_lose (t : Nat) : Option (List PI) := match t with
  | 0 => some bb10_lose_0
  | 19 => some bb10_lose_19
  | 81 => some bb10_lose_81
  | _ => none
theorem kd10_lose : ∀ t is, cd10_lose t = some is → okL m10_lose t is := by
  intro t is h
  unfold cd10_lose at h
  split at h <;> cases h
  · exact oo10_lose_0
  · exact oo10_lose_19
  · exact oo10_lose_81
theorem ff10_lose : mi_r m10_lose = (some .int) ∧ mi_l m10_lose = 4 ∧ mi_h m10_lose = [] ∧ (mi_rm m10_lose).cells = 0 ∧ (mi_rm m10_lose).slots = 0 ∧ (mi_rm m10_lose).locals = 75 ∧ cd10_lose 0 = some bb10_lose_0 ∧ cd10_lose 19 = some bb10_lose_19 ∧ cd10_lose 45 = none ∧ cd10_lose 81 = some bb10_lose_81 ∧ (mi_rm m10_fails).cells = 0 ∧ (mi_rm m10_fails).slots = 0 ∧ (mi_rm m10_isPlace).cells = 0 ∧ (mi_rm m10_isPlace).slots = 0 ∧ (mi_rm m10_records).cells = 0 ∧ (mi_rm m10_records).slots = 0 := ⟨rfl, rfl, rfl, rfl, rfl, rfl, rfl, rfl, rfl, rfl, rfl, rfl, rfl, rfl, rfl, rfl⟩
def bb10_gain_0 : List PI := [(1, .aload_n 0, 0, 0, 0, 0, kZ), (1, .iconst 0, 0, 0, 0, 0, kZ), (3, .putfield 34, 10, 0, 0, 0, kZ), (1, .iload_n 1, 0, 0, 0, 0, kZ), (1, .iconst 0, 0, 0, 0, 0, kZ), (1, .aload_n 0, 0, 0, 0, 0, kZ), (3, .getfield 7, 10, 1, 0, 0, kZ), (1, .iconst 3, 0, 0, 0, 0, kZ), (1, .iaload, 0, 0, 0, 0, kZ), (3, .invokestatic 38, 3, 10, 0, 0, m10_in), (3, .ifCond .ne 9, 25, 0, 0, 0, kZ), (1, .aload_n 0, 0, 0, 0, 0, kZ), (1, .iconst 1, 0, 0, 0, 0, kZ), (3, .invokevirtual 125, 1, 10, 0, 0, m10_fails), (1, .ireturn, 0, 0, 0, 0, kZ)]
set_option maxRecDepth 100000 in
theorem oo10_gain_0 : okL m10_gain 0 bb10_gain_0 := okL_of _ _ (by decide +kernel) ⟨trivial, ⟨trivial, ⟨lp_10_34 _, ⟨trivial, ⟨trivial, ⟨trivial, ⟨lf_10_7, ⟨trivial, ⟨trivial, ⟨⟨mok_m10_in, ⟨by decide, by decide⟩, rfl, Or.inl lc_10_38⟩, ⟨rfl, ⟨trivial, ⟨trivial, ⟨⟨mok_m10_fails, ⟨by decide, by decide⟩, rfl, by decide, Or.inl lc_10_125⟩, ⟨trivial, trivial⟩⟩⟩⟩⟩⟩⟩⟩⟩⟩⟩⟩⟩⟩⟩
def bb10_gain_25 : List PI := [(1, .iload_n 2, 0, 0, 0, 0, kZ), (3, .invokestatic 151, 1, 10, 0, 0, m10_isNumber), (3, .ifCond .ne 9, 38, 0, 0, 0, kZ), (1, .aload_n 0, 0, 0, 0, 0, kZ), (1, .iconst 2, 0, 0, 0, 0, kZ), (3, .invokevirtual 125, 1, 10, 0, 0, m10_fails), (1, .ireturn, 0, 0, 0, 0, kZ)]
set_option maxRecDepth 100000 in
theorem oo10_gain_25 : okL m10_gain 25 bb10_gain_25 := okL_of _ _ (by decide +kernel) ⟨trivial, ⟨⟨mok_m10_isNumber, ⟨by decide, by decide⟩, rfl, Or.inl lc_10_151⟩, ⟨rfl, ⟨trivial, ⟨trivial, ⟨⟨mok_m10_fails, ⟨by decide, by decide⟩, rfl, by decide, Or.inl lc_10_125⟩, ⟨trivial, trivial⟩⟩⟩⟩⟩⟩⟩
def bb10_gain_38 : List PI := [(1, .aload_n 0, 0, 0, 0, 0, kZ), (3, .getfield 7, 10, 1, 0, 0, kZ), (1, .iconst 3, 0, 0, 0, 0, kZ), (1, .iaload, 0, 0, 0, 0, kZ), (3, .sipush 500, 0, 0, 0, 0, kZ), (3, .if_icmp .ne 9, 56, 0, 0, 0, kZ), (1, .aload_n 0, 0, 0, 0, 0, kZ), (1, .iconst 3, 0, 0, 0, 0, kZ), (3, .invokevirtual 125, 1, 10, 0, 0, m10_fails), (1, .ireturn, 0, 0, 0, 0, kZ)]
set_option maxRecDepth 100000 in
theorem oo10_gain_38 : okL m10_gain 38 bb10_gain_38 := okL_of _ _ (by decide +kernel) ⟨trivial, ⟨lf_10_7, ⟨trivial, ⟨trivial, ⟨trivial, ⟨rfl, ⟨trivial, ⟨trivial, ⟨⟨mok_m10_fails, ⟨by decide, by decide⟩, rfl, by decide, Or.inl lc_10_125⟩, ⟨trivial, trivial⟩⟩⟩⟩⟩⟩⟩⟩⟩⟩
def bb10_gain_56 : List PI := [(1, .aload_n 0, 0, 0, 0, 0, kZ), (3, .invokevirtual 128, 0, 10, 0, 0, m10_records), (1, .aload_n 0, 0, 0, 0, 0, kZ), (3, .getfield 7, 10, 1, 0, 0, kZ), (1, .iconst 3, 0, 0, 0, 0, kZ), (1, .iaload, 0, 0, 0, 0, kZ), (1, .istore_n 3, 0, 0, 0, 0, kZ)]
set_option maxRecDepth 100000 in
theorem oo10_gain_56 : okL m10_gain 56 bb10_gain_56 := okL_of _ _ (by decide +kernel) ⟨trivial, ⟨⟨mok_m10_records, ⟨by decide, by decide⟩, rfl, by decide, Or.inl lc_10_128⟩, ⟨trivial, ⟨lf_10_7, ⟨trivial, ⟨trivial, ⟨trivial, trivial⟩⟩⟩⟩⟩⟩⟩
def bb10_gain_67 : List PI := [(1, .iload_n 3, 0, 0, 0, 0, kZ), (1, .iload_n 1, 0, 0, 0, 0, kZ), (3, .if_icmp .le 29, 98, 0, 0, 0, kZ), (1, .aload_n 0, 0, 0, 0, 0, kZ), (3, .getfield 7, 10, 1, 0, 0, kZ), (2, .bipush 68, 0, 0, 0, 0, kZ), (1, .iload_n 3, 0, 0, 0, 0, kZ), (1, .iadd, 0, 0, 0, 0, kZ), (1, .aload_n 0, 0, 0, 0, 0, kZ), (3, .getfield 7, 10, 1, 0, 0, kZ), (2, .bipush 68, 0, 0, 0, 0, kZ), (1, .iload_n 3, 0, 0, 0, 0, kZ), (1, .iadd, 0, 0, 0, 0, kZ), (1, .iconst 1, 0, 0, 0, 0, kZ), (1, .isub, 0, 0, 0, 0, kZ), (1, .iaload, 0, 0, 0, 0, kZ), (1, .iastore, 0, 0, 0, 0, kZ), (3, .iinc 3 (-1), 0, 0, 0, 0, kZ), (3, .goto (-28), 67, 0, 0, 0, kZ)]
set_option maxRecDepth 100000 in
theorem oo10_gain_67 : okL m10_gain 67 bb10_gain_67 := okL_of _ _ (by decide +kernel) ⟨trivial, ⟨trivial, ⟨rfl, ⟨trivial, ⟨lf_10_7, ⟨trivial, ⟨trivial, ⟨trivial, ⟨trivial, ⟨lf_10_7, ⟨trivial, ⟨trivial, ⟨trivial, ⟨trivial, ⟨trivial, ⟨trivial, ⟨trivial, ⟨trivial, ⟨rfl, trivial⟩⟩⟩⟩⟩⟩⟩⟩⟩⟩⟩⟩⟩⟩⟩⟩⟩⟩⟩
def bb10_gain_98 : List PI := [(1, .aload_n 0, 0, 0, 0, 0, kZ), (3, .getfield 7, 10, 1, 0, 0, kZ), (2, .bipush 68, 0, 0, 0, 0, kZ), (1, .iload_n 1, 0, 0, 0, 0, kZ), (1, .iadd, 0, 0, 0, 0, kZ), (1, .iload_n 2, 0, 0, 0, 0, kZ), (1, .iastore, 0, 0, 0, 0, kZ), (1, .aload_n 0, 0, 0, 0, 0, kZ), (3, .getfield 7, 10, 1, 0, 0, kZ), (1, .iconst 3, 0, 0, 0, 0, kZ), (1, .dup2, 0, 0, 0, 0, kZ), (1, .iaload, 0, 0, 0, 0, kZ), (1, .iconst 1, 0, 0, 0, 0, kZ), (1, .iadd, 0, 0, 0, 0, kZ), (1, .iastore, 0, 0, 0, 0, kZ), (1, .aload_n 0, 0, 0, 0, 0, kZ), (3, .getfield 7, 10, 1, 0, 0, kZ), (1, .iconst 3, 0, 0, 0, 0, kZ), (1, .iaload, 0, 0, 0, 0, kZ), (1, .ireturn, 0, 0, 0, 0, kZ)]
set_option maxRecDepth 100000 in
theorem oo10_gain_98 : okL m10_gain 98 bb10_gain_98 := okL_of _ _ (by decide +kernel) ⟨trivial, ⟨lf_10_7, ⟨trivial, ⟨trivial, ⟨trivial, ⟨trivial, ⟨trivial, ⟨trivial, ⟨lf_10_7, ⟨trivial, ⟨trivial, ⟨trivial, ⟨trivial, ⟨trivial, ⟨trivial, ⟨trivial, ⟨lf_10_7, ⟨trivial, ⟨trivial, ⟨trivial, trivial⟩⟩⟩⟩⟩⟩⟩⟩⟩⟩⟩⟩⟩⟩⟩⟩⟩⟩⟩⟩
def cd10_gain (t : Nat) : Option (List PI) := match t with
  | 0 => some bb10_gain_0
  | 25 => some bb10_gain_25
  | 38 => some bb10_gain_38
  | 56 => some bb10_gain_56
  | 98 => some bb10_gain_98
  | _ => none
theorem kd10_gain : ∀ t is, cd10_gain t = some is → okL m10_gain t is := by
  intro t is h
  unfold cd10_gain at h
  split at h <;> cases h
  · exact oo10_gain_0
  · exact oo10_gain_25
  · exact oo10_gain_38
  · exact oo10_gain_56
  · exact oo10_gain_98
theorem ff10_gain : mi_r m10_gain = (some .int) ∧ mi_l m10_gain = 4 ∧ mi_h m10_gain = [] ∧ (mi_rm m10_gain).cells = 0 ∧ (mi_rm m10_gain).slots = 0 ∧ (mi_rm m10_gain).locals = 74 ∧ cd10_gain 0 = some bb10_gain_0 ∧ cd10_gain 25 = some bb10_gain_25 ∧ cd10_gain 38 = some bb10_gain_38 ∧ cd10_gain 56 = some bb10_gain_56 ∧ cd10_gain 67 = none ∧ cd10_gain 98 = some bb10_gain_98 ∧ (mi_rm m10_fails).cells = 0 ∧ (mi_rm m10_fails).slots = 0 ∧ (mi_rm m10_in).cells = 0 ∧ (mi_rm m10_in).slots = 0 ∧ (mi_rm m10_isNumber).cells = 0 ∧ (mi_rm m10_isNumber).slots = 0 ∧ (mi_rm m10_records).cells = 0 ∧ (mi_rm m10_records).slots = 0 := ⟨rfl, rfl, rfl, rfl, rfl, rfl, rfl, rfl, rfl, rfl, rfl, rfl, rfl, rfl, rfl, rfl, rfl, rfl, rfl, rfl⟩
def bb10_receive_0 : List PI := [(1, .aload_n 0, 0, 0, 0, 0, kZ), (1, .iconst 0, 0, 0, 0, 0, kZ), (3, .putfield 34, 10, 0, 0, 0, kZ), (1, .aload_n 0, 0, 0, 0, 0, kZ), (3, .invokevirtual 128, 0, 10, 0, 0, m10_records), (1, .aload_n 0, 0, 0, 0, 0, kZ), (3, .invokevirtual 157, 0, 10, 0, 0, m10_readsStream), (1, .ireturn, 0, 0, 0, 0, kZ)]
set_option maxRecDepth 100000 in
theorem oo10_receive_0 : okL m10_receive 0 bb10_receive_0 := okL_of _ _ (by decide +kernel) ⟨trivial, ⟨trivial, ⟨lp_10_34 _, ⟨trivial, ⟨⟨mok_m10_records, ⟨by decide, by decide⟩, rfl, by decide, Or.inl lc_10_128⟩, ⟨trivial, ⟨⟨mok_m10_readsStream, ⟨by decide, by decide⟩, rfl, by decide, Or.inl lc_10_157⟩, ⟨trivial, trivial⟩⟩⟩⟩⟩⟩⟩⟩
def cd10_receive (t : Nat) : Option (List PI) := match t with
  | 0 => some bb10_receive_0
  | _ => none
theorem kd10_receive : ∀ t is, cd10_receive t = some is → okL m10_receive t is := by
  intro t is h
  unfold cd10_receive at h
  split at h <;> cases h
  · exact oo10_receive_0
theorem ff10_receive : mi_r m10_receive = (some .int) ∧ mi_l m10_receive = 1 ∧ mi_h m10_receive = [] ∧ (mi_rm m10_receive).cells = 0 ∧ (mi_rm m10_receive).slots = 0 ∧ (mi_rm m10_receive).locals = 190 ∧ cd10_receive 0 = some bb10_receive_0 ∧ (mi_rm m10_readsStream).cells = 0 ∧ (mi_rm m10_readsStream).slots = 0 ∧ (mi_rm m10_records).cells = 0 ∧ (mi_rm m10_records).slots = 0 := ⟨rfl, rfl, rfl, rfl, rfl, rfl, rfl, rfl, rfl, rfl, rfl⟩
def bb10_append_0 : List PI := [(1, .aload_n 0, 0, 0, 0, 0, kZ), (1, .iconst 0, 0, 0, 0, 0, kZ), (3, .putfield 34, 10, 0, 0, 0, kZ), (1, .iload_n 1, 0, 0, 0, 0, kZ), (2, .bipush 33, 0, 0, 0, 0, kZ), (2, .bipush 126, 0, 0, 0, 0, kZ), (3, .invokestatic 38, 3, 10, 0, 0, m10_in), (3, .ifCond .ne 9, 22, 0, 0, 0, kZ), (1, .aload_n 0, 0, 0, 0, 0, kZ), (1, .iconst 1, 0, 0, 0, 0, kZ), (3, .invokevirtual 125, 1, 10, 0, 0, m10_fails), (1, .ireturn, 0, 0, 0, 0, kZ)]
set_option maxRecDepth 100000 in
theorem oo10_append_0 : okL m10_append 0 bb10_append_0 := okL_of _ _ (by decide +kernel) ⟨trivial, ⟨trivial, ⟨lp_10_34 _, ⟨trivial, ⟨trivial, ⟨trivial, ⟨⟨mok_m10_in, ⟨by decide, by decide⟩, rfl, Or.inl lc_10_38⟩, ⟨rfl, ⟨trivial, ⟨trivial, ⟨⟨mok_m10_fails, ⟨by decide, by decide⟩, rfl, by decide, Or.inl lc_10_125⟩, ⟨trivial, trivial⟩⟩⟩⟩⟩⟩⟩⟩⟩⟩⟩⟩
def bb10_append_22 : List PI := [(1, .aload_n 0, 0, 0, 0, 0, kZ), (3, .getfield 160, 10, 8, 0, 0, kZ), (2, .bipush 60, 0, 0, 0, 0, kZ), (3, .if_icmp .ne 9, 37, 0, 0, 0, kZ), (1, .aload_n 0, 0, 0, 0, 0, kZ), (1, .iconst 2, 0, 0, 0, 0, kZ), (3, .invokevirtual 125, 1, 10, 0, 0, m10_fails), (1, .ireturn, 0, 0, 0, 0, kZ)]
set_option maxRecDepth 100000 in
theorem oo10_append_22 : okL m10_append 22 bb10_append_22 := okL_of _ _ (by decide +kernel) ⟨trivial, ⟨lf_10_160, ⟨trivial, ⟨rfl, ⟨trivial, ⟨trivial, ⟨⟨mok_m10_fails, ⟨by decide, by decide⟩, rfl, by decide, Or.inl lc_10_125⟩, ⟨trivial, trivial⟩⟩⟩⟩⟩⟩⟩⟩
def bb10_append_37 : List PI := [(1, .aload_n 0, 0, 0, 0, 0, kZ), (3, .getfield 22, 10, 7, 0, 0, kZ), (1, .aload_n 0, 0, 0, 0, 0, kZ), (3, .getfield 160, 10, 8, 0, 0, kZ), (1, .iload_n 1, 0, 0, 0, 0, kZ), (1, .iastore, 0, 0, 0, 0, kZ), (1, .aload_n 0, 0, 0, 0, 0, kZ), (1, .dup, 0, 0, 0, 0, kZ), (3, .getfield 160, 10, 8, 0, 0, kZ), (1, .iconst 1, 0, 0, 0, 0, kZ), (1, .iadd, 0, 0, 0, 0, kZ), (3, .putfield 160, 10, 8, 0, 0, kZ), (1, .aload_n 0, 0, 0, 0, 0, kZ), (3, .getfield 160, 10, 8, 0, 0, kZ), (1, .ireturn, 0, 0, 0, 0, kZ)]
set_option maxRecDepth 100000 in
theorem oo10_append_37 : okL m10_append 37 bb10_append_37 := okL_of _ _ (by decide +kernel) ⟨trivial, ⟨lf_10_22, ⟨trivial, ⟨lf_10_160, ⟨trivial, ⟨trivial, ⟨trivial, ⟨trivial, ⟨lf_10_160, ⟨trivial, ⟨trivial, ⟨lp_10_160 _, ⟨trivial, ⟨lf_10_160, ⟨trivial, trivial⟩⟩⟩⟩⟩⟩⟩⟩⟩⟩⟩⟩⟩⟩⟩
def cd10_append (t : Nat) : Option (List PI) := match t with
  | 0 => some bb10_append_0
  | 22 => some bb10_append_22
  | 37 => some bb10_append_37
  | _ => none
theorem kd10_append : ∀ t is, cd10_append t = some is → okL m10_append t is := by
  intro t is h
  unfold cd10_append at h
  split at h <;> cases h
  · exact oo10_append_0
  · exact oo10_append_22
  · exact oo10_append_37
theorem ff10_append : mi_r m10_append = (some .int) ∧ mi_l m10_append = 2 ∧ mi_h m10_append = [] ∧ (mi_rm m10_append).cells = 0 ∧ (mi_rm m10_append).slots = 0 ∧ (mi_rm m10_append).locals = 54 ∧ cd10_append 0 = some bb10_append_0 ∧ cd10_append 22 = some bb10_append_22 ∧ cd10_append 37 = some bb10_append_37 ∧ (mi_rm m10_fails).cells = 0 ∧ (mi_rm m10_fails).slots = 0 ∧ (mi_rm m10_in).cells = 0 ∧ (mi_rm m10_in).slots = 0 := ⟨rfl, rfl, rfl, rfl, rfl, rfl, rfl, rfl, rfl, rfl, rfl, rfl, rfl⟩

def bb0_init_0 : List PI := [(1, .aload_n 0, 0, 0, 0, 0, kZ), (3, .invokespecial 3, 0, 0, 1, 0, kZ), (1, .aload_n 0, 0, 0, 0, 0, kZ), (2, .bipush 33, 0, 0, 0, 0, kZ), (2, .newarray .int, 0, 0, 0, 0, kZ), (3, .putfield 9, 0, 0, 0, 0, kZ), (1, .aload_n 0, 0, 0, 0, 0, kZ), (1, .iconst 0, 0, 0, 0, 0, kZ), (3, .putfield 15, 0, 1, 0, 0, kZ), (1, .aload_n 0, 0, 0, 0, 0, kZ), (2, .bipush 71, 0, 0, 0, 0, kZ), (2, .newarray .int, 0, 0, 0, 0, kZ), (3, .putfield 19, 0, 2, 0, 0, kZ), (1, .aload_n 0, 0, 0, 0, 0, kZ), (1, .iconst 0, 0, 0, 0, 0, kZ), (3, .putfield 22, 0, 3, 0, 0, kZ), (1, .aload_n 0, 0, 0, 0, 0, kZ), (1, .iconst 0, 0, 0, 0, 0, kZ), (3, .putfield 25, 0, 4, 0, 0, kZ), (1, .return_, 0, 0, 0, 0, kZ)]
set_option maxRecDepth 100000 in
theorem oo0_init_0 : okL m0_init 0 bb0_init_0 := okL_of _ _ (by decide +kernel) ⟨trivial, ⟨⟨lo_0_3, by decide⟩, ⟨trivial, ⟨trivial, ⟨la_0, ⟨lp_0_9i, ⟨trivial, ⟨trivial, ⟨lp_0_15 _, ⟨trivial, ⟨trivial, ⟨la_0, ⟨lp_0_19i, ⟨trivial, ⟨trivial, ⟨lp_0_22 _, ⟨trivial, ⟨trivial, ⟨lp_0_25 _, ⟨rfl, trivial⟩⟩⟩⟩⟩⟩⟩⟩⟩⟩⟩⟩⟩⟩⟩⟩⟩⟩⟩⟩
def cd0_init (t : Nat) : Option (List PI) := match t with
  | 0 => some bb0_init_0
  | _ => none
theorem kd0_init : ∀ t is, cd0_init t = some is → okL m0_init t is := by
  intro t is h
  unfold cd0_init at h
  split at h <;> cases h
  · exact oo0_init_0
theorem ff0_init : mi_r m0_init = none ∧ mi_l m0_init = 1 ∧ mi_h m0_init = [] ∧ (mi_rm m0_init).cells = 2 ∧ (mi_rm m0_init).slots = 104 ∧ (mi_rm m0_init).locals = 32 ∧ cd0_init 0 = some bb0_init_0 := ⟨rfl, rfl, rfl, rfl, rfl, rfl, rfl⟩
def bb0_addToKernel_0 : List PI := [(1, .aload_n 0, 0, 0, 0, 0, kZ), (3, .getfield 15, 0, 1, 0, 0, kZ), (3, .ifCond .lt 35, 39, 0, 0, 0, kZ), (1, .aload_n 0, 0, 0, 0, 0, kZ), (3, .getfield 15, 0, 1, 0, 0, kZ), (1, .aload_n 0, 0, 0, 0, 0, kZ), (3, .getfield 9, 0, 0, 0, 0, kZ), (1, .arraylength, 0, 0, 0, 0, kZ), (3, .if_icmp .ge 23, 39, 0, 0, 0, kZ), (1, .aload_n 0, 0, 0, 0, 0, kZ), (3, .getfield 9, 0, 0, 0, 0, kZ), (1, .aload_n 0, 0, 0, 0, 0, kZ), (3, .getfield 15, 0, 1, 0, 0, kZ), (1, .iload_n 1, 0, 0, 0, 0, kZ), (1, .iastore, 0, 0, 0, 0, kZ), (1, .aload_n 0, 0, 0, 0, 0, kZ), (1, .dup, 0, 0, 0, 0, kZ), (3, .getfield 15, 0, 1, 0, 0, kZ), (1, .iconst 1, 0, 0, 0, 0, kZ), (1, .iadd, 0, 0, 0, 0, kZ), (3, .putfield 15, 0, 1, 0, 0, kZ)]
set_option maxRecDepth 100000 in
theorem oo0_addToKernel_0 : okL m0_addToKernel 0 bb0_addToKernel_0 := okL_of _ _ (by decide +kernel) ⟨trivial, ⟨lf_0_15, ⟨rfl, ⟨trivial, ⟨lf_0_15, ⟨trivial, ⟨lf_0_9, ⟨trivial, ⟨rfl, ⟨trivial, ⟨lf_0_9, ⟨trivial, ⟨lf_0_15, ⟨trivial, ⟨trivial, ⟨trivial, ⟨trivial, ⟨lf_0_15, ⟨trivial, ⟨trivial, ⟨lp_0_15 _, trivial⟩⟩⟩⟩⟩⟩⟩⟩⟩⟩⟩⟩⟩⟩⟩⟩⟩⟩⟩⟩⟩
def bb0_addToKernel_39 : List PI := [(1, .return_, 0, 0, 0, 0, kZ)]
set_option maxRecDepth 100000 in
theorem oo0_addToKernel_39 : okL m0_addToKernel 39 bb0_addToKernel_39 := okL_of _ _ (by decide +kernel) ⟨rfl, trivial⟩
def cd0_addToKernel (t : Nat) : Option (List PI) := match t with
  | 0 => some bb0_addToKernel_0
  | 39 => some bb0_addToKernel_39
  | _ => none
theorem kd0_addToKernel : ∀ t is, cd0_addToKernel t = some is → okL m0_addToKernel t is := by
  intro t is h
  unfold cd0_addToKernel at h
  split at h <;> cases h
  · exact oo0_addToKernel_0
  · exact oo0_addToKernel_39
theorem ff0_addToKernel : mi_r m0_addToKernel = none ∧ mi_l m0_addToKernel = 2 ∧ mi_h m0_addToKernel = [] ∧ (mi_rm m0_addToKernel).cells = 0 ∧ (mi_rm m0_addToKernel).slots = 0 ∧ (mi_rm m0_addToKernel).locals = 32 ∧ cd0_addToKernel 0 = some bb0_addToKernel_0 ∧ cd0_addToKernel 39 = some bb0_addToKernel_39 := ⟨rfl, rfl, rfl, rfl, rfl, rfl, rfl, rfl⟩
def bb9_blackAt_0 : List PI := [(1, .lload_n 0, 0, 0, 0, 0, kZ), (1, .iload_n 2, 0, 0, 0, 0, kZ), (1, .lushr, 0, 0, 0, 0, kZ), (1, .lconst 1, 0, 0, 0, 0, kZ), (1, .land, 0, 0, 0, 0, kZ), (1, .lconst 0, 0, 0, 0, 0, kZ), (1, .lcmp, 0, 0, 0, 0, kZ), (3, .ifCond .eq 7, 14, 0, 0, 0, kZ), (1, .iconst 1, 0, 0, 0, 0, kZ), (3, .goto 4, 15, 0, 0, 0, kZ)]
set_option maxRecDepth 100000 in
theorem oo9_blackAt_0 : okL m9_blackAt 0 bb9_blackAt_0 := okL_of _ _ (by decide +kernel) ⟨trivial, ⟨trivial, ⟨trivial, ⟨trivial, ⟨trivial, ⟨trivial, ⟨trivial, ⟨rfl, ⟨trivial, ⟨rfl, trivial⟩⟩⟩⟩⟩⟩⟩⟩⟩⟩
def bb9_blackAt_14 : List PI := [(1, .iconst 0, 0, 0, 0, 0, kZ)]
set_option maxRecDepth 100000 in
theorem oo9_blackAt_14 : okL m9_blackAt 14 bb9_blackAt_14 := okL_of _ _ (by decide +kernel) ⟨trivial, trivial⟩
def bb9_blackAt_15 : List PI := [(1, .ireturn, 0, 0, 0, 0, kZ)]
set_option maxRecDepth 100000 in
theorem oo9_blackAt_15 : okL m9_blackAt 15 bb9_blackAt_15 := okL_of _ _ (by decide +kernel) ⟨trivial, trivial⟩
def cd9_blackAt (t : Nat) : Option (List PI) := match t with
  | 0 => some bb9_blackAt_0
  | 14 => some bb9_blackAt_14
  | 15 => some bb9_blackAt_15
  | _ => none
theorem kd9_blackAt : ∀ t is, cd9_blackAt t = some is → okL m9_blackAt t is := by
  intro t is h
  unfold cd9_blackAt at h
  split at h <;> cases h
  · exact oo9_blackAt_0
  · exact oo9_blackAt_14
  · exact oo9_blackAt_15
theorem ff9_blackAt : mi_r m9_blackAt = (some .boolean) ∧ mi_l m9_blackAt = 3 ∧ mi_h m9_blackAt = [] ∧ (mi_rm m9_blackAt).cells = 0 ∧ (mi_rm m9_blackAt).slots = 0 ∧ (mi_rm m9_blackAt).locals = 32 ∧ cd9_blackAt 0 = some bb9_blackAt_0 ∧ cd9_blackAt 14 = some bb9_blackAt_14 ∧ cd9_blackAt 15 = some bb9_blackAt_15 := ⟨rfl, rfl, rfl, rfl, rfl, rfl, rfl, rfl, rfl⟩
def bb0_kernelByFours_0 : List PI := [(1, .iconst 0, 0, 0, 0, 0, kZ), (2, .istore 4, 0, 0, 0, 0, kZ)]
set_option maxRecDepth 100000 in
theorem oo0_kernelByFours_0 : okL m0_kernelByFours 0 bb0_kernelByFours_0 := okL_of _ _ (by decide +kernel) ⟨trivial, ⟨trivial, trivial⟩⟩
def bb0_kernelByFours_3 : List PI := [(2, .iload 4, 0, 0, 0, 0, kZ), (1, .iload_n 3, 0, 0, 0, 0, kZ), (3, .if_icmp .ge 57, 63, 0, 0, 0, kZ), (1, .iconst 0, 0, 0, 0, 0, kZ), (2, .istore 5, 0, 0, 0, 0, kZ), (1, .iconst 0, 0, 0, 0, 0, kZ), (2, .istore 6, 0, 0, 0, 0, kZ)]
set_option maxRecDepth 100000 in
theorem oo0_kernelByFours_3 : okL m0_kernelByFours 3 bb0_kernelByFours_3 := okL_of _ _ (by decide +kernel) ⟨trivial, ⟨trivial, ⟨rfl, ⟨trivial, ⟨trivial, ⟨trivial, ⟨trivial, trivial⟩⟩⟩⟩⟩⟩⟩
def bb0_kernelByFours_15 : List PI := [(2, .iload 6, 0, 0, 0, 0, kZ), (1, .iconst 4, 0, 0, 0, 0, kZ), (3, .if_icmp .ge 33, 51, 0, 0, 0, kZ), (1, .iconst 2, 0, 0, 0, 0, kZ), (2, .iload 5, 0, 0, 0, 0, kZ), (1, .imul, 0, 0, 0, 0, kZ), (1, .lload_n 1, 0, 0, 0, 0, kZ), (2, .iload 4, 0, 0, 0, 0, kZ), (2, .iload 6, 0, 0, 0, 0, kZ), (1, .iadd, 0, 0, 0, 0, kZ), (3, .invokestatic 48, 2, 9, 0, 0, m9_blackAt), (3, .ifCond .eq 7, 41, 0, 0, 0, kZ), (1, .iconst 1, 0, 0, 0, 0, kZ), (3, .goto 4, 42, 0, 0, 0, kZ)]
set_option maxRecDepth 100000 in
theorem oo0_kernelByFours_15 : okL m0_kernelByFours 15 bb0_kernelByFours_15 := okL_of _ _ (by decide +kernel) ⟨trivial, ⟨trivial, ⟨rfl, ⟨trivial, ⟨trivial, ⟨trivial, ⟨trivial, ⟨trivial, ⟨trivial, ⟨trivial, ⟨⟨mok_m9_blackAt, ⟨by decide, by decide⟩, rfl, Or.inr lc_0_48⟩, ⟨rfl, ⟨trivial, ⟨rfl, trivial⟩⟩⟩⟩⟩⟩⟩⟩⟩⟩⟩⟩⟩⟩
def bb0_kernelByFours_41 : List PI := [(1, .iconst 0, 0, 0, 0, 0, kZ)]
set_option maxRecDepth 100000 in
theorem oo0_kernelByFours_41 : okL m0_kernelByFours 41 bb0_kernelByFours_41 := okL_of _ _ (by decide +kernel) ⟨trivial, trivial⟩
def bb0_kernelByFours_42 : List PI := [(1, .iadd, 0, 0, 0, 0, kZ), (2, .istore 5, 0, 0, 0, 0, kZ), (3, .iinc 6 1, 0, 0, 0, 0, kZ), (3, .goto (-33), 15, 0, 0, 0, kZ)]
set_option maxRecDepth 100000 in
theorem oo0_kernelByFours_42 : okL m0_kernelByFours 42 bb0_kernelByFours_42 := okL_of _ _ (by decide +kernel) ⟨trivial, ⟨trivial, ⟨trivial, ⟨rfl, trivial⟩⟩⟩⟩
def bb0_kernelByFours_51 : List PI := [(1, .aload_n 0, 0, 0, 0, 0, kZ), (2, .iload 5, 0, 0, 0, 0, kZ), (3, .invokevirtual 52, 1, 0, 0, 0, m0_addToKernel), (3, .iinc 4 4, 0, 0, 0, 0, kZ), (3, .goto (-57), 3, 0, 0, 0, kZ)]
set_option maxRecDepth 100000 in
theorem oo0_kernelByFours_51 : okL m0_kernelByFours 51 bb0_kernelByFours_51 := okL_of _ _ (by decide +kernel) ⟨trivial, ⟨trivial, ⟨⟨mok_m0_addToKernel, ⟨by decide, by decide⟩, rfl, by decide, Or.inl lc_0_52⟩, ⟨trivial, ⟨rfl, trivial⟩⟩⟩⟩⟩
def bb0_kernelByFours_63 : List PI := [(1, .return_, 0, 0, 0, 0, kZ)]
set_option maxRecDepth 100000 in
theorem oo0_kernelByFours_63 : okL m0_kernelByFours 63 bb0_kernelByFours_63 := okL_of _ _ (by decide +kernel) ⟨rfl, trivial⟩
def cd0_kernelByFours (t : Nat) : Option (List PI) := match t with
  | 0 => some bb0_kernelByFours_0
  | 41 => some bb0_kernelByFours_41
  | 42 => some bb0_kernelByFours_42
  | 51 => some bb0_kernelByFours_51
  | 63 => some bb0_kernelByFours_63
  | _ => none
theorem kd0_kernelByFours : ∀ t is, cd0_kernelByFours t = some is → okL m0_kernelByFours t is := by
  intro t is h
  unfold cd0_kernelByFours at h
  split at h <;> cases h
  · exact oo0_kernelByFours_0
  · exact oo0_kernelByFours_41
  · exact oo0_kernelByFours_42
  · exact oo0_kernelByFours_51
  · exact oo0_kernelByFours_63
theorem ff0_kernelByFours : mi_r m0_kernelByFours = none ∧ mi_l m0_kernelByFours = 7 ∧ mi_h m0_kernelByFours = [] ∧ (mi_rm m0_kernelByFours).cells = 0 ∧ (mi_rm m0_kernelByFours).slots = 0 ∧ (mi_rm m0_kernelByFours).locals = 54 ∧ cd0_kernelByFours 0 = some bb0_kernelByFours_0 ∧ cd0_kernelByFours 3 = none ∧ cd0_kernelByFours 15 = none ∧ cd0_kernelByFours 41 = some bb0_kernelByFours_41 ∧ cd0_kernelByFours 42 = some bb0_kernelByFours_42 ∧ cd0_kernelByFours 51 = some bb0_kernelByFours_51 ∧ cd0_kernelByFours 63 = some bb0_kernelByFours_63 ∧ (mi_rm m0_addToKernel).cells = 0 ∧ (mi_rm m0_addToKernel).slots = 0 ∧ (mi_rm m9_blackAt).cells = 0 ∧ (mi_rm m9_blackAt).slots = 0 := ⟨rfl, rfl, rfl, rfl, rfl, rfl, rfl, rfl, rfl, rfl, rfl, rfl, rfl, rfl, rfl, rfl, rfl⟩
def bb0_addRun_0 : List PI := [(1, .iload_n 1, 0, 0, 0, 0, kZ), (2, .bipush 14, 0, 0, 0, 0, kZ), (3, .if_icmp .ge 11, 14, 0, 0, 0, kZ), (1, .aload_n 0, 0, 0, 0, 0, kZ), (1, .iload_n 1, 0, 0, 0, 0, kZ), (3, .invokevirtual 52, 1, 0, 0, 0, m0_addToKernel), (3, .goto 25, 36, 0, 0, 0, kZ)]
set_option maxRecDepth 100000 in
theorem oo0_addRun_0 : okL m0_addRun 0 bb0_addRun_0 := okL_of _ _ (by decide +kernel) ⟨trivial, ⟨trivial, ⟨rfl, ⟨trivial, ⟨trivial, ⟨⟨mok_m0_addToKernel, ⟨by decide, by decide⟩, rfl, by decide, Or.inl lc_0_52⟩, ⟨rfl, trivial⟩⟩⟩⟩⟩⟩⟩
def bb0_addRun_14 : List PI := [(1, .aload_n 0, 0, 0, 0, 0, kZ), (2, .bipush 14, 0, 0, 0, 0, kZ), (3, .invokevirtual 52, 1, 0, 0, 0, m0_addToKernel), (1, .aload_n 0, 0, 0, 0, 0, kZ), (1, .iload_n 1, 0, 0, 0, 0, kZ), (2, .bipush 16, 0, 0, 0, 0, kZ), (1, .idiv, 0, 0, 0, 0, kZ), (3, .invokevirtual 52, 1, 0, 0, 0, m0_addToKernel), (1, .aload_n 0, 0, 0, 0, 0, kZ), (1, .iload_n 1, 0, 0, 0, 0, kZ), (2, .bipush 16, 0, 0, 0, 0, kZ), (1, .irem, 0, 0, 0, 0, kZ), (3, .invokevirtual 52, 1, 0, 0, 0, m0_addToKernel)]
set_option maxRecDepth 100000 in
theorem oo0_addRun_14 : okL m0_addRun 14 bb0_addRun_14 := okL_of _ _ (by decide +kernel) ⟨trivial, ⟨trivial, ⟨⟨mok_m0_addToKernel, ⟨by decide, by decide⟩, rfl, by decide, Or.inl lc_0_52⟩, ⟨trivial, ⟨trivial, ⟨trivial, ⟨trivial, ⟨⟨mok_m0_addToKernel, ⟨by decide, by decide⟩, rfl, by decide, Or.inl lc_0_52⟩, ⟨trivial, ⟨trivial, ⟨trivial, ⟨trivial, ⟨⟨mok_m0_addToKernel, ⟨by decide, by decide⟩, rfl, by decide, Or.inl lc_0_52⟩, trivial⟩⟩⟩⟩⟩⟩⟩⟩⟩⟩⟩⟩⟩
def bb0_addRun_36 : List PI := [(1, .return_, 0, 0, 0, 0, kZ)]
set_option maxRecDepth 100000 in
theorem oo0_addRun_36 : okL m0_addRun 36 bb0_addRun_36 := okL_of _ _ (by decide +kernel) ⟨rfl, trivial⟩
def cd0_addRun (t : Nat) : Option (List PI) := match t with
  | 0 => some bb0_addRun_0
  | 14 => some bb0_addRun_14
  | 36 => some bb0_addRun_36
  | _ => none
theorem kd0_addRun : ∀ t is, cd0_addRun t = some is → okL m0_addRun t is := by
  intro t is h
  unfold cd0_addRun at h
  split at h <;> cases h
  · exact oo0_addRun_0
  · exact oo0_addRun_14
  · exact oo0_addRun_36
theorem ff0_addRun : mi_r m0_addRun = none ∧ mi_l m0_addRun = 2 ∧ mi_h m0_addRun = [] ∧ (mi_rm m0_addRun).cells = 0 ∧ (mi_rm m0_addRun).slots = 0 ∧ (mi_rm m0_addRun).locals = 53 ∧ cd0_addRun 0 = some bb0_addRun_0 ∧ cd0_addRun 14 = some bb0_addRun_14 ∧ cd0_addRun 36 = some bb0_addRun_36 ∧ (mi_rm m0_addToKernel).cells = 0 ∧ (mi_rm m0_addToKernel).slots = 0 := ⟨rfl, rfl, rfl, rfl, rfl, rfl, rfl, rfl, rfl, rfl, rfl⟩
def bb0_kernelByRuns_0 : List PI := [(1, .iconst 0, 0, 0, 0, 0, kZ), (2, .istore 4, 0, 0, 0, 0, kZ), (1, .iconst 0, 0, 0, 0, 0, kZ), (2, .istore 5, 0, 0, 0, 0, kZ), (1, .iconst 0, 0, 0, 0, 0, kZ), (2, .istore 6, 0, 0, 0, 0, kZ)]
set_option maxRecDepth 100000 in
theorem oo0_kernelByRuns_0 : okL m0_kernelByRuns 0 bb0_kernelByRuns_0 := okL_of _ _ (by decide +kernel) ⟨trivial, ⟨trivial, ⟨trivial, ⟨trivial, ⟨trivial, ⟨trivial, trivial⟩⟩⟩⟩⟩⟩
def bb0_kernelByRuns_9 : List PI := [(2, .iload 6, 0, 0, 0, 0, kZ), (1, .iload_n 3, 0, 0, 0, 0, kZ), (3, .if_icmp .ge 44, 56, 0, 0, 0, kZ), (1, .lload_n 1, 0, 0, 0, 0, kZ), (2, .iload 6, 0, 0, 0, 0, kZ), (3, .invokestatic 48, 2, 9, 0, 0, m9_blackAt), (2, .iload 4, 0, 0, 0, 0, kZ), (3, .if_icmp .eq 24, 47, 0, 0, 0, kZ), (1, .aload_n 0, 0, 0, 0, 0, kZ), (2, .iload 5, 0, 0, 0, 0, kZ), (3, .invokevirtual 55, 1, 0, 0, 0, m0_addRun), (2, .iload 4, 0, 0, 0, 0, kZ), (3, .ifCond .ne 7, 41, 0, 0, 0, kZ), (1, .iconst 1, 0, 0, 0, 0, kZ), (3, .goto 4, 42, 0, 0, 0, kZ)]
set_option maxRecDepth 100000 in
theorem oo0_kernelByRuns_9 : okL m0_kernelByRuns 9 bb0_kernelByRuns_9 := okL_of _ _ (by decide +kernel) ⟨trivial, ⟨trivial, ⟨rfl, ⟨trivial, ⟨trivial, ⟨⟨mok_m9_blackAt, ⟨by decide, by decide⟩, rfl, Or.inr lc_0_48⟩, ⟨trivial, ⟨rfl, ⟨trivial, ⟨trivial, ⟨⟨mok_m0_addRun, ⟨by decide, by decide⟩, rfl, by decide, Or.inl lc_0_55⟩, ⟨trivial, ⟨rfl, ⟨trivial, ⟨rfl, trivial⟩⟩⟩⟩⟩⟩⟩⟩⟩⟩⟩⟩⟩⟩⟩
def bb0_kernelByRuns_41 : List PI := [(1, .iconst 0, 0, 0, 0, 0, kZ)]
set_option maxRecDepth 100000 in
theorem oo0_kernelByRuns_41 : okL m0_kernelByRuns 41 bb0_kernelByRuns_41 := okL_of _ _ (by decide +kernel) ⟨trivial, trivial⟩
def bb0_kernelByRuns_42 : List PI := [(2, .istore 4, 0, 0, 0, 0, kZ), (1, .iconst 0, 0, 0, 0, 0, kZ), (2, .istore 5, 0, 0, 0, 0, kZ)]
set_option maxRecDepth 100000 in
theorem oo0_kernelByRuns_42 : okL m0_kernelByRuns 42 bb0_kernelByRuns_42 := okL_of _ _ (by decide +kernel) ⟨trivial, ⟨trivial, ⟨trivial, trivial⟩⟩⟩
def bb0_kernelByRuns_47 : List PI := [(3, .iinc 5 1, 0, 0, 0, 0, kZ), (3, .iinc 6 1, 0, 0, 0, 0, kZ), (3, .goto (-44), 9, 0, 0, 0, kZ)]
set_option maxRecDepth 100000 in
theorem oo0_kernelByRuns_47 : okL m0_kernelByRuns 47 bb0_kernelByRuns_47 := okL_of _ _ (by decide +kernel) ⟨trivial, ⟨trivial, ⟨rfl, trivial⟩⟩⟩
def bb0_kernelByRuns_56 : List PI := [(1, .aload_n 0, 0, 0, 0, 0, kZ), (2, .iload 5, 0, 0, 0, 0, kZ), (3, .invokevirtual 55, 1, 0, 0, 0, m0_addRun), (1, .return_, 0, 0, 0, 0, kZ)]
set_option maxRecDepth 100000 in
theorem oo0_kernelByRuns_56 : okL m0_kernelByRuns 56 bb0_kernelByRuns_56 := okL_of _ _ (by decide +kernel) ⟨trivial, ⟨trivial, ⟨⟨mok_m0_addRun, ⟨by decide, by decide⟩, rfl, by decide, Or.inl lc_0_55⟩, ⟨rfl, trivial⟩⟩⟩⟩
def cd0_kernelByRuns (t : Nat) : Option (List PI) := match t with
  | 0 => some bb0_kernelByRuns_0
  | 41 => some bb0_kernelByRuns_41
  | 42 => some bb0_kernelByRuns_42
  | 47 => some bb0_kernelByRuns_47
  | 56 => some bb0_kernelByRuns_56
  | _ => none
theorem kd0_kernelByRuns : ∀ t is, cd0_kernelByRuns t = some is → okL m0_kernelByRuns t is := by
  intro t is h
  unfold cd0_kernelByRuns at h
  split at h <;> cases h
  · exact oo0_kernelByRuns_0
  · exact oo0_kernelByRuns_41
  · exact oo0_kernelByRuns_42
  · exact oo0_kernelByRuns_47
  · exact oo0_kernelByRuns_56
theorem ff0_kernelByRuns : mi_r m0_kernelByRuns = none ∧ mi_l m0_kernelByRuns = 7 ∧ mi_h m0_kernelByRuns = [] ∧ (mi_rm m0_kernelByRuns).cells = 0 ∧ (mi_rm m0_kernelByRuns).slots = 0 ∧ (mi_rm m0_kernelByRuns).locals = 74 ∧ cd0_kernelByRuns 0 = some bb0_kernelByRuns_0 ∧ cd0_kernelByRuns 9 = none ∧ cd0_kernelByRuns 41 = some bb0_kernelByRuns_41 ∧ cd0_kernelByRuns 42 = some bb0_kernelByRuns_42 ∧ cd0_kernelByRuns 47 = some bb0_kernelByRuns_47 ∧ cd0_kernelByRuns 56 = some bb0_kernelByRuns_56 ∧ (mi_rm m0_addRun).cells = 0 ∧ (mi_rm m0_addRun).slots = 0 ∧ (mi_rm m9_blackAt).cells = 0 ∧ (mi_rm m9_blackAt).slots = 0 := ⟨rfl, rfl, rfl, rfl, rfl, rfl, rfl, rfl, rfl, rfl, rfl, rfl, rfl, rfl, rfl, rfl⟩
def bb0_put_0 : List PI := [(1, .aload_n 0, 0, 0, 0, 0, kZ), (3, .getfield 22, 0, 3, 0, 0, kZ), (3, .ifCond .lt 35, 39, 0, 0, 0, kZ), (1, .aload_n 0, 0, 0, 0, 0, kZ), (3, .getfield 22, 0, 3, 0, 0, kZ), (1, .aload_n 0, 0, 0, 0, 0, kZ), (3, .getfield 19, 0, 2, 0, 0, kZ), (1, .arraylength, 0, 0, 0, 0, kZ), (3, .if_icmp .ge 23, 39, 0, 0, 0, kZ), (1, .aload_n 0, 0, 0, 0, 0, kZ), (3, .getfield 19, 0, 2, 0, 0, kZ), (1, .aload_n 0, 0, 0, 0, 0, kZ), (3, .getfield 22, 0, 3, 0, 0, kZ), (1, .iload_n 1, 0, 0, 0, 0, kZ), (1, .iastore, 0, 0, 0, 0, kZ), (1, .aload_n 0, 0, 0, 0, 0, kZ), (1, .dup, 0, 0, 0, 0, kZ), (3, .getfield 22, 0, 3, 0, 0, kZ), (1, .iconst 1, 0, 0, 0, 0, kZ), (1, .iadd, 0, 0, 0, 0, kZ), (3, .putfield 22, 0, 3, 0, 0, kZ)]
set_option maxRecDepth 100000 in
theorem oo0_put_0 : okL m0_put 0 bb0_put_0 := okL_of _ _ (by decide +kernel) ⟨trivial, ⟨lf_0_22, ⟨rfl, ⟨trivial, ⟨lf_0_22, ⟨trivial, ⟨lf_0_19, ⟨trivial, ⟨rfl, ⟨trivial, ⟨lf_0_19, ⟨trivial, ⟨lf_0_22, ⟨trivial, ⟨trivial, ⟨trivial, ⟨trivial, ⟨lf_0_22, ⟨trivial, ⟨trivial, ⟨lp_0_22 _, trivial⟩⟩⟩⟩⟩⟩⟩⟩⟩⟩⟩⟩⟩⟩⟩⟩⟩⟩⟩⟩⟩
def bb0_put_39 : List PI := [(1, .return_, 0, 0, 0, 0, kZ)]
set_option maxRecDepth 100000 in
theorem oo0_put_39 : okL m0_put 39 bb0_put_39 := okL_of _ _ (by decide +kernel) ⟨rfl, trivial⟩
def cd0_put (t : Nat) : Option (List PI) := match t with
  | 0 => some bb0_put_0
  | 39 => some bb0_put_39
  | _ => none
theorem kd0_put : ∀ t is, cd0_put t = some is → okL m0_put t is := by
  intro t is h
  unfold cd0_put at h
  split at h <;> cases h
  · exact oo0_put_0
  · exact oo0_put_39
theorem ff0_put : mi_r m0_put = none ∧ mi_l m0_put = 2 ∧ mi_h m0_put = [] ∧ (mi_rm m0_put).cells = 0 ∧ (mi_rm m0_put).slots = 0 ∧ (mi_rm m0_put).locals = 32 ∧ cd0_put 0 = some bb0_put_0 ∧ cd0_put 39 = some bb0_put_39 := ⟨rfl, rfl, rfl, rfl, rfl, rfl, rfl, rfl⟩
def bb2_rowOf_0 : List PI := [(1, .iload_n 1, 0, 0, 0, 0, kZ), (3, .ifCond .lt 29, 30, 0, 0, 0, kZ), (1, .iload_n 1, 0, 0, 0, 0, kZ), (1, .aload_n 0, 0, 0, 0, 0, kZ), (3, .getfield 18, 2, 2, 0, 0, kZ), (3, .if_icmp .ge 21, 30, 0, 0, 0, kZ), (1, .iload_n 1, 0, 0, 0, 0, kZ), (1, .aload_n 0, 0, 0, 0, 0, kZ), (3, .getfield 21, 2, 3, 0, 0, kZ), (1, .arraylength, 0, 0, 0, 0, kZ), (3, .if_icmp .ge 12, 30, 0, 0, 0, kZ), (1, .aload_n 0, 0, 0, 0, 0, kZ), (3, .getfield 21, 2, 3, 0, 0, kZ), (1, .iload_n 1, 0, 0, 0, 0, kZ), (1, .laload, 0, 0, 0, 0, kZ), (3, .goto 4, 31, 0, 0, 0, kZ)]
set_option maxRecDepth 100000 in
theorem oo2_rowOf_0 : okL m2_rowOf 0 bb2_rowOf_0 := okL_of _ _ (by decide +kernel) ⟨trivial, ⟨rfl, ⟨trivial, ⟨trivial, ⟨lf_2_18, ⟨rfl, ⟨trivial, ⟨trivial, ⟨lf_2_21, ⟨trivial, ⟨rfl, ⟨trivial, ⟨lf_2_21, ⟨trivial, ⟨trivial, ⟨rfl, trivial⟩⟩⟩⟩⟩⟩⟩⟩⟩⟩⟩⟩⟩⟩⟩⟩
def bb2_rowOf_30 : List PI := [(1, .lconst 0, 0, 0, 0, 0, kZ)]
set_option maxRecDepth 100000 in
theorem oo2_rowOf_30 : okL m2_rowOf 30 bb2_rowOf_30 := okL_of _ _ (by decide +kernel) ⟨trivial, trivial⟩
def bb2_rowOf_31 : List PI := [(1, .lreturn, 0, 0, 0, 0, kZ)]
set_option maxRecDepth 100000 in
theorem oo2_rowOf_31 : okL m2_rowOf 31 bb2_rowOf_31 := okL_of _ _ (by decide +kernel) ⟨rfl, trivial⟩
def cd2_rowOf (t : Nat) : Option (List PI) := match t with
  | 0 => some bb2_rowOf_0
  | 30 => some bb2_rowOf_30
  | 31 => some bb2_rowOf_31
  | _ => none
theorem kd2_rowOf : ∀ t is, cd2_rowOf t = some is → okL m2_rowOf t is := by
  intro t is h
  unfold cd2_rowOf at h
  split at h <;> cases h
  · exact oo2_rowOf_0
  · exact oo2_rowOf_30
  · exact oo2_rowOf_31
theorem ff2_rowOf : mi_r m2_rowOf = (some .long) ∧ mi_l m2_rowOf = 2 ∧ mi_h m2_rowOf = [] ∧ (mi_rm m2_rowOf).cells = 0 ∧ (mi_rm m2_rowOf).slots = 0 ∧ (mi_rm m2_rowOf).locals = 32 ∧ cd2_rowOf 0 = some bb2_rowOf_0 ∧ cd2_rowOf 30 = some bb2_rowOf_30 ∧ cd2_rowOf 31 = some bb2_rowOf_31 := ⟨rfl, rfl, rfl, rfl, rfl, rfl, rfl, rfl, rfl⟩
def bb2_toCode_0 : List PI := [(1, .iload_n 2, 0, 0, 0, 0, kZ), (1, .iconst 2, 0, 0, 0, 0, kZ), (3, .if_icmp .ne 19, 21, 0, 0, 0, kZ), (1, .aload_n 0, 0, 0, 0, 0, kZ), (1, .iload_n 1, 0, 0, 0, 0, kZ), (3, .invokevirtual 25, 1, 2, 0, 0, m2_rowOf), (1, .aload_n 0, 0, 0, 0, 0, kZ), (1, .iload_n 1, 0, 0, 0, 0, kZ), (1, .iconst 1, 0, 0, 0, 0, kZ), (1, .isub, 0, 0, 0, 0, kZ), (3, .invokevirtual 25, 1, 2, 0, 0, m2_rowOf), (1, .lxor, 0, 0, 0, 0, kZ), (3, .goto 8, 26, 0, 0, 0, kZ)]
set_option maxRecDepth 100000 in
theorem oo2_toCode_0 : okL m2_toCode 0 bb2_toCode_0 := okL_of _ _ (by decide +kernel) ⟨trivial, ⟨trivial, ⟨rfl, ⟨trivial, ⟨trivial, ⟨⟨mok_m2_rowOf, ⟨by decide, by decide⟩, rfl, by decide, Or.inl lc_2_25⟩, ⟨trivial, ⟨trivial, ⟨trivial, ⟨trivial, ⟨⟨mok_m2_rowOf, ⟨by decide, by decide⟩, rfl, by decide, Or.inl lc_2_25⟩, ⟨trivial, ⟨rfl, trivial⟩⟩⟩⟩⟩⟩⟩⟩⟩⟩⟩⟩⟩
def bb2_toCode_21 : List PI := [(1, .aload_n 0, 0, 0, 0, 0, kZ), (1, .iload_n 1, 0, 0, 0, 0, kZ), (3, .invokevirtual 25, 1, 2, 0, 0, m2_rowOf)]
set_option maxRecDepth 100000 in
theorem oo2_toCode_21 : okL m2_toCode 21 bb2_toCode_21 := okL_of _ _ (by decide +kernel) ⟨trivial, ⟨trivial, ⟨⟨mok_m2_rowOf, ⟨by decide, by decide⟩, rfl, by decide, Or.inl lc_2_25⟩, trivial⟩⟩⟩
def bb2_toCode_26 : List PI := [(1, .lreturn, 0, 0, 0, 0, kZ)]
set_option maxRecDepth 100000 in
theorem oo2_toCode_26 : okL m2_toCode 26 bb2_toCode_26 := okL_of _ _ (by decide +kernel) ⟨rfl, trivial⟩
def cd2_toCode (t : Nat) : Option (List PI) := match t with
  | 0 => some bb2_toCode_0
  | 21 => some bb2_toCode_21
  | 26 => some bb2_toCode_26
  | _ => none
theorem kd2_toCode : ∀ t is, cd2_toCode t = some is → okL m2_toCode t is := by
  intro t is h
  unfold cd2_toCode at h
  split at h <;> cases h
  · exact oo2_toCode_0
  · exact oo2_toCode_21
  · exact oo2_toCode_26
theorem ff2_toCode : mi_r m2_toCode = (some .long) ∧ mi_l m2_toCode = 3 ∧ mi_h m2_toCode = [] ∧ (mi_rm m2_toCode).cells = 0 ∧ (mi_rm m2_toCode).slots = 0 ∧ (mi_rm m2_toCode).locals = 53 ∧ cd2_toCode 0 = some bb2_toCode_0 ∧ cd2_toCode 21 = some bb2_toCode_21 ∧ cd2_toCode 26 = some bb2_toCode_26 ∧ (mi_rm m2_rowOf).cells = 0 ∧ (mi_rm m2_rowOf).slots = 0 := ⟨rfl, rfl, rfl, rfl, rfl, rfl, rfl, rfl, rfl, rfl, rfl⟩
def bb0_write_0 : List PI := [(1, .aload_n 1, 0, 0, 0, 0, kZ), (1, .iload_n 2, 0, 0, 0, 0, kZ), (1, .iload_n 3, 0, 0, 0, 0, kZ), (3, .invokevirtual 28, 2, 2, 0, 0, m2_toCode), (2, .lstore 4, 0, 0, 0, 0, kZ), (1, .aload_n 0, 0, 0, 0, 0, kZ), (1, .iconst 0, 0, 0, 0, 0, kZ), (3, .putfield 15, 0, 1, 0, 0, kZ), (1, .iload_n 3, 0, 0, 0, 0, kZ), (1, .iconst 1, 0, 0, 0, 0, kZ), (3, .if_icmp .ne 16, 31, 0, 0, 0, kZ), (1, .aload_n 0, 0, 0, 0, 0, kZ), (2, .lload 4, 0, 0, 0, 0, kZ), (1, .aload_n 1, 0, 0, 0, 0, kZ), (3, .getfield 34, 2, 0, 0, 0, kZ), (3, .invokevirtual 37, 2, 0, 0, 0, m0_kernelByFours), (3, .goto 13, 41, 0, 0, 0, kZ)]
set_option maxRecDepth 100000 in
theorem oo0_write_0 : okL m0_write 0 bb0_write_0 := okL_of _ _ (by decide +kernel) ⟨trivial, ⟨trivial, ⟨trivial, ⟨⟨mok_m2_toCode, ⟨by decide, by decide⟩, rfl, by decide, Or.inr lc_0_28⟩, ⟨trivial, ⟨trivial, ⟨trivial, ⟨lp_0_15 _, ⟨trivial, ⟨trivial, ⟨rfl, ⟨trivial, ⟨trivial, ⟨trivial, ⟨lf_0_34, ⟨⟨mok_m0_kernelByFours, ⟨by decide, by decide⟩, rfl, by decide, Or.inl lc_0_37⟩, ⟨rfl, trivial⟩⟩⟩⟩⟩⟩⟩⟩⟩⟩⟩⟩⟩⟩⟩⟩⟩
def bb0_write_31 : List PI := [(1, .aload_n 0, 0, 0, 0, 0, kZ), (2, .lload 4, 0, 0, 0, 0, kZ), (1, .aload_n 1, 0, 0, 0, 0, kZ), (3, .getfield 34, 2, 0, 0, 0, kZ), (3, .invokevirtual 41, 2, 0, 0, 0, m0_kernelByRuns)]
set_option maxRecDepth 100000 in
theorem oo0_write_31 : okL m0_write 31 bb0_write_31 := okL_of _ _ (by decide +kernel) ⟨trivial, ⟨trivial, ⟨trivial, ⟨lf_0_34, ⟨⟨mok_m0_kernelByRuns, ⟨by decide, by decide⟩, rfl, by decide, Or.inl lc_0_41⟩, trivial⟩⟩⟩⟩⟩
def bb0_write_41 : List PI := [(1, .aload_n 0, 0, 0, 0, 0, kZ), (1, .iconst 0, 0, 0, 0, 0, kZ), (3, .putfield 22, 0, 3, 0, 0, kZ), (1, .aload_n 0, 0, 0, 0, 0, kZ), (2, .bipush 15, 0, 0, 0, 0, kZ), (3, .invokevirtual 44, 1, 0, 0, 0, m0_put), (1, .aload_n 0, 0, 0, 0, 0, kZ), (1, .iconst 0, 0, 0, 0, 0, kZ), (3, .invokevirtual 44, 1, 0, 0, 0, m0_put), (1, .aload_n 0, 0, 0, 0, 0, kZ), (1, .iload_n 2, 0, 0, 0, 0, kZ), (3, .invokevirtual 44, 1, 0, 0, 0, m0_put), (1, .aload_n 0, 0, 0, 0, 0, kZ), (1, .iload_n 3, 0, 0, 0, 0, kZ), (3, .invokevirtual 44, 1, 0, 0, 0, m0_put), (1, .iload_n 2, 0, 0, 0, 0, kZ), (1, .iload_n 3, 0, 0, 0, 0, kZ), (1, .iadd, 0, 0, 0, 0, kZ), (2, .istore 6, 0, 0, 0, 0, kZ), (1, .iconst 0, 0, 0, 0, 0, kZ), (2, .istore 7, 0, 0, 0, 0, kZ)]
set_option maxRecDepth 100000 in
theorem oo0_write_41 : okL m0_write 41 bb0_write_41 := okL_of _ _ (by decide +kernel) ⟨trivial, ⟨trivial, ⟨lp_0_22 _, ⟨trivial, ⟨trivial, ⟨⟨mok_m0_put, ⟨by decide, by decide⟩, rfl, by decide, Or.inl lc_0_44⟩, ⟨trivial, ⟨trivial, ⟨⟨mok_m0_put, ⟨by decide, by decide⟩, rfl, by decide, Or.inl lc_0_44⟩, ⟨trivial, ⟨trivial, ⟨⟨mok_m0_put, ⟨by decide, by decide⟩, rfl, by decide, Or.inl lc_0_44⟩, ⟨trivial, ⟨trivial, ⟨⟨mok_m0_put, ⟨by decide, by decide⟩, rfl, by decide, Or.inl lc_0_44⟩, ⟨trivial, ⟨trivial, ⟨trivial, ⟨trivial, ⟨trivial, ⟨trivial, trivial⟩⟩⟩⟩⟩⟩⟩⟩⟩⟩⟩⟩⟩⟩⟩⟩⟩⟩⟩⟩⟩
def bb0_write_75 : List PI := [(2, .iload 7, 0, 0, 0, 0, kZ), (1, .aload_n 0, 0, 0, 0, 0, kZ), (3, .getfield 15, 0, 1, 0, 0, kZ), (3, .if_icmp .ge 59, 140, 0, 0, 0, kZ), (2, .iload 7, 0, 0, 0, 0, kZ), (1, .aload_n 0, 0, 0, 0, 0, kZ), (3, .getfield 9, 0, 0, 0, 0, kZ), (1, .arraylength, 0, 0, 0, 0, kZ), (3, .if_icmp .ge 49, 140, 0, 0, 0, kZ), (2, .iload 6, 0, 0, 0, 0, kZ), (1, .aload_n 0, 0, 0, 0, 0, kZ), (3, .getfield 9, 0, 0, 0, 0, kZ), (2, .iload 7, 0, 0, 0, 0, kZ), (1, .iaload, 0, 0, 0, 0, kZ), (1, .iadd, 0, 0, 0, 0, kZ), (2, .istore 6, 0, 0, 0, 0, kZ), (1, .aload_n 0, 0, 0, 0, 0, kZ), (1, .aload_n 0, 0, 0, 0, 0, kZ), (3, .getfield 9, 0, 0, 0, 0, kZ), (2, .iload 7, 0, 0, 0, 0, kZ), (1, .iaload, 0, 0, 0, 0, kZ), (3, .invokevirtual 44, 1, 0, 0, 0, m0_put), (1, .aload_n 0, 0, 0, 0, 0, kZ), (3, .getfield 9, 0, 0, 0, 0, kZ), (2, .iload 7, 0, 0, 0, 0, kZ), (1, .iaload, 0, 0, 0, 0, kZ), (2, .bipush 15, 0, 0, 0, 0, kZ), (3, .if_icmp .ne 8, 134, 0, 0, 0, kZ), (1, .aload_n 0, 0, 0, 0, 0, kZ), (1, .iconst 1, 0, 0, 0, 0, kZ), (3, .invokevirtual 44, 1, 0, 0, 0, m0_put)]
set_option maxRecDepth 100000 in
theorem oo0_write_75 : okL m0_write 75 bb0_write_75 := okL_of _ _ (by decide +kernel) ⟨trivial, ⟨trivial, ⟨lf_0_15, ⟨rfl, ⟨trivial, ⟨trivial, ⟨lf_0_9, ⟨trivial, ⟨rfl, ⟨trivial, ⟨trivial, ⟨lf_0_9, ⟨trivial, ⟨trivial, ⟨trivial, ⟨trivial, ⟨trivial, ⟨trivial, ⟨lf_0_9, ⟨trivial, ⟨trivial, ⟨⟨mok_m0_put, ⟨by decide, by decide⟩, rfl, by decide, Or.inl lc_0_44⟩, ⟨trivial, ⟨lf_0_9, ⟨trivial, ⟨trivial, ⟨trivial, ⟨rfl, ⟨trivial, ⟨trivial, ⟨⟨mok_m0_put, ⟨by decide, by decide⟩, rfl, by decide, Or.inl lc_0_44⟩, trivial⟩⟩⟩⟩⟩⟩⟩⟩⟩⟩⟩⟩⟩⟩⟩⟩⟩⟩⟩⟩⟩⟩⟩⟩⟩⟩⟩⟩⟩⟩⟩
def bb0_write_134 : List PI := [(3, .iinc 7 1, 0, 0, 0, 0, kZ), (3, .goto (-62), 75, 0, 0, 0, kZ)]
set_option maxRecDepth 100000 in
theorem oo0_write_134 : okL m0_write 134 bb0_write_134 := okL_of _ _ (by decide +kernel) ⟨trivial, ⟨rfl, trivial⟩⟩
def bb0_write_140 : List PI := [(1, .aload_n 0, 0, 0, 0, 0, kZ), (2, .iload 6, 0, 0, 0, 0, kZ), (2, .bipush 15, 0, 0, 0, 0, kZ), (1, .irem, 0, 0, 0, 0, kZ), (3, .putfield 25, 0, 4, 0, 0, kZ), (1, .aload_n 0, 0, 0, 0, 0, kZ), (1, .aload_n 0, 0, 0, 0, 0, kZ), (3, .getfield 25, 0, 4, 0, 0, kZ), (3, .invokevirtual 44, 1, 0, 0, 0, m0_put), (1, .return_, 0, 0, 0, 0, kZ)]
set_option maxRecDepth 100000 in
theorem oo0_write_140 : okL m0_write 140 bb0_write_140 := okL_of _ _ (by decide +kernel) ⟨trivial, ⟨trivial, ⟨trivial, ⟨trivial, ⟨lp_0_25 _, ⟨trivial, ⟨trivial, ⟨lf_0_25, ⟨⟨mok_m0_put, ⟨by decide, by decide⟩, rfl, by decide, Or.inl lc_0_44⟩, ⟨rfl, trivial⟩⟩⟩⟩⟩⟩⟩⟩⟩⟩
def cd0_write (t : Nat) : Option (List PI) := match t with
  | 0 => some bb0_write_0
  | 31 => some bb0_write_31
  | 41 => some bb0_write_41
  | 134 => some bb0_write_134
  | 140 => some bb0_write_140
  | _ => none
theorem kd0_write : ∀ t is, cd0_write t = some is → okL m0_write t is := by
  intro t is h
  unfold cd0_write at h
  split at h <;> cases h
  · exact oo0_write_0
  · exact oo0_write_31
  · exact oo0_write_41
  · exact oo0_write_134
  · exact oo0_write_140
theorem ff0_write : mi_r m0_write = none ∧ mi_l m0_write = 8 ∧ mi_h m0_write = [] ∧ (mi_rm m0_write).cells = 0 ∧ (mi_rm m0_write).slots = 0 ∧ (mi_rm m0_write).locals = 100 ∧ cd0_write 0 = some bb0_write_0 ∧ cd0_write 31 = some bb0_write_31 ∧ cd0_write 41 = some bb0_write_41 ∧ cd0_write 75 = none ∧ cd0_write 134 = some bb0_write_134 ∧ cd0_write 140 = some bb0_write_140 ∧ (mi_rm m0_kernelByFours).cells = 0 ∧ (mi_rm m0_kernelByFours).slots = 0 ∧ (mi_rm m0_kernelByRuns).cells = 0 ∧ (mi_rm m0_kernelByRuns).slots = 0 ∧ (mi_rm m0_put).cells = 0 ∧ (mi_rm m0_put).slots = 0 ∧ (mi_rm m2_toCode).cells = 0 ∧ (mi_rm m2_toCode).slots = 0 := ⟨rfl, rfl, rfl, rfl, rfl, rfl, rfl, rfl, rfl, rfl, rfl, rfl, rfl, rfl, rfl, rfl, rfl, rfl, rfl, rfl⟩
def bb2_init_0 : List PI := [(1, .aload_n 0, 0, 0, 0, 0, kZ), (3, .invokespecial 3, 0, 0, 1, 0, kZ), (1, .aload_n 0, 0, 0, 0, 0, kZ), (2, .bipush 24, 0, 0, 0, 0, kZ), (3, .putfield 9, 2, 0, 0, 0, kZ), (1, .aload_n 0, 0, 0, 0, 0, kZ), (1, .iconst 3, 0, 0, 0, 0, kZ), (3, .putfield 15, 2, 1, 0, 0, kZ), (1, .aload_n 0, 0, 0, 0, 0, kZ), (1, .iconst 0, 0, 0, 0, 0, kZ), (3, .putfield 18, 2, 2, 0, 0, kZ), (1, .aload_n 0, 0, 0, 0, 0, kZ), (2, .bipush 10, 0, 0, 0, 0, kZ), (2, .newarray .long, 1, 0, 0, 0, kZ), (3, .putfield 21, 2, 3, 0, 0, kZ), (1, .return_, 0, 0, 0, 0, kZ)]
set_option maxRecDepth 100000 in
theorem oo2_init_0 : okL m2_init 0 bb2_init_0 := okL_of _ _ (by decide +kernel) ⟨trivial, ⟨⟨lo_2_3, by decide⟩, ⟨trivial, ⟨trivial, ⟨lp_2_9 _, ⟨trivial, ⟨trivial, ⟨lp_2_15 _, ⟨trivial, ⟨trivial, ⟨lp_2_18 _, ⟨trivial, ⟨trivial, ⟨la_1, ⟨lp_2_21i, ⟨rfl, trivial⟩⟩⟩⟩⟩⟩⟩⟩⟩⟩⟩⟩⟩⟩⟩⟩
def cd2_init (t : Nat) : Option (List PI) := match t with
  | 0 => some bb2_init_0
  | _ => none
theorem kd2_init : ∀ t is, cd2_init t = some is → okL m2_init t is := by
  intro t is h
  unfold cd2_init at h
  split at h <;> cases h
  · exact oo2_init_0
theorem ff2_init : mi_r m2_init = none ∧ mi_l m2_init = 1 ∧ mi_h m2_init = [] ∧ (mi_rm m2_init).cells = 1 ∧ (mi_rm m2_init).slots = 10 ∧ (mi_rm m2_init).locals = 32 ∧ cd2_init 0 = some bb2_init_0 := ⟨rfl, rfl, rfl, rfl, rfl, rfl, rfl⟩
def bb6_init_0 : List PI := [(1, .aload_n 0, 0, 0, 0, 0, kZ), (3, .invokespecial 3, 0, 0, 1, 0, kZ), (1, .aload_n 0, 0, 0, 0, 0, kZ), (1, .iconst 0, 0, 0, 0, 0, kZ), (3, .putfield 9, 6, 0, 0, 0, kZ), (1, .aload_n 0, 0, 0, 0, 0, kZ), (2, .bipush 10, 0, 0, 0, 0, kZ), (2, .newarray .long, 1, 0, 0, 0, kZ), (3, .putfield 15, 6, 1, 0, 0, kZ), (1, .aload_n 0, 0, 0, 0, 0, kZ), (1, .iconst 0, 0, 0, 0, 0, kZ), (3, .putfield 19, 6, 2, 0, 0, kZ), (1, .aload_n 0, 0, 0, 0, 0, kZ), (2, .bipush 20, 0, 0, 0, 0, kZ), (2, .newarray .int, 0, 0, 0, 0, kZ), (3, .putfield 22, 6, 3, 0, 0, kZ), (1, .aload_n 0, 0, 0, 0, 0, kZ), (2, .bipush 20, 0, 0, 0, 0, kZ), (2, .newarray .int, 0, 0, 0, 0, kZ), (3, .putfield 26, 6, 4, 0, 0, kZ), (1, .return_, 0, 0, 0, 0, kZ)]
set_option maxRecDepth 100000 in
theorem oo6_init_0 : okL m6_init 0 bb6_init_0 := okL_of _ _ (by decide +kernel) ⟨trivial, ⟨⟨lo_6_3, by decide⟩, ⟨trivial, ⟨trivial, ⟨lp_6_9 _, ⟨trivial, ⟨trivial, ⟨la_1, ⟨lp_6_15i, ⟨trivial, ⟨trivial, ⟨lp_6_19 _, ⟨trivial, ⟨trivial, ⟨la_0, ⟨lp_6_22i, ⟨trivial, ⟨trivial, ⟨la_0, ⟨lp_6_26i, ⟨rfl, trivial⟩⟩⟩⟩⟩⟩⟩⟩⟩⟩⟩⟩⟩⟩⟩⟩⟩⟩⟩⟩⟩
def cd6_init (t : Nat) : Option (List PI) := match t with
  | 0 => some bb6_init_0
  | _ => none
theorem kd6_init : ∀ t is, cd6_init t = some is → okL m6_init t is := by
  intro t is h
  unfold cd6_init at h
  split at h <;> cases h
  · exact oo6_init_0
theorem ff6_init : mi_r m6_init = none ∧ mi_l m6_init = 1 ∧ mi_h m6_init = [] ∧ (mi_rm m6_init).cells = 3 ∧ (mi_rm m6_init).slots = 50 ∧ (mi_rm m6_init).locals = 32 ∧ cd6_init 0 = some bb6_init_0 := ⟨rfl, rfl, rfl, rfl, rfl, rfl, rfl⟩
def bb8_init_0 : List PI := [(1, .aload_n 0, 0, 0, 0, 0, kZ), (3, .invokespecial 3, 0, 0, 1, 0, kZ), (1, .aload_n 0, 0, 0, 0, 0, kZ), (1, .iconst 0, 0, 0, 0, 0, kZ), (3, .putfield 9, 8, 0, 0, 0, kZ), (1, .aload_n 0, 0, 0, 0, 0, kZ), (3, .sipush 500, 0, 0, 0, 0, kZ), (2, .newarray .int, 0, 0, 0, 0, kZ), (3, .putfield 15, 8, 1, 0, 0, kZ), (1, .return_, 0, 0, 0, 0, kZ)]
set_option maxRecDepth 100000 in
theorem oo8_init_0 : okL m8_init 0 bb8_init_0 := okL_of _ _ (by decide +kernel) ⟨trivial, ⟨⟨lo_8_3, by decide⟩, ⟨trivial, ⟨trivial, ⟨lp_8_9 _, ⟨trivial, ⟨trivial, ⟨la_0, ⟨lp_8_15i, ⟨rfl, trivial⟩⟩⟩⟩⟩⟩⟩⟩⟩⟩
def cd8_init (t : Nat) : Option (List PI) := match t with
  | 0 => some bb8_init_0
  | _ => none
theorem kd8_init : ∀ t is, cd8_init t = some is → okL m8_init t is := by
  intro t is h
  unfold cd8_init at h
  split at h <;> cases h
  · exact oo8_init_0
theorem ff8_init : mi_r m8_init = none ∧ mi_l m8_init = 1 ∧ mi_h m8_init = [] ∧ (mi_rm m8_init).cells = 1 ∧ (mi_rm m8_init).slots = 500 ∧ (mi_rm m8_init).locals = 32 ∧ cd8_init 0 = some bb8_init_0 := ⟨rfl, rfl, rfl, rfl, rfl, rfl, rfl⟩
def bb7_init_0 : List PI := [(1, .aload_n 0, 0, 0, 0, 0, kZ), (3, .invokespecial 1, 0, 0, 1, 0, kZ), (1, .aload_n 0, 0, 0, 0, 0, kZ), (3, .new 7, 2, 0, 0, 0, kZ), (1, .dup, 0, 0, 0, 0, kZ), (3, .invokespecial 9, 0, 2, 0, 0, m2_init), (3, .putfield 10, 7, 0, 0, 0, kZ), (1, .aload_n 0, 0, 0, 0, 0, kZ), (3, .new 16, 8, 0, 0, 0, kZ), (1, .dup, 0, 0, 0, 0, kZ), (3, .invokespecial 18, 0, 8, 0, 0, m8_init), (3, .putfield 19, 7, 1, 0, 0, kZ), (1, .aload_n 0, 0, 0, 0, 0, kZ), (3, .new 23, 6, 0, 0, 0, kZ), (1, .dup, 0, 0, 0, 0, kZ), (3, .invokespecial 25, 0, 6, 0, 0, m6_init), (3, .putfield 26, 7, 2, 0, 0, kZ), (1, .aload_n 0, 0, 0, 0, 0, kZ), (1, .iconst 0, 0, 0, 0, 0, kZ), (3, .putfield 30, 7, 3, 0, 0, kZ), (1, .aload_n 0, 0, 0, 0, 0, kZ), (1, .iconst 0, 0, 0, 0, 0, kZ), (3, .putfield 34, 7, 4, 0, 0, kZ), (1, .return_, 0, 0, 0, 0, kZ)]
set_option maxRecDepth 100000 in
theorem oo7_init_0 : okL m7_init 0 bb7_init_0 := okL_of _ _ (by decide +kernel) ⟨trivial, ⟨⟨lo_7_1, by decide⟩, ⟨trivial, ⟨ln_7_7, ⟨trivial, ⟨⟨mok_m2_init, ⟨by decide, by decide⟩, rfl, Or.inr lc_7_9⟩, ⟨lp_7_10i, ⟨trivial, ⟨ln_7_16, ⟨trivial, ⟨⟨mok_m8_init, ⟨by decide, by decide⟩, rfl, Or.inr lc_7_18⟩, ⟨lp_7_19i, ⟨trivial, ⟨ln_7_23, ⟨trivial, ⟨⟨mok_m6_init, ⟨by decide, by decide⟩, rfl, Or.inr lc_7_25⟩, ⟨lp_7_26i, ⟨trivial, ⟨trivial, ⟨lp_7_30 _, ⟨trivial, ⟨trivial, ⟨lp_7_34 _, ⟨rfl, trivial⟩⟩⟩⟩⟩⟩⟩⟩⟩⟩⟩⟩⟩⟩⟩⟩⟩⟩⟩⟩⟩⟩⟩⟩
def cd7_init (t : Nat) : Option (List PI) := match t with
  | 0 => some bb7_init_0
  | _ => none
theorem kd7_init : ∀ t is, cd7_init t = some is → okL m7_init t is := by
  intro t is h
  unfold cd7_init at h
  split at h <;> cases h
  · exact oo7_init_0
theorem ff7_init : mi_r m7_init = none ∧ mi_l m7_init = 1 ∧ mi_h m7_init = [] ∧ (mi_rm m7_init).cells = 8 ∧ (mi_rm m7_init).slots = 571 ∧ (mi_rm m7_init).locals = 52 ∧ cd7_init 0 = some bb7_init_0 ∧ (mi_rm m2_init).cells = 1 ∧ (mi_rm m2_init).slots = 10 ∧ (mi_rm m6_init).cells = 3 ∧ (mi_rm m6_init).slots = 50 ∧ (mi_rm m8_init).cells = 1 ∧ (mi_rm m8_init).slots = 500 := ⟨rfl, rfl, rfl, rfl, rfl, rfl, rfl, rfl, rfl, rfl, rfl, rfl, rfl⟩
def bb1_init_0 : List PI := [(1, .aload_n 0, 0, 0, 0, 0, kZ), (3, .invokespecial 3, 0, 0, 1, 0, kZ), (1, .aload_n 0, 0, 0, 0, 0, kZ), (1, .iconst 0, 0, 0, 0, 0, kZ), (3, .putfield 9, 1, 0, 0, 0, kZ), (1, .aload_n 0, 0, 0, 0, 0, kZ), (1, .iconst 0, 0, 0, 0, 0, kZ), (3, .putfield 15, 1, 1, 0, 0, kZ), (1, .aload_n 0, 0, 0, 0, 0, kZ), (1, .iconst 5, 0, 0, 0, 0, kZ), (3, .anewarray 18, 0, 0, 0, 0, kZ), (3, .putfield 20, 1, 2, 0, 0, kZ), (1, .iconst 0, 0, 0, 0, 0, kZ), (1, .istore_n 1, 0, 0, 0, 0, kZ)]
set_option maxRecDepth 100000 in
theorem oo1_init_0 : okL m1_init 0 bb1_init_0 := okL_of _ _ (by decide +kernel) ⟨trivial, ⟨⟨lo_1_3, by decide⟩, ⟨trivial, ⟨trivial, ⟨lp_1_9 _, ⟨trivial, ⟨trivial, ⟨lp_1_15 _, ⟨trivial, ⟨trivial, ⟨lq_1_18, ⟨lp_1_20i, ⟨trivial, ⟨trivial, trivial⟩⟩⟩⟩⟩⟩⟩⟩⟩⟩⟩⟩⟩⟩
def bb1_init_24 : List PI := [(1, .iload_n 1, 0, 0, 0, 0, kZ), (1, .aload_n 0, 0, 0, 0, 0, kZ), (3, .getfield 20, 1, 2, 0, 0, kZ), (1, .arraylength, 0, 0, 0, 0, kZ), (3, .if_icmp .ge 22, 52, 0, 0, 0, kZ), (1, .aload_n 0, 0, 0, 0, 0, kZ), (3, .getfield 20, 1, 2, 0, 0, kZ), (1, .iload_n 1, 0, 0, 0, 0, kZ), (3, .new 18, 7, 0, 0, 0, kZ), (1, .dup, 0, 0, 0, 0, kZ), (3, .invokespecial 24, 0, 7, 0, 0, m7_init), (1, .aastore, 0, 0, 0, 0, kZ), (3, .iinc 1 1, 0, 0, 0, 0, kZ), (3, .goto (-25), 24, 0, 0, 0, kZ)]
set_option maxRecDepth 100000 in
theorem oo1_init_24 : okL m1_init 24 bb1_init_24 := okL_of _ _ (by decide +kernel) ⟨trivial, ⟨trivial, ⟨lf_1_20, ⟨trivial, ⟨rfl, ⟨trivial, ⟨lf_1_20, ⟨trivial, ⟨ln_1_18, ⟨trivial, ⟨⟨mok_m7_init, ⟨by decide, by decide⟩, rfl, Or.inr lc_1_24⟩, ⟨trivial, ⟨trivial, ⟨rfl, trivial⟩⟩⟩⟩⟩⟩⟩⟩⟩⟩⟩⟩⟩⟩
def bb1_init_52 : List PI := [(1, .return_, 0, 0, 0, 0, kZ)]
set_option maxRecDepth 100000 in
theorem oo1_init_52 : okL m1_init 52 bb1_init_52 := okL_of _ _ (by decide +kernel) ⟨rfl, trivial⟩
def cd1_init (t : Nat) : Option (List PI) := match t with
  | 0 => some bb1_init_0
  | 52 => some bb1_init_52
  | _ => none
theorem kd1_init : ∀ t is, cd1_init t = some is → okL m1_init t is := by
  intro t is h
  unfold cd1_init at h
  split at h <;> cases h
  · exact oo1_init_0
  · exact oo1_init_52
theorem ff1_init : mi_r m1_init = none ∧ mi_l m1_init = 2 ∧ mi_h m1_init = [] ∧ (mi_rm m1_init).cells = 46 ∧ (mi_rm m1_init).slots = 2885 ∧ (mi_rm m1_init).locals = 72 ∧ cd1_init 0 = some bb1_init_0 ∧ cd1_init 24 = none ∧ cd1_init 52 = some bb1_init_52 ∧ (mi_rm m7_init).cells = 8 ∧ (mi_rm m7_init).slots = 571 := ⟨rfl, rfl, rfl, rfl, rfl, rfl, rfl, rfl, rfl, rfl, rfl⟩
def bb1_slot_0 : List PI := [(1, .aload_n 0, 0, 0, 0, 0, kZ), (3, .getfield 15, 1, 1, 0, 0, kZ), (1, .iload_n 1, 0, 0, 0, 0, kZ), (1, .iadd, 0, 0, 0, 0, kZ), (1, .iconst 5, 0, 0, 0, 0, kZ), (1, .irem, 0, 0, 0, 0, kZ), (1, .istore_n 2, 0, 0, 0, 0, kZ), (1, .iload_n 2, 0, 0, 0, 0, kZ), (3, .ifCond .lt 21, 31, 0, 0, 0, kZ), (1, .iload_n 2, 0, 0, 0, 0, kZ), (1, .aload_n 0, 0, 0, 0, 0, kZ), (3, .getfield 20, 1, 2, 0, 0, kZ), (1, .arraylength, 0, 0, 0, 0, kZ), (3, .if_icmp .ge 12, 31, 0, 0, 0, kZ), (1, .aload_n 0, 0, 0, 0, 0, kZ), (3, .getfield 20, 1, 2, 0, 0, kZ), (1, .iload_n 2, 0, 0, 0, 0, kZ), (1, .aaload, 0, 0, 0, 0, kZ), (3, .goto 4, 32, 0, 0, 0, kZ)]
set_option maxRecDepth 100000 in
theorem oo1_slot_0 : okL m1_slot 0 bb1_slot_0 := okL_of _ _ (by decide +kernel) ⟨trivial, ⟨lf_1_15, ⟨trivial, ⟨trivial, ⟨trivial, ⟨trivial, ⟨trivial, ⟨trivial, ⟨rfl, ⟨trivial, ⟨trivial, ⟨lf_1_20, ⟨trivial, ⟨rfl, ⟨trivial, ⟨lf_1_20, ⟨trivial, ⟨trivial, ⟨rfl, trivial⟩⟩⟩⟩⟩⟩⟩⟩⟩⟩⟩⟩⟩⟩⟩⟩⟩⟩⟩
def bb1_slot_31 : List PI := [(1, .aconst_null, 0, 0, 0, 0, kZ)]
set_option maxRecDepth 100000 in
theorem oo1_slot_31 : okL m1_slot 31 bb1_slot_31 := okL_of _ _ (by decide +kernel) ⟨trivial, trivial⟩
def bb1_slot_32 : List PI := [(1, .areturn, 0, 0, 0, 0, kZ)]
set_option maxRecDepth 100000 in
theorem oo1_slot_32 : okL m1_slot 32 bb1_slot_32 := okL_of _ _ (by decide +kernel) ⟨rfl, trivial⟩
def cd1_slot (t : Nat) : Option (List PI) := match t with
  | 0 => some bb1_slot_0
  | 31 => some bb1_slot_31
  | 32 => some bb1_slot_32
  | _ => none
theorem kd1_slot : ∀ t is, cd1_slot t = some is → okL m1_slot t is := by
  intro t is h
  unfold cd1_slot at h
  split at h <;> cases h
  · exact oo1_slot_0
  · exact oo1_slot_31
  · exact oo1_slot_32
theorem ff1_slot : mi_r m1_slot = (some (.object RX7)) ∧ mi_l m1_slot = 3 ∧ mi_h m1_slot = [] ∧ (mi_rm m1_slot).cells = 0 ∧ (mi_rm m1_slot).slots = 0 ∧ (mi_rm m1_slot).locals = 32 ∧ cd1_slot 0 = some bb1_slot_0 ∧ cd1_slot 31 = some bb1_slot_31 ∧ cd1_slot 32 = some bb1_slot_32 := ⟨rfl, rfl, rfl, rfl, rfl, rfl, rfl, rfl, rfl⟩
def bb9_copyLongs_0 : List PI := [(1, .aload_n 0, 0, 0, 0, 0, kZ), (1, .iconst 0, 0, 0, 0, 0, kZ), (1, .aload_n 1, 0, 0, 0, 0, kZ), (1, .iconst 0, 0, 0, 0, 0, kZ), (1, .aload_n 0, 0, 0, 0, 0, kZ), (1, .arraylength, 0, 0, 0, 0, kZ), (1, .aload_n 1, 0, 0, 0, 0, kZ), (1, .arraylength, 0, 0, 0, 0, kZ), (3, .invokestatic 435, 0, 0, 5, 0, kZ), (3, .invokestatic 438, 0, 0, 3, 0, kZ), (1, .return_, 0, 0, 0, 0, kZ)]
set_option maxRecDepth 100000 in
theorem oo9_copyLongs_0 : okL m9_copyLongs 0 bb9_copyLongs_0 := okL_of _ _ (by decide +kernel) ⟨trivial, ⟨trivial, ⟨trivial, ⟨trivial, ⟨trivial, ⟨trivial, ⟨trivial, ⟨trivial, ⟨⟨lm_9_435, by decide⟩, ⟨⟨ly_9_438, by decide⟩, ⟨rfl, trivial⟩⟩⟩⟩⟩⟩⟩⟩⟩⟩⟩
def cd9_copyLongs (t : Nat) : Option (List PI) := match t with
  | 0 => some bb9_copyLongs_0
  | _ => none
theorem kd9_copyLongs : ∀ t is, cd9_copyLongs t = some is → okL m9_copyLongs t is := by
  intro t is h
  unfold cd9_copyLongs at h
  split at h <;> cases h
  · exact oo9_copyLongs_0
theorem ff9_copyLongs : mi_r m9_copyLongs = none ∧ mi_l m9_copyLongs = 2 ∧ mi_h m9_copyLongs = [] ∧ (mi_rm m9_copyLongs).cells = 0 ∧ (mi_rm m9_copyLongs).slots = 0 ∧ (mi_rm m9_copyLongs).locals = 32 ∧ cd9_copyLongs 0 = some bb9_copyLongs_0 := ⟨rfl, rfl, rfl, rfl, rfl, rfl, rfl⟩
def bb2_copyFrom_0 : List PI := [(1, .aload_n 0, 0, 0, 0, 0, kZ), (1, .aload_n 1, 0, 0, 0, 0, kZ), (3, .getfield 9, 2, 0, 0, 0, kZ), (3, .putfield 9, 2, 0, 0, 0, kZ), (1, .aload_n 0, 0, 0, 0, 0, kZ), (1, .aload_n 1, 0, 0, 0, 0, kZ), (3, .getfield 15, 2, 1, 0, 0, kZ), (3, .putfield 15, 2, 1, 0, 0, kZ), (1, .aload_n 0, 0, 0, 0, 0, kZ), (1, .aload_n 1, 0, 0, 0, 0, kZ), (3, .getfield 18, 2, 2, 0, 0, kZ), (3, .putfield 18, 2, 2, 0, 0, kZ), (1, .aload_n 1, 0, 0, 0, 0, kZ), (3, .getfield 21, 2, 3, 0, 0, kZ), (1, .aload_n 0, 0, 0, 0, 0, kZ), (3, .getfield 21, 2, 3, 0, 0, kZ), (3, .invokestatic 29, 2, 9, 0, 0, m9_copyLongs), (1, .return_, 0, 0, 0, 0, kZ)]
set_option maxRecDepth 100000 in
theorem oo2_copyFrom_0 : okL m2_copyFrom 0 bb2_copyFrom_0 := okL_of _ _ (by decide +kernel) ⟨trivial, ⟨trivial, ⟨lf_2_9, ⟨lp_2_9 _, ⟨trivial, ⟨trivial, ⟨lf_2_15, ⟨lp_2_15 _, ⟨trivial, ⟨trivial, ⟨lf_2_18, ⟨lp_2_18 _, ⟨trivial, ⟨lf_2_21, ⟨trivial, ⟨lf_2_21, ⟨⟨mok_m9_copyLongs, ⟨by decide, by decide⟩, rfl, Or.inr lc_2_29⟩, ⟨rfl, trivial⟩⟩⟩⟩⟩⟩⟩⟩⟩⟩⟩⟩⟩⟩⟩⟩⟩⟩
def cd2_copyFrom (t : Nat) : Option (List PI) := match t with
  | 0 => some bb2_copyFrom_0
  | _ => none
theorem kd2_copyFrom : ∀ t is, cd2_copyFrom t = some is → okL m2_copyFrom t is := by
  intro t is h
  unfold cd2_copyFrom at h
  split at h <;> cases h
  · exact oo2_copyFrom_0
theorem ff2_copyFrom : mi_r m2_copyFrom = none ∧ mi_l m2_copyFrom = 2 ∧ mi_h m2_copyFrom = [] ∧ (mi_rm m2_copyFrom).cells = 0 ∧ (mi_rm m2_copyFrom).slots = 0 ∧ (mi_rm m2_copyFrom).locals = 53 ∧ cd2_copyFrom 0 = some bb2_copyFrom_0 ∧ (mi_rm m9_copyLongs).cells = 0 ∧ (mi_rm m9_copyLongs).slots = 0 := ⟨rfl, rfl, rfl, rfl, rfl, rfl, rfl, rfl, rfl⟩
def bb9_copyInts_0 : List PI := [(1, .aload_n 0, 0, 0, 0, 0, kZ), (1, .iconst 0, 0, 0, 0, 0, kZ), (1, .aload_n 1, 0, 0, 0, 0, kZ), (1, .iconst 0, 0, 0, 0, 0, kZ), (1, .aload_n 0, 0, 0, 0, 0, kZ), (1, .arraylength, 0, 0, 0, 0, kZ), (1, .aload_n 1, 0, 0, 0, 0, kZ), (1, .arraylength, 0, 0, 0, 0, kZ), (3, .invokestatic 435, 0, 0, 5, 0, kZ), (3, .invokestatic 438, 0, 0, 3, 0, kZ), (1, .return_, 0, 0, 0, 0, kZ)]
set_option maxRecDepth 100000 in
theorem oo9_copyInts_0 : okL m9_copyInts 0 bb9_copyInts_0 := okL_of _ _ (by decide +kernel) ⟨trivial, ⟨trivial, ⟨trivial, ⟨trivial, ⟨trivial, ⟨trivial, ⟨trivial, ⟨trivial, ⟨⟨lm_9_435, by decide⟩, ⟨⟨ly_9_438, by decide⟩, ⟨rfl, trivial⟩⟩⟩⟩⟩⟩⟩⟩⟩⟩⟩
def cd9_copyInts (t : Nat) : Option (List PI) := match t with
  | 0 => some bb9_copyInts_0
  | _ => none
theorem kd9_copyInts : ∀ t is, cd9_copyInts t = some is → okL m9_copyInts t is := by
  intro t is h
  unfold cd9_copyInts at h
  split at h <;> cases h
  · exact oo9_copyInts_0
theorem ff9_copyInts : mi_r m9_copyInts = none ∧ mi_l m9_copyInts = 2 ∧ mi_h m9_copyInts = [] ∧ (mi_rm m9_copyInts).cells = 0 ∧ (mi_rm m9_copyInts).slots = 0 ∧ (mi_rm m9_copyInts).locals = 32 ∧ cd9_copyInts 0 = some bb9_copyInts_0 := ⟨rfl, rfl, rfl, rfl, rfl, rfl, rfl⟩
def bb6_copyFrom_0 : List PI := [(1, .aload_n 0, 0, 0, 0, 0, kZ), (1, .aload_n 1, 0, 0, 0, 0, kZ), (3, .getfield 9, 6, 0, 0, 0, kZ), (3, .putfield 9, 6, 0, 0, 0, kZ), (1, .aload_n 1, 0, 0, 0, 0, kZ), (3, .getfield 15, 6, 1, 0, 0, kZ), (1, .aload_n 0, 0, 0, 0, 0, kZ), (3, .getfield 15, 6, 1, 0, 0, kZ), (3, .invokestatic 52, 2, 9, 0, 0, m9_copyLongs), (1, .aload_n 0, 0, 0, 0, 0, kZ), (1, .aload_n 1, 0, 0, 0, 0, kZ), (3, .getfield 19, 6, 2, 0, 0, kZ), (3, .putfield 19, 6, 2, 0, 0, kZ), (1, .aload_n 1, 0, 0, 0, 0, kZ), (3, .getfield 22, 6, 3, 0, 0, kZ), (1, .aload_n 0, 0, 0, 0, 0, kZ), (3, .getfield 22, 6, 3, 0, 0, kZ), (3, .invokestatic 56, 2, 9, 0, 0, m9_copyInts), (1, .aload_n 1, 0, 0, 0, 0, kZ), (3, .getfield 26, 6, 4, 0, 0, kZ), (1, .aload_n 0, 0, 0, 0, 0, kZ), (3, .getfield 26, 6, 4, 0, 0, kZ), (3, .invokestatic 56, 2, 9, 0, 0, m9_copyInts), (1, .return_, 0, 0, 0, 0, kZ)]
set_option maxRecDepth 100000 in
theorem oo6_copyFrom_0 : okL m6_copyFrom 0 bb6_copyFrom_0 := okL_of _ _ (by decide +kernel) ⟨trivial, ⟨trivial, ⟨lf_6_9, ⟨lp_6_9 _, ⟨trivial, ⟨lf_6_15, ⟨trivial, ⟨lf_6_15, ⟨⟨mok_m9_copyLongs, ⟨by decide, by decide⟩, rfl, Or.inr lc_6_52⟩, ⟨trivial, ⟨trivial, ⟨lf_6_19, ⟨lp_6_19 _, ⟨trivial, ⟨lf_6_22, ⟨trivial, ⟨lf_6_22, ⟨⟨mok_m9_copyInts, ⟨by decide, by decide⟩, rfl, Or.inr lc_6_56⟩, ⟨trivial, ⟨lf_6_26, ⟨trivial, ⟨lf_6_26, ⟨⟨mok_m9_copyInts, ⟨by decide, by decide⟩, rfl, Or.inr lc_6_56⟩, ⟨rfl, trivial⟩⟩⟩⟩⟩⟩⟩⟩⟩⟩⟩⟩⟩⟩⟩⟩⟩⟩⟩⟩⟩⟩⟩⟩
def cd6_copyFrom (t : Nat) : Option (List PI) := match t with
  | 0 => some bb6_copyFrom_0
  | _ => none
theorem kd6_copyFrom : ∀ t is, cd6_copyFrom t = some is → okL m6_copyFrom t is := by
  intro t is h
  unfold cd6_copyFrom at h
  split at h <;> cases h
  · exact oo6_copyFrom_0
theorem ff6_copyFrom : mi_r m6_copyFrom = none ∧ mi_l m6_copyFrom = 2 ∧ mi_h m6_copyFrom = [] ∧ (mi_rm m6_copyFrom).cells = 0 ∧ (mi_rm m6_copyFrom).slots = 0 ∧ (mi_rm m6_copyFrom).locals = 53 ∧ cd6_copyFrom 0 = some bb6_copyFrom_0 ∧ (mi_rm m9_copyInts).cells = 0 ∧ (mi_rm m9_copyInts).slots = 0 ∧ (mi_rm m9_copyLongs).cells = 0 ∧ (mi_rm m9_copyLongs).slots = 0 := ⟨rfl, rfl, rfl, rfl, rfl, rfl, rfl, rfl, rfl, rfl, rfl⟩
def bb8_copyFrom_0 : List PI := [(1, .aload_n 0, 0, 0, 0, 0, kZ), (1, .aload_n 1, 0, 0, 0, 0, kZ), (3, .getfield 9, 8, 0, 0, 0, kZ), (3, .putfield 9, 8, 0, 0, 0, kZ), (1, .aload_n 1, 0, 0, 0, 0, kZ), (3, .getfield 15, 8, 1, 0, 0, kZ), (1, .aload_n 0, 0, 0, 0, 0, kZ), (3, .getfield 15, 8, 1, 0, 0, kZ), (3, .invokestatic 38, 2, 9, 0, 0, m9_copyInts), (1, .return_, 0, 0, 0, 0, kZ)]
set_option maxRecDepth 100000 in
theorem oo8_copyFrom_0 : okL m8_copyFrom 0 bb8_copyFrom_0 := okL_of _ _ (by decide +kernel) ⟨trivial, ⟨trivial, ⟨lf_8_9, ⟨lp_8_9 _, ⟨trivial, ⟨lf_8_15, ⟨trivial, ⟨lf_8_15, ⟨⟨mok_m9_copyInts, ⟨by decide, by decide⟩, rfl, Or.inr lc_8_38⟩, ⟨rfl, trivial⟩⟩⟩⟩⟩⟩⟩⟩⟩⟩
def cd8_copyFrom (t : Nat) : Option (List PI) := match t with
  | 0 => some bb8_copyFrom_0
  | _ => none
theorem kd8_copyFrom : ∀ t is, cd8_copyFrom t = some is → okL m8_copyFrom t is := by
  intro t is h
  unfold cd8_copyFrom at h
  split at h <;> cases h
  · exact oo8_copyFrom_0
theorem ff8_copyFrom : mi_r m8_copyFrom = none ∧ mi_l m8_copyFrom = 2 ∧ mi_h m8_copyFrom = [] ∧ (mi_rm m8_copyFrom).cells = 0 ∧ (mi_rm m8_copyFrom).slots = 0 ∧ (mi_rm m8_copyFrom).locals = 53 ∧ cd8_copyFrom 0 = some bb8_copyFrom_0 ∧ (mi_rm m9_copyInts).cells = 0 ∧ (mi_rm m9_copyInts).slots = 0 := ⟨rfl, rfl, rfl, rfl, rfl, rfl, rfl, rfl, rfl⟩
def bb7_copyFrom_0 : List PI := [(1, .aload_n 0, 0, 0, 0, 0, kZ), (3, .getfield 10, 7, 0, 0, 0, kZ), (1, .aload_n 1, 0, 0, 0, 0, kZ), (3, .getfield 10, 7, 0, 0, 0, kZ), (3, .invokevirtual 38, 1, 2, 0, 0, m2_copyFrom), (1, .aload_n 0, 0, 0, 0, 0, kZ), (3, .getfield 19, 7, 1, 0, 0, kZ), (1, .aload_n 1, 0, 0, 0, 0, kZ), (3, .getfield 19, 7, 1, 0, 0, kZ), (3, .invokevirtual 42, 1, 8, 0, 0, m8_copyFrom), (1, .aload_n 0, 0, 0, 0, 0, kZ), (3, .getfield 26, 7, 2, 0, 0, kZ), (1, .aload_n 1, 0, 0, 0, 0, kZ), (3, .getfield 26, 7, 2, 0, 0, kZ), (3, .invokevirtual 45, 1, 6, 0, 0, m6_copyFrom), (1, .aload_n 0, 0, 0, 0, 0, kZ), (1, .aload_n 1, 0, 0, 0, 0, kZ), (3, .getfield 30, 7, 3, 0, 0, kZ), (3, .putfield 30, 7, 3, 0, 0, kZ), (1, .aload_n 0, 0, 0, 0, 0, kZ), (1, .aload_n 1, 0, 0, 0, 0, kZ), (3, .getfield 34, 7, 4, 0, 0, kZ), (3, .putfield 34, 7, 4, 0, 0, kZ), (1, .return_, 0, 0, 0, 0, kZ)]
set_option maxRecDepth 100000 in
theorem oo7_copyFrom_0 : okL m7_copyFrom 0 bb7_copyFrom_0 := okL_of _ _ (by decide +kernel) ⟨trivial, ⟨lf_7_10, ⟨trivial, ⟨lf_7_10, ⟨⟨mok_m2_copyFrom, ⟨by decide, by decide⟩, rfl, by decide, Or.inr lc_7_38⟩, ⟨trivial, ⟨lf_7_19, ⟨trivial, ⟨lf_7_19, ⟨⟨mok_m8_copyFrom, ⟨by decide, by decide⟩, rfl, by decide, Or.inr lc_7_42⟩, ⟨trivial, ⟨lf_7_26, ⟨trivial, ⟨lf_7_26, ⟨⟨mok_m6_copyFrom, ⟨by decide, by decide⟩, rfl, by decide, Or.inr lc_7_45⟩, ⟨trivial, ⟨trivial, ⟨lf_7_30, ⟨lp_7_30 _, ⟨trivial, ⟨trivial, ⟨lf_7_34, ⟨lp_7_34 _, ⟨rfl, trivial⟩⟩⟩⟩⟩⟩⟩⟩⟩⟩⟩⟩⟩⟩⟩⟩⟩⟩⟩⟩⟩⟩⟩⟩
def cd7_copyFrom (t : Nat) : Option (List PI) := match t with
  | 0 => some bb7_copyFrom_0
  | _ => none
theorem kd7_copyFrom : ∀ t is, cd7_copyFrom t = some is → okL m7_copyFrom t is := by
  intro t is h
  unfold cd7_copyFrom at h
  split at h <;> cases h
  · exact oo7_copyFrom_0
theorem ff7_copyFrom : mi_r m7_copyFrom = none ∧ mi_l m7_copyFrom = 2 ∧ mi_h m7_copyFrom = [] ∧ (mi_rm m7_copyFrom).cells = 0 ∧ (mi_rm m7_copyFrom).slots = 0 ∧ (mi_rm m7_copyFrom).locals = 74 ∧ cd7_copyFrom 0 = some bb7_copyFrom_0 ∧ (mi_rm m2_copyFrom).cells = 0 ∧ (mi_rm m2_copyFrom).slots = 0 ∧ (mi_rm m6_copyFrom).cells = 0 ∧ (mi_rm m6_copyFrom).slots = 0 ∧ (mi_rm m8_copyFrom).cells = 0 ∧ (mi_rm m8_copyFrom).slots = 0 := ⟨rfl, rfl, rfl, rfl, rfl, rfl, rfl, rfl, rfl, rfl, rfl, rfl, rfl⟩
def bb1_push_0 : List PI := [(1, .aload_n 0, 0, 0, 0, 0, kZ), (3, .getfield 9, 1, 0, 0, 0, kZ), (1, .iconst 5, 0, 0, 0, 0, kZ), (3, .if_icmp .lt 25, 30, 0, 0, 0, kZ), (1, .aload_n 0, 0, 0, 0, 0, kZ), (1, .aload_n 0, 0, 0, 0, 0, kZ), (3, .getfield 15, 1, 1, 0, 0, kZ), (1, .iconst 1, 0, 0, 0, 0, kZ), (1, .iadd, 0, 0, 0, 0, kZ), (1, .iconst 5, 0, 0, 0, 0, kZ), (1, .irem, 0, 0, 0, 0, kZ), (3, .putfield 15, 1, 1, 0, 0, kZ), (1, .aload_n 0, 0, 0, 0, 0, kZ), (1, .dup, 0, 0, 0, 0, kZ), (3, .getfield 9, 1, 0, 0, 0, kZ), (1, .iconst 1, 0, 0, 0, 0, kZ), (1, .isub, 0, 0, 0, 0, kZ), (3, .putfield 9, 1, 0, 0, 0, kZ)]
set_option maxRecDepth 100000 in
theorem oo1_push_0 : okL m1_push 0 bb1_push_0 := okL_of _ _ (by decide +kernel) ⟨trivial, ⟨lf_1_9, ⟨trivial, ⟨rfl, ⟨trivial, ⟨trivial, ⟨lf_1_15, ⟨trivial, ⟨trivial, ⟨trivial, ⟨trivial, ⟨lp_1_15 _, ⟨trivial, ⟨trivial, ⟨lf_1_9, ⟨trivial, ⟨trivial, ⟨lp_1_9 _, trivial⟩⟩⟩⟩⟩⟩⟩⟩⟩⟩⟩⟩⟩⟩⟩⟩⟩⟩
def bb1_push_30 : List PI := [(1, .aload_n 0, 0, 0, 0, 0, kZ), (1, .aload_n 0, 0, 0, 0, 0, kZ), (3, .getfield 9, 1, 0, 0, 0, kZ), (3, .invokevirtual 25, 1, 1, 0, 0, m1_slot), (1, .astore_n 2, 0, 0, 0, 0, kZ), (1, .aload_n 2, 0, 0, 0, 0, kZ), (3, .ifnull 18, 58, 0, 0, 0, kZ), (1, .aload_n 2, 0, 0, 0, 0, kZ), (1, .aload_n 1, 0, 0, 0, 0, kZ), (3, .invokevirtual 29, 1, 7, 0, 0, m7_copyFrom), (1, .aload_n 0, 0, 0, 0, 0, kZ), (1, .dup, 0, 0, 0, 0, kZ), (3, .getfield 9, 1, 0, 0, 0, kZ), (1, .iconst 1, 0, 0, 0, 0, kZ), (1, .iadd, 0, 0, 0, 0, kZ), (3, .putfield 9, 1, 0, 0, 0, kZ), (1, .return_, 0, 0, 0, 0, kZ)]
set_option maxRecDepth 100000 in
theorem oo1_push_30 : okL m1_push 30 bb1_push_30 := okL_of _ _ (by decide +kernel) ⟨trivial, ⟨trivial, ⟨lf_1_9, ⟨⟨mok_m1_slot, ⟨by decide, by decide⟩, rfl, by decide, Or.inl lc_1_25⟩, ⟨trivial, ⟨trivial, ⟨trivial, ⟨trivial, ⟨trivial, ⟨⟨mok_m7_copyFrom, ⟨by decide, by decide⟩, rfl, by decide, Or.inr lc_1_29⟩, ⟨trivial, ⟨trivial, ⟨lf_1_9, ⟨trivial, ⟨trivial, ⟨lp_1_9 _, ⟨rfl, trivial⟩⟩⟩⟩⟩⟩⟩⟩⟩⟩⟩⟩⟩⟩⟩⟩⟩
def cd1_push (t : Nat) : Option (List PI) := match t with
  | 0 => some bb1_push_0
  | 30 => some bb1_push_30
  | _ => none
theorem kd1_push : ∀ t is, cd1_push t = some is → okL m1_push t is := by
  intro t is h
  unfold cd1_push at h
  split at h <;> cases h
  · exact oo1_push_0
  · exact oo1_push_30
theorem ff1_push : mi_r m1_push = none ∧ mi_l m1_push = 3 ∧ mi_h m1_push = [] ∧ (mi_rm m1_push).cells = 0 ∧ (mi_rm m1_push).slots = 0 ∧ (mi_rm m1_push).locals = 95 ∧ cd1_push 0 = some bb1_push_0 ∧ cd1_push 30 = some bb1_push_30 ∧ (mi_rm m1_slot).cells = 0 ∧ (mi_rm m1_slot).slots = 0 ∧ (mi_rm m7_copyFrom).cells = 0 ∧ (mi_rm m7_copyFrom).slots = 0 := ⟨rfl, rfl, rfl, rfl, rfl, rfl, rfl, rfl, rfl, rfl, rfl, rfl⟩
def bb1_popInto_0 : List PI := [(1, .aload_n 0, 0, 0, 0, 0, kZ), (1, .aload_n 0, 0, 0, 0, 0, kZ), (3, .getfield 9, 1, 0, 0, 0, kZ), (1, .iconst 1, 0, 0, 0, 0, kZ), (1, .isub, 0, 0, 0, 0, kZ), (3, .invokevirtual 25, 1, 1, 0, 0, m1_slot), (1, .astore_n 2, 0, 0, 0, 0, kZ), (1, .aload_n 0, 0, 0, 0, 0, kZ), (3, .getfield 9, 1, 0, 0, 0, kZ), (3, .ifCond .le 22, 37, 0, 0, 0, kZ), (1, .aload_n 2, 0, 0, 0, 0, kZ), (3, .ifnull 18, 37, 0, 0, 0, kZ), (1, .aload_n 1, 0, 0, 0, 0, kZ), (1, .aload_n 2, 0, 0, 0, 0, kZ), (3, .invokevirtual 29, 1, 7, 0, 0, m7_copyFrom), (1, .aload_n 0, 0, 0, 0, 0, kZ), (1, .dup, 0, 0, 0, 0, kZ), (3, .getfield 9, 1, 0, 0, 0, kZ), (1, .iconst 1, 0, 0, 0, 0, kZ), (1, .isub, 0, 0, 0, 0, kZ), (3, .putfield 9, 1, 0, 0, 0, kZ)]
set_option maxRecDepth 100000 in
theorem oo1_popInto_0 : okL m1_popInto 0 bb1_popInto_0 := okL_of _ _ (by decide +kernel) ⟨trivial, ⟨trivial, ⟨lf_1_9, ⟨trivial, ⟨trivial, ⟨⟨mok_m1_slot, ⟨by decide, by decide⟩, rfl, by decide, Or.inl lc_1_25⟩, ⟨trivial, ⟨trivial, ⟨lf_1_9, ⟨rfl, ⟨trivial, ⟨trivial, ⟨trivial, ⟨trivial, ⟨⟨mok_m7_copyFrom, ⟨by decide, by decide⟩, rfl, by decide, Or.inr lc_1_29⟩, ⟨trivial, ⟨trivial, ⟨lf_1_9, ⟨trivial, ⟨trivial, ⟨lp_1_9 _, trivial⟩⟩⟩⟩⟩⟩⟩⟩⟩⟩⟩⟩⟩⟩⟩⟩⟩⟩⟩⟩⟩
def bb1_popInto_37 : List PI := [(1, .return_, 0, 0, 0, 0, kZ)]
set_option maxRecDepth 100000 in
theorem oo1_popInto_37 : okL m1_popInto 37 bb1_popInto_37 := okL_of _ _ (by decide +kernel) ⟨rfl, trivial⟩
def cd1_popInto (t : Nat) : Option (List PI) := match t with
  | 0 => some bb1_popInto_0
  | 37 => some bb1_popInto_37
  | _ => none
theorem kd1_popInto : ∀ t is, cd1_popInto t = some is → okL m1_popInto t is := by
  intro t is h
  unfold cd1_popInto at h
  split at h <;> cases h
  · exact oo1_popInto_0
  · exact oo1_popInto_37
theorem ff1_popInto : mi_r m1_popInto = none ∧ mi_l m1_popInto = 3 ∧ mi_h m1_popInto = [] ∧ (mi_rm m1_popInto).cells = 0 ∧ (mi_rm m1_popInto).slots = 0 ∧ (mi_rm m1_popInto).locals = 95 ∧ cd1_popInto 0 = some bb1_popInto_0 ∧ cd1_popInto 37 = some bb1_popInto_37 ∧ (mi_rm m1_slot).cells = 0 ∧ (mi_rm m1_slot).slots = 0 ∧ (mi_rm m7_copyFrom).cells = 0 ∧ (mi_rm m7_copyFrom).slots = 0 := ⟨rfl, rfl, rfl, rfl, rfl, rfl, rfl, rfl, rfl, rfl, rfl, rfl⟩
def bb2_emptyWith_0 : List PI := [(1, .aload_n 0, 0, 0, 0, 0, kZ), (1, .iload_n 1, 0, 0, 0, 0, kZ), (3, .putfield 9, 2, 0, 0, 0, kZ), (1, .aload_n 0, 0, 0, 0, 0, kZ), (1, .iconst 0, 0, 0, 0, 0, kZ), (3, .putfield 18, 2, 2, 0, 0, kZ), (1, .return_, 0, 0, 0, 0, kZ)]
set_option maxRecDepth 100000 in
theorem oo2_emptyWith_0 : okL m2_emptyWith 0 bb2_emptyWith_0 := okL_of _ _ (by decide +kernel) ⟨trivial, ⟨trivial, ⟨lp_2_9 _, ⟨trivial, ⟨trivial, ⟨lp_2_18 _, ⟨rfl, trivial⟩⟩⟩⟩⟩⟩⟩
def cd2_emptyWith (t : Nat) : Option (List PI) := match t with
  | 0 => some bb2_emptyWith_0
  | _ => none
theorem kd2_emptyWith : ∀ t is, cd2_emptyWith t = some is → okL m2_emptyWith t is := by
  intro t is h
  unfold cd2_emptyWith at h
  split at h <;> cases h
  · exact oo2_emptyWith_0
theorem ff2_emptyWith : mi_r m2_emptyWith = none ∧ mi_l m2_emptyWith = 2 ∧ mi_h m2_emptyWith = [] ∧ (mi_rm m2_emptyWith).cells = 0 ∧ (mi_rm m2_emptyWith).slots = 0 ∧ (mi_rm m2_emptyWith).locals = 32 ∧ cd2_emptyWith 0 = some bb2_emptyWith_0 := ⟨rfl, rfl, rfl, rfl, rfl, rfl, rfl⟩
def bb2_has_0 : List PI := [(1, .iload_n 1, 0, 0, 0, 0, kZ), (3, .ifCond .lt 24, 25, 0, 0, 0, kZ), (1, .iload_n 1, 0, 0, 0, 0, kZ), (1, .aload_n 0, 0, 0, 0, 0, kZ), (3, .getfield 18, 2, 2, 0, 0, kZ), (3, .if_icmp .ge 16, 25, 0, 0, 0, kZ), (1, .iload_n 1, 0, 0, 0, 0, kZ), (1, .aload_n 0, 0, 0, 0, 0, kZ), (3, .getfield 21, 2, 3, 0, 0, kZ), (1, .arraylength, 0, 0, 0, 0, kZ), (3, .if_icmp .ge 7, 25, 0, 0, 0, kZ), (1, .iconst 1, 0, 0, 0, 0, kZ), (3, .goto 4, 26, 0, 0, 0, kZ)]
set_option maxRecDepth 100000 in
theorem oo2_has_0 : okL m2_has 0 bb2_has_0 := okL_of _ _ (by decide +kernel) ⟨trivial, ⟨rfl, ⟨trivial, ⟨trivial, ⟨lf_2_18, ⟨rfl, ⟨trivial, ⟨trivial, ⟨lf_2_21, ⟨trivial, ⟨rfl, ⟨trivial, ⟨rfl, trivial⟩⟩⟩⟩⟩⟩⟩⟩⟩⟩⟩⟩⟩
def bb2_has_25 : List PI := [(1, .iconst 0, 0, 0, 0, 0, kZ)]
set_option maxRecDepth 100000 in
theorem oo2_has_25 : okL m2_has 25 bb2_has_25 := okL_of _ _ (by decide +kernel) ⟨trivial, trivial⟩
def bb2_has_26 : List PI := [(1, .ireturn, 0, 0, 0, 0, kZ)]
set_option maxRecDepth 100000 in
theorem oo2_has_26 : okL m2_has 26 bb2_has_26 := okL_of _ _ (by decide +kernel) ⟨trivial, trivial⟩
def cd2_has (t : Nat) : Option (List PI) := match t with
  | 0 => some bb2_has_0
  | 25 => some bb2_has_25
  | 26 => some bb2_has_26
  | _ => none
theorem kd2_has : ∀ t is, cd2_has t = some is → okL m2_has t is := by
  intro t is h
  unfold cd2_has at h
  split at h <;> cases h
  · exact oo2_has_0
  · exact oo2_has_25
  · exact oo2_has_26
theorem ff2_has : mi_r m2_has = (some .boolean) ∧ mi_l m2_has = 2 ∧ mi_h m2_has = [] ∧ (mi_rm m2_has).cells = 0 ∧ (mi_rm m2_has).slots = 0 ∧ (mi_rm m2_has).locals = 32 ∧ cd2_has 0 = some bb2_has_0 ∧ cd2_has 25 = some bb2_has_25 ∧ cd2_has 26 = some bb2_has_26 := ⟨rfl, rfl, rfl, rfl, rfl, rfl, rfl, rfl, rfl⟩
def bb2_isFull_0 : List PI := [(1, .aload_n 0, 0, 0, 0, 0, kZ), (3, .getfield 18, 2, 2, 0, 0, kZ), (1, .aload_n 0, 0, 0, 0, 0, kZ), (3, .getfield 21, 2, 3, 0, 0, kZ), (1, .arraylength, 0, 0, 0, 0, kZ), (3, .if_icmp .lt 7, 16, 0, 0, 0, kZ), (1, .iconst 1, 0, 0, 0, 0, kZ), (3, .goto 4, 17, 0, 0, 0, kZ)]
set_option maxRecDepth 100000 in
theorem oo2_isFull_0 : okL m2_isFull 0 bb2_isFull_0 := okL_of _ _ (by decide +kernel) ⟨trivial, ⟨lf_2_18, ⟨trivial, ⟨lf_2_21, ⟨trivial, ⟨rfl, ⟨trivial, ⟨rfl, trivial⟩⟩⟩⟩⟩⟩⟩⟩
def bb2_isFull_16 : List PI := [(1, .iconst 0, 0, 0, 0, 0, kZ)]
set_option maxRecDepth 100000 in
theorem oo2_isFull_16 : okL m2_isFull 16 bb2_isFull_16 := okL_of _ _ (by decide +kernel) ⟨trivial, trivial⟩
def bb2_isFull_17 : List PI := [(1, .ireturn, 0, 0, 0, 0, kZ)]
set_option maxRecDepth 100000 in
theorem oo2_isFull_17 : okL m2_isFull 17 bb2_isFull_17 := okL_of _ _ (by decide +kernel) ⟨trivial, trivial⟩
def cd2_isFull (t : Nat) : Option (List PI) := match t with
  | 0 => some bb2_isFull_0
  | 16 => some bb2_isFull_16
  | 17 => some bb2_isFull_17
  | _ => none
theorem kd2_isFull : ∀ t is, cd2_isFull t = some is → okL m2_isFull t is := by
  intro t is h
  unfold cd2_isFull at h
  split at h <;> cases h
  · exact oo2_isFull_0
  · exact oo2_isFull_16
  · exact oo2_isFull_17
theorem ff2_isFull : mi_r m2_isFull = (some .boolean) ∧ mi_l m2_isFull = 1 ∧ mi_h m2_isFull = [] ∧ (mi_rm m2_isFull).cells = 0 ∧ (mi_rm m2_isFull).slots = 0 ∧ (mi_rm m2_isFull).locals = 32 ∧ cd2_isFull 0 = some bb2_isFull_0 ∧ cd2_isFull 16 = some bb2_isFull_16 ∧ cd2_isFull 17 = some bb2_isFull_17 := ⟨rfl, rfl, rfl, rfl, rfl, rfl, rfl, rfl, rfl⟩
def bb2_fits_0 : List PI := [(1, .lload_n 1, 0, 0, 0, 0, kZ), (1, .aload_n 0, 0, 0, 0, 0, kZ), (3, .getfield 9, 2, 0, 0, 0, kZ), (1, .lushr, 0, 0, 0, 0, kZ), (1, .lconst 0, 0, 0, 0, 0, kZ), (1, .lcmp, 0, 0, 0, 0, kZ), (3, .ifCond .ne 7, 15, 0, 0, 0, kZ), (1, .iconst 1, 0, 0, 0, 0, kZ), (3, .goto 4, 16, 0, 0, 0, kZ)]
set_option maxRecDepth 100000 in
theorem oo2_fits_0 : okL m2_fits 0 bb2_fits_0 := okL_of _ _ (by decide +kernel) ⟨trivial, ⟨trivial, ⟨lf_2_9, ⟨trivial, ⟨trivial, ⟨trivial, ⟨rfl, ⟨trivial, ⟨rfl, trivial⟩⟩⟩⟩⟩⟩⟩⟩⟩
def bb2_fits_15 : List PI := [(1, .iconst 0, 0, 0, 0, 0, kZ)]
set_option maxRecDepth 100000 in
theorem oo2_fits_15 : okL m2_fits 15 bb2_fits_15 := okL_of _ _ (by decide +kernel) ⟨trivial, trivial⟩
def bb2_fits_16 : List PI := [(1, .ireturn, 0, 0, 0, 0, kZ)]
set_option maxRecDepth 100000 in
theorem oo2_fits_16 : okL m2_fits 16 bb2_fits_16 := okL_of _ _ (by decide +kernel) ⟨trivial, trivial⟩
def cd2_fits (t : Nat) : Option (List PI) := match t with
  | 0 => some bb2_fits_0
  | 15 => some bb2_fits_15
  | 16 => some bb2_fits_16
  | _ => none
theorem kd2_fits : ∀ t is, cd2_fits t = some is → okL m2_fits t is := by
  intro t is h
  unfold cd2_fits at h
  split at h <;> cases h
  · exact oo2_fits_0
  · exact oo2_fits_15
  · exact oo2_fits_16
theorem ff2_fits : mi_r m2_fits = (some .boolean) ∧ mi_l m2_fits = 3 ∧ mi_h m2_fits = [] ∧ (mi_rm m2_fits).cells = 0 ∧ (mi_rm m2_fits).slots = 0 ∧ (mi_rm m2_fits).locals = 32 ∧ cd2_fits 0 = some bb2_fits_0 ∧ cd2_fits 15 = some bb2_fits_15 ∧ cd2_fits 16 = some bb2_fits_16 := ⟨rfl, rfl, rfl, rfl, rfl, rfl, rfl, rfl, rfl⟩
def bb2_putRow_0 : List PI := [(1, .iload_n 1, 0, 0, 0, 0, kZ), (3, .ifCond .lt 27, 28, 0, 0, 0, kZ), (1, .iload_n 1, 0, 0, 0, 0, kZ), (1, .aload_n 0, 0, 0, 0, 0, kZ), (3, .getfield 18, 2, 2, 0, 0, kZ), (3, .if_icmp .ge 19, 28, 0, 0, 0, kZ), (1, .iload_n 1, 0, 0, 0, 0, kZ), (1, .aload_n 0, 0, 0, 0, 0, kZ), (3, .getfield 21, 2, 3, 0, 0, kZ), (1, .arraylength, 0, 0, 0, 0, kZ), (3, .if_icmp .ge 10, 28, 0, 0, 0, kZ), (1, .aload_n 0, 0, 0, 0, 0, kZ), (3, .getfield 21, 2, 3, 0, 0, kZ), (1, .iload_n 1, 0, 0, 0, 0, kZ), (1, .lload_n 2, 0, 0, 0, 0, kZ), (1, .lastore, 0, 0, 0, 0, kZ)]
set_option maxRecDepth 100000 in
theorem oo2_putRow_0 : okL m2_putRow 0 bb2_putRow_0 := okL_of _ _ (by decide +kernel) ⟨trivial, ⟨rfl, ⟨trivial, ⟨trivial, ⟨lf_2_18, ⟨rfl, ⟨trivial, ⟨trivial, ⟨lf_2_21, ⟨trivial, ⟨rfl, ⟨trivial, ⟨lf_2_21, ⟨trivial, ⟨trivial, ⟨trivial, trivial⟩⟩⟩⟩⟩⟩⟩⟩⟩⟩⟩⟩⟩⟩⟩⟩
def bb2_putRow_28 : List PI := [(1, .return_, 0, 0, 0, 0, kZ)]
set_option maxRecDepth 100000 in
theorem oo2_putRow_28 : okL m2_putRow 28 bb2_putRow_28 := okL_of _ _ (by decide +kernel) ⟨rfl, trivial⟩
def cd2_putRow (t : Nat) : Option (List PI) := match t with
  | 0 => some bb2_putRow_0
  | 28 => some bb2_putRow_28
  | _ => none
theorem kd2_putRow : ∀ t is, cd2_putRow t = some is → okL m2_putRow t is := by
  intro t is h
  unfold cd2_putRow at h
  split at h <;> cases h
  · exact oo2_putRow_0
  · exact oo2_putRow_28
theorem ff2_putRow : mi_r m2_putRow = none ∧ mi_l m2_putRow = 4 ∧ mi_h m2_putRow = [] ∧ (mi_rm m2_putRow).cells = 0 ∧ (mi_rm m2_putRow).slots = 0 ∧ (mi_rm m2_putRow).locals = 32 ∧ cd2_putRow 0 = some bb2_putRow_0 ∧ cd2_putRow 28 = some bb2_putRow_28 := ⟨rfl, rfl, rfl, rfl, rfl, rfl, rfl, rfl⟩
def bb2_addRow_0 : List PI := [(1, .aload_n 0, 0, 0, 0, 0, kZ), (3, .getfield 18, 2, 2, 0, 0, kZ), (3, .ifCond .lt 15, 19, 0, 0, 0, kZ), (1, .aload_n 0, 0, 0, 0, 0, kZ), (3, .getfield 18, 2, 2, 0, 0, kZ), (1, .aload_n 0, 0, 0, 0, 0, kZ), (3, .getfield 21, 2, 3, 0, 0, kZ), (1, .arraylength, 0, 0, 0, 0, kZ), (3, .if_icmp .lt 5, 21, 0, 0, 0, kZ)]
set_option maxRecDepth 100000 in
theorem oo2_addRow_0 : okL m2_addRow 0 bb2_addRow_0 := okL_of _ _ (by decide +kernel) ⟨trivial, ⟨lf_2_18, ⟨rfl, ⟨trivial, ⟨lf_2_18, ⟨trivial, ⟨lf_2_21, ⟨trivial, ⟨rfl, trivial⟩⟩⟩⟩⟩⟩⟩⟩⟩
def bb2_addRow_19 : List PI := [(1, .iconst 0, 0, 0, 0, 0, kZ), (1, .ireturn, 0, 0, 0, 0, kZ)]
set_option maxRecDepth 100000 in
theorem oo2_addRow_19 : okL m2_addRow 19 bb2_addRow_19 := okL_of _ _ (by decide +kernel) ⟨trivial, ⟨trivial, trivial⟩⟩
def bb2_addRow_21 : List PI := [(1, .aload_n 0, 0, 0, 0, 0, kZ), (3, .getfield 21, 2, 3, 0, 0, kZ), (1, .aload_n 0, 0, 0, 0, 0, kZ), (3, .getfield 18, 2, 2, 0, 0, kZ), (1, .lload_n 1, 0, 0, 0, 0, kZ), (1, .lastore, 0, 0, 0, 0, kZ), (1, .aload_n 0, 0, 0, 0, 0, kZ), (1, .dup, 0, 0, 0, 0, kZ), (3, .getfield 18, 2, 2, 0, 0, kZ), (1, .iconst 1, 0, 0, 0, 0, kZ), (1, .iadd, 0, 0, 0, 0, kZ), (3, .putfield 18, 2, 2, 0, 0, kZ), (1, .iconst 1, 0, 0, 0, 0, kZ), (1, .ireturn, 0, 0, 0, 0, kZ)]
set_option maxRecDepth 100000 in
theorem oo2_addRow_21 : okL m2_addRow 21 bb2_addRow_21 := okL_of _ _ (by decide +kernel) ⟨trivial, ⟨lf_2_21, ⟨trivial, ⟨lf_2_18, ⟨trivial, ⟨trivial, ⟨trivial, ⟨trivial, ⟨lf_2_18, ⟨trivial, ⟨trivial, ⟨lp_2_18 _, ⟨trivial, ⟨trivial, trivial⟩⟩⟩⟩⟩⟩⟩⟩⟩⟩⟩⟩⟩⟩
def cd2_addRow (t : Nat) : Option (List PI) := match t with
  | 0 => some bb2_addRow_0
  | 19 => some bb2_addRow_19
  | 21 => some bb2_addRow_21
  | _ => none
theorem kd2_addRow : ∀ t is, cd2_addRow t = some is → okL m2_addRow t is := by
  intro t is h
  unfold cd2_addRow at h
  split at h <;> cases h
  · exact oo2_addRow_0
  · exact oo2_addRow_19
  · exact oo2_addRow_21
theorem ff2_addRow : mi_r m2_addRow = (some .boolean) ∧ mi_l m2_addRow = 3 ∧ mi_h m2_addRow = [] ∧ (mi_rm m2_addRow).cells = 0 ∧ (mi_rm m2_addRow).slots = 0 ∧ (mi_rm m2_addRow).locals = 32 ∧ cd2_addRow 0 = some bb2_addRow_0 ∧ cd2_addRow 19 = some bb2_addRow_19 ∧ cd2_addRow 21 = some bb2_addRow_21 := ⟨rfl, rfl, rfl, rfl, rfl, rfl, rfl, rfl, rfl⟩
def bb2_dropRow_0 : List PI := [(1, .aload_n 0, 0, 0, 0, 0, kZ), (3, .getfield 18, 2, 2, 0, 0, kZ), (3, .ifCond .gt 5, 9, 0, 0, 0, kZ), (1, .iconst 0, 0, 0, 0, 0, kZ), (1, .ireturn, 0, 0, 0, 0, kZ)]
set_option maxRecDepth 100000 in
theorem oo2_dropRow_0 : okL m2_dropRow 0 bb2_dropRow_0 := okL_of _ _ (by decide +kernel) ⟨trivial, ⟨lf_2_18, ⟨rfl, ⟨trivial, ⟨trivial, trivial⟩⟩⟩⟩⟩
def bb2_dropRow_9 : List PI := [(1, .aload_n 0, 0, 0, 0, 0, kZ), (1, .dup, 0, 0, 0, 0, kZ), (3, .getfield 18, 2, 2, 0, 0, kZ), (1, .iconst 1, 0, 0, 0, 0, kZ), (1, .isub, 0, 0, 0, 0, kZ), (3, .putfield 18, 2, 2, 0, 0, kZ), (1, .iconst 1, 0, 0, 0, 0, kZ), (1, .ireturn, 0, 0, 0, 0, kZ)]
set_option maxRecDepth 100000 in
theorem oo2_dropRow_9 : okL m2_dropRow 9 bb2_dropRow_9 := okL_of _ _ (by decide +kernel) ⟨trivial, ⟨trivial, ⟨lf_2_18, ⟨trivial, ⟨trivial, ⟨lp_2_18 _, ⟨trivial, ⟨trivial, trivial⟩⟩⟩⟩⟩⟩⟩⟩
def cd2_dropRow (t : Nat) : Option (List PI) := match t with
  | 0 => some bb2_dropRow_0
  | 9 => some bb2_dropRow_9
  | _ => none
theorem kd2_dropRow : ∀ t is, cd2_dropRow t = some is → okL m2_dropRow t is := by
  intro t is h
  unfold cd2_dropRow at h
  split at h <;> cases h
  · exact oo2_dropRow_0
  · exact oo2_dropRow_9
theorem ff2_dropRow : mi_r m2_dropRow = (some .boolean) ∧ mi_l m2_dropRow = 1 ∧ mi_h m2_dropRow = [] ∧ (mi_rm m2_dropRow).cells = 0 ∧ (mi_rm m2_dropRow).slots = 0 ∧ (mi_rm m2_dropRow).locals = 32 ∧ cd2_dropRow 0 = some bb2_dropRow_0 ∧ cd2_dropRow 9 = some bb2_dropRow_9 := ⟨rfl, rfl, rfl, rfl, rfl, rfl, rfl, rfl⟩
def bb4_init_0 : List PI := [(1, .aload_n 0, 0, 0, 0, 0, kZ), (3, .invokespecial 3, 0, 0, 1, 0, kZ), (1, .aload_n 0, 0, 0, 0, 0, kZ), (1, .iconst 0, 0, 0, 0, 0, kZ), (3, .putfield 11, 4, 0, 0, 0, kZ), (1, .aload_n 0, 0, 0, 0, 0, kZ), (1, .iconst 0, 0, 0, 0, 0, kZ), (3, .putfield 15, 4, 1, 0, 0, kZ), (1, .aload_n 0, 0, 0, 0, 0, kZ), (1, .iconst 0, 0, 0, 0, 0, kZ), (3, .putfield 18, 4, 2, 0, 0, kZ), (1, .aload_n 0, 0, 0, 0, 0, kZ), (1, .lconst 0, 0, 0, 0, 0, kZ), (3, .putfield 21, 4, 3, 0, 0, kZ), (1, .aload_n 0, 0, 0, 0, 0, kZ), (1, .iconst 0, 0, 0, 0, 0, kZ), (3, .putfield 25, 4, 4, 0, 0, kZ), (1, .aload_n 0, 0, 0, 0, 0, kZ), (1, .iconst 0, 0, 0, 0, 0, kZ), (3, .putfield 28, 4, 5, 0, 0, kZ), (1, .aload_n 0, 0, 0, 0, 0, kZ), (1, .iconst 0, 0, 0, 0, 0, kZ), (3, .putfield 31, 4, 6, 0, 0, kZ), (1, .return_, 0, 0, 0, 0, kZ)]
set_option maxRecDepth 100000 in
theorem oo4_init_0 : okL m4_init 0 bb4_init_0 := okL_of _ _ (by decide +kernel) ⟨trivial, ⟨⟨lo_4_3, by decide⟩, ⟨trivial, ⟨trivial, ⟨lp_4_11 _, ⟨trivial, ⟨trivial, ⟨lp_4_15 _, ⟨trivial, ⟨trivial, ⟨lp_4_18 _, ⟨trivial, ⟨trivial, ⟨lp_4_21 _, ⟨trivial, ⟨trivial, ⟨lp_4_25 _, ⟨trivial, ⟨trivial, ⟨lp_4_28 _, ⟨trivial, ⟨trivial, ⟨lp_4_31 _, ⟨rfl, trivial⟩⟩⟩⟩⟩⟩⟩⟩⟩⟩⟩⟩⟩⟩⟩⟩⟩⟩⟩⟩⟩⟩⟩⟩
def cd4_init (t : Nat) : Option (List PI) := match t with
  | 0 => some bb4_init_0
  | _ => none
theorem kd4_init : ∀ t is, cd4_init t = some is → okL m4_init t is := by
  intro t is h
  unfold cd4_init at h
  split at h <;> cases h
  · exact oo4_init_0
theorem ff4_init : mi_r m4_init = none ∧ mi_l m4_init = 1 ∧ mi_h m4_init = [] ∧ (mi_rm m4_init).cells = 0 ∧ (mi_rm m4_init).slots = 0 ∧ (mi_rm m4_init).locals = 32 ∧ cd4_init 0 = some bb4_init_0 := ⟨rfl, rfl, rfl, rfl, rfl, rfl, rfl⟩
def bb3_init_0 : List PI := [(1, .aload_n 0, 0, 0, 0, 0, kZ), (3, .invokespecial 3, 0, 0, 1, 0, kZ), (1, .aload_n 0, 0, 0, 0, 0, kZ), (2, .bipush 60, 0, 0, 0, 0, kZ), (2, .newarray .int, 0, 0, 0, 0, kZ), (3, .putfield 9, 3, 0, 0, 0, kZ), (1, .aload_n 0, 0, 0, 0, 0, kZ), (1, .iconst 0, 0, 0, 0, 0, kZ), (3, .putfield 15, 3, 1, 0, 0, kZ), (1, .aload_n 0, 0, 0, 0, 0, kZ), (3, .new 19, 4, 0, 0, 0, kZ), (1, .dup, 0, 0, 0, 0, kZ), (3, .invokespecial 21, 0, 4, 0, 0, m4_init), (3, .putfield 22, 3, 2, 0, 0, kZ), (1, .return_, 0, 0, 0, 0, kZ)]
set_option maxRecDepth 100000 in
theorem oo3_init_0 : okL m3_init 0 bb3_init_0 := okL_of _ _ (by decide +kernel) ⟨trivial, ⟨⟨lo_3_3, by decide⟩, ⟨trivial, ⟨trivial, ⟨la_0, ⟨lp_3_9i, ⟨trivial, ⟨trivial, ⟨lp_3_15 _, ⟨trivial, ⟨ln_3_19, ⟨trivial, ⟨⟨mok_m4_init, ⟨by decide, by decide⟩, rfl, Or.inr lc_3_21⟩, ⟨lp_3_22i, ⟨rfl, trivial⟩⟩⟩⟩⟩⟩⟩⟩⟩⟩⟩⟩⟩⟩⟩
def cd3_init (t : Nat) : Option (List PI) := match t with
  | 0 => some bb3_init_0
  | _ => none
theorem kd3_init : ∀ t is, cd3_init t = some is → okL m3_init t is := by
  intro t is h
  unfold cd3_init at h
  split at h <;> cases h
  · exact oo3_init_0
theorem ff3_init : mi_r m3_init = none ∧ mi_l m3_init = 1 ∧ mi_h m3_init = [] ∧ (mi_rm m3_init).cells = 2 ∧ (mi_rm m3_init).slots = 67 ∧ (mi_rm m3_init).locals = 52 ∧ cd3_init 0 = some bb3_init_0 ∧ (mi_rm m4_init).cells = 0 ∧ (mi_rm m4_init).slots = 0 := ⟨rfl, rfl, rfl, rfl, rfl, rfl, rfl, rfl, rfl⟩
def bb5_init_0 : List PI := [(1, .aload_n 0, 0, 0, 0, 0, kZ), (3, .invokespecial 3, 0, 0, 1, 0, kZ), (1, .aload_n 0, 0, 0, 0, 0, kZ), (1, .iconst 0, 0, 0, 0, 0, kZ), (3, .putfield 9, 5, 0, 0, 0, kZ), (1, .aload_n 0, 0, 0, 0, 0, kZ), (1, .iconst 0, 0, 0, 0, 0, kZ), (3, .putfield 15, 5, 1, 0, 0, kZ), (1, .aload_n 0, 0, 0, 0, 0, kZ), (1, .iconst 0, 0, 0, 0, 0, kZ), (3, .putfield 18, 5, 2, 0, 0, kZ), (1, .return_, 0, 0, 0, 0, kZ)]
set_option maxRecDepth 100000 in
theorem oo5_init_0 : okL m5_init 0 bb5_init_0 := okL_of _ _ (by decide +kernel) ⟨trivial, ⟨⟨lo_5_3, by decide⟩, ⟨trivial, ⟨trivial, ⟨lp_5_9 _, ⟨trivial, ⟨trivial, ⟨lp_5_15 _, ⟨trivial, ⟨trivial, ⟨lp_5_18 _, ⟨rfl, trivial⟩⟩⟩⟩⟩⟩⟩⟩⟩⟩⟩⟩
def cd5_init (t : Nat) : Option (List PI) := match t with
  | 0 => some bb5_init_0
  | _ => none
theorem kd5_init : ∀ t is, cd5_init t = some is → okL m5_init t is := by
  intro t is h
  unfold cd5_init at h
  split at h <;> cases h
  · exact oo5_init_0
theorem ff5_init : mi_r m5_init = none ∧ mi_l m5_init = 1 ∧ mi_h m5_init = [] ∧ (mi_rm m5_init).cells = 0 ∧ (mi_rm m5_init).slots = 0 ∧ (mi_rm m5_init).locals = 32 ∧ cd5_init 0 = some bb5_init_0 := ⟨rfl, rfl, rfl, rfl, rfl, rfl, rfl⟩
def bb8_at_0 : List PI := [(1, .iload_n 1, 0, 0, 0, 0, kZ), (3, .ifCond .lt 29, 30, 0, 0, 0, kZ), (1, .iload_n 1, 0, 0, 0, 0, kZ), (1, .aload_n 0, 0, 0, 0, 0, kZ), (3, .getfield 9, 8, 0, 0, 0, kZ), (3, .if_icmp .ge 21, 30, 0, 0, 0, kZ), (1, .iload_n 1, 0, 0, 0, 0, kZ), (1, .aload_n 0, 0, 0, 0, 0, kZ), (3, .getfield 15, 8, 1, 0, 0, kZ), (1, .arraylength, 0, 0, 0, 0, kZ), (3, .if_icmp .ge 12, 30, 0, 0, 0, kZ), (1, .aload_n 0, 0, 0, 0, 0, kZ), (3, .getfield 15, 8, 1, 0, 0, kZ), (1, .iload_n 1, 0, 0, 0, 0, kZ), (1, .iaload, 0, 0, 0, 0, kZ), (3, .goto 4, 31, 0, 0, 0, kZ)]
set_option maxRecDepth 100000 in
theorem oo8_at_0 : okL m8_at 0 bb8_at_0 := okL_of _ _ (by decide +kernel) ⟨trivial, ⟨rfl, ⟨trivial, ⟨trivial, ⟨lf_8_9, ⟨rfl, ⟨trivial, ⟨trivial, ⟨lf_8_15, ⟨trivial, ⟨rfl, ⟨trivial, ⟨lf_8_15, ⟨trivial, ⟨trivial, ⟨rfl, trivial⟩⟩⟩⟩⟩⟩⟩⟩⟩⟩⟩⟩⟩⟩⟩⟩
def bb8_at_30 : List PI := [(1, .iconst (-1), 0, 0, 0, 0, kZ)]
set_option maxRecDepth 100000 in
theorem oo8_at_30 : okL m8_at 30 bb8_at_30 := okL_of _ _ (by decide +kernel) ⟨trivial, trivial⟩
def bb8_at_31 : List PI := [(1, .ireturn, 0, 0, 0, 0, kZ)]
set_option maxRecDepth 100000 in
theorem oo8_at_31 : okL m8_at 31 bb8_at_31 := okL_of _ _ (by decide +kernel) ⟨trivial, trivial⟩
def cd8_at (t : Nat) : Option (List PI) := match t with
  | 0 => some bb8_at_0
  | 30 => some bb8_at_30
  | 31 => some bb8_at_31
  | _ => none
theorem kd8_at : ∀ t is, cd8_at t = some is → okL m8_at t is := by
  intro t is h
  unfold cd8_at at h
  split at h <;> cases h
  · exact oo8_at_0
  · exact oo8_at_30
  · exact oo8_at_31
theorem ff8_at : mi_r m8_at = (some .int) ∧ mi_l m8_at = 2 ∧ mi_h m8_at = [] ∧ (mi_rm m8_at).cells = 0 ∧ (mi_rm m8_at).slots = 0 ∧ (mi_rm m8_at).locals = 32 ∧ cd8_at 0 = some bb8_at_0 ∧ cd8_at 30 = some bb8_at_30 ∧ cd8_at 31 = some bb8_at_31 := ⟨rfl, rfl, rfl, rfl, rfl, rfl, rfl, rfl, rfl⟩
def bb5_next_0 : List PI := [(1, .aload_n 1, 0, 0, 0, 0, kZ), (1, .aload_n 0, 0, 0, 0, 0, kZ), (3, .getfield 9, 5, 0, 0, 0, kZ), (3, .invokevirtual 63, 1, 8, 0, 0, m8_at), (1, .istore_n 2, 0, 0, 0, 0, kZ), (1, .iload_n 2, 0, 0, 0, 0, kZ), (1, .iconst (-1), 0, 0, 0, 0, kZ), (3, .if_icmp .ne 8, 19, 0, 0, 0, kZ), (1, .aload_n 0, 0, 0, 0, 0, kZ), (1, .iconst 1, 0, 0, 0, 0, kZ), (3, .putfield 18, 5, 2, 0, 0, kZ)]
set_option maxRecDepth 100000 in
theorem oo5_next_0 : okL m5_next 0 bb5_next_0 := okL_of _ _ (by decide +kernel) ⟨trivial, ⟨trivial, ⟨lf_5_9, ⟨⟨mok_m8_at, ⟨by decide, by decide⟩, rfl, by decide, Or.inr lc_5_63⟩, ⟨trivial, ⟨trivial, ⟨trivial, ⟨rfl, ⟨trivial, ⟨trivial, ⟨lp_5_18 _, trivial⟩⟩⟩⟩⟩⟩⟩⟩⟩⟩⟩
def bb5_next_19 : List PI := [(1, .aload_n 0, 0, 0, 0, 0, kZ), (1, .dup, 0, 0, 0, 0, kZ), (3, .getfield 9, 5, 0, 0, 0, kZ), (1, .iconst 1, 0, 0, 0, 0, kZ), (1, .iadd, 0, 0, 0, 0, kZ), (3, .putfield 9, 5, 0, 0, 0, kZ), (1, .iload_n 2, 0, 0, 0, 0, kZ), (1, .ireturn, 0, 0, 0, 0, kZ)]
set_option maxRecDepth 100000 in
theorem oo5_next_19 : okL m5_next 19 bb5_next_19 := okL_of _ _ (by decide +kernel) ⟨trivial, ⟨trivial, ⟨lf_5_9, ⟨trivial, ⟨trivial, ⟨lp_5_9 _, ⟨trivial, ⟨trivial, trivial⟩⟩⟩⟩⟩⟩⟩⟩
def cd5_next (t : Nat) : Option (List PI) := match t with
  | 0 => some bb5_next_0
  | 19 => some bb5_next_19
  | _ => none
theorem kd5_next : ∀ t is, cd5_next t = some is → okL m5_next t is := by
  intro t is h
  unfold cd5_next at h
  split at h <;> cases h
  · exact oo5_next_0
  · exact oo5_next_19
theorem ff5_next : mi_r m5_next = (some .int) ∧ mi_l m5_next = 3 ∧ mi_h m5_next = [] ∧ (mi_rm m5_next).cells = 0 ∧ (mi_rm m5_next).slots = 0 ∧ (mi_rm m5_next).locals = 53 ∧ cd5_next 0 = some bb5_next_0 ∧ cd5_next 19 = some bb5_next_19 ∧ (mi_rm m8_at).cells = 0 ∧ (mi_rm m8_at).slots = 0 := ⟨rfl, rfl, rfl, rfl, rfl, rfl, rfl, rfl, rfl, rfl⟩
def bb5_nextOfKernel_0 : List PI := [(1, .aload_n 0, 0, 0, 0, 0, kZ), (1, .aload_n 1, 0, 0, 0, 0, kZ), (3, .invokevirtual 40, 1, 5, 0, 0, m5_next), (1, .istore_n 2, 0, 0, 0, 0, kZ), (1, .iload_n 2, 0, 0, 0, 0, kZ), (2, .bipush 15, 0, 0, 0, 0, kZ), (3, .if_icmp .ne 36, 45, 0, 0, 0, kZ), (1, .aload_n 0, 0, 0, 0, 0, kZ), (1, .aload_n 1, 0, 0, 0, 0, kZ), (3, .invokevirtual 40, 1, 5, 0, 0, m5_next), (1, .istore_n 3, 0, 0, 0, 0, kZ), (1, .iload_n 3, 0, 0, 0, 0, kZ), (3, .ifCond .ne 11, 30, 0, 0, 0, kZ), (1, .aload_n 0, 0, 0, 0, 0, kZ), (1, .iconst 4, 0, 0, 0, 0, kZ), (3, .putfield 18, 5, 2, 0, 0, kZ), (3, .goto 18, 45, 0, 0, 0, kZ)]
set_option maxRecDepth 100000 in
theorem oo5_nextOfKernel_0 : okL m5_nextOfKernel 0 bb5_nextOfKernel_0 := okL_of _ _ (by decide +kernel) ⟨trivial, ⟨trivial, ⟨⟨mok_m5_next, ⟨by decide, by decide⟩, rfl, by decide, Or.inl lc_5_40⟩, ⟨trivial, ⟨trivial, ⟨trivial, ⟨rfl, ⟨trivial, ⟨trivial, ⟨⟨mok_m5_next, ⟨by decide, by decide⟩, rfl, by decide, Or.inl lc_5_40⟩, ⟨trivial, ⟨trivial, ⟨rfl, ⟨trivial, ⟨trivial, ⟨lp_5_18 _, ⟨rfl, trivial⟩⟩⟩⟩⟩⟩⟩⟩⟩⟩⟩⟩⟩⟩⟩⟩⟩
def bb5_nextOfKernel_30 : List PI := [(1, .iload_n 3, 0, 0, 0, 0, kZ), (1, .iconst 1, 0, 0, 0, 0, kZ), (3, .if_icmp .eq 13, 45, 0, 0, 0, kZ), (1, .iload_n 3, 0, 0, 0, 0, kZ), (1, .iconst (-1), 0, 0, 0, 0, kZ), (3, .if_icmp .eq 8, 45, 0, 0, 0, kZ), (1, .aload_n 0, 0, 0, 0, 0, kZ), (1, .iconst 5, 0, 0, 0, 0, kZ), (3, .putfield 18, 5, 2, 0, 0, kZ)]
set_option maxRecDepth 100000 in
theorem oo5_nextOfKernel_30 : okL m5_nextOfKernel 30 bb5_nextOfKernel_30 := okL_of _ _ (by decide +kernel) ⟨trivial, ⟨trivial, ⟨rfl, ⟨trivial, ⟨trivial, ⟨rfl, ⟨trivial, ⟨trivial, ⟨lp_5_18 _, trivial⟩⟩⟩⟩⟩⟩⟩⟩⟩
def bb5_nextOfKernel_45 : List PI := [(1, .aload_n 0, 0, 0, 0, 0, kZ), (1, .dup, 0, 0, 0, 0, kZ), (3, .getfield 15, 5, 1, 0, 0, kZ), (1, .iload_n 2, 0, 0, 0, 0, kZ), (1, .iadd, 0, 0, 0, 0, kZ), (3, .putfield 15, 5, 1, 0, 0, kZ), (1, .aload_n 0, 0, 0, 0, 0, kZ), (3, .getfield 18, 5, 2, 0, 0, kZ), (3, .ifCond .ne 7, 66, 0, 0, 0, kZ), (1, .iload_n 2, 0, 0, 0, 0, kZ), (3, .goto 4, 67, 0, 0, 0, kZ)]
set_option maxRecDepth 100000 in
theorem oo5_nextOfKernel_45 : okL m5_nextOfKernel 45 bb5_nextOfKernel_45 := okL_of _ _ (by decide +kernel) ⟨trivial, ⟨trivial, ⟨lf_5_15, ⟨trivial, ⟨trivial, ⟨lp_5_15 _, ⟨trivial, ⟨lf_5_18, ⟨rfl, ⟨trivial, ⟨rfl, trivial⟩⟩⟩⟩⟩⟩⟩⟩⟩⟩⟩
def bb5_nextOfKernel_66 : List PI := [(1, .iconst (-1), 0, 0, 0, 0, kZ)]
set_option maxRecDepth 100000 in
theorem oo5_nextOfKernel_66 : okL m5_nextOfKernel 66 bb5_nextOfKernel_66 := okL_of _ _ (by decide +kernel) ⟨trivial, trivial⟩
def bb5_nextOfKernel_67 : List PI := [(1, .ireturn, 0, 0, 0, 0, kZ)]
set_option maxRecDepth 100000 in
theorem oo5_nextOfKernel_67 : okL m5_nextOfKernel 67 bb5_nextOfKernel_67 := okL_of _ _ (by decide +kernel) ⟨trivial, trivial⟩
def cd5_nextOfKernel (t : Nat) : Option (List PI) := match t with
  | 0 => some bb5_nextOfKernel_0
  | 30 => some bb5_nextOfKernel_30
  | 45 => some bb5_nextOfKernel_45
  | 66 => some bb5_nextOfKernel_66
  | 67 => some bb5_nextOfKernel_67
  | _ => none
theorem kd5_nextOfKernel : ∀ t is, cd5_nextOfKernel t = some is → okL m5_nextOfKernel t is := by
  intro t is h
  unfold cd5_nextOfKernel at h
  split at h <;> cases h
  · exact oo5_nextOfKernel_0
  · exact oo5_nextOfKernel_30
  · exact oo5_nextOfKernel_45
  · exact oo5_nextOfKernel_66
  · exact oo5_nextOfKernel_67
theorem ff5_nextOfKernel : mi_r m5_nextOfKernel = (some .int) ∧ mi_l m5_nextOfKernel = 4 ∧ mi_h m5_nextOfKernel = [] ∧ (mi_rm m5_nextOfKernel).cells = 0 ∧ (mi_rm m5_nextOfKernel).slots = 0 ∧ (mi_rm m5_nextOfKernel).locals = 75 ∧ cd5_nextOfKernel 0 = some bb5_nextOfKernel_0 ∧ cd5_nextOfKernel 30 = some bb5_nextOfKernel_30 ∧ cd5_nextOfKernel 45 = some bb5_nextOfKernel_45 ∧ cd5_nextOfKernel 66 = some bb5_nextOfKernel_66 ∧ cd5_nextOfKernel 67 = some bb5_nextOfKernel_67 ∧ (mi_rm m5_next).cells = 0 ∧ (mi_rm m5_next).slots = 0 := ⟨rfl, rfl, rfl, rfl, rfl, rfl, rfl, rfl, rfl, rfl, rfl, rfl, rfl⟩
def bb5_pixelsByFours_0 : List PI := [(1, .lconst 0, 0, 0, 0, 0, kZ), (1, .lstore_n 3, 0, 0, 0, 0, kZ), (1, .iconst 0, 0, 0, 0, 0, kZ), (2, .istore 5, 0, 0, 0, 0, kZ)]
set_option maxRecDepth 100000 in
theorem oo5_pixelsByFours_0 : okL m5_pixelsByFours 0 bb5_pixelsByFours_0 := okL_of _ _ (by decide +kernel) ⟨trivial, ⟨trivial, ⟨trivial, ⟨trivial, trivial⟩⟩⟩⟩
def bb5_pixelsByFours_5 : List PI := [(2, .iload 5, 0, 0, 0, 0, kZ), (1, .iload_n 2, 0, 0, 0, 0, kZ), (3, .if_icmp .ge 102, 110, 0, 0, 0, kZ), (1, .aload_n 0, 0, 0, 0, 0, kZ), (3, .getfield 18, 5, 2, 0, 0, kZ), (3, .ifCond .ne 95, 110, 0, 0, 0, kZ), (1, .aload_n 0, 0, 0, 0, 0, kZ), (1, .aload_n 1, 0, 0, 0, 0, kZ), (3, .invokevirtual 66, 1, 5, 0, 0, m5_nextOfKernel), (2, .istore 6, 0, 0, 0, 0, kZ), (1, .iconst 0, 0, 0, 0, 0, kZ), (2, .istore 7, 0, 0, 0, 0, kZ)]
set_option maxRecDepth 100000 in
theorem oo5_pixelsByFours_5 : okL m5_pixelsByFours 5 bb5_pixelsByFours_5 := okL_of _ _ (by decide +kernel) ⟨trivial, ⟨trivial, ⟨rfl, ⟨trivial, ⟨lf_5_18, ⟨rfl, ⟨trivial, ⟨trivial, ⟨⟨mok_m5_nextOfKernel, ⟨by decide, by decide⟩, rfl, by decide, Or.inl lc_5_66⟩, ⟨trivial, ⟨trivial, ⟨trivial, trivial⟩⟩⟩⟩⟩⟩⟩⟩⟩⟩⟩⟩
def bb5_pixelsByFours_28 : List PI := [(2, .iload 7, 0, 0, 0, 0, kZ), (1, .iconst 4, 0, 0, 0, 0, kZ), (3, .if_icmp .ge 73, 104, 0, 0, 0, kZ), (1, .aload_n 0, 0, 0, 0, 0, kZ), (3, .getfield 18, 5, 2, 0, 0, kZ), (3, .ifCond .ne 66, 104, 0, 0, 0, kZ), (2, .iload 6, 0, 0, 0, 0, kZ), (1, .iconst 3, 0, 0, 0, 0, kZ), (2, .iload 7, 0, 0, 0, 0, kZ), (1, .isub, 0, 0, 0, 0, kZ), (1, .iushr, 0, 0, 0, 0, kZ), (1, .iconst 1, 0, 0, 0, 0, kZ), (1, .iand, 0, 0, 0, 0, kZ), (3, .ifCond .eq 7, 57, 0, 0, 0, kZ), (1, .iconst 1, 0, 0, 0, 0, kZ), (3, .goto 4, 58, 0, 0, 0, kZ)]
set_option maxRecDepth 100000 in
theorem oo5_pixelsByFours_28 : okL m5_pixelsByFours 28 bb5_pixelsByFours_28 := okL_of _ _ (by decide +kernel) ⟨trivial, ⟨trivial, ⟨rfl, ⟨trivial, ⟨lf_5_18, ⟨rfl, ⟨trivial, ⟨trivial, ⟨trivial, ⟨trivial, ⟨trivial, ⟨trivial, ⟨trivial, ⟨rfl, ⟨trivial, ⟨rfl, trivial⟩⟩⟩⟩⟩⟩⟩⟩⟩⟩⟩⟩⟩⟩⟩⟩
def bb5_pixelsByFours_57 : List PI := [(1, .iconst 0, 0, 0, 0, 0, kZ)]
set_option maxRecDepth 100000 in
theorem oo5_pixelsByFours_57 : okL m5_pixelsByFours 57 bb5_pixelsByFours_57 := okL_of _ _ (by decide +kernel) ⟨trivial, trivial⟩
def bb5_pixelsByFours_58 : List PI := [(2, .istore 8, 0, 0, 0, 0, kZ), (2, .iload 8, 0, 0, 0, 0, kZ), (3, .ifCond .eq 21, 83, 0, 0, 0, kZ), (2, .iload 5, 0, 0, 0, 0, kZ), (2, .iload 7, 0, 0, 0, 0, kZ), (1, .iadd, 0, 0, 0, 0, kZ), (1, .iload_n 2, 0, 0, 0, 0, kZ), (3, .if_icmp .lt 12, 83, 0, 0, 0, kZ), (1, .aload_n 0, 0, 0, 0, 0, kZ), (2, .bipush 6, 0, 0, 0, 0, kZ), (3, .putfield 18, 5, 2, 0, 0, kZ), (3, .goto 18, 98, 0, 0, 0, kZ)]
set_option maxRecDepth 100000 in
theorem oo5_pixelsByFours_58 : okL m5_pixelsByFours 58 bb5_pixelsByFours_58 := okL_of _ _ (by decide +kernel) ⟨trivial, ⟨trivial, ⟨rfl, ⟨trivial, ⟨trivial, ⟨trivial, ⟨trivial, ⟨rfl, ⟨trivial, ⟨trivial, ⟨lp_5_18 _, ⟨rfl, trivial⟩⟩⟩⟩⟩⟩⟩⟩⟩⟩⟩⟩
def bb5_pixelsByFours_83 : List PI := [(2, .iload 8, 0, 0, 0, 0, kZ), (3, .ifCond .eq 13, 98, 0, 0, 0, kZ), (1, .lload_n 3, 0, 0, 0, 0, kZ), (1, .lconst 1, 0, 0, 0, 0, kZ), (2, .iload 5, 0, 0, 0, 0, kZ), (2, .iload 7, 0, 0, 0, 0, kZ), (1, .iadd, 0, 0, 0, 0, kZ), (1, .lshl, 0, 0, 0, 0, kZ), (1, .lor, 0, 0, 0, 0, kZ), (1, .lstore_n 3, 0, 0, 0, 0, kZ)]
set_option maxRecDepth 100000 in
theorem oo5_pixelsByFours_83 : okL m5_pixelsByFours 83 bb5_pixelsByFours_83 := okL_of _ _ (by decide +kernel) ⟨trivial, ⟨rfl, ⟨trivial, ⟨trivial, ⟨trivial, ⟨trivial, ⟨trivial, ⟨trivial, ⟨trivial, ⟨trivial, trivial⟩⟩⟩⟩⟩⟩⟩⟩⟩⟩
def bb5_pixelsByFours_98 : List PI := [(3, .iinc 7 1, 0, 0, 0, 0, kZ), (3, .goto (-73), 28, 0, 0, 0, kZ)]
set_option maxRecDepth 100000 in
theorem oo5_pixelsByFours_98 : okL m5_pixelsByFours 98 bb5_pixelsByFours_98 := okL_of _ _ (by decide +kernel) ⟨trivial, ⟨rfl, trivial⟩⟩
def bb5_pixelsByFours_104 : List PI := [(3, .iinc 5 4, 0, 0, 0, 0, kZ), (3, .goto (-102), 5, 0, 0, 0, kZ)]
set_option maxRecDepth 100000 in
theorem oo5_pixelsByFours_104 : okL m5_pixelsByFours 104 bb5_pixelsByFours_104 := okL_of _ _ (by decide +kernel) ⟨trivial, ⟨rfl, trivial⟩⟩
def bb5_pixelsByFours_110 : List PI := [(1, .lload_n 3, 0, 0, 0, 0, kZ), (1, .lreturn, 0, 0, 0, 0, kZ)]
set_option maxRecDepth 100000 in
theorem oo5_pixelsByFours_110 : okL m5_pixelsByFours 110 bb5_pixelsByFours_110 := okL_of _ _ (by decide +kernel) ⟨trivial, ⟨rfl, trivial⟩⟩
def cd5_pixelsByFours (t : Nat) : Option (List PI) := match t with
  | 0 => some bb5_pixelsByFours_0
  | 57 => some bb5_pixelsByFours_57
  | 58 => some bb5_pixelsByFours_58
  | 83 => some bb5_pixelsByFours_83
  | 98 => some bb5_pixelsByFours_98
  | 104 => some bb5_pixelsByFours_104
  | 110 => some bb5_pixelsByFours_110
  | _ => none
theorem kd5_pixelsByFours : ∀ t is, cd5_pixelsByFours t = some is → okL m5_pixelsByFours t is := by
  intro t is h
  unfold cd5_pixelsByFours at h
  split at h <;> cases h
  · exact oo5_pixelsByFours_0
  · exact oo5_pixelsByFours_57
  · exact oo5_pixelsByFours_58
  · exact oo5_pixelsByFours_83
  · exact oo5_pixelsByFours_98
  · exact oo5_pixelsByFours_104
  · exact oo5_pixelsByFours_110
theorem ff5_pixelsByFours : mi_r m5_pixelsByFours = (some .long) ∧ mi_l m5_pixelsByFours = 9 ∧ mi_h m5_pixelsByFours = [] ∧ (mi_rm m5_pixelsByFours).cells = 0 ∧ (mi_rm m5_pixelsByFours).slots = 0 ∧ (mi_rm m5_pixelsByFours).locals = 98 ∧ cd5_pixelsByFours 0 = some bb5_pixelsByFours_0 ∧ cd5_pixelsByFours 5 = none ∧ cd5_pixelsByFours 28 = none ∧ cd5_pixelsByFours 57 = some bb5_pixelsByFours_57 ∧ cd5_pixelsByFours 58 = some bb5_pixelsByFours_58 ∧ cd5_pixelsByFours 83 = some bb5_pixelsByFours_83 ∧ cd5_pixelsByFours 98 = some bb5_pixelsByFours_98 ∧ cd5_pixelsByFours 104 = some bb5_pixelsByFours_104 ∧ cd5_pixelsByFours 110 = some bb5_pixelsByFours_110 ∧ (mi_rm m5_nextOfKernel).cells = 0 ∧ (mi_rm m5_nextOfKernel).slots = 0 := ⟨rfl, rfl, rfl, rfl, rfl, rfl, rfl, rfl, rfl, rfl, rfl, rfl, rfl, rfl, rfl, rfl, rfl⟩
def bb5_pixelsByRuns_0 : List PI := [(1, .lconst 0, 0, 0, 0, 0, kZ), (1, .lstore_n 3, 0, 0, 0, 0, kZ), (1, .iconst 0, 0, 0, 0, 0, kZ), (2, .istore 5, 0, 0, 0, 0, kZ), (1, .iconst 0, 0, 0, 0, 0, kZ), (2, .istore 6, 0, 0, 0, 0, kZ), (1, .iconst 0, 0, 0, 0, 0, kZ), (2, .istore 7, 0, 0, 0, 0, kZ)]
set_option maxRecDepth 100000 in
theorem oo5_pixelsByRuns_0 : okL m5_pixelsByRuns 0 bb5_pixelsByRuns_0 := okL_of _ _ (by decide +kernel) ⟨trivial, ⟨trivial, ⟨trivial, ⟨trivial, ⟨trivial, ⟨trivial, ⟨trivial, ⟨trivial, trivial⟩⟩⟩⟩⟩⟩⟩⟩
def bb5_pixelsByRuns_11 : List PI := [(2, .iload 7, 0, 0, 0, 0, kZ), (3, .sipush 500, 0, 0, 0, 0, kZ), (3, .if_icmp .ge 152, 168, 0, 0, 0, kZ), (2, .iload 6, 0, 0, 0, 0, kZ), (1, .iload_n 2, 0, 0, 0, 0, kZ), (3, .if_icmp .ge 146, 168, 0, 0, 0, kZ), (1, .aload_n 0, 0, 0, 0, 0, kZ), (3, .getfield 18, 5, 2, 0, 0, kZ), (3, .ifCond .ne 139, 168, 0, 0, 0, kZ), (1, .aload_n 0, 0, 0, 0, 0, kZ), (1, .aload_n 1, 0, 0, 0, 0, kZ), (3, .invokevirtual 66, 1, 5, 0, 0, m5_nextOfKernel), (2, .istore 8, 0, 0, 0, 0, kZ), (2, .iload 8, 0, 0, 0, 0, kZ), (2, .bipush 15, 0, 0, 0, 0, kZ), (3, .if_icmp .ne 12, 55, 0, 0, 0, kZ), (1, .aload_n 0, 0, 0, 0, 0, kZ), (2, .bipush 6, 0, 0, 0, 0, kZ), (3, .putfield 18, 5, 2, 0, 0, kZ), (3, .goto 45, 97, 0, 0, 0, kZ)]
set_option maxRecDepth 100000 in
theorem oo5_pixelsByRuns_11 : okL m5_pixelsByRuns 11 bb5_pixelsByRuns_11 := okL_of _ _ (by decide +kernel) ⟨trivial, ⟨trivial, ⟨rfl, ⟨trivial, ⟨trivial, ⟨rfl, ⟨trivial, ⟨lf_5_18, ⟨rfl, ⟨trivial, ⟨trivial, ⟨⟨mok_m5_nextOfKernel, ⟨by decide, by decide⟩, rfl, by decide, Or.inl lc_5_66⟩, ⟨trivial, ⟨trivial, ⟨trivial, ⟨rfl, ⟨trivial, ⟨trivial, ⟨lp_5_18 _, ⟨rfl, trivial⟩⟩⟩⟩⟩⟩⟩⟩⟩⟩⟩⟩⟩⟩⟩⟩⟩⟩⟩⟩
def bb5_pixelsByRuns_55 : List PI := [(2, .iload 8, 0, 0, 0, 0, kZ), (2, .bipush 14, 0, 0, 0, 0, kZ), (3, .if_icmp .ne 38, 97, 0, 0, 0, kZ), (1, .aload_n 0, 0, 0, 0, 0, kZ), (1, .aload_n 1, 0, 0, 0, 0, kZ), (3, .invokevirtual 66, 1, 5, 0, 0, m5_nextOfKernel), (2, .istore 9, 0, 0, 0, 0, kZ), (1, .aload_n 0, 0, 0, 0, 0, kZ), (3, .getfield 18, 5, 2, 0, 0, kZ), (3, .ifCond .ne 11, 84, 0, 0, 0, kZ), (1, .aload_n 0, 0, 0, 0, 0, kZ), (1, .aload_n 1, 0, 0, 0, 0, kZ), (3, .invokevirtual 66, 1, 5, 0, 0, m5_nextOfKernel), (3, .goto 4, 85, 0, 0, 0, kZ)]
set_option maxRecDepth 100000 in
theorem oo5_pixelsByRuns_55 : okL m5_pixelsByRuns 55 bb5_pixelsByRuns_55 := okL_of _ _ (by decide +kernel) ⟨trivial, ⟨trivial, ⟨rfl, ⟨trivial, ⟨trivial, ⟨⟨mok_m5_nextOfKernel, ⟨by decide, by decide⟩, rfl, by decide, Or.inl lc_5_66⟩, ⟨trivial, ⟨trivial, ⟨lf_5_18, ⟨rfl, ⟨trivial, ⟨trivial, ⟨⟨mok_m5_nextOfKernel, ⟨by decide, by decide⟩, rfl, by decide, Or.inl lc_5_66⟩, ⟨rfl, trivial⟩⟩⟩⟩⟩⟩⟩⟩⟩⟩⟩⟩⟩⟩
def bb5_pixelsByRuns_84 : List PI := [(1, .iconst (-1), 0, 0, 0, 0, kZ)]
set_option maxRecDepth 100000 in
theorem oo5_pixelsByRuns_84 : okL m5_pixelsByRuns 84 bb5_pixelsByRuns_84 := okL_of _ _ (by decide +kernel) ⟨trivial, trivial⟩
def bb5_pixelsByRuns_85 : List PI := [(2, .istore 10, 0, 0, 0, 0, kZ), (2, .bipush 16, 0, 0, 0, 0, kZ), (2, .iload 9, 0, 0, 0, 0, kZ), (1, .imul, 0, 0, 0, 0, kZ), (2, .iload 10, 0, 0, 0, 0, kZ), (1, .iadd, 0, 0, 0, 0, kZ), (2, .istore 8, 0, 0, 0, 0, kZ)]
set_option maxRecDepth 100000 in
theorem oo5_pixelsByRuns_85 : okL m5_pixelsByRuns 85 bb5_pixelsByRuns_85 := okL_of _ _ (by decide +kernel) ⟨trivial, ⟨trivial, ⟨trivial, ⟨trivial, ⟨trivial, ⟨trivial, ⟨trivial, trivial⟩⟩⟩⟩⟩⟩⟩
def bb5_pixelsByRuns_97 : List PI := [(1, .aload_n 0, 0, 0, 0, 0, kZ), (3, .getfield 18, 5, 2, 0, 0, kZ), (3, .ifCond .ne 18, 119, 0, 0, 0, kZ), (2, .iload 8, 0, 0, 0, 0, kZ), (1, .iload_n 2, 0, 0, 0, 0, kZ), (2, .iload 6, 0, 0, 0, 0, kZ), (1, .isub, 0, 0, 0, 0, kZ), (3, .if_icmp .le 9, 119, 0, 0, 0, kZ), (1, .aload_n 0, 0, 0, 0, 0, kZ), (2, .bipush 6, 0, 0, 0, 0, kZ), (3, .putfield 18, 5, 2, 0, 0, kZ)]
set_option maxRecDepth 100000 in
theorem oo5_pixelsByRuns_97 : okL m5_pixelsByRuns 97 bb5_pixelsByRuns_97 := okL_of _ _ (by decide +kernel) ⟨trivial, ⟨lf_5_18, ⟨rfl, ⟨trivial, ⟨trivial, ⟨trivial, ⟨trivial, ⟨rfl, ⟨trivial, ⟨trivial, ⟨lp_5_18 _, trivial⟩⟩⟩⟩⟩⟩⟩⟩⟩⟩⟩
def bb5_pixelsByRuns_119 : List PI := [(1, .aload_n 0, 0, 0, 0, 0, kZ), (3, .getfield 18, 5, 2, 0, 0, kZ), (3, .ifCond .ne 20, 143, 0, 0, 0, kZ), (2, .iload 5, 0, 0, 0, 0, kZ), (3, .ifCond .eq 15, 143, 0, 0, 0, kZ), (1, .lload_n 3, 0, 0, 0, 0, kZ), (1, .lconst 1, 0, 0, 0, 0, kZ), (2, .iload 8, 0, 0, 0, 0, kZ), (1, .lshl, 0, 0, 0, 0, kZ), (1, .lconst 1, 0, 0, 0, 0, kZ), (1, .lsub, 0, 0, 0, 0, kZ), (2, .iload 6, 0, 0, 0, 0, kZ), (1, .lshl, 0, 0, 0, 0, kZ), (1, .lor, 0, 0, 0, 0, kZ), (1, .lstore_n 3, 0, 0, 0, 0, kZ)]
set_option maxRecDepth 100000 in
theorem oo5_pixelsByRuns_119 : okL m5_pixelsByRuns 119 bb5_pixelsByRuns_119 := okL_of _ _ (by decide +kernel) ⟨trivial, ⟨lf_5_18, ⟨rfl, ⟨trivial, ⟨rfl, ⟨trivial, ⟨trivial, ⟨trivial, ⟨trivial, ⟨trivial, ⟨trivial, ⟨trivial, ⟨trivial, ⟨trivial, ⟨trivial, trivial⟩⟩⟩⟩⟩⟩⟩⟩⟩⟩⟩⟩⟩⟩⟩
def bb5_pixelsByRuns_143 : List PI := [(2, .iload 6, 0, 0, 0, 0, kZ), (2, .iload 8, 0, 0, 0, 0, kZ), (1, .iadd, 0, 0, 0, 0, kZ), (2, .istore 6, 0, 0, 0, 0, kZ), (2, .iload 5, 0, 0, 0, 0, kZ), (3, .ifCond .ne 7, 159, 0, 0, 0, kZ), (1, .iconst 1, 0, 0, 0, 0, kZ), (3, .goto 4, 160, 0, 0, 0, kZ)]
set_option maxRecDepth 100000 in
theorem oo5_pixelsByRuns_143 : okL m5_pixelsByRuns 143 bb5_pixelsByRuns_143 := okL_of _ _ (by decide +kernel) ⟨trivial, ⟨trivial, ⟨trivial, ⟨trivial, ⟨trivial, ⟨rfl, ⟨trivial, ⟨rfl, trivial⟩⟩⟩⟩⟩⟩⟩⟩
def bb5_pixelsByRuns_159 : List PI := [(1, .iconst 0, 0, 0, 0, 0, kZ)]
set_option maxRecDepth 100000 in
theorem oo5_pixelsByRuns_159 : okL m5_pixelsByRuns 159 bb5_pixelsByRuns_159 := okL_of _ _ (by decide +kernel) ⟨trivial, trivial⟩
def bb5_pixelsByRuns_160 : List PI := [(2, .istore 5, 0, 0, 0, 0, kZ), (3, .iinc 7 1, 0, 0, 0, 0, kZ), (3, .goto (-154), 11, 0, 0, 0, kZ)]
set_option maxRecDepth 100000 in
theorem oo5_pixelsByRuns_160 : okL m5_pixelsByRuns 160 bb5_pixelsByRuns_160 := okL_of _ _ (by decide +kernel) ⟨trivial, ⟨trivial, ⟨rfl, trivial⟩⟩⟩
def bb5_pixelsByRuns_168 : List PI := [(1, .lload_n 3, 0, 0, 0, 0, kZ), (1, .lreturn, 0, 0, 0, 0, kZ)]
set_option maxRecDepth 100000 in
theorem oo5_pixelsByRuns_168 : okL m5_pixelsByRuns 168 bb5_pixelsByRuns_168 := okL_of _ _ (by decide +kernel) ⟨trivial, ⟨rfl, trivial⟩⟩
def cd5_pixelsByRuns (t : Nat) : Option (List PI) := match t with
  | 0 => some bb5_pixelsByRuns_0
  | 55 => some bb5_pixelsByRuns_55
  | 84 => some bb5_pixelsByRuns_84
  | 85 => some bb5_pixelsByRuns_85
  | 97 => some bb5_pixelsByRuns_97
  | 119 => some bb5_pixelsByRuns_119
  | 143 => some bb5_pixelsByRuns_143
  | 159 => some bb5_pixelsByRuns_159
  | 160 => some bb5_pixelsByRuns_160
  | 168 => some bb5_pixelsByRuns_168
  | _ => none
theorem kd5_pixelsByRuns : ∀ t is, cd5_pixelsByRuns t = some is → okL m5_pixelsByRuns t is := by
  intro t is h
  unfold cd5_pixelsByRuns at h
  split at h <;> cases h
  · exact oo5_pixelsByRuns_0
  · exact oo5_pixelsByRuns_55
  · exact oo5_pixelsByRuns_84
  · exact oo5_pixelsByRuns_85
  · exact oo5_pixelsByRuns_97
  · exact oo5_pixelsByRuns_119
  · exact oo5_pixelsByRuns_143
  · exact oo5_pixelsByRuns_159
  · exact oo5_pixelsByRuns_160
  · exact oo5_pixelsByRuns_168
theorem ff5_pixelsByRuns : mi_r m5_pixelsByRuns = (some .long) ∧ mi_l m5_pixelsByRuns = 11 ∧ mi_h m5_pixelsByRuns = [] ∧ (mi_rm m5_pixelsByRuns).cells = 0 ∧ (mi_rm m5_pixelsByRuns).slots = 0 ∧ (mi_rm m5_pixelsByRuns).locals = 98 ∧ cd5_pixelsByRuns 0 = some bb5_pixelsByRuns_0 ∧ cd5_pixelsByRuns 11 = none ∧ cd5_pixelsByRuns 55 = some bb5_pixelsByRuns_55 ∧ cd5_pixelsByRuns 84 = some bb5_pixelsByRuns_84 ∧ cd5_pixelsByRuns 85 = some bb5_pixelsByRuns_85 ∧ cd5_pixelsByRuns 97 = some bb5_pixelsByRuns_97 ∧ cd5_pixelsByRuns 119 = some bb5_pixelsByRuns_119 ∧ cd5_pixelsByRuns 143 = some bb5_pixelsByRuns_143 ∧ cd5_pixelsByRuns 159 = some bb5_pixelsByRuns_159 ∧ cd5_pixelsByRuns 160 = some bb5_pixelsByRuns_160 ∧ cd5_pixelsByRuns 168 = some bb5_pixelsByRuns_168 ∧ (mi_rm m5_nextOfKernel).cells = 0 ∧ (mi_rm m5_nextOfKernel).slots = 0 := ⟨rfl, rfl, rfl, rfl, rfl, rfl, rfl, rfl, rfl, rfl, rfl, rfl, rfl, rfl, rfl, rfl, rfl, rfl, rfl⟩
def bb6_has_0 : List PI := [(1, .iload_n 1, 0, 0, 0, 0, kZ), (3, .ifCond .lt 27, 28, 0, 0, 0, kZ), (1, .iload_n 1, 0, 0, 0, 0, kZ), (1, .aload_n 0, 0, 0, 0, 0, kZ), (3, .getfield 15, 6, 1, 0, 0, kZ), (1, .arraylength, 0, 0, 0, 0, kZ), (3, .if_icmp .ge 18, 28, 0, 0, 0, kZ), (1, .aload_n 0, 0, 0, 0, 0, kZ), (3, .getfield 9, 6, 0, 0, 0, kZ), (1, .iload_n 1, 0, 0, 0, 0, kZ), (1, .iushr, 0, 0, 0, 0, kZ), (1, .iconst 1, 0, 0, 0, 0, kZ), (1, .iand, 0, 0, 0, 0, kZ), (3, .ifCond .eq 7, 28, 0, 0, 0, kZ), (1, .iconst 1, 0, 0, 0, 0, kZ), (3, .goto 4, 29, 0, 0, 0, kZ)]
set_option maxRecDepth 100000 in
theorem oo6_has_0 : okL m6_has 0 bb6_has_0 := okL_of _ _ (by decide +kernel) ⟨trivial, ⟨rfl, ⟨trivial, ⟨trivial, ⟨lf_6_15, ⟨trivial, ⟨rfl, ⟨trivial, ⟨lf_6_9, ⟨trivial, ⟨trivial, ⟨trivial, ⟨trivial, ⟨rfl, ⟨trivial, ⟨rfl, trivial⟩⟩⟩⟩⟩⟩⟩⟩⟩⟩⟩⟩⟩⟩⟩⟩
def bb6_has_28 : List PI := [(1, .iconst 0, 0, 0, 0, 0, kZ)]
set_option maxRecDepth 100000 in
theorem oo6_has_28 : okL m6_has 28 bb6_has_28 := okL_of _ _ (by decide +kernel) ⟨trivial, trivial⟩
def bb6_has_29 : List PI := [(1, .ireturn, 0, 0, 0, 0, kZ)]
set_option maxRecDepth 100000 in
theorem oo6_has_29 : okL m6_has 29 bb6_has_29 := okL_of _ _ (by decide +kernel) ⟨trivial, trivial⟩
def cd6_has (t : Nat) : Option (List PI) := match t with
  | 0 => some bb6_has_0
  | 28 => some bb6_has_28
  | 29 => some bb6_has_29
  | _ => none
theorem kd6_has : ∀ t is, cd6_has t = some is → okL m6_has t is := by
  intro t is h
  unfold cd6_has at h
  split at h <;> cases h
  · exact oo6_has_0
  · exact oo6_has_28
  · exact oo6_has_29
theorem ff6_has : mi_r m6_has = (some .boolean) ∧ mi_l m6_has = 2 ∧ mi_h m6_has = [] ∧ (mi_rm m6_has).cells = 0 ∧ (mi_rm m6_has).slots = 0 ∧ (mi_rm m6_has).locals = 32 ∧ cd6_has 0 = some bb6_has_0 ∧ cd6_has 28 = some bb6_has_28 ∧ cd6_has 29 = some bb6_has_29 := ⟨rfl, rfl, rfl, rfl, rfl, rfl, rfl, rfl, rfl⟩
def bb6_rowOf_0 : List PI := [(1, .aload_n 0, 0, 0, 0, 0, kZ), (1, .iload_n 1, 0, 0, 0, 0, kZ), (3, .invokevirtual 29, 1, 6, 0, 0, m6_has), (3, .ifCond .eq 12, 17, 0, 0, 0, kZ), (1, .aload_n 0, 0, 0, 0, 0, kZ), (3, .getfield 15, 6, 1, 0, 0, kZ), (1, .iload_n 1, 0, 0, 0, 0, kZ), (1, .laload, 0, 0, 0, 0, kZ), (3, .goto 4, 18, 0, 0, 0, kZ)]
set_option maxRecDepth 100000 in
theorem oo6_rowOf_0 : okL m6_rowOf 0 bb6_rowOf_0 := okL_of _ _ (by decide +kernel) ⟨trivial, ⟨trivial, ⟨⟨mok_m6_has, ⟨by decide, by decide⟩, rfl, by decide, Or.inl lc_6_29⟩, ⟨rfl, ⟨trivial, ⟨lf_6_15, ⟨trivial, ⟨trivial, ⟨rfl, trivial⟩⟩⟩⟩⟩⟩⟩⟩⟩
def bb6_rowOf_17 : List PI := [(1, .lconst 0, 0, 0, 0, 0, kZ)]
set_option maxRecDepth 100000 in
theorem oo6_rowOf_17 : okL m6_rowOf 17 bb6_rowOf_17 := okL_of _ _ (by decide +kernel) ⟨trivial, trivial⟩
def bb6_rowOf_18 : List PI := [(1, .lreturn, 0, 0, 0, 0, kZ)]
set_option maxRecDepth 100000 in
theorem oo6_rowOf_18 : okL m6_rowOf 18 bb6_rowOf_18 := okL_of _ _ (by decide +kernel) ⟨rfl, trivial⟩
def cd6_rowOf (t : Nat) : Option (List PI) := match t with
  | 0 => some bb6_rowOf_0
  | 17 => some bb6_rowOf_17
  | 18 => some bb6_rowOf_18
  | _ => none
theorem kd6_rowOf : ∀ t is, cd6_rowOf t = some is → okL m6_rowOf t is := by
  intro t is h
  unfold cd6_rowOf at h
  split at h <;> cases h
  · exact oo6_rowOf_0
  · exact oo6_rowOf_17
  · exact oo6_rowOf_18
theorem ff6_rowOf : mi_r m6_rowOf = (some .long) ∧ mi_l m6_rowOf = 2 ∧ mi_h m6_rowOf = [] ∧ (mi_rm m6_rowOf).cells = 0 ∧ (mi_rm m6_rowOf).slots = 0 ∧ (mi_rm m6_rowOf).locals = 53 ∧ cd6_rowOf 0 = some bb6_rowOf_0 ∧ cd6_rowOf 17 = some bb6_rowOf_17 ∧ cd6_rowOf 18 = some bb6_rowOf_18 ∧ (mi_rm m6_has).cells = 0 ∧ (mi_rm m6_has).slots = 0 := ⟨rfl, rfl, rfl, rfl, rfl, rfl, rfl, rfl, rfl, rfl, rfl⟩
def bb6_take_0 : List PI := [(1, .iload_n 1, 0, 0, 0, 0, kZ), (3, .ifCond .lt 31, 32, 0, 0, 0, kZ), (1, .iload_n 1, 0, 0, 0, 0, kZ), (1, .aload_n 0, 0, 0, 0, 0, kZ), (3, .getfield 15, 6, 1, 0, 0, kZ), (1, .arraylength, 0, 0, 0, 0, kZ), (3, .if_icmp .ge 22, 32, 0, 0, 0, kZ), (1, .aload_n 0, 0, 0, 0, 0, kZ), (3, .getfield 15, 6, 1, 0, 0, kZ), (1, .iload_n 1, 0, 0, 0, 0, kZ), (1, .lload_n 2, 0, 0, 0, 0, kZ), (1, .lastore, 0, 0, 0, 0, kZ), (1, .aload_n 0, 0, 0, 0, 0, kZ), (1, .dup, 0, 0, 0, 0, kZ), (3, .getfield 9, 6, 0, 0, 0, kZ), (1, .iconst 1, 0, 0, 0, 0, kZ), (1, .iload_n 1, 0, 0, 0, 0, kZ), (1, .ishl, 0, 0, 0, 0, kZ), (1, .ior, 0, 0, 0, 0, kZ), (3, .putfield 9, 6, 0, 0, 0, kZ)]
set_option maxRecDepth 100000 in
theorem oo6_take_0 : okL m6_take 0 bb6_take_0 := okL_of _ _ (by decide +kernel) ⟨trivial, ⟨rfl, ⟨trivial, ⟨trivial, ⟨lf_6_15, ⟨trivial, ⟨rfl, ⟨trivial, ⟨lf_6_15, ⟨trivial, ⟨trivial, ⟨trivial, ⟨trivial, ⟨trivial, ⟨lf_6_9, ⟨trivial, ⟨trivial, ⟨trivial, ⟨trivial, ⟨lp_6_9 _, trivial⟩⟩⟩⟩⟩⟩⟩⟩⟩⟩⟩⟩⟩⟩⟩⟩⟩⟩⟩⟩
def bb6_take_32 : List PI := [(1, .return_, 0, 0, 0, 0, kZ)]
set_option maxRecDepth 100000 in
theorem oo6_take_32 : okL m6_take 32 bb6_take_32 := okL_of _ _ (by decide +kernel) ⟨rfl, trivial⟩
def cd6_take (t : Nat) : Option (List PI) := match t with
  | 0 => some bb6_take_0
  | 32 => some bb6_take_32
  | _ => none
theorem kd6_take : ∀ t is, cd6_take t = some is → okL m6_take t is := by
  intro t is h
  unfold cd6_take at h
  split at h <;> cases h
  · exact oo6_take_0
  · exact oo6_take_32
theorem ff6_take : mi_r m6_take = none ∧ mi_l m6_take = 4 ∧ mi_h m6_take = [] ∧ (mi_rm m6_take).cells = 0 ∧ (mi_rm m6_take).slots = 0 ∧ (mi_rm m6_take).locals = 32 ∧ cd6_take 0 = some bb6_take_0 ∧ cd6_take 32 = some bb6_take_32 := ⟨rfl, rfl, rfl, rfl, rfl, rfl, rfl, rfl⟩
def bb5_readCode_0 : List PI := [(1, .aload_n 0, 0, 0, 0, 0, kZ), (1, .aload_n 1, 0, 0, 0, 0, kZ), (3, .invokevirtual 40, 1, 5, 0, 0, m5_next), (2, .istore 4, 0, 0, 0, 0, kZ), (2, .iload 4, 0, 0, 0, 0, kZ), (2, .bipush 10, 0, 0, 0, 0, kZ), (3, .if_icmp .lt 8, 19, 0, 0, 0, kZ), (1, .aload_n 0, 0, 0, 0, 0, kZ), (1, .iconst 2, 0, 0, 0, 0, kZ), (3, .putfield 18, 5, 2, 0, 0, kZ)]
set_option maxRecDepth 100000 in
theorem oo5_readCode_0 : okL m5_readCode 0 bb5_readCode_0 := okL_of _ _ (by decide +kernel) ⟨trivial, ⟨trivial, ⟨⟨mok_m5_next, ⟨by decide, by decide⟩, rfl, by decide, Or.inl lc_5_40⟩, ⟨trivial, ⟨trivial, ⟨trivial, ⟨rfl, ⟨trivial, ⟨trivial, ⟨lp_5_18 _, trivial⟩⟩⟩⟩⟩⟩⟩⟩⟩⟩
def bb5_readCode_19 : List PI := [(1, .aload_n 0, 0, 0, 0, 0, kZ), (3, .getfield 18, 5, 2, 0, 0, kZ), (3, .ifCond .ne 11, 34, 0, 0, 0, kZ), (1, .aload_n 0, 0, 0, 0, 0, kZ), (1, .aload_n 1, 0, 0, 0, 0, kZ), (3, .invokevirtual 40, 1, 5, 0, 0, m5_next), (3, .goto 4, 35, 0, 0, 0, kZ)]
set_option maxRecDepth 100000 in
theorem oo5_readCode_19 : okL m5_readCode 19 bb5_readCode_19 := okL_of _ _ (by decide +kernel) ⟨trivial, ⟨lf_5_18, ⟨rfl, ⟨trivial, ⟨trivial, ⟨⟨mok_m5_next, ⟨by decide, by decide⟩, rfl, by decide, Or.inl lc_5_40⟩, ⟨rfl, trivial⟩⟩⟩⟩⟩⟩⟩
def bb5_readCode_34 : List PI := [(1, .iconst (-1), 0, 0, 0, 0, kZ)]
set_option maxRecDepth 100000 in
theorem oo5_readCode_34 : okL m5_readCode 34 bb5_readCode_34 := okL_of _ _ (by decide +kernel) ⟨trivial, trivial⟩
def bb5_readCode_35 : List PI := [(2, .istore 5, 0, 0, 0, 0, kZ), (2, .iload 5, 0, 0, 0, 0, kZ), (1, .iconst 3, 0, 0, 0, 0, kZ), (3, .if_icmp .lt 8, 48, 0, 0, 0, kZ), (1, .aload_n 0, 0, 0, 0, 0, kZ), (1, .iconst 3, 0, 0, 0, 0, kZ), (3, .putfield 18, 5, 2, 0, 0, kZ)]
set_option maxRecDepth 100000 in
theorem oo5_readCode_35 : okL m5_readCode 35 bb5_readCode_35 := okL_of _ _ (by decide +kernel) ⟨trivial, ⟨trivial, ⟨trivial, ⟨rfl, ⟨trivial, ⟨trivial, ⟨lp_5_18 _, trivial⟩⟩⟩⟩⟩⟩⟩
def bb5_readCode_48 : List PI := [(2, .iload 5, 0, 0, 0, 0, kZ), (1, .iconst 2, 0, 0, 0, 0, kZ), (3, .if_icmp .ne 25, 76, 0, 0, 0, kZ), (2, .iload 4, 0, 0, 0, 0, kZ), (3, .ifCond .le 20, 76, 0, 0, 0, kZ), (1, .aload_n 3, 0, 0, 0, 0, kZ), (2, .iload 4, 0, 0, 0, 0, kZ), (1, .iconst 1, 0, 0, 0, 0, kZ), (1, .isub, 0, 0, 0, 0, kZ), (3, .invokevirtual 44, 1, 6, 0, 0, m6_has), (3, .ifCond .ne 9, 76, 0, 0, 0, kZ), (1, .aload_n 0, 0, 0, 0, 0, kZ), (2, .bipush 7, 0, 0, 0, 0, kZ), (3, .putfield 18, 5, 2, 0, 0, kZ)]
set_option maxRecDepth 100000 in
theorem oo5_readCode_48 : okL m5_readCode 48 bb5_readCode_48 := okL_of _ _ (by decide +kernel) ⟨trivial, ⟨trivial, ⟨rfl, ⟨trivial, ⟨rfl, ⟨trivial, ⟨trivial, ⟨trivial, ⟨trivial, ⟨⟨mok_m6_has, ⟨by decide, by decide⟩, rfl, by decide, Or.inr lc_5_44⟩, ⟨rfl, ⟨trivial, ⟨trivial, ⟨lp_5_18 _, trivial⟩⟩⟩⟩⟩⟩⟩⟩⟩⟩⟩⟩⟩⟩
def bb5_readCode_76 : List PI := [(1, .aload_n 0, 0, 0, 0, 0, kZ), (3, .getfield 18, 5, 2, 0, 0, kZ), (3, .ifCond .eq 4, 84, 0, 0, 0, kZ), (1, .return_, 0, 0, 0, 0, kZ)]
set_option maxRecDepth 100000 in
theorem oo5_readCode_76 : okL m5_readCode 76 bb5_readCode_76 := okL_of _ _ (by decide +kernel) ⟨trivial, ⟨lf_5_18, ⟨rfl, ⟨rfl, trivial⟩⟩⟩⟩
def bb5_readCode_84 : List PI := [(1, .aload_n 0, 0, 0, 0, 0, kZ), (2, .iload 4, 0, 0, 0, 0, kZ), (2, .iload 5, 0, 0, 0, 0, kZ), (1, .iadd, 0, 0, 0, 0, kZ), (3, .putfield 15, 5, 1, 0, 0, kZ), (2, .iload 5, 0, 0, 0, 0, kZ), (1, .iconst 1, 0, 0, 0, 0, kZ), (3, .if_icmp .ne 12, 108, 0, 0, 0, kZ), (1, .aload_n 0, 0, 0, 0, 0, kZ), (1, .aload_n 1, 0, 0, 0, 0, kZ), (1, .iload_n 2, 0, 0, 0, 0, kZ), (3, .invokevirtual 48, 2, 5, 0, 0, m5_pixelsByFours), (3, .goto 9, 114, 0, 0, 0, kZ)]
set_option maxRecDepth 100000 in
theorem oo5_readCode_84 : okL m5_readCode 84 bb5_readCode_84 := okL_of _ _ (by decide +kernel) ⟨trivial, ⟨trivial, ⟨trivial, ⟨trivial, ⟨lp_5_15 _, ⟨trivial, ⟨trivial, ⟨rfl, ⟨trivial, ⟨trivial, ⟨trivial, ⟨⟨mok_m5_pixelsByFours, ⟨by decide, by decide⟩, rfl, by decide, Or.inl lc_5_48⟩, ⟨rfl, trivial⟩⟩⟩⟩⟩⟩⟩⟩⟩⟩⟩⟩⟩
def bb5_readCode_108 : List PI := [(1, .aload_n 0, 0, 0, 0, 0, kZ), (1, .aload_n 1, 0, 0, 0, 0, kZ), (1, .iload_n 2, 0, 0, 0, 0, kZ), (3, .invokevirtual 52, 2, 5, 0, 0, m5_pixelsByRuns)]
set_option maxRecDepth 100000 in
theorem oo5_readCode_108 : okL m5_readCode 108 bb5_readCode_108 := okL_of _ _ (by decide +kernel) ⟨trivial, ⟨trivial, ⟨trivial, ⟨⟨mok_m5_pixelsByRuns, ⟨by decide, by decide⟩, rfl, by decide, Or.inl lc_5_52⟩, trivial⟩⟩⟩⟩
def bb5_readCode_114 : List PI := [(2, .lstore 6, 0, 0, 0, 0, kZ), (1, .aload_n 0, 0, 0, 0, 0, kZ), (3, .getfield 18, 5, 2, 0, 0, kZ), (3, .ifCond .ne 11, 131, 0, 0, 0, kZ), (1, .aload_n 0, 0, 0, 0, 0, kZ), (1, .aload_n 1, 0, 0, 0, 0, kZ), (3, .invokevirtual 40, 1, 5, 0, 0, m5_next), (3, .goto 4, 132, 0, 0, 0, kZ)]
set_option maxRecDepth 100000 in
theorem oo5_readCode_114 : okL m5_readCode 114 bb5_readCode_114 := okL_of _ _ (by decide +kernel) ⟨trivial, ⟨trivial, ⟨lf_5_18, ⟨rfl, ⟨trivial, ⟨trivial, ⟨⟨mok_m5_next, ⟨by decide, by decide⟩, rfl, by decide, Or.inl lc_5_40⟩, ⟨rfl, trivial⟩⟩⟩⟩⟩⟩⟩⟩
def bb5_readCode_131 : List PI := [(1, .iconst (-1), 0, 0, 0, 0, kZ)]
set_option maxRecDepth 100000 in
theorem oo5_readCode_131 : okL m5_readCode 131 bb5_readCode_131 := okL_of _ _ (by decide +kernel) ⟨trivial, trivial⟩
def bb5_readCode_132 : List PI := [(2, .istore 8, 0, 0, 0, 0, kZ), (1, .aload_n 0, 0, 0, 0, 0, kZ), (3, .getfield 18, 5, 2, 0, 0, kZ), (3, .ifCond .ne 21, 159, 0, 0, 0, kZ), (2, .iload 8, 0, 0, 0, 0, kZ), (1, .aload_n 0, 0, 0, 0, 0, kZ), (3, .getfield 15, 5, 1, 0, 0, kZ), (2, .bipush 15, 0, 0, 0, 0, kZ), (1, .irem, 0, 0, 0, 0, kZ), (3, .if_icmp .eq 9, 159, 0, 0, 0, kZ), (1, .aload_n 0, 0, 0, 0, 0, kZ), (2, .bipush 8, 0, 0, 0, 0, kZ), (3, .putfield 18, 5, 2, 0, 0, kZ)]
set_option maxRecDepth 100000 in
theorem oo5_readCode_132 : okL m5_readCode 132 bb5_readCode_132 := okL_of _ _ (by decide +kernel) ⟨trivial, ⟨trivial, ⟨lf_5_18, ⟨rfl, ⟨trivial, ⟨trivial, ⟨lf_5_15, ⟨trivial, ⟨trivial, ⟨rfl, ⟨trivial, ⟨trivial, ⟨lp_5_18 _, trivial⟩⟩⟩⟩⟩⟩⟩⟩⟩⟩⟩⟩⟩
def bb5_readCode_159 : List PI := [(1, .aload_n 0, 0, 0, 0, 0, kZ), (3, .getfield 18, 5, 2, 0, 0, kZ), (3, .ifCond .ne 31, 194, 0, 0, 0, kZ), (1, .aload_n 3, 0, 0, 0, 0, kZ), (2, .iload 4, 0, 0, 0, 0, kZ), (2, .iload 5, 0, 0, 0, 0, kZ), (1, .iconst 2, 0, 0, 0, 0, kZ), (3, .if_icmp .ne 17, 189, 0, 0, 0, kZ), (2, .lload 6, 0, 0, 0, 0, kZ), (1, .aload_n 3, 0, 0, 0, 0, kZ), (2, .iload 4, 0, 0, 0, 0, kZ), (1, .iconst 1, 0, 0, 0, 0, kZ), (1, .isub, 0, 0, 0, 0, kZ), (3, .invokevirtual 55, 1, 6, 0, 0, m6_rowOf), (1, .lxor, 0, 0, 0, 0, kZ), (3, .goto 5, 191, 0, 0, 0, kZ)]
set_option maxRecDepth 100000 in
theorem oo5_readCode_159 : okL m5_readCode 159 bb5_readCode_159 := okL_of _ _ (by decide +kernel) ⟨trivial, ⟨lf_5_18, ⟨rfl, ⟨trivial, ⟨trivial, ⟨trivial, ⟨trivial, ⟨rfl, ⟨trivial, ⟨trivial, ⟨trivial, ⟨trivial, ⟨trivial, ⟨⟨mok_m6_rowOf, ⟨by decide, by decide⟩, rfl, by decide, Or.inr lc_5_55⟩, ⟨trivial, ⟨rfl, trivial⟩⟩⟩⟩⟩⟩⟩⟩⟩⟩⟩⟩⟩⟩⟩⟩
def bb5_readCode_189 : List PI := [(2, .lload 6, 0, 0, 0, 0, kZ)]
set_option maxRecDepth 100000 in
theorem oo5_readCode_189 : okL m5_readCode 189 bb5_readCode_189 := okL_of _ _ (by decide +kernel) ⟨trivial, trivial⟩
def bb5_readCode_191 : List PI := [(3, .invokevirtual 59, 2, 6, 0, 0, m6_take)]
set_option maxRecDepth 100000 in
theorem oo5_readCode_191 : okL m5_readCode 191 bb5_readCode_191 := okL_of _ _ (by decide +kernel) ⟨⟨mok_m6_take, ⟨by decide, by decide⟩, rfl, by decide, Or.inr lc_5_59⟩, trivial⟩
def bb5_readCode_194 : List PI := [(1, .return_, 0, 0, 0, 0, kZ)]
set_option maxRecDepth 100000 in
theorem oo5_readCode_194 : okL m5_readCode 194 bb5_readCode_194 := okL_of _ _ (by decide +kernel) ⟨rfl, trivial⟩
def cd5_readCode (t : Nat) : Option (List PI) := match t with
  | 0 => some bb5_readCode_0
  | 19 => some bb5_readCode_19
  | 34 => some bb5_readCode_34
  | 35 => some bb5_readCode_35
  | 48 => some bb5_readCode_48
  | 76 => some bb5_readCode_76
  | 84 => some bb5_readCode_84
  | 108 => some bb5_readCode_108
  | 114 => some bb5_readCode_114
  | 131 => some bb5_readCode_131
  | 132 => some bb5_readCode_132
  | 159 => some bb5_readCode_159
  | 189 => some bb5_readCode_189
  | 191 => some bb5_readCode_191
  | 194 => some bb5_readCode_194
  | _ => none
theorem kd5_readCode : ∀ t is, cd5_readCode t = some is → okL m5_readCode t is := by
  intro t is h
  unfold cd5_readCode at h
  split at h <;> cases h
  · exact oo5_readCode_0
  · exact oo5_readCode_19
  · exact oo5_readCode_34
  · exact oo5_readCode_35
  · exact oo5_readCode_48
  · exact oo5_readCode_76
  · exact oo5_readCode_84
  · exact oo5_readCode_108
  · exact oo5_readCode_114
  · exact oo5_readCode_131
  · exact oo5_readCode_132
  · exact oo5_readCode_159
  · exact oo5_readCode_189
  · exact oo5_readCode_191
  · exact oo5_readCode_194
theorem ff5_readCode : mi_r m5_readCode = none ∧ mi_l m5_readCode = 9 ∧ mi_h m5_readCode = [] ∧ (mi_rm m5_readCode).cells = 0 ∧ (mi_rm m5_readCode).slots = 0 ∧ (mi_rm m5_readCode).locals = 128 ∧ cd5_readCode 0 = some bb5_readCode_0 ∧ cd5_readCode 19 = some bb5_readCode_19 ∧ cd5_readCode 34 = some bb5_readCode_34 ∧ cd5_readCode 35 = some bb5_readCode_35 ∧ cd5_readCode 48 = some bb5_readCode_48 ∧ cd5_readCode 76 = some bb5_readCode_76 ∧ cd5_readCode 84 = some bb5_readCode_84 ∧ cd5_readCode 108 = some bb5_readCode_108 ∧ cd5_readCode 114 = some bb5_readCode_114 ∧ cd5_readCode 131 = some bb5_readCode_131 ∧ cd5_readCode 132 = some bb5_readCode_132 ∧ cd5_readCode 159 = some bb5_readCode_159 ∧ cd5_readCode 189 = some bb5_readCode_189 ∧ cd5_readCode 191 = some bb5_readCode_191 ∧ cd5_readCode 194 = some bb5_readCode_194 ∧ (mi_rm m5_next).cells = 0 ∧ (mi_rm m5_next).slots = 0 ∧ (mi_rm m5_pixelsByFours).cells = 0 ∧ (mi_rm m5_pixelsByFours).slots = 0 ∧ (mi_rm m5_pixelsByRuns).cells = 0 ∧ (mi_rm m5_pixelsByRuns).slots = 0 ∧ (mi_rm m6_has).cells = 0 ∧ (mi_rm m6_has).slots = 0 ∧ (mi_rm m6_rowOf).cells = 0 ∧ (mi_rm m6_rowOf).slots = 0 ∧ (mi_rm m6_take).cells = 0 ∧ (mi_rm m6_take).slots = 0 := ⟨rfl, rfl, rfl, rfl, rfl, rfl, rfl, rfl, rfl, rfl, rfl, rfl, rfl, rfl, rfl, rfl, rfl, rfl, rfl, rfl, rfl, rfl, rfl, rfl, rfl, rfl, rfl, rfl, rfl, rfl, rfl, rfl, rfl⟩
def bb6_empty_0 : List PI := [(1, .aload_n 0, 0, 0, 0, 0, kZ), (1, .iconst 0, 0, 0, 0, 0, kZ), (3, .putfield 9, 6, 0, 0, 0, kZ), (1, .aload_n 0, 0, 0, 0, 0, kZ), (1, .iconst 0, 0, 0, 0, 0, kZ), (3, .putfield 19, 6, 2, 0, 0, kZ), (1, .return_, 0, 0, 0, 0, kZ)]
set_option maxRecDepth 100000 in
theorem oo6_empty_0 : okL m6_empty 0 bb6_empty_0 := okL_of _ _ (by decide +kernel) ⟨trivial, ⟨trivial, ⟨lp_6_9 _, ⟨trivial, ⟨trivial, ⟨lp_6_19 _, ⟨rfl, trivial⟩⟩⟩⟩⟩⟩⟩
def cd6_empty (t : Nat) : Option (List PI) := match t with
  | 0 => some bb6_empty_0
  | _ => none
theorem kd6_empty : ∀ t is, cd6_empty t = some is → okL m6_empty t is := by
  intro t is h
  unfold cd6_empty at h
  split at h <;> cases h
  · exact oo6_empty_0
theorem ff6_empty : mi_r m6_empty = none ∧ mi_l m6_empty = 1 ∧ mi_h m6_empty = [] ∧ (mi_rm m6_empty).cells = 0 ∧ (mi_rm m6_empty).slots = 0 ∧ (mi_rm m6_empty).locals = 32 ∧ cd6_empty 0 = some bb6_empty_0 := ⟨rfl, rfl, rfl, rfl, rfl, rfl, rfl⟩
def bb6_note_0 : List PI := [(1, .aload_n 0, 0, 0, 0, 0, kZ), (3, .getfield 19, 6, 2, 0, 0, kZ), (3, .ifCond .lt 57, 61, 0, 0, 0, kZ), (1, .aload_n 0, 0, 0, 0, 0, kZ), (3, .getfield 19, 6, 2, 0, 0, kZ), (1, .aload_n 0, 0, 0, 0, 0, kZ), (3, .getfield 22, 6, 3, 0, 0, kZ), (1, .arraylength, 0, 0, 0, 0, kZ), (3, .if_icmp .ge 45, 61, 0, 0, 0, kZ), (1, .aload_n 0, 0, 0, 0, 0, kZ), (3, .getfield 19, 6, 2, 0, 0, kZ), (1, .aload_n 0, 0, 0, 0, 0, kZ), (3, .getfield 26, 6, 4, 0, 0, kZ), (1, .arraylength, 0, 0, 0, 0, kZ), (3, .if_icmp .ge 33, 61, 0, 0, 0, kZ), (1, .aload_n 0, 0, 0, 0, 0, kZ), (3, .getfield 22, 6, 3, 0, 0, kZ), (1, .aload_n 0, 0, 0, 0, 0, kZ), (3, .getfield 19, 6, 2, 0, 0, kZ), (1, .iload_n 1, 0, 0, 0, 0, kZ), (1, .iastore, 0, 0, 0, 0, kZ), (1, .aload_n 0, 0, 0, 0, 0, kZ), (3, .getfield 26, 6, 4, 0, 0, kZ), (1, .aload_n 0, 0, 0, 0, 0, kZ), (3, .getfield 19, 6, 2, 0, 0, kZ), (1, .iload_n 2, 0, 0, 0, 0, kZ), (1, .iastore, 0, 0, 0, 0, kZ), (1, .aload_n 0, 0, 0, 0, 0, kZ), (1, .dup, 0, 0, 0, 0, kZ), (3, .getfield 19, 6, 2, 0, 0, kZ), (1, .iconst 1, 0, 0, 0, 0, kZ), (1, .iadd, 0, 0, 0, 0, kZ), (3, .putfield 19, 6, 2, 0, 0, kZ)]
set_option maxRecDepth 100000 in
theorem oo6_note_0 : okL m6_note 0 bb6_note_0 := okL_of _ _ (by decide +kernel) ⟨trivial, ⟨lf_6_19, ⟨rfl, ⟨trivial, ⟨lf_6_19, ⟨trivial, ⟨lf_6_22, ⟨trivial, ⟨rfl, ⟨trivial, ⟨lf_6_19, ⟨trivial, ⟨lf_6_26, ⟨trivial, ⟨rfl, ⟨trivial, ⟨lf_6_22, ⟨trivial, ⟨lf_6_19, ⟨trivial, ⟨trivial, ⟨trivial, ⟨lf_6_26, ⟨trivial, ⟨lf_6_19, ⟨trivial, ⟨trivial, ⟨trivial, ⟨trivial, ⟨lf_6_19, ⟨trivial, ⟨trivial, ⟨lp_6_19 _, trivial⟩⟩⟩⟩⟩⟩⟩⟩⟩⟩⟩⟩⟩⟩⟩⟩⟩⟩⟩⟩⟩⟩⟩⟩⟩⟩⟩⟩⟩⟩⟩⟩⟩
def bb6_note_61 : List PI := [(1, .return_, 0, 0, 0, 0, kZ)]
set_option maxRecDepth 100000 in
theorem oo6_note_61 : okL m6_note 61 bb6_note_61 := okL_of _ _ (by decide +kernel) ⟨rfl, trivial⟩
def cd6_note (t : Nat) : Option (List PI) := match t with
  | 0 => some bb6_note_0
  | 61 => some bb6_note_61
  | _ => none
theorem kd6_note : ∀ t is, cd6_note t = some is → okL m6_note t is := by
  intro t is h
  unfold cd6_note at h
  split at h <;> cases h
  · exact oo6_note_0
  · exact oo6_note_61
theorem ff6_note : mi_r m6_note = none ∧ mi_l m6_note = 3 ∧ mi_h m6_note = [] ∧ (mi_rm m6_note).cells = 0 ∧ (mi_rm m6_note).slots = 0 ∧ (mi_rm m6_note).locals = 32 ∧ cd6_note 0 = some bb6_note_0 ∧ cd6_note 61 = some bb6_note_61 := ⟨rfl, rfl, rfl, rfl, rfl, rfl, rfl, rfl⟩
def bb8_isMarker_0 : List PI := [(1, .aload_n 0, 0, 0, 0, 0, kZ), (1, .iload_n 1, 0, 0, 0, 0, kZ), (3, .invokevirtual 31, 1, 8, 0, 0, m8_at), (2, .bipush 15, 0, 0, 0, 0, kZ), (3, .if_icmp .ne 17, 24, 0, 0, 0, kZ), (1, .aload_n 0, 0, 0, 0, 0, kZ), (1, .iload_n 1, 0, 0, 0, 0, kZ), (1, .iconst 1, 0, 0, 0, 0, kZ), (1, .iadd, 0, 0, 0, 0, kZ), (3, .invokevirtual 31, 1, 8, 0, 0, m8_at), (3, .ifCond .ne 7, 24, 0, 0, 0, kZ), (1, .iconst 1, 0, 0, 0, 0, kZ), (3, .goto 4, 25, 0, 0, 0, kZ)]
set_option maxRecDepth 100000 in
theorem oo8_isMarker_0 : okL m8_isMarker 0 bb8_isMarker_0 := okL_of _ _ (by decide +kernel) ⟨trivial, ⟨trivial, ⟨⟨mok_m8_at, ⟨by decide, by decide⟩, rfl, by decide, Or.inl lc_8_31⟩, ⟨trivial, ⟨rfl, ⟨trivial, ⟨trivial, ⟨trivial, ⟨trivial, ⟨⟨mok_m8_at, ⟨by decide, by decide⟩, rfl, by decide, Or.inl lc_8_31⟩, ⟨rfl, ⟨trivial, ⟨rfl, trivial⟩⟩⟩⟩⟩⟩⟩⟩⟩⟩⟩⟩⟩
def bb8_isMarker_24 : List PI := [(1, .iconst 0, 0, 0, 0, 0, kZ)]
set_option maxRecDepth 100000 in
theorem oo8_isMarker_24 : okL m8_isMarker 24 bb8_isMarker_24 := okL_of _ _ (by decide +kernel) ⟨trivial, trivial⟩
def bb8_isMarker_25 : List PI := [(1, .ireturn, 0, 0, 0, 0, kZ)]
set_option maxRecDepth 100000 in
theorem oo8_isMarker_25 : okL m8_isMarker 25 bb8_isMarker_25 := okL_of _ _ (by decide +kernel) ⟨trivial, trivial⟩
def cd8_isMarker (t : Nat) : Option (List PI) := match t with
  | 0 => some bb8_isMarker_0
  | 24 => some bb8_isMarker_24
  | 25 => some bb8_isMarker_25
  | _ => none
theorem kd8_isMarker : ∀ t is, cd8_isMarker t = some is → okL m8_isMarker t is := by
  intro t is h
  unfold cd8_isMarker at h
  split at h <;> cases h
  · exact oo8_isMarker_0
  · exact oo8_isMarker_24
  · exact oo8_isMarker_25
theorem ff8_isMarker : mi_r m8_isMarker = (some .boolean) ∧ mi_l m8_isMarker = 2 ∧ mi_h m8_isMarker = [] ∧ (mi_rm m8_isMarker).cells = 0 ∧ (mi_rm m8_isMarker).slots = 0 ∧ (mi_rm m8_isMarker).locals = 53 ∧ cd8_isMarker 0 = some bb8_isMarker_0 ∧ cd8_isMarker 24 = some bb8_isMarker_24 ∧ cd8_isMarker 25 = some bb8_isMarker_25 ∧ (mi_rm m8_at).cells = 0 ∧ (mi_rm m8_at).slots = 0 := ⟨rfl, rfl, rfl, rfl, rfl, rfl, rfl, rfl, rfl, rfl, rfl⟩
def bb8_markerFrom_0 : List PI := [(1, .iload_n 1, 0, 0, 0, 0, kZ), (1, .istore_n 2, 0, 0, 0, 0, kZ)]
set_option maxRecDepth 100000 in
theorem oo8_markerFrom_0 : okL m8_markerFrom 0 bb8_markerFrom_0 := okL_of _ _ (by decide +kernel) ⟨trivial, ⟨trivial, trivial⟩⟩
def bb8_markerFrom_2 : List PI := [(1, .iload_n 2, 0, 0, 0, 0, kZ), (1, .aload_n 0, 0, 0, 0, 0, kZ), (3, .getfield 9, 8, 0, 0, 0, kZ), (3, .if_icmp .ge 19, 26, 0, 0, 0, kZ), (1, .aload_n 0, 0, 0, 0, 0, kZ), (1, .iload_n 2, 0, 0, 0, 0, kZ), (3, .invokevirtual 35, 1, 8, 0, 0, m8_isMarker), (3, .ifCond .eq 5, 20, 0, 0, 0, kZ), (1, .iload_n 2, 0, 0, 0, 0, kZ), (1, .ireturn, 0, 0, 0, 0, kZ)]
set_option maxRecDepth 100000 in
theorem oo8_markerFrom_2 : okL m8_markerFrom 2 bb8_markerFrom_2 := okL_of _ _ (by decide +kernel) ⟨trivial, ⟨trivial, ⟨lf_8_9, ⟨rfl, ⟨trivial, ⟨trivial, ⟨⟨mok_m8_isMarker, ⟨by decide, by decide⟩, rfl, by decide, Or.inl lc_8_35⟩, ⟨rfl, ⟨trivial, ⟨trivial, trivial⟩⟩⟩⟩⟩⟩⟩⟩⟩⟩
def bb8_markerFrom_20 : List PI := [(3, .iinc 2 1, 0, 0, 0, 0, kZ), (3, .goto (-21), 2, 0, 0, 0, kZ)]
set_option maxRecDepth 100000 in
theorem oo8_markerFrom_20 : okL m8_markerFrom 20 bb8_markerFrom_20 := okL_of _ _ (by decide +kernel) ⟨trivial, ⟨rfl, trivial⟩⟩
def bb8_markerFrom_26 : List PI := [(1, .iconst (-1), 0, 0, 0, 0, kZ), (1, .ireturn, 0, 0, 0, 0, kZ)]
set_option maxRecDepth 100000 in
theorem oo8_markerFrom_26 : okL m8_markerFrom 26 bb8_markerFrom_26 := okL_of _ _ (by decide +kernel) ⟨trivial, ⟨trivial, trivial⟩⟩
def cd8_markerFrom (t : Nat) : Option (List PI) := match t with
  | 0 => some bb8_markerFrom_0
  | 20 => some bb8_markerFrom_20
  | 26 => some bb8_markerFrom_26
  | _ => none
theorem kd8_markerFrom : ∀ t is, cd8_markerFrom t = some is → okL m8_markerFrom t is := by
  intro t is h
  unfold cd8_markerFrom at h
  split at h <;> cases h
  · exact oo8_markerFrom_0
  · exact oo8_markerFrom_20
  · exact oo8_markerFrom_26
theorem ff8_markerFrom : mi_r m8_markerFrom = (some .int) ∧ mi_l m8_markerFrom = 3 ∧ mi_h m8_markerFrom = [] ∧ (mi_rm m8_markerFrom).cells = 0 ∧ (mi_rm m8_markerFrom).slots = 0 ∧ (mi_rm m8_markerFrom).locals = 74 ∧ cd8_markerFrom 0 = some bb8_markerFrom_0 ∧ cd8_markerFrom 2 = none ∧ cd8_markerFrom 20 = some bb8_markerFrom_20 ∧ cd8_markerFrom 26 = some bb8_markerFrom_26 ∧ (mi_rm m8_isMarker).cells = 0 ∧ (mi_rm m8_isMarker).slots = 0 := ⟨rfl, rfl, rfl, rfl, rfl, rfl, rfl, rfl, rfl, rfl, rfl, rfl⟩
def bb5_readAll_0 : List PI := [(1, .aload_n 3, 0, 0, 0, 0, kZ), (3, .invokevirtual 21, 0, 6, 0, 0, m6_empty), (1, .aload_n 0, 0, 0, 0, 0, kZ), (1, .iconst 0, 0, 0, 0, 0, kZ), (3, .putfield 9, 5, 0, 0, 0, kZ), (1, .iconst 0, 0, 0, 0, 0, kZ), (2, .istore 4, 0, 0, 0, 0, kZ)]
set_option maxRecDepth 100000 in
theorem oo5_readAll_0 : okL m5_readAll 0 bb5_readAll_0 := okL_of _ _ (by decide +kernel) ⟨trivial, ⟨⟨mok_m6_empty, ⟨by decide, by decide⟩, rfl, by decide, Or.inr lc_5_21⟩, ⟨trivial, ⟨trivial, ⟨lp_5_9 _, ⟨trivial, ⟨trivial, trivial⟩⟩⟩⟩⟩⟩⟩
def bb5_readAll_12 : List PI := [(2, .iload 4, 0, 0, 0, 0, kZ), (3, .sipush 500, 0, 0, 0, 0, kZ), (3, .if_icmp .ge 71, 88, 0, 0, 0, kZ), (1, .aload_n 1, 0, 0, 0, 0, kZ), (1, .aload_n 0, 0, 0, 0, 0, kZ), (3, .getfield 9, 5, 0, 0, 0, kZ), (3, .invokevirtual 26, 1, 8, 0, 0, m8_markerFrom), (2, .istore 5, 0, 0, 0, 0, kZ), (2, .iload 5, 0, 0, 0, 0, kZ), (1, .iconst (-1), 0, 0, 0, 0, kZ), (3, .if_icmp .ne 4, 37, 0, 0, 0, kZ), (1, .return_, 0, 0, 0, 0, kZ)]
set_option maxRecDepth 100000 in
theorem oo5_readAll_12 : okL m5_readAll 12 bb5_readAll_12 := okL_of _ _ (by decide +kernel) ⟨trivial, ⟨trivial, ⟨rfl, ⟨trivial, ⟨trivial, ⟨lf_5_9, ⟨⟨mok_m8_markerFrom, ⟨by decide, by decide⟩, rfl, by decide, Or.inr lc_5_26⟩, ⟨trivial, ⟨trivial, ⟨trivial, ⟨rfl, ⟨rfl, trivial⟩⟩⟩⟩⟩⟩⟩⟩⟩⟩⟩⟩
def bb5_readAll_37 : List PI := [(1, .aload_n 0, 0, 0, 0, 0, kZ), (2, .iload 5, 0, 0, 0, 0, kZ), (1, .iconst 2, 0, 0, 0, 0, kZ), (1, .iadd, 0, 0, 0, 0, kZ), (3, .putfield 9, 5, 0, 0, 0, kZ), (1, .aload_n 0, 0, 0, 0, 0, kZ), (1, .iconst 0, 0, 0, 0, 0, kZ), (3, .putfield 18, 5, 2, 0, 0, kZ), (1, .aload_n 0, 0, 0, 0, 0, kZ), (1, .aload_n 1, 0, 0, 0, 0, kZ), (1, .iload_n 2, 0, 0, 0, 0, kZ), (1, .aload_n 3, 0, 0, 0, 0, kZ), (3, .invokevirtual 32, 3, 5, 0, 0, m5_readCode), (1, .aload_n 0, 0, 0, 0, 0, kZ), (3, .getfield 18, 5, 2, 0, 0, kZ), (3, .ifCond .eq 21, 82, 0, 0, 0, kZ), (1, .aload_n 3, 0, 0, 0, 0, kZ), (2, .iload 5, 0, 0, 0, 0, kZ), (1, .aload_n 0, 0, 0, 0, 0, kZ), (3, .getfield 18, 5, 2, 0, 0, kZ), (3, .invokevirtual 36, 2, 6, 0, 0, m6_note), (1, .aload_n 0, 0, 0, 0, 0, kZ), (2, .iload 5, 0, 0, 0, 0, kZ), (1, .iconst 2, 0, 0, 0, 0, kZ), (1, .iadd, 0, 0, 0, 0, kZ), (3, .putfield 9, 5, 0, 0, 0, kZ)]
set_option maxRecDepth 100000 in
theorem oo5_readAll_37 : okL m5_readAll 37 bb5_readAll_37 := okL_of _ _ (by decide +kernel) ⟨trivial, ⟨trivial, ⟨trivial, ⟨trivial, ⟨lp_5_9 _, ⟨trivial, ⟨trivial, ⟨lp_5_18 _, ⟨trivial, ⟨trivial, ⟨trivial, ⟨trivial, ⟨⟨mok_m5_readCode, ⟨by decide, by decide⟩, rfl, by decide, Or.inl lc_5_32⟩, ⟨trivial, ⟨lf_5_18, ⟨rfl, ⟨trivial, ⟨trivial, ⟨trivial, ⟨lf_5_18, ⟨⟨mok_m6_note, ⟨by decide, by decide⟩, rfl, by decide, Or.inr lc_5_36⟩, ⟨trivial, ⟨trivial, ⟨trivial, ⟨trivial, ⟨lp_5_9 _, trivial⟩⟩⟩⟩⟩⟩⟩⟩⟩⟩⟩⟩⟩⟩⟩⟩⟩⟩⟩⟩⟩⟩⟩⟩⟩⟩
def bb5_readAll_82 : List PI := [(3, .iinc 4 1, 0, 0, 0, 0, kZ), (3, .goto (-73), 12, 0, 0, 0, kZ)]
set_option maxRecDepth 100000 in
theorem oo5_readAll_82 : okL m5_readAll 82 bb5_readAll_82 := okL_of _ _ (by decide +kernel) ⟨trivial, ⟨rfl, trivial⟩⟩
def bb5_readAll_88 : List PI := [(1, .return_, 0, 0, 0, 0, kZ)]
set_option maxRecDepth 100000 in
theorem oo5_readAll_88 : okL m5_readAll 88 bb5_readAll_88 := okL_of _ _ (by decide +kernel) ⟨rfl, trivial⟩
def cd5_readAll (t : Nat) : Option (List PI) := match t with
  | 0 => some bb5_readAll_0
  | 37 => some bb5_readAll_37
  | 82 => some bb5_readAll_82
  | 88 => some bb5_readAll_88
  | _ => none
theorem kd5_readAll : ∀ t is, cd5_readAll t = some is → okL m5_readAll t is := by
  intro t is h
  unfold cd5_readAll at h
  split at h <;> cases h
  · exact oo5_readAll_0
  · exact oo5_readAll_37
  · exact oo5_readAll_82
  · exact oo5_readAll_88
theorem ff5_readAll : mi_r m5_readAll = none ∧ mi_l m5_readAll = 6 ∧ mi_h m5_readAll = [] ∧ (mi_rm m5_readAll).cells = 0 ∧ (mi_rm m5_readAll).slots = 0 ∧ (mi_rm m5_readAll).locals = 156 ∧ cd5_readAll 0 = some bb5_readAll_0 ∧ cd5_readAll 12 = none ∧ cd5_readAll 37 = some bb5_readAll_37 ∧ cd5_readAll 82 = some bb5_readAll_82 ∧ cd5_readAll 88 = some bb5_readAll_88 ∧ (mi_rm m5_readCode).cells = 0 ∧ (mi_rm m5_readCode).slots = 0 ∧ (mi_rm m6_empty).cells = 0 ∧ (mi_rm m6_empty).slots = 0 ∧ (mi_rm m6_note).cells = 0 ∧ (mi_rm m6_note).slots = 0 ∧ (mi_rm m8_markerFrom).cells = 0 ∧ (mi_rm m8_markerFrom).slots = 0 := ⟨rfl, rfl, rfl, rfl, rfl, rfl, rfl, rfl, rfl, rfl, rfl, rfl, rfl, rfl, rfl, rfl, rfl, rfl, rfl⟩
def bbJ6_bitCount_0 : List PI := [(1, .iload_n 0, 0, 0, 0, 0, kZ), (1, .iload_n 0, 0, 0, 0, 0, kZ), (1, .iconst 1, 0, 0, 0, 0, kZ), (1, .iushr, 0, 0, 0, 0, kZ), (3, .ldc_w 265, 0, 0, 0, 1431655765, kZ), (1, .iand, 0, 0, 0, 0, kZ), (1, .isub, 0, 0, 0, 0, kZ), (1, .istore_n 0, 0, 0, 0, 0, kZ), (1, .iload_n 0, 0, 0, 0, 0, kZ), (3, .ldc_w 266, 0, 0, 0, 858993459, kZ), (1, .iand, 0, 0, 0, 0, kZ), (1, .iload_n 0, 0, 0, 0, 0, kZ), (1, .iconst 2, 0, 0, 0, 0, kZ), (1, .iushr, 0, 0, 0, 0, kZ), (3, .ldc_w 266, 0, 0, 0, 858993459, kZ), (1, .iand, 0, 0, 0, 0, kZ), (1, .iadd, 0, 0, 0, 0, kZ), (1, .istore_n 0, 0, 0, 0, 0, kZ), (1, .iload_n 0, 0, 0, 0, 0, kZ), (1, .iload_n 0, 0, 0, 0, 0, kZ), (1, .iconst 4, 0, 0, 0, 0, kZ), (1, .iushr, 0, 0, 0, 0, kZ), (1, .iadd, 0, 0, 0, 0, kZ), (3, .ldc_w 267, 0, 0, 0, 252645135, kZ), (1, .iand, 0, 0, 0, 0, kZ), (1, .istore_n 0, 0, 0, 0, 0, kZ), (1, .iload_n 0, 0, 0, 0, 0, kZ), (1, .iload_n 0, 0, 0, 0, 0, kZ), (2, .bipush 8, 0, 0, 0, 0, kZ), (1, .iushr, 0, 0, 0, 0, kZ), (1, .iadd, 0, 0, 0, 0, kZ), (1, .istore_n 0, 0, 0, 0, 0, kZ), (1, .iload_n 0, 0, 0, 0, 0, kZ), (1, .iload_n 0, 0, 0, 0, 0, kZ), (2, .bipush 16, 0, 0, 0, 0, kZ), (1, .iushr, 0, 0, 0, 0, kZ), (1, .iadd, 0, 0, 0, 0, kZ), (1, .istore_n 0, 0, 0, 0, 0, kZ), (1, .iload_n 0, 0, 0, 0, 0, kZ), (2, .bipush 63, 0, 0, 0, 0, kZ), (1, .iand, 0, 0, 0, 0, kZ), (1, .ireturn, 0, 0, 0, 0, kZ)]
set_option maxRecDepth 100000 in
theorem ooJ6_bitCount_0 : okL mJ6_bitCount 0 bbJ6_bitCount_0 := okL_of _ _ (by decide +kernel) ⟨trivial, ⟨trivial, ⟨trivial, ⟨trivial, ⟨(wt_2 204 (by decide +kernel) rfl), ⟨trivial, ⟨trivial, ⟨trivial, ⟨trivial, ⟨(wt_2 205 (by decide +kernel) rfl), ⟨trivial, ⟨trivial, ⟨trivial, ⟨trivial, ⟨(wt_2 205 (by decide +kernel) rfl), ⟨trivial, ⟨trivial, ⟨trivial, ⟨trivial, ⟨trivial, ⟨trivial, ⟨trivial, ⟨trivial, ⟨(wt_2 206 (by decide +kernel) rfl), ⟨trivial, ⟨trivial, ⟨trivial, ⟨trivial, ⟨trivial, ⟨trivial, ⟨trivial, ⟨trivial, ⟨trivial, ⟨trivial, ⟨trivial, ⟨trivial, ⟨trivial, ⟨trivial, ⟨trivial, ⟨trivial, ⟨trivial, ⟨trivial, trivial⟩⟩⟩⟩⟩⟩⟩⟩⟩⟩⟩⟩⟩⟩⟩⟩⟩⟩⟩⟩⟩⟩⟩⟩⟩⟩⟩⟩⟩⟩⟩⟩⟩⟩⟩⟩⟩⟩⟩⟩⟩⟩
def cdJ6_bitCount (t : Nat) : Option (List PI) := match t with
  | 0 => some bbJ6_bitCount_0
  | _ => none
theorem kdJ6_bitCount : ∀ t is, cdJ6_bitCount t = some is → okL mJ6_bitCount t is := by
  intro t is h
  unfold cdJ6_bitCount at h
  split at h <;> cases h
  · exact ooJ6_bitCount_0
theorem ffJ6_bitCount : mi_r mJ6_bitCount = (some .int) ∧ mi_l mJ6_bitCount = 1 ∧ mi_h mJ6_bitCount = [] ∧ (mi_rm mJ6_bitCount).cells = 0 ∧ (mi_rm mJ6_bitCount).slots = 0 ∧ (mi_rm mJ6_bitCount).locals = 32 ∧ cdJ6_bitCount 0 = some bbJ6_bitCount_0 := ⟨rfl, rfl, rfl, rfl, rfl, rfl, rfl⟩
def bb6_count_0 : List PI := [(1, .aload_n 0, 0, 0, 0, 0, kZ), (3, .getfield 9, 6, 0, 0, 0, kZ), (3, .invokestatic 33, 1, 0, 0, 0, mJ6_bitCount), (1, .ireturn, 0, 0, 0, 0, kZ)]
set_option maxRecDepth 100000 in
theorem oo6_count_0 : okL m6_count 0 bb6_count_0 := okL_of _ _ (by decide +kernel) ⟨trivial, ⟨lf_6_9, ⟨⟨mok_mJ6_bitCount, ⟨by decide, by decide⟩, rfl, Or.inl lc_6_33⟩, ⟨trivial, trivial⟩⟩⟩⟩
def cd6_count (t : Nat) : Option (List PI) := match t with
  | 0 => some bb6_count_0
  | _ => none
theorem kd6_count : ∀ t is, cd6_count t = some is → okL m6_count t is := by
  intro t is h
  unfold cd6_count at h
  split at h <;> cases h
  · exact oo6_count_0
theorem ff6_count : mi_r m6_count = (some .int) ∧ mi_l m6_count = 1 ∧ mi_h m6_count = [] ∧ (mi_rm m6_count).cells = 0 ∧ (mi_rm m6_count).slots = 0 ∧ (mi_rm m6_count).locals = 52 ∧ cd6_count 0 = some bb6_count_0 ∧ (mi_rm mJ6_bitCount).cells = 0 ∧ (mi_rm mJ6_bitCount).slots = 0 := ⟨rfl, rfl, rfl, rfl, rfl, rfl, rfl, rfl, rfl⟩
def bb6_countAlike_0 : List PI := [(1, .iconst 0, 0, 0, 0, 0, kZ), (1, .istore_n 2, 0, 0, 0, 0, kZ), (1, .iconst 0, 0, 0, 0, 0, kZ), (1, .istore_n 3, 0, 0, 0, 0, kZ)]
set_option maxRecDepth 100000 in
theorem oo6_countAlike_0 : okL m6_countAlike 0 bb6_countAlike_0 := okL_of _ _ (by decide +kernel) ⟨trivial, ⟨trivial, ⟨trivial, ⟨trivial, trivial⟩⟩⟩⟩
def bb6_countAlike_4 : List PI := [(1, .iload_n 3, 0, 0, 0, 0, kZ), (1, .aload_n 1, 0, 0, 0, 0, kZ), (3, .getfield 39, 2, 2, 0, 0, kZ), (3, .if_icmp .ge 39, 48, 0, 0, 0, kZ), (1, .iload_n 2, 0, 0, 0, 0, kZ), (1, .aload_n 0, 0, 0, 0, 0, kZ), (1, .iload_n 3, 0, 0, 0, 0, kZ), (3, .invokevirtual 29, 1, 6, 0, 0, m6_has), (3, .ifCond .eq 21, 39, 0, 0, 0, kZ), (1, .aload_n 0, 0, 0, 0, 0, kZ), (1, .iload_n 3, 0, 0, 0, 0, kZ), (3, .invokevirtual 44, 1, 6, 0, 0, m6_rowOf), (1, .aload_n 1, 0, 0, 0, 0, kZ), (1, .iload_n 3, 0, 0, 0, 0, kZ), (3, .invokevirtual 48, 1, 2, 0, 0, m2_rowOf), (1, .lcmp, 0, 0, 0, 0, kZ), (3, .ifCond .ne 7, 39, 0, 0, 0, kZ), (1, .iconst 1, 0, 0, 0, 0, kZ), (3, .goto 4, 40, 0, 0, 0, kZ)]
set_option maxRecDepth 100000 in
theorem oo6_countAlike_4 : okL m6_countAlike 4 bb6_countAlike_4 := okL_of _ _ (by decide +kernel) ⟨trivial, ⟨trivial, ⟨lf_6_39, ⟨rfl, ⟨trivial, ⟨trivial, ⟨trivial, ⟨⟨mok_m6_has, ⟨by decide, by decide⟩, rfl, by decide, Or.inl lc_6_29⟩, ⟨rfl, ⟨trivial, ⟨trivial, ⟨⟨mok_m6_rowOf, ⟨by decide, by decide⟩, rfl, by decide, Or.inl lc_6_44⟩, ⟨trivial, ⟨trivial, ⟨⟨mok_m2_rowOf, ⟨by decide, by decide⟩, rfl, by decide, Or.inr lc_6_48⟩, ⟨trivial, ⟨rfl, ⟨trivial, ⟨rfl, trivial⟩⟩⟩⟩⟩⟩⟩⟩⟩⟩⟩⟩⟩⟩⟩⟩⟩⟩⟩
def bb6_countAlike_39 : List PI := [(1, .iconst 0, 0, 0, 0, 0, kZ)]
set_option maxRecDepth 100000 in
theorem oo6_countAlike_39 : okL m6_countAlike 39 bb6_countAlike_39 := okL_of _ _ (by decide +kernel) ⟨trivial, trivial⟩
def bb6_countAlike_40 : List PI := [(1, .iadd, 0, 0, 0, 0, kZ), (1, .istore_n 2, 0, 0, 0, 0, kZ), (3, .iinc 3 1, 0, 0, 0, 0, kZ), (3, .goto (-41), 4, 0, 0, 0, kZ)]
set_option maxRecDepth 100000 in
theorem oo6_countAlike_40 : okL m6_countAlike 40 bb6_countAlike_40 := okL_of _ _ (by decide +kernel) ⟨trivial, ⟨trivial, ⟨trivial, ⟨rfl, trivial⟩⟩⟩⟩
def bb6_countAlike_48 : List PI := [(1, .iload_n 2, 0, 0, 0, 0, kZ), (1, .ireturn, 0, 0, 0, 0, kZ)]
set_option maxRecDepth 100000 in
theorem oo6_countAlike_48 : okL m6_countAlike 48 bb6_countAlike_48 := okL_of _ _ (by decide +kernel) ⟨trivial, ⟨trivial, trivial⟩⟩
def cd6_countAlike (t : Nat) : Option (List PI) := match t with
  | 0 => some bb6_countAlike_0
  | 39 => some bb6_countAlike_39
  | 40 => some bb6_countAlike_40
  | 48 => some bb6_countAlike_48
  | _ => none
theorem kd6_countAlike : ∀ t is, cd6_countAlike t = some is → okL m6_countAlike t is := by
  intro t is h
  unfold cd6_countAlike at h
  split at h <;> cases h
  · exact oo6_countAlike_0
  · exact oo6_countAlike_39
  · exact oo6_countAlike_40
  · exact oo6_countAlike_48
theorem ff6_countAlike : mi_r m6_countAlike = (some .int) ∧ mi_l m6_countAlike = 4 ∧ mi_h m6_countAlike = [] ∧ (mi_rm m6_countAlike).cells = 0 ∧ (mi_rm m6_countAlike).slots = 0 ∧ (mi_rm m6_countAlike).locals = 74 ∧ cd6_countAlike 0 = some bb6_countAlike_0 ∧ cd6_countAlike 4 = none ∧ cd6_countAlike 39 = some bb6_countAlike_39 ∧ cd6_countAlike 40 = some bb6_countAlike_40 ∧ cd6_countAlike 48 = some bb6_countAlike_48 ∧ (mi_rm m2_rowOf).cells = 0 ∧ (mi_rm m2_rowOf).slots = 0 ∧ (mi_rm m6_has).cells = 0 ∧ (mi_rm m6_has).slots = 0 ∧ (mi_rm m6_rowOf).cells = 0 ∧ (mi_rm m6_rowOf).slots = 0 := ⟨rfl, rfl, rfl, rfl, rfl, rfl, rfl, rfl, rfl, rfl, rfl, rfl, rfl, rfl, rfl, rfl, rfl⟩
def bb6_hasError_0 : List PI := [(1, .iload_n 1, 0, 0, 0, 0, kZ), (3, .ifCond .lt 15, 16, 0, 0, 0, kZ), (1, .iload_n 1, 0, 0, 0, 0, kZ), (1, .aload_n 0, 0, 0, 0, 0, kZ), (3, .getfield 19, 6, 2, 0, 0, kZ), (3, .if_icmp .ge 7, 16, 0, 0, 0, kZ), (1, .iconst 1, 0, 0, 0, 0, kZ), (3, .goto 4, 17, 0, 0, 0, kZ)]
set_option maxRecDepth 100000 in
theorem oo6_hasError_0 : okL m6_hasError 0 bb6_hasError_0 := okL_of _ _ (by decide +kernel) ⟨trivial, ⟨rfl, ⟨trivial, ⟨trivial, ⟨lf_6_19, ⟨rfl, ⟨trivial, ⟨rfl, trivial⟩⟩⟩⟩⟩⟩⟩⟩
def bb6_hasError_16 : List PI := [(1, .iconst 0, 0, 0, 0, 0, kZ)]
set_option maxRecDepth 100000 in
theorem oo6_hasError_16 : okL m6_hasError 16 bb6_hasError_16 := okL_of _ _ (by decide +kernel) ⟨trivial, trivial⟩
def bb6_hasError_17 : List PI := [(1, .ireturn, 0, 0, 0, 0, kZ)]
set_option maxRecDepth 100000 in
theorem oo6_hasError_17 : okL m6_hasError 17 bb6_hasError_17 := okL_of _ _ (by decide +kernel) ⟨trivial, trivial⟩
def cd6_hasError (t : Nat) : Option (List PI) := match t with
  | 0 => some bb6_hasError_0
  | 16 => some bb6_hasError_16
  | 17 => some bb6_hasError_17
  | _ => none
theorem kd6_hasError : ∀ t is, cd6_hasError t = some is → okL m6_hasError t is := by
  intro t is h
  unfold cd6_hasError at h
  split at h <;> cases h
  · exact oo6_hasError_0
  · exact oo6_hasError_16
  · exact oo6_hasError_17
theorem ff6_hasError : mi_r m6_hasError = (some .boolean) ∧ mi_l m6_hasError = 2 ∧ mi_h m6_hasError = [] ∧ (mi_rm m6_hasError).cells = 0 ∧ (mi_rm m6_hasError).slots = 0 ∧ (mi_rm m6_hasError).locals = 32 ∧ cd6_hasError 0 = some bb6_hasError_0 ∧ cd6_hasError 16 = some bb6_hasError_16 ∧ cd6_hasError 17 = some bb6_hasError_17 := ⟨rfl, rfl, rfl, rfl, rfl, rfl, rfl, rfl, rfl⟩
def bb6_placeOf_0 : List PI := [(1, .aload_n 0, 0, 0, 0, 0, kZ), (1, .iload_n 1, 0, 0, 0, 0, kZ), (3, .invokevirtual 49, 1, 6, 0, 0, m6_hasError), (3, .ifCond .eq 21, 26, 0, 0, 0, kZ), (1, .iload_n 1, 0, 0, 0, 0, kZ), (1, .aload_n 0, 0, 0, 0, 0, kZ), (3, .getfield 22, 6, 3, 0, 0, kZ), (1, .arraylength, 0, 0, 0, 0, kZ), (3, .if_icmp .ge 12, 26, 0, 0, 0, kZ), (1, .aload_n 0, 0, 0, 0, 0, kZ), (3, .getfield 22, 6, 3, 0, 0, kZ), (1, .iload_n 1, 0, 0, 0, 0, kZ), (1, .iaload, 0, 0, 0, 0, kZ), (3, .goto 4, 27, 0, 0, 0, kZ)]
set_option maxRecDepth 100000 in
theorem oo6_placeOf_0 : okL m6_placeOf 0 bb6_placeOf_0 := okL_of _ _ (by decide +kernel) ⟨trivial, ⟨trivial, ⟨⟨mok_m6_hasError, ⟨by decide, by decide⟩, rfl, by decide, Or.inl lc_6_49⟩, ⟨rfl, ⟨trivial, ⟨trivial, ⟨lf_6_22, ⟨trivial, ⟨rfl, ⟨trivial, ⟨lf_6_22, ⟨trivial, ⟨trivial, ⟨rfl, trivial⟩⟩⟩⟩⟩⟩⟩⟩⟩⟩⟩⟩⟩⟩
def bb6_placeOf_26 : List PI := [(1, .iconst (-1), 0, 0, 0, 0, kZ)]
set_option maxRecDepth 100000 in
theorem oo6_placeOf_26 : okL m6_placeOf 26 bb6_placeOf_26 := okL_of _ _ (by decide +kernel) ⟨trivial, trivial⟩
def bb6_placeOf_27 : List PI := [(1, .ireturn, 0, 0, 0, 0, kZ)]
set_option maxRecDepth 100000 in
theorem oo6_placeOf_27 : okL m6_placeOf 27 bb6_placeOf_27 := okL_of _ _ (by decide +kernel) ⟨trivial, trivial⟩
def cd6_placeOf (t : Nat) : Option (List PI) := match t with
  | 0 => some bb6_placeOf_0
  | 26 => some bb6_placeOf_26
  | 27 => some bb6_placeOf_27
  | _ => none
theorem kd6_placeOf : ∀ t is, cd6_placeOf t = some is → okL m6_placeOf t is := by
  intro t is h
  unfold cd6_placeOf at h
  split at h <;> cases h
  · exact oo6_placeOf_0
  · exact oo6_placeOf_26
  · exact oo6_placeOf_27
theorem ff6_placeOf : mi_r m6_placeOf = (some .int) ∧ mi_l m6_placeOf = 2 ∧ mi_h m6_placeOf = [] ∧ (mi_rm m6_placeOf).cells = 0 ∧ (mi_rm m6_placeOf).slots = 0 ∧ (mi_rm m6_placeOf).locals = 53 ∧ cd6_placeOf 0 = some bb6_placeOf_0 ∧ cd6_placeOf 26 = some bb6_placeOf_26 ∧ cd6_placeOf 27 = some bb6_placeOf_27 ∧ (mi_rm m6_hasError).cells = 0 ∧ (mi_rm m6_hasError).slots = 0 := ⟨rfl, rfl, rfl, rfl, rfl, rfl, rfl, rfl, rfl, rfl, rfl⟩
def bb6_reasonOf_0 : List PI := [(1, .aload_n 0, 0, 0, 0, 0, kZ), (1, .iload_n 1, 0, 0, 0, 0, kZ), (3, .invokevirtual 49, 1, 6, 0, 0, m6_hasError), (3, .ifCond .eq 21, 26, 0, 0, 0, kZ), (1, .iload_n 1, 0, 0, 0, 0, kZ), (1, .aload_n 0, 0, 0, 0, 0, kZ), (3, .getfield 26, 6, 4, 0, 0, kZ), (1, .arraylength, 0, 0, 0, 0, kZ), (3, .if_icmp .ge 12, 26, 0, 0, 0, kZ), (1, .aload_n 0, 0, 0, 0, 0, kZ), (3, .getfield 26, 6, 4, 0, 0, kZ), (1, .iload_n 1, 0, 0, 0, 0, kZ), (1, .iaload, 0, 0, 0, 0, kZ), (3, .goto 4, 27, 0, 0, 0, kZ)]
set_option maxRecDepth 100000 in
theorem oo6_reasonOf_0 : okL m6_reasonOf 0 bb6_reasonOf_0 := okL_of _ _ (by decide +kernel) ⟨trivial, ⟨trivial, ⟨⟨mok_m6_hasError, ⟨by decide, by decide⟩, rfl, by decide, Or.inl lc_6_49⟩, ⟨rfl, ⟨trivial, ⟨trivial, ⟨lf_6_26, ⟨trivial, ⟨rfl, ⟨trivial, ⟨lf_6_26, ⟨trivial, ⟨trivial, ⟨rfl, trivial⟩⟩⟩⟩⟩⟩⟩⟩⟩⟩⟩⟩⟩⟩
def bb6_reasonOf_26 : List PI := [(1, .iconst (-1), 0, 0, 0, 0, kZ)]
set_option maxRecDepth 100000 in
theorem oo6_reasonOf_26 : okL m6_reasonOf 26 bb6_reasonOf_26 := okL_of _ _ (by decide +kernel) ⟨trivial, trivial⟩
def bb6_reasonOf_27 : List PI := [(1, .ireturn, 0, 0, 0, 0, kZ)]
set_option maxRecDepth 100000 in
theorem oo6_reasonOf_27 : okL m6_reasonOf 27 bb6_reasonOf_27 := okL_of _ _ (by decide +kernel) ⟨trivial, trivial⟩
def cd6_reasonOf (t : Nat) : Option (List PI) := match t with
  | 0 => some bb6_reasonOf_0
  | 26 => some bb6_reasonOf_26
  | 27 => some bb6_reasonOf_27
  | _ => none
theorem kd6_reasonOf : ∀ t is, cd6_reasonOf t = some is → okL m6_reasonOf t is := by
  intro t is h
  unfold cd6_reasonOf at h
  split at h <;> cases h
  · exact oo6_reasonOf_0
  · exact oo6_reasonOf_26
  · exact oo6_reasonOf_27
theorem ff6_reasonOf : mi_r m6_reasonOf = (some .int) ∧ mi_l m6_reasonOf = 2 ∧ mi_h m6_reasonOf = [] ∧ (mi_rm m6_reasonOf).cells = 0 ∧ (mi_rm m6_reasonOf).slots = 0 ∧ (mi_rm m6_reasonOf).locals = 53 ∧ cd6_reasonOf 0 = some bb6_reasonOf_0 ∧ cd6_reasonOf 26 = some bb6_reasonOf_26 ∧ cd6_reasonOf 27 = some bb6_reasonOf_27 ∧ (mi_rm m6_hasError).cells = 0 ∧ (mi_rm m6_hasError).slots = 0 := ⟨rfl, rfl, rfl, rfl, rfl, rfl, rfl, rfl, rfl, rfl, rfl⟩
def bb8_empty_0 : List PI := [(1, .aload_n 0, 0, 0, 0, 0, kZ), (1, .iconst 0, 0, 0, 0, 0, kZ), (3, .putfield 9, 8, 0, 0, 0, kZ), (1, .return_, 0, 0, 0, 0, kZ)]
set_option maxRecDepth 100000 in
theorem oo8_empty_0 : okL m8_empty 0 bb8_empty_0 := okL_of _ _ (by decide +kernel) ⟨trivial, ⟨trivial, ⟨lp_8_9 _, ⟨rfl, trivial⟩⟩⟩⟩
def cd8_empty (t : Nat) : Option (List PI) := match t with
  | 0 => some bb8_empty_0
  | _ => none
theorem kd8_empty : ∀ t is, cd8_empty t = some is → okL m8_empty t is := by
  intro t is h
  unfold cd8_empty at h
  split at h <;> cases h
  · exact oo8_empty_0
theorem ff8_empty : mi_r m8_empty = none ∧ mi_l m8_empty = 1 ∧ mi_h m8_empty = [] ∧ (mi_rm m8_empty).cells = 0 ∧ (mi_rm m8_empty).slots = 0 ∧ (mi_rm m8_empty).locals = 32 ∧ cd8_empty 0 = some bb8_empty_0 := ⟨rfl, rfl, rfl, rfl, rfl, rfl, rfl⟩
def bb8_has_0 : List PI := [(1, .iload_n 1, 0, 0, 0, 0, kZ), (3, .ifCond .lt 24, 25, 0, 0, 0, kZ), (1, .iload_n 1, 0, 0, 0, 0, kZ), (1, .aload_n 0, 0, 0, 0, 0, kZ), (3, .getfield 9, 8, 0, 0, 0, kZ), (3, .if_icmp .ge 16, 25, 0, 0, 0, kZ), (1, .iload_n 1, 0, 0, 0, 0, kZ), (1, .aload_n 0, 0, 0, 0, 0, kZ), (3, .getfield 15, 8, 1, 0, 0, kZ), (1, .arraylength, 0, 0, 0, 0, kZ), (3, .if_icmp .ge 7, 25, 0, 0, 0, kZ), (1, .iconst 1, 0, 0, 0, 0, kZ), (3, .goto 4, 26, 0, 0, 0, kZ)]
set_option maxRecDepth 100000 in
theorem oo8_has_0 : okL m8_has 0 bb8_has_0 := okL_of _ _ (by decide +kernel) ⟨trivial, ⟨rfl, ⟨trivial, ⟨trivial, ⟨lf_8_9, ⟨rfl, ⟨trivial, ⟨trivial, ⟨lf_8_15, ⟨trivial, ⟨rfl, ⟨trivial, ⟨rfl, trivial⟩⟩⟩⟩⟩⟩⟩⟩⟩⟩⟩⟩⟩
def bb8_has_25 : List PI := [(1, .iconst 0, 0, 0, 0, 0, kZ)]
set_option maxRecDepth 100000 in
theorem oo8_has_25 : okL m8_has 25 bb8_has_25 := okL_of _ _ (by decide +kernel) ⟨trivial, trivial⟩
def bb8_has_26 : List PI := [(1, .ireturn, 0, 0, 0, 0, kZ)]
set_option maxRecDepth 100000 in
theorem oo8_has_26 : okL m8_has 26 bb8_has_26 := okL_of _ _ (by decide +kernel) ⟨trivial, trivial⟩
def cd8_has (t : Nat) : Option (List PI) := match t with
  | 0 => some bb8_has_0
  | 25 => some bb8_has_25
  | 26 => some bb8_has_26
  | _ => none
theorem kd8_has : ∀ t is, cd8_has t = some is → okL m8_has t is := by
  intro t is h
  unfold cd8_has at h
  split at h <;> cases h
  · exact oo8_has_0
  · exact oo8_has_25
  · exact oo8_has_26
theorem ff8_has : mi_r m8_has = (some .boolean) ∧ mi_l m8_has = 2 ∧ mi_h m8_has = [] ∧ (mi_rm m8_has).cells = 0 ∧ (mi_rm m8_has).slots = 0 ∧ (mi_rm m8_has).locals = 32 ∧ cd8_has 0 = some bb8_has_0 ∧ cd8_has 25 = some bb8_has_25 ∧ cd8_has 26 = some bb8_has_26 := ⟨rfl, rfl, rfl, rfl, rfl, rfl, rfl, rfl, rfl⟩
def bb8_isFull_0 : List PI := [(1, .aload_n 0, 0, 0, 0, 0, kZ), (3, .getfield 9, 8, 0, 0, 0, kZ), (1, .aload_n 0, 0, 0, 0, 0, kZ), (3, .getfield 15, 8, 1, 0, 0, kZ), (1, .arraylength, 0, 0, 0, 0, kZ), (3, .if_icmp .lt 7, 16, 0, 0, 0, kZ), (1, .iconst 1, 0, 0, 0, 0, kZ), (3, .goto 4, 17, 0, 0, 0, kZ)]
set_option maxRecDepth 100000 in
theorem oo8_isFull_0 : okL m8_isFull 0 bb8_isFull_0 := okL_of _ _ (by decide +kernel) ⟨trivial, ⟨lf_8_9, ⟨trivial, ⟨lf_8_15, ⟨trivial, ⟨rfl, ⟨trivial, ⟨rfl, trivial⟩⟩⟩⟩⟩⟩⟩⟩
def bb8_isFull_16 : List PI := [(1, .iconst 0, 0, 0, 0, 0, kZ)]
set_option maxRecDepth 100000 in
theorem oo8_isFull_16 : okL m8_isFull 16 bb8_isFull_16 := okL_of _ _ (by decide +kernel) ⟨trivial, trivial⟩
def bb8_isFull_17 : List PI := [(1, .ireturn, 0, 0, 0, 0, kZ)]
set_option maxRecDepth 100000 in
theorem oo8_isFull_17 : okL m8_isFull 17 bb8_isFull_17 := okL_of _ _ (by decide +kernel) ⟨trivial, trivial⟩
def cd8_isFull (t : Nat) : Option (List PI) := match t with
  | 0 => some bb8_isFull_0
  | 16 => some bb8_isFull_16
  | 17 => some bb8_isFull_17
  | _ => none
theorem kd8_isFull : ∀ t is, cd8_isFull t = some is → okL m8_isFull t is := by
  intro t is h
  unfold cd8_isFull at h
  split at h <;> cases h
  · exact oo8_isFull_0
  · exact oo8_isFull_16
  · exact oo8_isFull_17
theorem ff8_isFull : mi_r m8_isFull = (some .boolean) ∧ mi_l m8_isFull = 1 ∧ mi_h m8_isFull = [] ∧ (mi_rm m8_isFull).cells = 0 ∧ (mi_rm m8_isFull).slots = 0 ∧ (mi_rm m8_isFull).locals = 32 ∧ cd8_isFull 0 = some bb8_isFull_0 ∧ cd8_isFull 16 = some bb8_isFull_16 ∧ cd8_isFull 17 = some bb8_isFull_17 := ⟨rfl, rfl, rfl, rfl, rfl, rfl, rfl, rfl, rfl⟩
def bb8_put_0 : List PI := [(1, .iload_n 1, 0, 0, 0, 0, kZ), (3, .ifCond .lt 20, 21, 0, 0, 0, kZ), (1, .iload_n 1, 0, 0, 0, 0, kZ), (1, .aload_n 0, 0, 0, 0, 0, kZ), (3, .getfield 9, 8, 0, 0, 0, kZ), (3, .if_icmp .ge 12, 21, 0, 0, 0, kZ), (1, .iload_n 1, 0, 0, 0, 0, kZ), (1, .aload_n 0, 0, 0, 0, 0, kZ), (3, .getfield 15, 8, 1, 0, 0, kZ), (1, .arraylength, 0, 0, 0, 0, kZ), (3, .if_icmp .lt 5, 23, 0, 0, 0, kZ)]
set_option maxRecDepth 100000 in
theorem oo8_put_0 : okL m8_put 0 bb8_put_0 := okL_of _ _ (by decide +kernel) ⟨trivial, ⟨rfl, ⟨trivial, ⟨trivial, ⟨lf_8_9, ⟨rfl, ⟨trivial, ⟨trivial, ⟨lf_8_15, ⟨trivial, ⟨rfl, trivial⟩⟩⟩⟩⟩⟩⟩⟩⟩⟩⟩
def bb8_put_21 : List PI := [(1, .iconst 0, 0, 0, 0, 0, kZ), (1, .ireturn, 0, 0, 0, 0, kZ)]
set_option maxRecDepth 100000 in
theorem oo8_put_21 : okL m8_put 21 bb8_put_21 := okL_of _ _ (by decide +kernel) ⟨trivial, ⟨trivial, trivial⟩⟩
def bb8_put_23 : List PI := [(1, .aload_n 0, 0, 0, 0, 0, kZ), (3, .getfield 15, 8, 1, 0, 0, kZ), (1, .iload_n 1, 0, 0, 0, 0, kZ), (1, .iload_n 2, 0, 0, 0, 0, kZ), (1, .iastore, 0, 0, 0, 0, kZ), (1, .iconst 1, 0, 0, 0, 0, kZ), (1, .ireturn, 0, 0, 0, 0, kZ)]
set_option maxRecDepth 100000 in
theorem oo8_put_23 : okL m8_put 23 bb8_put_23 := okL_of _ _ (by decide +kernel) ⟨trivial, ⟨lf_8_15, ⟨trivial, ⟨trivial, ⟨trivial, ⟨trivial, ⟨trivial, trivial⟩⟩⟩⟩⟩⟩⟩
def cd8_put (t : Nat) : Option (List PI) := match t with
  | 0 => some bb8_put_0
  | 21 => some bb8_put_21
  | 23 => some bb8_put_23
  | _ => none
theorem kd8_put : ∀ t is, cd8_put t = some is → okL m8_put t is := by
  intro t is h
  unfold cd8_put at h
  split at h <;> cases h
  · exact oo8_put_0
  · exact oo8_put_21
  · exact oo8_put_23
theorem ff8_put : mi_r m8_put = (some .boolean) ∧ mi_l m8_put = 3 ∧ mi_h m8_put = [] ∧ (mi_rm m8_put).cells = 0 ∧ (mi_rm m8_put).slots = 0 ∧ (mi_rm m8_put).locals = 32 ∧ cd8_put 0 = some bb8_put_0 ∧ cd8_put 21 = some bb8_put_21 ∧ cd8_put 23 = some bb8_put_23 := ⟨rfl, rfl, rfl, rfl, rfl, rfl, rfl, rfl, rfl⟩
def bb8_addAll_0 : List PI := [(1, .iconst 0, 0, 0, 0, 0, kZ), (1, .istore_n 3, 0, 0, 0, 0, kZ)]
set_option maxRecDepth 100000 in
theorem oo8_addAll_0 : okL m8_addAll 0 bb8_addAll_0 := okL_of _ _ (by decide +kernel) ⟨trivial, ⟨trivial, trivial⟩⟩
def bb8_addAll_2 : List PI := [(1, .iload_n 3, 0, 0, 0, 0, kZ), (1, .iload_n 2, 0, 0, 0, 0, kZ), (3, .if_icmp .ge 46, 50, 0, 0, 0, kZ), (1, .iload_n 3, 0, 0, 0, 0, kZ), (1, .aload_n 1, 0, 0, 0, 0, kZ), (1, .arraylength, 0, 0, 0, 0, kZ), (3, .if_icmp .ge 40, 50, 0, 0, 0, kZ), (1, .aload_n 0, 0, 0, 0, 0, kZ), (3, .invokevirtual 19, 0, 8, 0, 0, m8_isFull), (3, .ifCond .ne 33, 50, 0, 0, 0, kZ), (1, .aload_n 0, 0, 0, 0, 0, kZ), (1, .dup, 0, 0, 0, 0, kZ), (3, .getfield 9, 8, 0, 0, 0, kZ), (1, .iconst 1, 0, 0, 0, 0, kZ), (1, .iadd, 0, 0, 0, 0, kZ), (3, .putfield 9, 8, 0, 0, 0, kZ), (1, .aload_n 0, 0, 0, 0, 0, kZ), (1, .aload_n 0, 0, 0, 0, 0, kZ), (3, .getfield 9, 8, 0, 0, 0, kZ), (1, .iconst 1, 0, 0, 0, 0, kZ), (1, .isub, 0, 0, 0, 0, kZ), (1, .aload_n 1, 0, 0, 0, 0, kZ), (1, .iload_n 3, 0, 0, 0, 0, kZ), (1, .iaload, 0, 0, 0, 0, kZ), (3, .invokevirtual 23, 2, 8, 0, 0, m8_put), (1, .pop, 0, 0, 0, 0, kZ), (3, .iinc 3 1, 0, 0, 0, 0, kZ), (3, .goto (-45), 2, 0, 0, 0, kZ)]
set_option maxRecDepth 100000 in
theorem oo8_addAll_2 : okL m8_addAll 2 bb8_addAll_2 := okL_of _ _ (by decide +kernel) ⟨trivial, ⟨trivial, ⟨rfl, ⟨trivial, ⟨trivial, ⟨trivial, ⟨rfl, ⟨trivial, ⟨⟨mok_m8_isFull, ⟨by decide, by decide⟩, rfl, by decide, Or.inl lc_8_19⟩, ⟨rfl, ⟨trivial, ⟨trivial, ⟨lf_8_9, ⟨trivial, ⟨trivial, ⟨lp_8_9 _, ⟨trivial, ⟨trivial, ⟨lf_8_9, ⟨trivial, ⟨trivial, ⟨trivial, ⟨trivial, ⟨trivial, ⟨⟨mok_m8_put, ⟨by decide, by decide⟩, rfl, by decide, Or.inl lc_8_23⟩, ⟨trivial, ⟨trivial, ⟨rfl, trivial⟩⟩⟩⟩⟩⟩⟩⟩⟩⟩⟩⟩⟩⟩⟩⟩⟩⟩⟩⟩⟩⟩⟩⟩⟩⟩⟩⟩
def bb8_addAll_50 : List PI := [(1, .return_, 0, 0, 0, 0, kZ)]
set_option maxRecDepth 100000 in
theorem oo8_addAll_50 : okL m8_addAll 50 bb8_addAll_50 := okL_of _ _ (by decide +kernel) ⟨rfl, trivial⟩
def cd8_addAll (t : Nat) : Option (List PI) := match t with
  | 0 => some bb8_addAll_0
  | 50 => some bb8_addAll_50
  | _ => none
theorem kd8_addAll : ∀ t is, cd8_addAll t = some is → okL m8_addAll t is := by
  intro t is h
  unfold cd8_addAll at h
  split at h <;> cases h
  · exact oo8_addAll_0
  · exact oo8_addAll_50
theorem ff8_addAll : mi_r m8_addAll = none ∧ mi_l m8_addAll = 4 ∧ mi_h m8_addAll = [] ∧ (mi_rm m8_addAll).cells = 0 ∧ (mi_rm m8_addAll).slots = 0 ∧ (mi_rm m8_addAll).locals = 54 ∧ cd8_addAll 0 = some bb8_addAll_0 ∧ cd8_addAll 2 = none ∧ cd8_addAll 50 = some bb8_addAll_50 ∧ (mi_rm m8_isFull).cells = 0 ∧ (mi_rm m8_isFull).slots = 0 ∧ (mi_rm m8_put).cells = 0 ∧ (mi_rm m8_put).slots = 0 := ⟨rfl, rfl, rfl, rfl, rfl, rfl, rfl, rfl, rfl, rfl, rfl, rfl, rfl⟩
def bb8_takeOut_0 : List PI := [(1, .aload_n 0, 0, 0, 0, 0, kZ), (1, .iload_n 1, 0, 0, 0, 0, kZ), (3, .invokevirtual 27, 1, 8, 0, 0, m8_has), (3, .ifCond .eq 44, 49, 0, 0, 0, kZ), (1, .iload_n 1, 0, 0, 0, 0, kZ), (1, .istore_n 2, 0, 0, 0, 0, kZ)]
set_option maxRecDepth 100000 in
theorem oo8_takeOut_0 : okL m8_takeOut 0 bb8_takeOut_0 := okL_of _ _ (by decide +kernel) ⟨trivial, ⟨trivial, ⟨⟨mok_m8_has, ⟨by decide, by decide⟩, rfl, by decide, Or.inl lc_8_27⟩, ⟨rfl, ⟨trivial, ⟨trivial, trivial⟩⟩⟩⟩⟩⟩
def bb8_takeOut_10 : List PI := [(1, .iload_n 2, 0, 0, 0, 0, kZ), (1, .aload_n 0, 0, 0, 0, 0, kZ), (3, .getfield 9, 8, 0, 0, 0, kZ), (1, .iconst 1, 0, 0, 0, 0, kZ), (1, .isub, 0, 0, 0, 0, kZ), (3, .if_icmp .ge 22, 39, 0, 0, 0, kZ), (1, .aload_n 0, 0, 0, 0, 0, kZ), (1, .iload_n 2, 0, 0, 0, 0, kZ), (1, .aload_n 0, 0, 0, 0, 0, kZ), (1, .iload_n 2, 0, 0, 0, 0, kZ), (1, .iconst 1, 0, 0, 0, 0, kZ), (1, .iadd, 0, 0, 0, 0, kZ), (3, .invokevirtual 31, 1, 8, 0, 0, m8_at), (3, .invokevirtual 23, 2, 8, 0, 0, m8_put), (1, .pop, 0, 0, 0, 0, kZ), (3, .iinc 2 1, 0, 0, 0, 0, kZ), (3, .goto (-26), 10, 0, 0, 0, kZ)]
set_option maxRecDepth 100000 in
theorem oo8_takeOut_10 : okL m8_takeOut 10 bb8_takeOut_10 := okL_of _ _ (by decide +kernel) ⟨trivial, ⟨trivial, ⟨lf_8_9, ⟨trivial, ⟨trivial, ⟨rfl, ⟨trivial, ⟨trivial, ⟨trivial, ⟨trivial, ⟨trivial, ⟨trivial, ⟨⟨mok_m8_at, ⟨by decide, by decide⟩, rfl, by decide, Or.inl lc_8_31⟩, ⟨⟨mok_m8_put, ⟨by decide, by decide⟩, rfl, by decide, Or.inl lc_8_23⟩, ⟨trivial, ⟨trivial, ⟨rfl, trivial⟩⟩⟩⟩⟩⟩⟩⟩⟩⟩⟩⟩⟩⟩⟩⟩⟩
def bb8_takeOut_39 : List PI := [(1, .aload_n 0, 0, 0, 0, 0, kZ), (1, .dup, 0, 0, 0, 0, kZ), (3, .getfield 9, 8, 0, 0, 0, kZ), (1, .iconst 1, 0, 0, 0, 0, kZ), (1, .isub, 0, 0, 0, 0, kZ), (3, .putfield 9, 8, 0, 0, 0, kZ)]
set_option maxRecDepth 100000 in
theorem oo8_takeOut_39 : okL m8_takeOut 39 bb8_takeOut_39 := okL_of _ _ (by decide +kernel) ⟨trivial, ⟨trivial, ⟨lf_8_9, ⟨trivial, ⟨trivial, ⟨lp_8_9 _, trivial⟩⟩⟩⟩⟩⟩
def bb8_takeOut_49 : List PI := [(1, .return_, 0, 0, 0, 0, kZ)]
set_option maxRecDepth 100000 in
theorem oo8_takeOut_49 : okL m8_takeOut 49 bb8_takeOut_49 := okL_of _ _ (by decide +kernel) ⟨rfl, trivial⟩
def cd8_takeOut (t : Nat) : Option (List PI) := match t with
  | 0 => some bb8_takeOut_0
  | 39 => some bb8_takeOut_39
  | 49 => some bb8_takeOut_49
  | _ => none
theorem kd8_takeOut : ∀ t is, cd8_takeOut t = some is → okL m8_takeOut t is := by
  intro t is h
  unfold cd8_takeOut at h
  split at h <;> cases h
  · exact oo8_takeOut_0
  · exact oo8_takeOut_39
  · exact oo8_takeOut_49
theorem ff8_takeOut : mi_r m8_takeOut = none ∧ mi_l m8_takeOut = 3 ∧ mi_h m8_takeOut = [] ∧ (mi_rm m8_takeOut).cells = 0 ∧ (mi_rm m8_takeOut).slots = 0 ∧ (mi_rm m8_takeOut).locals = 54 ∧ cd8_takeOut 0 = some bb8_takeOut_0 ∧ cd8_takeOut 10 = none ∧ cd8_takeOut 39 = some bb8_takeOut_39 ∧ cd8_takeOut 49 = some bb8_takeOut_49 ∧ (mi_rm m8_at).cells = 0 ∧ (mi_rm m8_at).slots = 0 ∧ (mi_rm m8_has).cells = 0 ∧ (mi_rm m8_has).slots = 0 ∧ (mi_rm m8_put).cells = 0 ∧ (mi_rm m8_put).slots = 0 := ⟨rfl, rfl, rfl, rfl, rfl, rfl, rfl, rfl, rfl, rfl, rfl, rfl, rfl, rfl, rfl, rfl⟩
def bb8_putAhead_0 : List PI := [(1, .iload_n 1, 0, 0, 0, 0, kZ), (3, .ifCond .lt 66, 67, 0, 0, 0, kZ), (1, .iload_n 1, 0, 0, 0, 0, kZ), (1, .aload_n 0, 0, 0, 0, 0, kZ), (3, .getfield 9, 8, 0, 0, 0, kZ), (3, .if_icmp .gt 58, 67, 0, 0, 0, kZ), (1, .aload_n 0, 0, 0, 0, 0, kZ), (3, .invokevirtual 19, 0, 8, 0, 0, m8_isFull), (3, .ifCond .ne 51, 67, 0, 0, 0, kZ), (1, .aload_n 0, 0, 0, 0, 0, kZ), (1, .dup, 0, 0, 0, 0, kZ), (3, .getfield 9, 8, 0, 0, 0, kZ), (1, .iconst 1, 0, 0, 0, 0, kZ), (1, .iadd, 0, 0, 0, 0, kZ), (3, .putfield 9, 8, 0, 0, 0, kZ), (1, .aload_n 0, 0, 0, 0, 0, kZ), (3, .getfield 9, 8, 0, 0, 0, kZ), (1, .iconst 1, 0, 0, 0, 0, kZ), (1, .isub, 0, 0, 0, 0, kZ), (1, .istore_n 3, 0, 0, 0, 0, kZ)]
set_option maxRecDepth 100000 in
theorem oo8_putAhead_0 : okL m8_putAhead 0 bb8_putAhead_0 := okL_of _ _ (by decide +kernel) ⟨trivial, ⟨rfl, ⟨trivial, ⟨trivial, ⟨lf_8_9, ⟨rfl, ⟨trivial, ⟨⟨mok_m8_isFull, ⟨by decide, by decide⟩, rfl, by decide, Or.inl lc_8_19⟩, ⟨rfl, ⟨trivial, ⟨trivial, ⟨lf_8_9, ⟨trivial, ⟨trivial, ⟨lp_8_9 _, ⟨trivial, ⟨lf_8_9, ⟨trivial, ⟨trivial, ⟨trivial, trivial⟩⟩⟩⟩⟩⟩⟩⟩⟩⟩⟩⟩⟩⟩⟩⟩⟩⟩⟩⟩
def bb8_putAhead_36 : List PI := [(1, .iload_n 3, 0, 0, 0, 0, kZ), (1, .iload_n 1, 0, 0, 0, 0, kZ), (3, .if_icmp .le 22, 60, 0, 0, 0, kZ), (1, .aload_n 0, 0, 0, 0, 0, kZ), (1, .iload_n 3, 0, 0, 0, 0, kZ), (1, .aload_n 0, 0, 0, 0, 0, kZ), (1, .iload_n 3, 0, 0, 0, 0, kZ), (1, .iconst 1, 0, 0, 0, 0, kZ), (1, .isub, 0, 0, 0, 0, kZ), (3, .invokevirtual 31, 1, 8, 0, 0, m8_at), (3, .invokevirtual 23, 2, 8, 0, 0, m8_put), (1, .pop, 0, 0, 0, 0, kZ), (3, .iinc 3 (-1), 0, 0, 0, 0, kZ), (3, .goto (-21), 36, 0, 0, 0, kZ)]
set_option maxRecDepth 100000 in
theorem oo8_putAhead_36 : okL m8_putAhead 36 bb8_putAhead_36 := okL_of _ _ (by decide +kernel) ⟨trivial, ⟨trivial, ⟨rfl, ⟨trivial, ⟨trivial, ⟨trivial, ⟨trivial, ⟨trivial, ⟨trivial, ⟨⟨mok_m8_at, ⟨by decide, by decide⟩, rfl, by decide, Or.inl lc_8_31⟩, ⟨⟨mok_m8_put, ⟨by decide, by decide⟩, rfl, by decide, Or.inl lc_8_23⟩, ⟨trivial, ⟨trivial, ⟨rfl, trivial⟩⟩⟩⟩⟩⟩⟩⟩⟩⟩⟩⟩⟩⟩
def bb8_putAhead_60 : List PI := [(1, .aload_n 0, 0, 0, 0, 0, kZ), (1, .iload_n 1, 0, 0, 0, 0, kZ), (1, .iload_n 2, 0, 0, 0, 0, kZ), (3, .invokevirtual 23, 2, 8, 0, 0, m8_put), (1, .pop, 0, 0, 0, 0, kZ)]
set_option maxRecDepth 100000 in
theorem oo8_putAhead_60 : okL m8_putAhead 60 bb8_putAhead_60 := okL_of _ _ (by decide +kernel) ⟨trivial, ⟨trivial, ⟨trivial, ⟨⟨mok_m8_put, ⟨by decide, by decide⟩, rfl, by decide, Or.inl lc_8_23⟩, ⟨trivial, trivial⟩⟩⟩⟩⟩
def bb8_putAhead_67 : List PI := [(1, .return_, 0, 0, 0, 0, kZ)]
set_option maxRecDepth 100000 in
theorem oo8_putAhead_67 : okL m8_putAhead 67 bb8_putAhead_67 := okL_of _ _ (by decide +kernel) ⟨rfl, trivial⟩
def cd8_putAhead (t : Nat) : Option (List PI) := match t with
  | 0 => some bb8_putAhead_0
  | 60 => some bb8_putAhead_60
  | 67 => some bb8_putAhead_67
  | _ => none
theorem kd8_putAhead : ∀ t is, cd8_putAhead t = some is → okL m8_putAhead t is := by
  intro t is h
  unfold cd8_putAhead at h
  split at h <;> cases h
  · exact oo8_putAhead_0
  · exact oo8_putAhead_60
  · exact oo8_putAhead_67
theorem ff8_putAhead : mi_r m8_putAhead = none ∧ mi_l m8_putAhead = 4 ∧ mi_h m8_putAhead = [] ∧ (mi_rm m8_putAhead).cells = 0 ∧ (mi_rm m8_putAhead).slots = 0 ∧ (mi_rm m8_putAhead).locals = 54 ∧ cd8_putAhead 0 = some bb8_putAhead_0 ∧ cd8_putAhead 36 = none ∧ cd8_putAhead 60 = some bb8_putAhead_60 ∧ cd8_putAhead 67 = some bb8_putAhead_67 ∧ (mi_rm m8_at).cells = 0 ∧ (mi_rm m8_at).slots = 0 ∧ (mi_rm m8_isFull).cells = 0 ∧ (mi_rm m8_isFull).slots = 0 ∧ (mi_rm m8_put).cells = 0 ∧ (mi_rm m8_put).slots = 0 := ⟨rfl, rfl, rfl, rfl, rfl, rfl, rfl, rfl, rfl, rfl, rfl, rfl, rfl, rfl, rfl, rfl⟩
def bb8_countMarkers_0 : List PI := [(1, .iconst 0, 0, 0, 0, 0, kZ), (1, .istore_n 1, 0, 0, 0, 0, kZ), (1, .iconst 0, 0, 0, 0, 0, kZ), (1, .istore_n 2, 0, 0, 0, 0, kZ)]
set_option maxRecDepth 100000 in
theorem oo8_countMarkers_0 : okL m8_countMarkers 0 bb8_countMarkers_0 := okL_of _ _ (by decide +kernel) ⟨trivial, ⟨trivial, ⟨trivial, ⟨trivial, trivial⟩⟩⟩⟩
def bb8_countMarkers_4 : List PI := [(1, .iload_n 2, 0, 0, 0, 0, kZ), (1, .aload_n 0, 0, 0, 0, 0, kZ), (3, .getfield 9, 8, 0, 0, 0, kZ), (3, .if_icmp .ge 25, 34, 0, 0, 0, kZ), (1, .iload_n 1, 0, 0, 0, 0, kZ), (1, .aload_n 0, 0, 0, 0, 0, kZ), (1, .iload_n 2, 0, 0, 0, 0, kZ), (3, .invokevirtual 35, 1, 8, 0, 0, m8_isMarker), (3, .ifCond .eq 7, 25, 0, 0, 0, kZ), (1, .iconst 1, 0, 0, 0, 0, kZ), (3, .goto 4, 26, 0, 0, 0, kZ)]
set_option maxRecDepth 100000 in
theorem oo8_countMarkers_4 : okL m8_countMarkers 4 bb8_countMarkers_4 := okL_of _ _ (by decide +kernel) ⟨trivial, ⟨trivial, ⟨lf_8_9, ⟨rfl, ⟨trivial, ⟨trivial, ⟨trivial, ⟨⟨mok_m8_isMarker, ⟨by decide, by decide⟩, rfl, by decide, Or.inl lc_8_35⟩, ⟨rfl, ⟨trivial, ⟨rfl, trivial⟩⟩⟩⟩⟩⟩⟩⟩⟩⟩⟩
def bb8_countMarkers_25 : List PI := [(1, .iconst 0, 0, 0, 0, 0, kZ)]
set_option maxRecDepth 100000 in
theorem oo8_countMarkers_25 : okL m8_countMarkers 25 bb8_countMarkers_25 := okL_of _ _ (by decide +kernel) ⟨trivial, trivial⟩
def bb8_countMarkers_26 : List PI := [(1, .iadd, 0, 0, 0, 0, kZ), (1, .istore_n 1, 0, 0, 0, 0, kZ), (3, .iinc 2 1, 0, 0, 0, 0, kZ), (3, .goto (-27), 4, 0, 0, 0, kZ)]
set_option maxRecDepth 100000 in
theorem oo8_countMarkers_26 : okL m8_countMarkers 26 bb8_countMarkers_26 := okL_of _ _ (by decide +kernel) ⟨trivial, ⟨trivial, ⟨trivial, ⟨rfl, trivial⟩⟩⟩⟩
def bb8_countMarkers_34 : List PI := [(1, .iload_n 1, 0, 0, 0, 0, kZ), (1, .ireturn, 0, 0, 0, 0, kZ)]
set_option maxRecDepth 100000 in
theorem oo8_countMarkers_34 : okL m8_countMarkers 34 bb8_countMarkers_34 := okL_of _ _ (by decide +kernel) ⟨trivial, ⟨trivial, trivial⟩⟩
def cd8_countMarkers (t : Nat) : Option (List PI) := match t with
  | 0 => some bb8_countMarkers_0
  | 25 => some bb8_countMarkers_25
  | 26 => some bb8_countMarkers_26
  | 34 => some bb8_countMarkers_34
  | _ => none
theorem kd8_countMarkers : ∀ t is, cd8_countMarkers t = some is → okL m8_countMarkers t is := by
  intro t is h
  unfold cd8_countMarkers at h
  split at h <;> cases h
  · exact oo8_countMarkers_0
  · exact oo8_countMarkers_25
  · exact oo8_countMarkers_26
  · exact oo8_countMarkers_34
theorem ff8_countMarkers : mi_r m8_countMarkers = (some .int) ∧ mi_l m8_countMarkers = 3 ∧ mi_h m8_countMarkers = [] ∧ (mi_rm m8_countMarkers).cells = 0 ∧ (mi_rm m8_countMarkers).slots = 0 ∧ (mi_rm m8_countMarkers).locals = 74 ∧ cd8_countMarkers 0 = some bb8_countMarkers_0 ∧ cd8_countMarkers 4 = none ∧ cd8_countMarkers 25 = some bb8_countMarkers_25 ∧ cd8_countMarkers 26 = some bb8_countMarkers_26 ∧ cd8_countMarkers 34 = some bb8_countMarkers_34 ∧ (mi_rm m8_isMarker).cells = 0 ∧ (mi_rm m8_isMarker).slots = 0 := ⟨rfl, rfl, rfl, rfl, rfl, rfl, rfl, rfl, rfl, rfl, rfl, rfl, rfl⟩
def bb9_init_0 : List PI := [(1, .aload_n 0, 0, 0, 0, 0, kZ), (3, .invokespecial 3, 0, 0, 1, 0, kZ), (1, .aload_n 0, 0, 0, 0, 0, kZ), (3, .new 9, 7, 0, 0, 0, kZ), (1, .dup, 0, 0, 0, 0, kZ), (3, .invokespecial 11, 0, 7, 0, 0, m7_init), (3, .putfield 12, 9, 0, 0, 0, kZ), (1, .aload_n 0, 0, 0, 0, 0, kZ), (3, .new 9, 7, 0, 0, 0, kZ), (1, .dup, 0, 0, 0, 0, kZ), (3, .invokespecial 11, 0, 7, 0, 0, m7_init), (3, .putfield 16, 9, 1, 0, 0, kZ), (1, .aload_n 0, 0, 0, 0, 0, kZ), (1, .iconst 0, 0, 0, 0, 0, kZ), (3, .putfield 19, 9, 2, 0, 0, kZ), (1, .aload_n 0, 0, 0, 0, 0, kZ), (3, .new 23, 1, 0, 0, 0, kZ), (1, .dup, 0, 0, 0, 0, kZ), (3, .invokespecial 25, 0, 1, 0, 0, m1_init), (3, .putfield 26, 9, 3, 0, 0, kZ), (1, .aload_n 0, 0, 0, 0, 0, kZ), (3, .new 30, 3, 0, 0, 0, kZ), (1, .dup, 0, 0, 0, 0, kZ), (3, .invokespecial 32, 0, 3, 0, 0, m3_init), (3, .putfield 33, 9, 4, 0, 0, kZ), (1, .aload_n 0, 0, 0, 0, 0, kZ), (3, .new 37, 0, 0, 0, 0, kZ), (1, .dup, 0, 0, 0, 0, kZ), (3, .invokespecial 39, 0, 0, 0, 0, m0_init), (3, .putfield 40, 9, 5, 0, 0, kZ), (1, .aload_n 0, 0, 0, 0, 0, kZ), (3, .new 44, 5, 0, 0, 0, kZ), (1, .dup, 0, 0, 0, 0, kZ), (3, .invokespecial 46, 0, 5, 0, 0, m5_init), (3, .putfield 47, 9, 6, 0, 0, kZ), (1, .aload_n 0, 0, 0, 0, 0, kZ), (3, .new 51, 6, 0, 0, 0, kZ), (1, .dup, 0, 0, 0, 0, kZ), (3, .invokespecial 53, 0, 6, 0, 0, m6_init), (3, .putfield 54, 9, 7, 0, 0, kZ), (1, .return_, 0, 0, 0, 0, kZ)]
set_option maxRecDepth 100000 in
theorem oo9_init_0 : okL m9_init 0 bb9_init_0 := okL_of _ _ (by decide +kernel) ⟨trivial, ⟨⟨lo_9_3, by decide⟩, ⟨trivial, ⟨ln_9_9, ⟨trivial, ⟨⟨mok_m7_init, ⟨by decide, by decide⟩, rfl, Or.inr lc_9_11⟩, ⟨lp_9_12i, ⟨trivial, ⟨ln_9_9, ⟨trivial, ⟨⟨mok_m7_init, ⟨by decide, by decide⟩, rfl, Or.inr lc_9_11⟩, ⟨lp_9_16i, ⟨trivial, ⟨trivial, ⟨lp_9_19 _, ⟨trivial, ⟨ln_9_23, ⟨trivial, ⟨⟨mok_m1_init, ⟨by decide, by decide⟩, rfl, Or.inr lc_9_25⟩, ⟨lp_9_26i, ⟨trivial, ⟨ln_9_30, ⟨trivial, ⟨⟨mok_m3_init, ⟨by decide, by decide⟩, rfl, Or.inr lc_9_32⟩, ⟨lp_9_33i, ⟨trivial, ⟨ln_9_37, ⟨trivial, ⟨⟨mok_m0_init, ⟨by decide, by decide⟩, rfl, Or.inr lc_9_39⟩, ⟨lp_9_40i, ⟨trivial, ⟨ln_9_44, ⟨trivial, ⟨⟨mok_m5_init, ⟨by decide, by decide⟩, rfl, Or.inr lc_9_46⟩, ⟨lp_9_47i, ⟨trivial, ⟨ln_9_51, ⟨trivial, ⟨⟨mok_m6_init, ⟨by decide, by decide⟩, rfl, Or.inr lc_9_53⟩, ⟨lp_9_54i, ⟨rfl, trivial⟩⟩⟩⟩⟩⟩⟩⟩⟩⟩⟩⟩⟩⟩⟩⟩⟩⟩⟩⟩⟩⟩⟩⟩⟩⟩⟩⟩⟩⟩⟩⟩⟩⟩⟩⟩⟩⟩⟩⟩⟩
def cd9_init (t : Nat) : Option (List PI) := match t with
  | 0 => some bb9_init_0
  | _ => none
theorem kd9_init : ∀ t is, cd9_init t = some is → okL m9_init t is := by
  intro t is h
  unfold cd9_init at h
  split at h <;> cases h
  · exact oo9_init_0
theorem ff9_init : mi_r m9_init = none ∧ mi_l m9_init = 1 ∧ mi_h m9_init = [] ∧ (mi_rm m9_init).cells = 76 ∧ (mi_rm m9_init).slots = 4277 ∧ (mi_rm m9_init).locals = 93 ∧ cd9_init 0 = some bb9_init_0 ∧ (mi_rm m0_init).cells = 2 ∧ (mi_rm m0_init).slots = 104 ∧ (mi_rm m1_init).cells = 46 ∧ (mi_rm m1_init).slots = 2885 ∧ (mi_rm m3_init).cells = 2 ∧ (mi_rm m3_init).slots = 67 ∧ (mi_rm m5_init).cells = 0 ∧ (mi_rm m5_init).slots = 0 ∧ (mi_rm m6_init).cells = 3 ∧ (mi_rm m6_init).slots = 50 ∧ (mi_rm m7_init).cells = 8 ∧ (mi_rm m7_init).slots = 571 := ⟨rfl, rfl, rfl, rfl, rfl, rfl, rfl, rfl, rfl, rfl, rfl, rfl, rfl, rfl, rfl, rfl, rfl, rfl, rfl⟩
def bb9_setWidth_0 : List PI := [(1, .iload_n 1, 0, 0, 0, 0, kZ), (2, .bipush 8, 0, 0, 0, 0, kZ), (3, .if_icmp .lt 9, 12, 0, 0, 0, kZ), (1, .iload_n 1, 0, 0, 0, 0, kZ), (2, .bipush 32, 0, 0, 0, 0, kZ), (3, .if_icmp .le 13, 22, 0, 0, 0, kZ)]
set_option maxRecDepth 100000 in
theorem oo9_setWidth_0 : okL m9_setWidth 0 bb9_setWidth_0 := okL_of _ _ (by decide +kernel) ⟨trivial, ⟨trivial, ⟨rfl, ⟨trivial, ⟨trivial, ⟨rfl, trivial⟩⟩⟩⟩⟩⟩
def bb9_setWidth_12 : List PI := [(10, .athrow, 58, 60, 62, 0, (kX eIA "a width is 8 to 32"))]
set_option maxRecDepth 100000 in
theorem oo9_setWidth_12 : okL m9_setWidth 12 bb9_setWidth_12 := okL_of _ _ (by decide +kernel) ⟨⟨by decide, rfl, at_9_60, by decide +kernel, by decide +kernel, Or.inl ⟨by decide +kernel, by decide +kernel, by decide +kernel⟩⟩, trivial⟩
def bb9_setWidth_22 : List PI := [(1, .aload_n 0, 0, 0, 0, 0, kZ), (3, .getfield 26, 9, 3, 0, 0, kZ), (1, .aload_n 0, 0, 0, 0, 0, kZ), (3, .getfield 12, 9, 0, 0, 0, kZ), (3, .invokevirtual 65, 1, 1, 0, 0, m1_push), (1, .aload_n 0, 0, 0, 0, 0, kZ), (3, .getfield 12, 9, 0, 0, 0, kZ), (3, .getfield 69, 7, 0, 0, 0, kZ), (3, .getfield 73, 2, 0, 0, 0, kZ), (1, .istore_n 2, 0, 0, 0, 0, kZ), (1, .aload_n 0, 0, 0, 0, 0, kZ), (3, .getfield 12, 9, 0, 0, 0, kZ), (3, .getfield 69, 7, 0, 0, 0, kZ), (1, .iload_n 1, 0, 0, 0, 0, kZ), (3, .invokevirtual 79, 1, 2, 0, 0, m2_emptyWith), (1, .aload_n 0, 0, 0, 0, 0, kZ), (3, .getfield 12, 9, 0, 0, 0, kZ), (3, .getfield 83, 7, 1, 0, 0, kZ), (3, .invokevirtual 87, 0, 8, 0, 0, m8_empty), (1, .aload_n 0, 0, 0, 0, 0, kZ), (3, .getfield 12, 9, 0, 0, 0, kZ), (3, .getfield 92, 7, 2, 0, 0, kZ), (3, .invokevirtual 95, 0, 6, 0, 0, m6_empty), (1, .iload_n 2, 0, 0, 0, 0, kZ), (1, .ireturn, 0, 0, 0, 0, kZ)]
set_option maxRecDepth 100000 in
theorem oo9_setWidth_22 : okL m9_setWidth 22 bb9_setWidth_22 := okL_of _ _ (by decide +kernel) ⟨trivial, ⟨lf_9_26, ⟨trivial, ⟨lf_9_12, ⟨⟨mok_m1_push, ⟨by decide, by decide⟩, rfl, by decide, Or.inr lc_9_65⟩, ⟨trivial, ⟨lf_9_12, ⟨lf_9_69, ⟨lf_9_73, ⟨trivial, ⟨trivial, ⟨lf_9_12, ⟨lf_9_69, ⟨trivial, ⟨⟨mok_m2_emptyWith, ⟨by decide, by decide⟩, rfl, by decide, Or.inr lc_9_79⟩, ⟨trivial, ⟨lf_9_12, ⟨lf_9_83, ⟨⟨mok_m8_empty, ⟨by decide, by decide⟩, rfl, by decide, Or.inr lc_9_87⟩, ⟨trivial, ⟨lf_9_12, ⟨lf_9_92, ⟨⟨mok_m6_empty, ⟨by decide, by decide⟩, rfl, by decide, Or.inr lc_9_95⟩, ⟨trivial, ⟨trivial, trivial⟩⟩⟩⟩⟩⟩⟩⟩⟩⟩⟩⟩⟩⟩⟩⟩⟩⟩⟩⟩⟩⟩⟩⟩⟩
def cd9_setWidth (t : Nat) : Option (List PI) := match t with
  | 0 => some bb9_setWidth_0
  | 12 => some bb9_setWidth_12
  | 22 => some bb9_setWidth_22
  | _ => none
theorem kd9_setWidth : ∀ t is, cd9_setWidth t = some is → okL m9_setWidth t is := by
  intro t is h
  unfold cd9_setWidth at h
  split at h <;> cases h
  · exact oo9_setWidth_0
  · exact oo9_setWidth_12
  · exact oo9_setWidth_22
theorem ff9_setWidth : mi_r m9_setWidth = (some .int) ∧ mi_l m9_setWidth = 3 ∧ mi_h m9_setWidth = [] ∧ (mi_rm m9_setWidth).cells = 1 ∧ (mi_rm m9_setWidth).slots = 6 ∧ (mi_rm m9_setWidth).locals = 117 ∧ cd9_setWidth 0 = some bb9_setWidth_0 ∧ cd9_setWidth 12 = some bb9_setWidth_12 ∧ cd9_setWidth 22 = some bb9_setWidth_22 ∧ (mi_rm m1_push).cells = 0 ∧ (mi_rm m1_push).slots = 0 ∧ (mi_rm m2_emptyWith).cells = 0 ∧ (mi_rm m2_emptyWith).slots = 0 ∧ (mi_rm m6_empty).cells = 0 ∧ (mi_rm m6_empty).slots = 0 ∧ (mi_rm m8_empty).cells = 0 ∧ (mi_rm m8_empty).slots = 0 := ⟨rfl, rfl, rfl, rfl, rfl, rfl, rfl, rfl, rfl, rfl, rfl, rfl, rfl, rfl, rfl, rfl, rfl⟩
def bb9_needPixels_0 : List PI := [(1, .aload_n 0, 0, 0, 0, 0, kZ), (3, .getfield 12, 9, 0, 0, 0, kZ), (3, .getfield 69, 7, 0, 0, 0, kZ), (1, .lload_n 1, 0, 0, 0, 0, kZ), (3, .invokevirtual 374, 1, 2, 0, 0, m2_fits), (3, .ifCond .ne 14, 25, 0, 0, 0, kZ), (11, .athrow, 58, 377, 62, 0, (kX eIA "a pixel from the width on is black"))]
set_option maxRecDepth 100000 in
theorem oo9_needPixels_0 : okL m9_needPixels 0 bb9_needPixels_0 := okL_of _ _ (by decide +kernel) ⟨trivial, ⟨lf_9_12, ⟨lf_9_69, ⟨trivial, ⟨⟨mok_m2_fits, ⟨by decide, by decide⟩, rfl, by decide, Or.inr lc_9_374⟩, ⟨rfl, ⟨⟨by decide, rfl, at_9_377, by decide +kernel, by decide +kernel, Or.inr ⟨by decide +kernel, by decide +kernel, by decide +kernel⟩⟩, trivial⟩⟩⟩⟩⟩⟩⟩
def bb9_needPixels_25 : List PI := [(1, .return_, 0, 0, 0, 0, kZ)]
set_option maxRecDepth 100000 in
theorem oo9_needPixels_25 : okL m9_needPixels 25 bb9_needPixels_25 := okL_of _ _ (by decide +kernel) ⟨rfl, trivial⟩
def cd9_needPixels (t : Nat) : Option (List PI) := match t with
  | 0 => some bb9_needPixels_0
  | 25 => some bb9_needPixels_25
  | _ => none
theorem kd9_needPixels : ∀ t is, cd9_needPixels t = some is → okL m9_needPixels t is := by
  intro t is h
  unfold cd9_needPixels at h
  split at h <;> cases h
  · exact oo9_needPixels_0
  · exact oo9_needPixels_25
theorem ff9_needPixels : mi_r m9_needPixels = none ∧ mi_l m9_needPixels = 3 ∧ mi_h m9_needPixels = [] ∧ (mi_rm m9_needPixels).cells = 1 ∧ (mi_rm m9_needPixels).slots = 6 ∧ (mi_rm m9_needPixels).locals = 84 ∧ cd9_needPixels 0 = some bb9_needPixels_0 ∧ cd9_needPixels 25 = some bb9_needPixels_25 ∧ (mi_rm m2_fits).cells = 0 ∧ (mi_rm m2_fits).slots = 0 := ⟨rfl, rfl, rfl, rfl, rfl, rfl, rfl, rfl, rfl, rfl⟩
theorem okt_m9_addLine (pc : Nat) : okT m9_addLine pc := fun y hy => by cases hy
def bb9_addLine_0 : List PI := [(1, .aload_n 0, 0, 0, 0, 0, kZ), (1, .lload_n 1, 0, 0, 0, 0, kZ), (3, .invokevirtual 96, 1, 9, 1, 0, m9_needPixels), (1, .aload_n 0, 0, 0, 0, 0, kZ), (3, .getfield 12, 9, 0, 0, 0, kZ), (3, .getfield 69, 7, 0, 0, 0, kZ), (3, .invokevirtual 100, 0, 2, 0, 0, m2_isFull), (3, .ifCond .eq 13, 28, 0, 0, 0, kZ), (10, .athrow, 104, 106, 108, 0, (kX eIS "the page has 10 lines"))]
set_option maxRecDepth 100000 in
theorem oo9_addLine_0 : okL m9_addLine 0 bb9_addLine_0 := okL_of _ _ (by decide +kernel) ⟨trivial, ⟨trivial, ⟨⟨mok_m9_needPixels, ⟨by decide, by decide⟩, rfl, by decide, lc_9_96, okt_m9_addLine _⟩, ⟨trivial, ⟨lf_9_12, ⟨lf_9_69, ⟨⟨mok_m2_isFull, ⟨by decide, by decide⟩, rfl, by decide, Or.inr lc_9_100⟩, ⟨rfl, ⟨⟨by decide, rfl, at_9_106, by decide +kernel, by decide +kernel, Or.inl ⟨by decide +kernel, by decide +kernel, by decide +kernel⟩⟩, trivial⟩⟩⟩⟩⟩⟩⟩⟩⟩
def bb9_addLine_28 : List PI := [(1, .aload_n 0, 0, 0, 0, 0, kZ), (3, .getfield 26, 9, 3, 0, 0, kZ), (1, .aload_n 0, 0, 0, 0, 0, kZ), (3, .getfield 12, 9, 0, 0, 0, kZ), (3, .invokevirtual 65, 1, 1, 0, 0, m1_push), (1, .aload_n 0, 0, 0, 0, 0, kZ), (3, .getfield 12, 9, 0, 0, 0, kZ), (3, .getfield 69, 7, 0, 0, 0, kZ), (1, .lload_n 1, 0, 0, 0, 0, kZ), (3, .invokevirtual 109, 1, 2, 0, 0, m2_addRow), (1, .pop, 0, 0, 0, 0, kZ), (1, .aload_n 0, 0, 0, 0, 0, kZ), (3, .getfield 12, 9, 0, 0, 0, kZ), (3, .getfield 69, 7, 0, 0, 0, kZ), (3, .getfield 113, 2, 2, 0, 0, kZ), (1, .iconst 1, 0, 0, 0, 0, kZ), (1, .isub, 0, 0, 0, 0, kZ), (1, .ireturn, 0, 0, 0, 0, kZ)]
set_option maxRecDepth 100000 in
theorem oo9_addLine_28 : okL m9_addLine 28 bb9_addLine_28 := okL_of _ _ (by decide +kernel) ⟨trivial, ⟨lf_9_26, ⟨trivial, ⟨lf_9_12, ⟨⟨mok_m1_push, ⟨by decide, by decide⟩, rfl, by decide, Or.inr lc_9_65⟩, ⟨trivial, ⟨lf_9_12, ⟨lf_9_69, ⟨trivial, ⟨⟨mok_m2_addRow, ⟨by decide, by decide⟩, rfl, by decide, Or.inr lc_9_109⟩, ⟨trivial, ⟨trivial, ⟨lf_9_12, ⟨lf_9_69, ⟨lf_9_113, ⟨trivial, ⟨trivial, ⟨trivial, trivial⟩⟩⟩⟩⟩⟩⟩⟩⟩⟩⟩⟩⟩⟩⟩⟩⟩⟩
def cd9_addLine (t : Nat) : Option (List PI) := match t with
  | 0 => some bb9_addLine_0
  | 28 => some bb9_addLine_28
  | _ => none
theorem kd9_addLine : ∀ t is, cd9_addLine t = some is → okL m9_addLine t is := by
  intro t is h
  unfold cd9_addLine at h
  split at h <;> cases h
  · exact oo9_addLine_0
  · exact oo9_addLine_28
theorem ff9_addLine : mi_r m9_addLine = (some .int) ∧ mi_l m9_addLine = 3 ∧ mi_h m9_addLine = [] ∧ (mi_rm m9_addLine).cells = 2 ∧ (mi_rm m9_addLine).slots = 12 ∧ (mi_rm m9_addLine).locals = 117 ∧ cd9_addLine 0 = some bb9_addLine_0 ∧ cd9_addLine 28 = some bb9_addLine_28 ∧ (mi_rm m1_push).cells = 0 ∧ (mi_rm m1_push).slots = 0 ∧ (mi_rm m2_addRow).cells = 0 ∧ (mi_rm m2_addRow).slots = 0 ∧ (mi_rm m2_isFull).cells = 0 ∧ (mi_rm m2_isFull).slots = 0 ∧ (mi_rm m9_needPixels).cells = 1 ∧ (mi_rm m9_needPixels).slots = 6 := ⟨rfl, rfl, rfl, rfl, rfl, rfl, rfl, rfl, rfl, rfl, rfl, rfl, rfl, rfl, rfl, rfl⟩
def bb9_needLine_0 : List PI := [(1, .aload_n 0, 0, 0, 0, 0, kZ), (3, .getfield 12, 9, 0, 0, 0, kZ), (3, .getfield 69, 7, 0, 0, 0, kZ), (1, .iload_n 1, 0, 0, 0, 0, kZ), (3, .invokevirtual 239, 1, 2, 0, 0, m2_has), (3, .ifCond .ne 14, 25, 0, 0, 0, kZ), (11, .athrow, 160, 364, 164, 0, (kX eIO "no such line"))]
set_option maxRecDepth 100000 in
theorem oo9_needLine_0 : okL m9_needLine 0 bb9_needLine_0 := okL_of _ _ (by decide +kernel) ⟨trivial, ⟨lf_9_12, ⟨lf_9_69, ⟨trivial, ⟨⟨mok_m2_has, ⟨by decide, by decide⟩, rfl, by decide, Or.inr lc_9_239⟩, ⟨rfl, ⟨⟨by decide, rfl, at_9_364, by decide +kernel, by decide +kernel, Or.inr ⟨by decide +kernel, by decide +kernel, by decide +kernel⟩⟩, trivial⟩⟩⟩⟩⟩⟩⟩
def bb9_needLine_25 : List PI := [(1, .return_, 0, 0, 0, 0, kZ)]
set_option maxRecDepth 100000 in
theorem oo9_needLine_25 : okL m9_needLine 25 bb9_needLine_25 := okL_of _ _ (by decide +kernel) ⟨rfl, trivial⟩
def cd9_needLine (t : Nat) : Option (List PI) := match t with
  | 0 => some bb9_needLine_0
  | 25 => some bb9_needLine_25
  | _ => none
theorem kd9_needLine : ∀ t is, cd9_needLine t = some is → okL m9_needLine t is := by
  intro t is h
  unfold cd9_needLine at h
  split at h <;> cases h
  · exact oo9_needLine_0
  · exact oo9_needLine_25
theorem ff9_needLine : mi_r m9_needLine = none ∧ mi_l m9_needLine = 2 ∧ mi_h m9_needLine = [] ∧ (mi_rm m9_needLine).cells = 1 ∧ (mi_rm m9_needLine).slots = 6 ∧ (mi_rm m9_needLine).locals = 84 ∧ cd9_needLine 0 = some bb9_needLine_0 ∧ cd9_needLine 25 = some bb9_needLine_25 ∧ (mi_rm m2_has).cells = 0 ∧ (mi_rm m2_has).slots = 0 := ⟨rfl, rfl, rfl, rfl, rfl, rfl, rfl, rfl, rfl, rfl⟩
theorem okt_m9_setLine (pc : Nat) : okT m9_setLine pc := fun y hy => by cases hy
def bb9_setLine_0 : List PI := [(1, .aload_n 0, 0, 0, 0, 0, kZ), (1, .iload_n 1, 0, 0, 0, 0, kZ), (3, .invokevirtual 116, 1, 9, 1, 0, m9_needLine), (1, .aload_n 0, 0, 0, 0, 0, kZ), (1, .lload_n 2, 0, 0, 0, 0, kZ), (3, .invokevirtual 96, 1, 9, 1, 0, m9_needPixels), (1, .aload_n 0, 0, 0, 0, 0, kZ), (3, .getfield 26, 9, 3, 0, 0, kZ), (1, .aload_n 0, 0, 0, 0, 0, kZ), (3, .getfield 12, 9, 0, 0, 0, kZ), (3, .invokevirtual 65, 1, 1, 0, 0, m1_push), (1, .aload_n 0, 0, 0, 0, 0, kZ), (3, .getfield 12, 9, 0, 0, 0, kZ), (3, .getfield 69, 7, 0, 0, 0, kZ), (1, .iload_n 1, 0, 0, 0, 0, kZ), (3, .invokevirtual 119, 1, 2, 0, 0, m2_rowOf), (2, .lstore 4, 0, 0, 0, 0, kZ), (1, .aload_n 0, 0, 0, 0, 0, kZ), (3, .getfield 12, 9, 0, 0, 0, kZ), (3, .getfield 69, 7, 0, 0, 0, kZ), (1, .iload_n 1, 0, 0, 0, 0, kZ), (1, .lload_n 2, 0, 0, 0, 0, kZ), (3, .invokevirtual 123, 2, 2, 0, 0, m2_putRow), (2, .lload 4, 0, 0, 0, 0, kZ), (1, .lreturn, 0, 0, 0, 0, kZ)]
set_option maxRecDepth 100000 in
theorem oo9_setLine_0 : okL m9_setLine 0 bb9_setLine_0 := okL_of _ _ (by decide +kernel) ⟨trivial, ⟨trivial, ⟨⟨mok_m9_needLine, ⟨by decide, by decide⟩, rfl, by decide, lc_9_116, okt_m9_setLine _⟩, ⟨trivial, ⟨trivial, ⟨⟨mok_m9_needPixels, ⟨by decide, by decide⟩, rfl, by decide, lc_9_96, okt_m9_setLine _⟩, ⟨trivial, ⟨lf_9_26, ⟨trivial, ⟨lf_9_12, ⟨⟨mok_m1_push, ⟨by decide, by decide⟩, rfl, by decide, Or.inr lc_9_65⟩, ⟨trivial, ⟨lf_9_12, ⟨lf_9_69, ⟨trivial, ⟨⟨mok_m2_rowOf, ⟨by decide, by decide⟩, rfl, by decide, Or.inr lc_9_119⟩, ⟨trivial, ⟨trivial, ⟨lf_9_12, ⟨lf_9_69, ⟨trivial, ⟨trivial, ⟨⟨mok_m2_putRow, ⟨by decide, by decide⟩, rfl, by decide, Or.inr lc_9_123⟩, ⟨trivial, ⟨rfl, trivial⟩⟩⟩⟩⟩⟩⟩⟩⟩⟩⟩⟩⟩⟩⟩⟩⟩⟩⟩⟩⟩⟩⟩⟩⟩
def cd9_setLine (t : Nat) : Option (List PI) := match t with
  | 0 => some bb9_setLine_0
  | _ => none
theorem kd9_setLine : ∀ t is, cd9_setLine t = some is → okL m9_setLine t is := by
  intro t is h
  unfold cd9_setLine at h
  split at h <;> cases h
  · exact oo9_setLine_0
theorem ff9_setLine : mi_r m9_setLine = (some .long) ∧ mi_l m9_setLine = 6 ∧ mi_h m9_setLine = [] ∧ (mi_rm m9_setLine).cells = 2 ∧ (mi_rm m9_setLine).slots = 12 ∧ (mi_rm m9_setLine).locals = 117 ∧ cd9_setLine 0 = some bb9_setLine_0 ∧ (mi_rm m1_push).cells = 0 ∧ (mi_rm m1_push).slots = 0 ∧ (mi_rm m2_putRow).cells = 0 ∧ (mi_rm m2_putRow).slots = 0 ∧ (mi_rm m2_rowOf).cells = 0 ∧ (mi_rm m2_rowOf).slots = 0 ∧ (mi_rm m9_needLine).cells = 1 ∧ (mi_rm m9_needLine).slots = 6 ∧ (mi_rm m9_needPixels).cells = 1 ∧ (mi_rm m9_needPixels).slots = 6 := ⟨rfl, rfl, rfl, rfl, rfl, rfl, rfl, rfl, rfl, rfl, rfl, rfl, rfl, rfl, rfl, rfl, rfl⟩
def bb9_dropLast_0 : List PI := [(1, .aload_n 0, 0, 0, 0, 0, kZ), (3, .getfield 12, 9, 0, 0, 0, kZ), (3, .getfield 69, 7, 0, 0, 0, kZ), (3, .getfield 113, 2, 2, 0, 0, kZ), (3, .ifCond .ne 13, 23, 0, 0, 0, kZ), (10, .athrow, 104, 127, 108, 0, (kX eIS "the page has no line"))]
set_option maxRecDepth 100000 in
theorem oo9_dropLast_0 : okL m9_dropLast 0 bb9_dropLast_0 := okL_of _ _ (by decide +kernel) ⟨trivial, ⟨lf_9_12, ⟨lf_9_69, ⟨lf_9_113, ⟨rfl, ⟨⟨by decide, rfl, at_9_127, by decide +kernel, by decide +kernel, Or.inl ⟨by decide +kernel, by decide +kernel, by decide +kernel⟩⟩, trivial⟩⟩⟩⟩⟩⟩
def bb9_dropLast_23 : List PI := [(1, .aload_n 0, 0, 0, 0, 0, kZ), (3, .getfield 26, 9, 3, 0, 0, kZ), (1, .aload_n 0, 0, 0, 0, 0, kZ), (3, .getfield 12, 9, 0, 0, 0, kZ), (3, .invokevirtual 65, 1, 1, 0, 0, m1_push), (1, .aload_n 0, 0, 0, 0, 0, kZ), (3, .getfield 12, 9, 0, 0, 0, kZ), (3, .getfield 69, 7, 0, 0, 0, kZ), (3, .invokevirtual 129, 0, 2, 0, 0, m2_dropRow), (1, .pop, 0, 0, 0, 0, kZ), (1, .aload_n 0, 0, 0, 0, 0, kZ), (3, .getfield 12, 9, 0, 0, 0, kZ), (3, .getfield 69, 7, 0, 0, 0, kZ), (3, .getfield 113, 2, 2, 0, 0, kZ), (1, .ireturn, 0, 0, 0, 0, kZ)]
set_option maxRecDepth 100000 in
theorem oo9_dropLast_23 : okL m9_dropLast 23 bb9_dropLast_23 := okL_of _ _ (by decide +kernel) ⟨trivial, ⟨lf_9_26, ⟨trivial, ⟨lf_9_12, ⟨⟨mok_m1_push, ⟨by decide, by decide⟩, rfl, by decide, Or.inr lc_9_65⟩, ⟨trivial, ⟨lf_9_12, ⟨lf_9_69, ⟨⟨mok_m2_dropRow, ⟨by decide, by decide⟩, rfl, by decide, Or.inr lc_9_129⟩, ⟨trivial, ⟨trivial, ⟨lf_9_12, ⟨lf_9_69, ⟨lf_9_113, ⟨trivial, trivial⟩⟩⟩⟩⟩⟩⟩⟩⟩⟩⟩⟩⟩⟩⟩
def cd9_dropLast (t : Nat) : Option (List PI) := match t with
  | 0 => some bb9_dropLast_0
  | 23 => some bb9_dropLast_23
  | _ => none
theorem kd9_dropLast : ∀ t is, cd9_dropLast t = some is → okL m9_dropLast t is := by
  intro t is h
  unfold cd9_dropLast at h
  split at h <;> cases h
  · exact oo9_dropLast_0
  · exact oo9_dropLast_23
theorem ff9_dropLast : mi_r m9_dropLast = (some .int) ∧ mi_l m9_dropLast = 1 ∧ mi_h m9_dropLast = [] ∧ (mi_rm m9_dropLast).cells = 1 ∧ (mi_rm m9_dropLast).slots = 6 ∧ (mi_rm m9_dropLast).locals = 117 ∧ cd9_dropLast 0 = some bb9_dropLast_0 ∧ cd9_dropLast 23 = some bb9_dropLast_23 ∧ (mi_rm m1_push).cells = 0 ∧ (mi_rm m1_push).slots = 0 ∧ (mi_rm m2_dropRow).cells = 0 ∧ (mi_rm m2_dropRow).slots = 0 := ⟨rfl, rfl, rfl, rfl, rfl, rfl, rfl, rfl, rfl, rfl, rfl, rfl⟩
def bb9_setStyle_0 : List PI := [(1, .iload_n 1, 0, 0, 0, 0, kZ), (3, .ifCond .lt 8, 9, 0, 0, 0, kZ), (1, .iload_n 1, 0, 0, 0, 0, kZ), (1, .iconst 3, 0, 0, 0, 0, kZ), (3, .if_icmp .le 13, 19, 0, 0, 0, kZ)]
set_option maxRecDepth 100000 in
theorem oo9_setStyle_0 : okL m9_setStyle 0 bb9_setStyle_0 := okL_of _ _ (by decide +kernel) ⟨trivial, ⟨rfl, ⟨trivial, ⟨trivial, ⟨rfl, trivial⟩⟩⟩⟩⟩
def bb9_setStyle_9 : List PI := [(10, .athrow, 58, 132, 62, 0, (kX eIA "a style is 0 to 3"))]
set_option maxRecDepth 100000 in
theorem oo9_setStyle_9 : okL m9_setStyle 9 bb9_setStyle_9 := okL_of _ _ (by decide +kernel) ⟨⟨by decide, rfl, at_9_132, by decide +kernel, by decide +kernel, Or.inl ⟨by decide +kernel, by decide +kernel, by decide +kernel⟩⟩, trivial⟩
def bb9_setStyle_19 : List PI := [(1, .aload_n 0, 0, 0, 0, 0, kZ), (3, .getfield 26, 9, 3, 0, 0, kZ), (1, .aload_n 0, 0, 0, 0, 0, kZ), (3, .getfield 12, 9, 0, 0, 0, kZ), (3, .invokevirtual 65, 1, 1, 0, 0, m1_push), (1, .aload_n 0, 0, 0, 0, 0, kZ), (3, .getfield 12, 9, 0, 0, 0, kZ), (3, .getfield 69, 7, 0, 0, 0, kZ), (3, .getfield 134, 2, 1, 0, 0, kZ), (1, .istore_n 2, 0, 0, 0, 0, kZ), (1, .aload_n 0, 0, 0, 0, 0, kZ), (3, .getfield 12, 9, 0, 0, 0, kZ), (3, .getfield 69, 7, 0, 0, 0, kZ), (1, .iload_n 1, 0, 0, 0, 0, kZ), (3, .putfield 134, 2, 1, 0, 0, kZ), (1, .iload_n 2, 0, 0, 0, 0, kZ), (1, .ireturn, 0, 0, 0, 0, kZ)]
set_option maxRecDepth 100000 in
theorem oo9_setStyle_19 : okL m9_setStyle 19 bb9_setStyle_19 := okL_of _ _ (by decide +kernel) ⟨trivial, ⟨lf_9_26, ⟨trivial, ⟨lf_9_12, ⟨⟨mok_m1_push, ⟨by decide, by decide⟩, rfl, by decide, Or.inr lc_9_65⟩, ⟨trivial, ⟨lf_9_12, ⟨lf_9_69, ⟨lf_9_134, ⟨trivial, ⟨trivial, ⟨lf_9_12, ⟨lf_9_69, ⟨trivial, ⟨lp_9_134 _, ⟨trivial, ⟨trivial, trivial⟩⟩⟩⟩⟩⟩⟩⟩⟩⟩⟩⟩⟩⟩⟩⟩⟩
def cd9_setStyle (t : Nat) : Option (List PI) := match t with
  | 0 => some bb9_setStyle_0
  | 9 => some bb9_setStyle_9
  | 19 => some bb9_setStyle_19
  | _ => none
theorem kd9_setStyle : ∀ t is, cd9_setStyle t = some is → okL m9_setStyle t is := by
  intro t is h
  unfold cd9_setStyle at h
  split at h <;> cases h
  · exact oo9_setStyle_0
  · exact oo9_setStyle_9
  · exact oo9_setStyle_19
theorem ff9_setStyle : mi_r m9_setStyle = (some .int) ∧ mi_l m9_setStyle = 3 ∧ mi_h m9_setStyle = [] ∧ (mi_rm m9_setStyle).cells = 1 ∧ (mi_rm m9_setStyle).slots = 6 ∧ (mi_rm m9_setStyle).locals = 117 ∧ cd9_setStyle 0 = some bb9_setStyle_0 ∧ cd9_setStyle 9 = some bb9_setStyle_9 ∧ cd9_setStyle 19 = some bb9_setStyle_19 ∧ (mi_rm m1_push).cells = 0 ∧ (mi_rm m1_push).slots = 0 := ⟨rfl, rfl, rfl, rfl, rfl, rfl, rfl, rfl, rfl, rfl, rfl⟩
def bb9_countedFours_0 : List PI := [(1, .iconst 0, 0, 0, 0, 0, kZ), (1, .istore_n 3, 0, 0, 0, 0, kZ), (1, .iconst 0, 0, 0, 0, 0, kZ), (2, .istore 4, 0, 0, 0, 0, kZ)]
set_option maxRecDepth 100000 in
theorem oo9_countedFours_0 : okL m9_countedFours 0 bb9_countedFours_0 := okL_of _ _ (by decide +kernel) ⟨trivial, ⟨trivial, ⟨trivial, ⟨trivial, trivial⟩⟩⟩⟩
def bb9_countedFours_5 : List PI := [(2, .iload 4, 0, 0, 0, 0, kZ), (1, .iload_n 2, 0, 0, 0, 0, kZ), (3, .if_icmp .ge 32, 40, 0, 0, 0, kZ), (1, .iload_n 3, 0, 0, 0, 0, kZ), (1, .lload_n 0, 0, 0, 0, 0, kZ), (2, .iload 4, 0, 0, 0, 0, kZ), (1, .lushr, 0, 0, 0, 0, kZ), (3, .ldc2_w 430, 0, 0, 0, 15, kZ), (1, .land, 0, 0, 0, 0, kZ), (3, .ldc2_w 430, 0, 0, 0, 15, kZ), (1, .lcmp, 0, 0, 0, 0, kZ), (3, .ifCond .ne 7, 31, 0, 0, 0, kZ), (1, .iconst 2, 0, 0, 0, 0, kZ), (3, .goto 4, 32, 0, 0, 0, kZ)]
set_option maxRecDepth 100000 in
theorem oo9_countedFours_5 : okL m9_countedFours 5 bb9_countedFours_5 := okL_of _ _ (by decide +kernel) ⟨trivial, ⟨trivial, ⟨rfl, ⟨trivial, ⟨trivial, ⟨trivial, ⟨trivial, ⟨(wt_2 172 (by decide +kernel) rfl), ⟨trivial, ⟨(wt_2 172 (by decide +kernel) rfl), ⟨trivial, ⟨rfl, ⟨trivial, ⟨rfl, trivial⟩⟩⟩⟩⟩⟩⟩⟩⟩⟩⟩⟩⟩⟩
def bb9_countedFours_31 : List PI := [(1, .iconst 1, 0, 0, 0, 0, kZ)]
set_option maxRecDepth 100000 in
theorem oo9_countedFours_31 : okL m9_countedFours 31 bb9_countedFours_31 := okL_of _ _ (by decide +kernel) ⟨trivial, trivial⟩
def bb9_countedFours_32 : List PI := [(1, .iadd, 0, 0, 0, 0, kZ), (1, .istore_n 3, 0, 0, 0, 0, kZ), (3, .iinc 4 4, 0, 0, 0, 0, kZ), (3, .goto (-32), 5, 0, 0, 0, kZ)]
set_option maxRecDepth 100000 in
theorem oo9_countedFours_32 : okL m9_countedFours 32 bb9_countedFours_32 := okL_of _ _ (by decide +kernel) ⟨trivial, ⟨trivial, ⟨trivial, ⟨rfl, trivial⟩⟩⟩⟩
def bb9_countedFours_40 : List PI := [(1, .iload_n 3, 0, 0, 0, 0, kZ), (1, .ireturn, 0, 0, 0, 0, kZ)]
set_option maxRecDepth 100000 in
theorem oo9_countedFours_40 : okL m9_countedFours 40 bb9_countedFours_40 := okL_of _ _ (by decide +kernel) ⟨trivial, ⟨trivial, trivial⟩⟩
def cd9_countedFours (t : Nat) : Option (List PI) := match t with
  | 0 => some bb9_countedFours_0
  | 31 => some bb9_countedFours_31
  | 32 => some bb9_countedFours_32
  | 40 => some bb9_countedFours_40
  | _ => none
theorem kd9_countedFours : ∀ t is, cd9_countedFours t = some is → okL m9_countedFours t is := by
  intro t is h
  unfold cd9_countedFours at h
  split at h <;> cases h
  · exact oo9_countedFours_0
  · exact oo9_countedFours_31
  · exact oo9_countedFours_32
  · exact oo9_countedFours_40
theorem ff9_countedFours : mi_r m9_countedFours = (some .int) ∧ mi_l m9_countedFours = 5 ∧ mi_h m9_countedFours = [] ∧ (mi_rm m9_countedFours).cells = 0 ∧ (mi_rm m9_countedFours).slots = 0 ∧ (mi_rm m9_countedFours).locals = 32 ∧ cd9_countedFours 0 = some bb9_countedFours_0 ∧ cd9_countedFours 5 = none ∧ cd9_countedFours 31 = some bb9_countedFours_31 ∧ cd9_countedFours 32 = some bb9_countedFours_32 ∧ cd9_countedFours 40 = some bb9_countedFours_40 := ⟨rfl, rfl, rfl, rfl, rfl, rfl, rfl, rfl, rfl, rfl, rfl⟩
def bb9_bordersOf_0 : List PI := [(1, .lload_n 0, 0, 0, 0, 0, kZ), (1, .lload_n 0, 0, 0, 0, 0, kZ), (1, .iconst 1, 0, 0, 0, 0, kZ), (1, .lshl, 0, 0, 0, 0, kZ), (1, .lxor, 0, 0, 0, 0, kZ), (1, .lconst 1, 0, 0, 0, 0, kZ), (1, .iload_n 2, 0, 0, 0, 0, kZ), (1, .lshl, 0, 0, 0, 0, kZ), (1, .lconst 1, 0, 0, 0, 0, kZ), (1, .lsub, 0, 0, 0, 0, kZ), (1, .land, 0, 0, 0, 0, kZ), (1, .lreturn, 0, 0, 0, 0, kZ)]
set_option maxRecDepth 100000 in
theorem oo9_bordersOf_0 : okL m9_bordersOf 0 bb9_bordersOf_0 := okL_of _ _ (by decide +kernel) ⟨trivial, ⟨trivial, ⟨trivial, ⟨trivial, ⟨trivial, ⟨trivial, ⟨trivial, ⟨trivial, ⟨trivial, ⟨trivial, ⟨trivial, ⟨rfl, trivial⟩⟩⟩⟩⟩⟩⟩⟩⟩⟩⟩⟩
def cd9_bordersOf (t : Nat) : Option (List PI) := match t with
  | 0 => some bb9_bordersOf_0
  | _ => none
theorem kd9_bordersOf : ∀ t is, cd9_bordersOf t = some is → okL m9_bordersOf t is := by
  intro t is h
  unfold cd9_bordersOf at h
  split at h <;> cases h
  · exact oo9_bordersOf_0
theorem ff9_bordersOf : mi_r m9_bordersOf = (some .long) ∧ mi_l m9_bordersOf = 3 ∧ mi_h m9_bordersOf = [] ∧ (mi_rm m9_bordersOf).cells = 0 ∧ (mi_rm m9_bordersOf).slots = 0 ∧ (mi_rm m9_bordersOf).locals = 32 ∧ cd9_bordersOf 0 = some bb9_bordersOf_0 := ⟨rfl, rfl, rfl, rfl, rfl, rfl, rfl⟩
def bb9_numbersOfRun_0 : List PI := [(1, .iload_n 0, 0, 0, 0, 0, kZ), (2, .bipush 14, 0, 0, 0, 0, kZ), (3, .if_icmp .ge 5, 8, 0, 0, 0, kZ), (1, .iconst 1, 0, 0, 0, 0, kZ), (1, .ireturn, 0, 0, 0, 0, kZ)]
set_option maxRecDepth 100000 in
theorem oo9_numbersOfRun_0 : okL m9_numbersOfRun 0 bb9_numbersOfRun_0 := okL_of _ _ (by decide +kernel) ⟨trivial, ⟨trivial, ⟨rfl, ⟨trivial, ⟨trivial, trivial⟩⟩⟩⟩⟩
def bb9_numbersOfRun_8 : List PI := [(1, .iload_n 0, 0, 0, 0, 0, kZ), (2, .bipush 16, 0, 0, 0, 0, kZ), (1, .irem, 0, 0, 0, 0, kZ), (2, .bipush 15, 0, 0, 0, 0, kZ), (3, .if_icmp .ne 7, 21, 0, 0, 0, kZ), (1, .iconst 4, 0, 0, 0, 0, kZ), (3, .goto 4, 22, 0, 0, 0, kZ)]
set_option maxRecDepth 100000 in
theorem oo9_numbersOfRun_8 : okL m9_numbersOfRun 8 bb9_numbersOfRun_8 := okL_of _ _ (by decide +kernel) ⟨trivial, ⟨trivial, ⟨trivial, ⟨trivial, ⟨rfl, ⟨trivial, ⟨rfl, trivial⟩⟩⟩⟩⟩⟩⟩
def bb9_numbersOfRun_21 : List PI := [(1, .iconst 3, 0, 0, 0, 0, kZ)]
set_option maxRecDepth 100000 in
theorem oo9_numbersOfRun_21 : okL m9_numbersOfRun 21 bb9_numbersOfRun_21 := okL_of _ _ (by decide +kernel) ⟨trivial, trivial⟩
def bb9_numbersOfRun_22 : List PI := [(1, .ireturn, 0, 0, 0, 0, kZ)]
set_option maxRecDepth 100000 in
theorem oo9_numbersOfRun_22 : okL m9_numbersOfRun 22 bb9_numbersOfRun_22 := okL_of _ _ (by decide +kernel) ⟨trivial, trivial⟩
def cd9_numbersOfRun (t : Nat) : Option (List PI) := match t with
  | 0 => some bb9_numbersOfRun_0
  | 8 => some bb9_numbersOfRun_8
  | 21 => some bb9_numbersOfRun_21
  | 22 => some bb9_numbersOfRun_22
  | _ => none
theorem kd9_numbersOfRun : ∀ t is, cd9_numbersOfRun t = some is → okL m9_numbersOfRun t is := by
  intro t is h
  unfold cd9_numbersOfRun at h
  split at h <;> cases h
  · exact oo9_numbersOfRun_0
  · exact oo9_numbersOfRun_8
  · exact oo9_numbersOfRun_21
  · exact oo9_numbersOfRun_22
theorem ff9_numbersOfRun : mi_r m9_numbersOfRun = (some .int) ∧ mi_l m9_numbersOfRun = 1 ∧ mi_h m9_numbersOfRun = [] ∧ (mi_rm m9_numbersOfRun).cells = 0 ∧ (mi_rm m9_numbersOfRun).slots = 0 ∧ (mi_rm m9_numbersOfRun).locals = 32 ∧ cd9_numbersOfRun 0 = some bb9_numbersOfRun_0 ∧ cd9_numbersOfRun 8 = some bb9_numbersOfRun_8 ∧ cd9_numbersOfRun 21 = some bb9_numbersOfRun_21 ∧ cd9_numbersOfRun 22 = some bb9_numbersOfRun_22 := ⟨rfl, rfl, rfl, rfl, rfl, rfl, rfl, rfl, rfl, rfl⟩
def bb9_countedRuns_0 : List PI := [(1, .lload_n 0, 0, 0, 0, 0, kZ), (1, .iload_n 2, 0, 0, 0, 0, kZ), (3, .invokestatic 248, 2, 9, 0, 0, m9_bordersOf), (1, .lstore_n 3, 0, 0, 0, 0, kZ), (1, .iconst 0, 0, 0, 0, 0, kZ), (2, .istore 5, 0, 0, 0, 0, kZ), (1, .iconst 0, 0, 0, 0, 0, kZ), (2, .istore 6, 0, 0, 0, 0, kZ), (1, .iconst 0, 0, 0, 0, 0, kZ), (2, .istore 7, 0, 0, 0, 0, kZ)]
set_option maxRecDepth 100000 in
theorem oo9_countedRuns_0 : okL m9_countedRuns 0 bb9_countedRuns_0 := okL_of _ _ (by decide +kernel) ⟨trivial, ⟨trivial, ⟨⟨mok_m9_bordersOf, ⟨by decide, by decide⟩, rfl, Or.inl lc_9_248⟩, ⟨trivial, ⟨trivial, ⟨trivial, ⟨trivial, ⟨trivial, ⟨trivial, ⟨trivial, trivial⟩⟩⟩⟩⟩⟩⟩⟩⟩⟩
def bb9_countedRuns_15 : List PI := [(2, .iload 7, 0, 0, 0, 0, kZ), (1, .iload_n 2, 0, 0, 0, 0, kZ), (3, .if_icmp .ge 34, 52, 0, 0, 0, kZ), (1, .lload_n 3, 0, 0, 0, 0, kZ), (2, .iload 7, 0, 0, 0, 0, kZ), (3, .invokestatic 244, 2, 9, 0, 0, m9_blackAt), (3, .ifCond .eq 16, 43, 0, 0, 0, kZ), (2, .iload 5, 0, 0, 0, 0, kZ), (2, .iload 6, 0, 0, 0, 0, kZ), (3, .invokestatic 432, 1, 9, 0, 0, m9_numbersOfRun), (1, .iadd, 0, 0, 0, 0, kZ), (2, .istore 5, 0, 0, 0, 0, kZ), (1, .iconst 0, 0, 0, 0, 0, kZ), (2, .istore 6, 0, 0, 0, 0, kZ)]
set_option maxRecDepth 100000 in
theorem oo9_countedRuns_15 : okL m9_countedRuns 15 bb9_countedRuns_15 := okL_of _ _ (by decide +kernel) ⟨trivial, ⟨trivial, ⟨rfl, ⟨trivial, ⟨trivial, ⟨⟨mok_m9_blackAt, ⟨by decide, by decide⟩, rfl, Or.inl lc_9_244⟩, ⟨rfl, ⟨trivial, ⟨trivial, ⟨⟨mok_m9_numbersOfRun, ⟨by decide, by decide⟩, rfl, Or.inl lc_9_432⟩, ⟨trivial, ⟨trivial, ⟨trivial, ⟨trivial, trivial⟩⟩⟩⟩⟩⟩⟩⟩⟩⟩⟩⟩⟩⟩
def bb9_countedRuns_43 : List PI := [(3, .iinc 6 1, 0, 0, 0, 0, kZ), (3, .iinc 7 1, 0, 0, 0, 0, kZ), (3, .goto (-34), 15, 0, 0, 0, kZ)]
set_option maxRecDepth 100000 in
theorem oo9_countedRuns_43 : okL m9_countedRuns 43 bb9_countedRuns_43 := okL_of _ _ (by decide +kernel) ⟨trivial, ⟨trivial, ⟨rfl, trivial⟩⟩⟩
def bb9_countedRuns_52 : List PI := [(2, .iload 5, 0, 0, 0, 0, kZ), (2, .iload 6, 0, 0, 0, 0, kZ), (3, .invokestatic 432, 1, 9, 0, 0, m9_numbersOfRun), (1, .iadd, 0, 0, 0, 0, kZ), (1, .ireturn, 0, 0, 0, 0, kZ)]
set_option maxRecDepth 100000 in
theorem oo9_countedRuns_52 : okL m9_countedRuns 52 bb9_countedRuns_52 := okL_of _ _ (by decide +kernel) ⟨trivial, ⟨trivial, ⟨⟨mok_m9_numbersOfRun, ⟨by decide, by decide⟩, rfl, Or.inl lc_9_432⟩, ⟨trivial, ⟨trivial, trivial⟩⟩⟩⟩⟩
def cd9_countedRuns (t : Nat) : Option (List PI) := match t with
  | 0 => some bb9_countedRuns_0
  | 43 => some bb9_countedRuns_43
  | 52 => some bb9_countedRuns_52
  | _ => none
theorem kd9_countedRuns : ∀ t is, cd9_countedRuns t = some is → okL m9_countedRuns t is := by
  intro t is h
  unfold cd9_countedRuns at h
  split at h <;> cases h
  · exact oo9_countedRuns_0
  · exact oo9_countedRuns_43
  · exact oo9_countedRuns_52
theorem ff9_countedRuns : mi_r m9_countedRuns = (some .int) ∧ mi_l m9_countedRuns = 8 ∧ mi_h m9_countedRuns = [] ∧ (mi_rm m9_countedRuns).cells = 0 ∧ (mi_rm m9_countedRuns).slots = 0 ∧ (mi_rm m9_countedRuns).locals = 54 ∧ cd9_countedRuns 0 = some bb9_countedRuns_0 ∧ cd9_countedRuns 15 = none ∧ cd9_countedRuns 43 = some bb9_countedRuns_43 ∧ cd9_countedRuns 52 = some bb9_countedRuns_52 ∧ (mi_rm m9_blackAt).cells = 0 ∧ (mi_rm m9_blackAt).slots = 0 ∧ (mi_rm m9_bordersOf).cells = 0 ∧ (mi_rm m9_bordersOf).slots = 0 ∧ (mi_rm m9_numbersOfRun).cells = 0 ∧ (mi_rm m9_numbersOfRun).slots = 0 := ⟨rfl, rfl, rfl, rfl, rfl, rfl, rfl, rfl, rfl, rfl, rfl, rfl, rfl, rfl, rfl, rfl⟩
def bb9_countedLength_0 : List PI := [(1, .aload_n 0, 0, 0, 0, 0, kZ), (3, .getfield 12, 9, 0, 0, 0, kZ), (3, .getfield 69, 7, 0, 0, 0, kZ), (1, .iload_n 1, 0, 0, 0, 0, kZ), (1, .iload_n 2, 0, 0, 0, 0, kZ), (3, .invokevirtual 420, 2, 2, 0, 0, m2_toCode), (1, .lstore_n 3, 0, 0, 0, 0, kZ), (1, .aload_n 0, 0, 0, 0, 0, kZ), (3, .getfield 12, 9, 0, 0, 0, kZ), (3, .getfield 69, 7, 0, 0, 0, kZ), (3, .getfield 73, 2, 0, 0, 0, kZ), (2, .istore 5, 0, 0, 0, 0, kZ), (1, .iload_n 2, 0, 0, 0, 0, kZ), (1, .iconst 1, 0, 0, 0, 0, kZ), (3, .if_icmp .ne 12, 39, 0, 0, 0, kZ), (1, .lload_n 3, 0, 0, 0, 0, kZ), (2, .iload 5, 0, 0, 0, 0, kZ), (3, .invokestatic 424, 2, 9, 0, 0, m9_countedFours), (3, .goto 9, 45, 0, 0, 0, kZ)]
set_option maxRecDepth 100000 in
theorem oo9_countedLength_0 : okL m9_countedLength 0 bb9_countedLength_0 := okL_of _ _ (by decide +kernel) ⟨trivial, ⟨lf_9_12, ⟨lf_9_69, ⟨trivial, ⟨trivial, ⟨⟨mok_m2_toCode, ⟨by decide, by decide⟩, rfl, by decide, Or.inr lc_9_420⟩, ⟨trivial, ⟨trivial, ⟨lf_9_12, ⟨lf_9_69, ⟨lf_9_73, ⟨trivial, ⟨trivial, ⟨trivial, ⟨rfl, ⟨trivial, ⟨trivial, ⟨⟨mok_m9_countedFours, ⟨by decide, by decide⟩, rfl, Or.inl lc_9_424⟩, ⟨rfl, trivial⟩⟩⟩⟩⟩⟩⟩⟩⟩⟩⟩⟩⟩⟩⟩⟩⟩⟩⟩
def bb9_countedLength_39 : List PI := [(1, .lload_n 3, 0, 0, 0, 0, kZ), (2, .iload 5, 0, 0, 0, 0, kZ), (3, .invokestatic 427, 2, 9, 0, 0, m9_countedRuns)]
set_option maxRecDepth 100000 in
theorem oo9_countedLength_39 : okL m9_countedLength 39 bb9_countedLength_39 := okL_of _ _ (by decide +kernel) ⟨trivial, ⟨trivial, ⟨⟨mok_m9_countedRuns, ⟨by decide, by decide⟩, rfl, Or.inl lc_9_427⟩, trivial⟩⟩⟩
def bb9_countedLength_45 : List PI := [(2, .istore 6, 0, 0, 0, 0, kZ), (1, .iconst 5, 0, 0, 0, 0, kZ), (2, .iload 6, 0, 0, 0, 0, kZ), (1, .iadd, 0, 0, 0, 0, kZ), (1, .ireturn, 0, 0, 0, 0, kZ)]
set_option maxRecDepth 100000 in
theorem oo9_countedLength_45 : okL m9_countedLength 45 bb9_countedLength_45 := okL_of _ _ (by decide +kernel) ⟨trivial, ⟨trivial, ⟨trivial, ⟨trivial, ⟨trivial, trivial⟩⟩⟩⟩⟩
def cd9_countedLength (t : Nat) : Option (List PI) := match t with
  | 0 => some bb9_countedLength_0
  | 39 => some bb9_countedLength_39
  | 45 => some bb9_countedLength_45
  | _ => none
theorem kd9_countedLength : ∀ t is, cd9_countedLength t = some is → okL m9_countedLength t is := by
  intro t is h
  unfold cd9_countedLength at h
  split at h <;> cases h
  · exact oo9_countedLength_0
  · exact oo9_countedLength_39
  · exact oo9_countedLength_45
theorem ff9_countedLength : mi_r m9_countedLength = (some .int) ∧ mi_l m9_countedLength = 7 ∧ mi_h m9_countedLength = [] ∧ (mi_rm m9_countedLength).cells = 0 ∧ (mi_rm m9_countedLength).slots = 0 ∧ (mi_rm m9_countedLength).locals = 81 ∧ cd9_countedLength 0 = some bb9_countedLength_0 ∧ cd9_countedLength 39 = some bb9_countedLength_39 ∧ cd9_countedLength 45 = some bb9_countedLength_45 ∧ (mi_rm m2_toCode).cells = 0 ∧ (mi_rm m2_toCode).slots = 0 ∧ (mi_rm m9_countedFours).cells = 0 ∧ (mi_rm m9_countedFours).slots = 0 ∧ (mi_rm m9_countedRuns).cells = 0 ∧ (mi_rm m9_countedRuns).slots = 0 := ⟨rfl, rfl, rfl, rfl, rfl, rfl, rfl, rfl, rfl, rfl, rfl, rfl, rfl, rfl, rfl⟩
def bb9_modeToSend_0 : List PI := [(1, .aload_n 0, 0, 0, 0, 0, kZ), (3, .getfield 12, 9, 0, 0, 0, kZ), (3, .getfield 69, 7, 0, 0, 0, kZ), (3, .getfield 134, 2, 1, 0, 0, kZ), (1, .iconst 3, 0, 0, 0, 0, kZ), (3, .if_icmp .eq 14, 25, 0, 0, 0, kZ), (1, .aload_n 0, 0, 0, 0, 0, kZ), (3, .getfield 12, 9, 0, 0, 0, kZ), (3, .getfield 69, 7, 0, 0, 0, kZ), (3, .getfield 134, 2, 1, 0, 0, kZ), (1, .ireturn, 0, 0, 0, 0, kZ)]
set_option maxRecDepth 100000 in
theorem oo9_modeToSend_0 : okL m9_modeToSend 0 bb9_modeToSend_0 := okL_of _ _ (by decide +kernel) ⟨trivial, ⟨lf_9_12, ⟨lf_9_69, ⟨lf_9_134, ⟨trivial, ⟨rfl, ⟨trivial, ⟨lf_9_12, ⟨lf_9_69, ⟨lf_9_134, ⟨trivial, trivial⟩⟩⟩⟩⟩⟩⟩⟩⟩⟩⟩
def bb9_modeToSend_25 : List PI := [(1, .iconst 0, 0, 0, 0, 0, kZ), (1, .istore_n 2, 0, 0, 0, 0, kZ), (1, .aload_n 0, 0, 0, 0, 0, kZ), (1, .iload_n 1, 0, 0, 0, 0, kZ), (1, .iconst 0, 0, 0, 0, 0, kZ), (3, .invokevirtual 270, 2, 9, 0, 0, m9_countedLength), (1, .istore_n 3, 0, 0, 0, 0, kZ), (1, .iconst 1, 0, 0, 0, 0, kZ), (2, .istore 4, 0, 0, 0, 0, kZ)]
set_option maxRecDepth 100000 in
theorem oo9_modeToSend_25 : okL m9_modeToSend 25 bb9_modeToSend_25 := okL_of _ _ (by decide +kernel) ⟨trivial, ⟨trivial, ⟨trivial, ⟨trivial, ⟨trivial, ⟨⟨mok_m9_countedLength, ⟨by decide, by decide⟩, rfl, by decide, Or.inl lc_9_270⟩, ⟨trivial, ⟨trivial, ⟨trivial, trivial⟩⟩⟩⟩⟩⟩⟩⟩⟩
def bb9_modeToSend_37 : List PI := [(2, .iload 4, 0, 0, 0, 0, kZ), (1, .iconst 3, 0, 0, 0, 0, kZ), (3, .if_icmp .ge 30, 70, 0, 0, 0, kZ), (1, .aload_n 0, 0, 0, 0, 0, kZ), (1, .iload_n 1, 0, 0, 0, 0, kZ), (2, .iload 4, 0, 0, 0, 0, kZ), (3, .invokevirtual 270, 2, 9, 0, 0, m9_countedLength), (2, .istore 5, 0, 0, 0, 0, kZ), (2, .iload 5, 0, 0, 0, 0, kZ), (1, .iload_n 3, 0, 0, 0, 0, kZ), (3, .if_icmp .ge 9, 64, 0, 0, 0, kZ), (2, .iload 4, 0, 0, 0, 0, kZ), (1, .istore_n 2, 0, 0, 0, 0, kZ), (2, .iload 5, 0, 0, 0, 0, kZ), (1, .istore_n 3, 0, 0, 0, 0, kZ)]
set_option maxRecDepth 100000 in
theorem oo9_modeToSend_37 : okL m9_modeToSend 37 bb9_modeToSend_37 := okL_of _ _ (by decide +kernel) ⟨trivial, ⟨trivial, ⟨rfl, ⟨trivial, ⟨trivial, ⟨trivial, ⟨⟨mok_m9_countedLength, ⟨by decide, by decide⟩, rfl, by decide, Or.inl lc_9_270⟩, ⟨trivial, ⟨trivial, ⟨trivial, ⟨rfl, ⟨trivial, ⟨trivial, ⟨trivial, ⟨trivial, trivial⟩⟩⟩⟩⟩⟩⟩⟩⟩⟩⟩⟩⟩⟩⟩
def bb9_modeToSend_64 : List PI := [(3, .iinc 4 1, 0, 0, 0, 0, kZ), (3, .goto (-30), 37, 0, 0, 0, kZ)]
set_option maxRecDepth 100000 in
theorem oo9_modeToSend_64 : okL m9_modeToSend 64 bb9_modeToSend_64 := okL_of _ _ (by decide +kernel) ⟨trivial, ⟨rfl, trivial⟩⟩
def bb9_modeToSend_70 : List PI := [(1, .iload_n 2, 0, 0, 0, 0, kZ), (1, .ireturn, 0, 0, 0, 0, kZ)]
set_option maxRecDepth 100000 in
theorem oo9_modeToSend_70 : okL m9_modeToSend 70 bb9_modeToSend_70 := okL_of _ _ (by decide +kernel) ⟨trivial, ⟨trivial, trivial⟩⟩
def cd9_modeToSend (t : Nat) : Option (List PI) := match t with
  | 0 => some bb9_modeToSend_0
  | 25 => some bb9_modeToSend_25
  | 64 => some bb9_modeToSend_64
  | 70 => some bb9_modeToSend_70
  | _ => none
theorem kd9_modeToSend : ∀ t is, cd9_modeToSend t = some is → okL m9_modeToSend t is := by
  intro t is h
  unfold cd9_modeToSend at h
  split at h <;> cases h
  · exact oo9_modeToSend_0
  · exact oo9_modeToSend_25
  · exact oo9_modeToSend_64
  · exact oo9_modeToSend_70
theorem ff9_modeToSend : mi_r m9_modeToSend = (some .int) ∧ mi_l m9_modeToSend = 6 ∧ mi_h m9_modeToSend = [] ∧ (mi_rm m9_modeToSend).cells = 0 ∧ (mi_rm m9_modeToSend).slots = 0 ∧ (mi_rm m9_modeToSend).locals = 107 ∧ cd9_modeToSend 0 = some bb9_modeToSend_0 ∧ cd9_modeToSend 25 = some bb9_modeToSend_25 ∧ cd9_modeToSend 37 = none ∧ cd9_modeToSend 64 = some bb9_modeToSend_64 ∧ cd9_modeToSend 70 = some bb9_modeToSend_70 ∧ (mi_rm m9_countedLength).cells = 0 ∧ (mi_rm m9_countedLength).slots = 0 := ⟨rfl, rfl, rfl, rfl, rfl, rfl, rfl, rfl, rfl, rfl, rfl, rfl, rfl⟩
def bb9_sendPage_0 : List PI := [(1, .aload_n 0, 0, 0, 0, 0, kZ), (3, .getfield 12, 9, 0, 0, 0, kZ), (3, .getfield 83, 7, 1, 0, 0, kZ), (3, .invokevirtual 87, 0, 8, 0, 0, m8_empty), (1, .iconst 0, 0, 0, 0, 0, kZ), (1, .istore_n 1, 0, 0, 0, 0, kZ)]
set_option maxRecDepth 100000 in
theorem oo9_sendPage_0 : okL m9_sendPage 0 bb9_sendPage_0 := okL_of _ _ (by decide +kernel) ⟨trivial, ⟨lf_9_12, ⟨lf_9_83, ⟨⟨mok_m8_empty, ⟨by decide, by decide⟩, rfl, by decide, Or.inr lc_9_87⟩, ⟨trivial, ⟨trivial, trivial⟩⟩⟩⟩⟩⟩
def bb9_sendPage_12 : List PI := [(1, .iload_n 1, 0, 0, 0, 0, kZ), (1, .aload_n 0, 0, 0, 0, 0, kZ), (3, .getfield 12, 9, 0, 0, 0, kZ), (3, .getfield 69, 7, 0, 0, 0, kZ), (3, .getfield 113, 2, 2, 0, 0, kZ), (3, .if_icmp .ge 53, 76, 0, 0, 0, kZ), (1, .aload_n 0, 0, 0, 0, 0, kZ), (3, .getfield 40, 9, 5, 0, 0, kZ), (1, .aload_n 0, 0, 0, 0, 0, kZ), (3, .getfield 12, 9, 0, 0, 0, kZ), (3, .getfield 69, 7, 0, 0, 0, kZ), (1, .iload_n 1, 0, 0, 0, 0, kZ), (1, .aload_n 0, 0, 0, 0, 0, kZ), (1, .iload_n 1, 0, 0, 0, 0, kZ), (3, .invokevirtual 274, 1, 9, 0, 0, m9_modeToSend), (3, .invokevirtual 265, 3, 0, 0, 0, m0_write), (1, .aload_n 0, 0, 0, 0, 0, kZ), (3, .getfield 12, 9, 0, 0, 0, kZ), (3, .getfield 83, 7, 1, 0, 0, kZ), (1, .aload_n 0, 0, 0, 0, 0, kZ), (3, .getfield 40, 9, 5, 0, 0, kZ), (3, .getfield 391, 0, 2, 0, 0, kZ), (1, .aload_n 0, 0, 0, 0, 0, kZ), (3, .getfield 40, 9, 5, 0, 0, kZ), (3, .getfield 269, 0, 3, 0, 0, kZ), (3, .invokevirtual 395, 2, 8, 0, 0, m8_addAll), (3, .iinc 1 1, 0, 0, 0, 0, kZ), (3, .goto (-61), 12, 0, 0, 0, kZ)]
set_option maxRecDepth 100000 in
theorem oo9_sendPage_12 : okL m9_sendPage 12 bb9_sendPage_12 := okL_of _ _ (by decide +kernel) ⟨trivial, ⟨trivial, ⟨lf_9_12, ⟨lf_9_69, ⟨lf_9_113, ⟨rfl, ⟨trivial, ⟨lf_9_40, ⟨trivial, ⟨lf_9_12, ⟨lf_9_69, ⟨trivial, ⟨trivial, ⟨trivial, ⟨⟨mok_m9_modeToSend, ⟨by decide, by decide⟩, rfl, by decide, Or.inl lc_9_274⟩, ⟨⟨mok_m0_write, ⟨by decide, by decide⟩, rfl, by decide, Or.inr lc_9_265⟩, ⟨trivial, ⟨lf_9_12, ⟨lf_9_83, ⟨trivial, ⟨lf_9_40, ⟨lf_9_391, ⟨trivial, ⟨lf_9_40, ⟨lf_9_269, ⟨⟨mok_m8_addAll, ⟨by decide, by decide⟩, rfl, by decide, Or.inr lc_9_395⟩, ⟨trivial, ⟨rfl, trivial⟩⟩⟩⟩⟩⟩⟩⟩⟩⟩⟩⟩⟩⟩⟩⟩⟩⟩⟩⟩⟩⟩⟩⟩⟩⟩⟩⟩
def bb9_sendPage_76 : List PI := [(1, .return_, 0, 0, 0, 0, kZ)]
set_option maxRecDepth 100000 in
theorem oo9_sendPage_76 : okL m9_sendPage 76 bb9_sendPage_76 := okL_of _ _ (by decide +kernel) ⟨rfl, trivial⟩
def cd9_sendPage (t : Nat) : Option (List PI) := match t with
  | 0 => some bb9_sendPage_0
  | 76 => some bb9_sendPage_76
  | _ => none
theorem kd9_sendPage : ∀ t is, cd9_sendPage t = some is → okL m9_sendPage t is := by
  intro t is h
  unfold cd9_sendPage at h
  split at h <;> cases h
  · exact oo9_sendPage_0
  · exact oo9_sendPage_76
theorem ff9_sendPage : mi_r m9_sendPage = none ∧ mi_l m9_sendPage = 2 ∧ mi_h m9_sendPage = [] ∧ (mi_rm m9_sendPage).cells = 0 ∧ (mi_rm m9_sendPage).slots = 0 ∧ (mi_rm m9_sendPage).locals = 132 ∧ cd9_sendPage 0 = some bb9_sendPage_0 ∧ cd9_sendPage 12 = none ∧ cd9_sendPage 76 = some bb9_sendPage_76 ∧ (mi_rm m0_write).cells = 0 ∧ (mi_rm m0_write).slots = 0 ∧ (mi_rm m8_addAll).cells = 0 ∧ (mi_rm m8_addAll).slots = 0 ∧ (mi_rm m8_empty).cells = 0 ∧ (mi_rm m8_empty).slots = 0 ∧ (mi_rm m9_modeToSend).cells = 0 ∧ (mi_rm m9_modeToSend).slots = 0 := ⟨rfl, rfl, rfl, rfl, rfl, rfl, rfl, rfl, rfl, rfl, rfl, rfl, rfl, rfl, rfl, rfl, rfl⟩
def bb9_send_0 : List PI := [(1, .aload_n 0, 0, 0, 0, 0, kZ), (3, .getfield 26, 9, 3, 0, 0, kZ), (1, .aload_n 0, 0, 0, 0, 0, kZ), (3, .getfield 12, 9, 0, 0, 0, kZ), (3, .invokevirtual 65, 1, 1, 0, 0, m1_push), (1, .aload_n 0, 0, 0, 0, 0, kZ), (3, .invokevirtual 137, 0, 9, 0, 0, m9_sendPage), (1, .aload_n 0, 0, 0, 0, 0, kZ), (3, .getfield 12, 9, 0, 0, 0, kZ), (3, .getfield 83, 7, 1, 0, 0, kZ), (3, .getfield 140, 8, 0, 0, 0, kZ), (1, .ireturn, 0, 0, 0, 0, kZ)]
set_option maxRecDepth 100000 in
theorem oo9_send_0 : okL m9_send 0 bb9_send_0 := okL_of _ _ (by decide +kernel) ⟨trivial, ⟨lf_9_26, ⟨trivial, ⟨lf_9_12, ⟨⟨mok_m1_push, ⟨by decide, by decide⟩, rfl, by decide, Or.inr lc_9_65⟩, ⟨trivial, ⟨⟨mok_m9_sendPage, ⟨by decide, by decide⟩, rfl, by decide, Or.inl lc_9_137⟩, ⟨trivial, ⟨lf_9_12, ⟨lf_9_83, ⟨lf_9_140, ⟨trivial, trivial⟩⟩⟩⟩⟩⟩⟩⟩⟩⟩⟩⟩
def cd9_send (t : Nat) : Option (List PI) := match t with
  | 0 => some bb9_send_0
  | _ => none
theorem kd9_send : ∀ t is, cd9_send t = some is → okL m9_send t is := by
  intro t is h
  unfold cd9_send at h
  split at h <;> cases h
  · exact oo9_send_0
theorem ff9_send : mi_r m9_send = (some .int) ∧ mi_l m9_send = 1 ∧ mi_h m9_send = [] ∧ (mi_rm m9_send).cells = 0 ∧ (mi_rm m9_send).slots = 0 ∧ (mi_rm m9_send).locals = 153 ∧ cd9_send 0 = some bb9_send_0 ∧ (mi_rm m1_push).cells = 0 ∧ (mi_rm m1_push).slots = 0 ∧ (mi_rm m9_sendPage).cells = 0 ∧ (mi_rm m9_sendPage).slots = 0 := ⟨rfl, rfl, rfl, rfl, rfl, rfl, rfl, rfl, rfl, rfl, rfl⟩
def bb9_needNumber_0 : List PI := [(1, .iload_n 0, 0, 0, 0, 0, kZ), (3, .ifCond .lt 9, 10, 0, 0, 0, kZ), (1, .iload_n 0, 0, 0, 0, 0, kZ), (2, .bipush 15, 0, 0, 0, 0, kZ), (3, .if_icmp .le 14, 21, 0, 0, 0, kZ)]
set_option maxRecDepth 100000 in
theorem oo9_needNumber_0 : okL m9_needNumber 0 bb9_needNumber_0 := okL_of _ _ (by decide +kernel) ⟨trivial, ⟨rfl, ⟨trivial, ⟨trivial, ⟨rfl, trivial⟩⟩⟩⟩⟩
def bb9_needNumber_10 : List PI := [(11, .athrow, 58, 379, 62, 0, (kX eIA "a number is 0 to 15"))]
set_option maxRecDepth 100000 in
theorem oo9_needNumber_10 : okL m9_needNumber 10 bb9_needNumber_10 := okL_of _ _ (by decide +kernel) ⟨⟨by decide, rfl, at_9_379, by decide +kernel, by decide +kernel, Or.inr ⟨by decide +kernel, by decide +kernel, by decide +kernel⟩⟩, trivial⟩
def bb9_needNumber_21 : List PI := [(1, .return_, 0, 0, 0, 0, kZ)]
set_option maxRecDepth 100000 in
theorem oo9_needNumber_21 : okL m9_needNumber 21 bb9_needNumber_21 := okL_of _ _ (by decide +kernel) ⟨rfl, trivial⟩
def cd9_needNumber (t : Nat) : Option (List PI) := match t with
  | 0 => some bb9_needNumber_0
  | 10 => some bb9_needNumber_10
  | 21 => some bb9_needNumber_21
  | _ => none
theorem kd9_needNumber : ∀ t is, cd9_needNumber t = some is → okL m9_needNumber t is := by
  intro t is h
  unfold cd9_needNumber at h
  split at h <;> cases h
  · exact oo9_needNumber_0
  · exact oo9_needNumber_10
  · exact oo9_needNumber_21
theorem ff9_needNumber : mi_r m9_needNumber = none ∧ mi_l m9_needNumber = 1 ∧ mi_h m9_needNumber = [] ∧ (mi_rm m9_needNumber).cells = 1 ∧ (mi_rm m9_needNumber).slots = 6 ∧ (mi_rm m9_needNumber).locals = 84 ∧ cd9_needNumber 0 = some bb9_needNumber_0 ∧ cd9_needNumber 10 = some bb9_needNumber_10 ∧ cd9_needNumber 21 = some bb9_needNumber_21 := ⟨rfl, rfl, rfl, rfl, rfl, rfl, rfl, rfl, rfl⟩
def bb9_needPlace_0 : List PI := [(1, .aload_n 0, 0, 0, 0, 0, kZ), (3, .getfield 12, 9, 0, 0, 0, kZ), (3, .getfield 83, 7, 1, 0, 0, kZ), (1, .iload_n 1, 0, 0, 0, 0, kZ), (3, .invokevirtual 368, 1, 8, 0, 0, m8_has), (3, .ifCond .ne 13, 24, 0, 0, 0, kZ), (10, .athrow, 160, 162, 164, 0, (kX eIO "no such place"))]
set_option maxRecDepth 100000 in
theorem oo9_needPlace_0 : okL m9_needPlace 0 bb9_needPlace_0 := okL_of _ _ (by decide +kernel) ⟨trivial, ⟨lf_9_12, ⟨lf_9_83, ⟨trivial, ⟨⟨mok_m8_has, ⟨by decide, by decide⟩, rfl, by decide, Or.inr lc_9_368⟩, ⟨rfl, ⟨⟨by decide, rfl, at_9_162, by decide +kernel, by decide +kernel, Or.inl ⟨by decide +kernel, by decide +kernel, by decide +kernel⟩⟩, trivial⟩⟩⟩⟩⟩⟩⟩
def bb9_needPlace_24 : List PI := [(1, .return_, 0, 0, 0, 0, kZ)]
set_option maxRecDepth 100000 in
theorem oo9_needPlace_24 : okL m9_needPlace 24 bb9_needPlace_24 := okL_of _ _ (by decide +kernel) ⟨rfl, trivial⟩
def cd9_needPlace (t : Nat) : Option (List PI) := match t with
  | 0 => some bb9_needPlace_0
  | 24 => some bb9_needPlace_24
  | _ => none
theorem kd9_needPlace : ∀ t is, cd9_needPlace t = some is → okL m9_needPlace t is := by
  intro t is h
  unfold cd9_needPlace at h
  split at h <;> cases h
  · exact oo9_needPlace_0
  · exact oo9_needPlace_24
theorem ff9_needPlace : mi_r m9_needPlace = none ∧ mi_l m9_needPlace = 2 ∧ mi_h m9_needPlace = [] ∧ (mi_rm m9_needPlace).cells = 1 ∧ (mi_rm m9_needPlace).slots = 6 ∧ (mi_rm m9_needPlace).locals = 84 ∧ cd9_needPlace 0 = some bb9_needPlace_0 ∧ cd9_needPlace 24 = some bb9_needPlace_24 ∧ (mi_rm m8_has).cells = 0 ∧ (mi_rm m8_has).slots = 0 := ⟨rfl, rfl, rfl, rfl, rfl, rfl, rfl, rfl, rfl, rfl⟩
theorem okt_m9_replace (pc : Nat) : okT m9_replace pc := fun y hy => by cases hy
def bb9_replace_0 : List PI := [(1, .aload_n 0, 0, 0, 0, 0, kZ), (1, .iload_n 1, 0, 0, 0, 0, kZ), (3, .invokevirtual 143, 1, 9, 1, 0, m9_needPlace), (1, .iload_n 2, 0, 0, 0, 0, kZ), (3, .invokestatic 146, 1, 9, 1, 0, m9_needNumber), (1, .aload_n 0, 0, 0, 0, 0, kZ), (3, .getfield 26, 9, 3, 0, 0, kZ), (1, .aload_n 0, 0, 0, 0, 0, kZ), (3, .getfield 12, 9, 0, 0, 0, kZ), (3, .invokevirtual 65, 1, 1, 0, 0, m1_push), (1, .aload_n 0, 0, 0, 0, 0, kZ), (3, .getfield 12, 9, 0, 0, 0, kZ), (3, .getfield 83, 7, 1, 0, 0, kZ), (1, .iload_n 1, 0, 0, 0, 0, kZ), (3, .invokevirtual 149, 1, 8, 0, 0, m8_at), (1, .istore_n 3, 0, 0, 0, 0, kZ), (1, .aload_n 0, 0, 0, 0, 0, kZ), (3, .getfield 12, 9, 0, 0, 0, kZ), (3, .getfield 83, 7, 1, 0, 0, kZ), (1, .iload_n 1, 0, 0, 0, 0, kZ), (1, .iload_n 2, 0, 0, 0, 0, kZ), (3, .invokevirtual 153, 2, 8, 0, 0, m8_put), (1, .pop, 0, 0, 0, 0, kZ), (1, .iload_n 3, 0, 0, 0, 0, kZ), (1, .ireturn, 0, 0, 0, 0, kZ)]
set_option maxRecDepth 100000 in
theorem oo9_replace_0 : okL m9_replace 0 bb9_replace_0 := okL_of _ _ (by decide +kernel) ⟨trivial, ⟨trivial, ⟨⟨mok_m9_needPlace, ⟨by decide, by decide⟩, rfl, by decide, lc_9_143, okt_m9_replace _⟩, ⟨trivial, ⟨⟨mok_m9_needNumber, ⟨by decide, by decide⟩, rfl, lc_9_146, okt_m9_replace _⟩, ⟨trivial, ⟨lf_9_26, ⟨trivial, ⟨lf_9_12, ⟨⟨mok_m1_push, ⟨by decide, by decide⟩, rfl, by decide, Or.inr lc_9_65⟩, ⟨trivial, ⟨lf_9_12, ⟨lf_9_83, ⟨trivial, ⟨⟨mok_m8_at, ⟨by decide, by decide⟩, rfl, by decide, Or.inr lc_9_149⟩, ⟨trivial, ⟨trivial, ⟨lf_9_12, ⟨lf_9_83, ⟨trivial, ⟨trivial, ⟨⟨mok_m8_put, ⟨by decide, by decide⟩, rfl, by decide, Or.inr lc_9_153⟩, ⟨trivial, ⟨trivial, ⟨trivial, trivial⟩⟩⟩⟩⟩⟩⟩⟩⟩⟩⟩⟩⟩⟩⟩⟩⟩⟩⟩⟩⟩⟩⟩⟩⟩
def cd9_replace (t : Nat) : Option (List PI) := match t with
  | 0 => some bb9_replace_0
  | _ => none
theorem kd9_replace : ∀ t is, cd9_replace t = some is → okL m9_replace t is := by
  intro t is h
  unfold cd9_replace at h
  split at h <;> cases h
  · exact oo9_replace_0
theorem ff9_replace : mi_r m9_replace = (some .int) ∧ mi_l m9_replace = 4 ∧ mi_h m9_replace = [] ∧ (mi_rm m9_replace).cells = 2 ∧ (mi_rm m9_replace).slots = 12 ∧ (mi_rm m9_replace).locals = 117 ∧ cd9_replace 0 = some bb9_replace_0 ∧ (mi_rm m1_push).cells = 0 ∧ (mi_rm m1_push).slots = 0 ∧ (mi_rm m8_at).cells = 0 ∧ (mi_rm m8_at).slots = 0 ∧ (mi_rm m8_put).cells = 0 ∧ (mi_rm m8_put).slots = 0 ∧ (mi_rm m9_needNumber).cells = 1 ∧ (mi_rm m9_needNumber).slots = 6 ∧ (mi_rm m9_needPlace).cells = 1 ∧ (mi_rm m9_needPlace).slots = 6 := ⟨rfl, rfl, rfl, rfl, rfl, rfl, rfl, rfl, rfl, rfl, rfl, rfl, rfl, rfl, rfl, rfl, rfl⟩
theorem okt_m9_lose (pc : Nat) : okT m9_lose pc := fun y hy => by cases hy
def bb9_lose_0 : List PI := [(1, .aload_n 0, 0, 0, 0, 0, kZ), (1, .iload_n 1, 0, 0, 0, 0, kZ), (3, .invokevirtual 143, 1, 9, 1, 0, m9_needPlace), (1, .aload_n 0, 0, 0, 0, 0, kZ), (3, .getfield 26, 9, 3, 0, 0, kZ), (1, .aload_n 0, 0, 0, 0, 0, kZ), (3, .getfield 12, 9, 0, 0, 0, kZ), (3, .invokevirtual 65, 1, 1, 0, 0, m1_push), (1, .aload_n 0, 0, 0, 0, 0, kZ), (3, .getfield 12, 9, 0, 0, 0, kZ), (3, .getfield 83, 7, 1, 0, 0, kZ), (1, .iload_n 1, 0, 0, 0, 0, kZ), (3, .invokevirtual 149, 1, 8, 0, 0, m8_at), (1, .istore_n 2, 0, 0, 0, 0, kZ), (1, .aload_n 0, 0, 0, 0, 0, kZ), (3, .getfield 12, 9, 0, 0, 0, kZ), (3, .getfield 83, 7, 1, 0, 0, kZ), (1, .iload_n 1, 0, 0, 0, 0, kZ), (3, .invokevirtual 157, 1, 8, 0, 0, m8_takeOut), (1, .iload_n 2, 0, 0, 0, 0, kZ), (1, .ireturn, 0, 0, 0, 0, kZ)]
set_option maxRecDepth 100000 in
theorem oo9_lose_0 : okL m9_lose 0 bb9_lose_0 := okL_of _ _ (by decide +kernel) ⟨trivial, ⟨trivial, ⟨⟨mok_m9_needPlace, ⟨by decide, by decide⟩, rfl, by decide, lc_9_143, okt_m9_lose _⟩, ⟨trivial, ⟨lf_9_26, ⟨trivial, ⟨lf_9_12, ⟨⟨mok_m1_push, ⟨by decide, by decide⟩, rfl, by decide, Or.inr lc_9_65⟩, ⟨trivial, ⟨lf_9_12, ⟨lf_9_83, ⟨trivial, ⟨⟨mok_m8_at, ⟨by decide, by decide⟩, rfl, by decide, Or.inr lc_9_149⟩, ⟨trivial, ⟨trivial, ⟨lf_9_12, ⟨lf_9_83, ⟨trivial, ⟨⟨mok_m8_takeOut, ⟨by decide, by decide⟩, rfl, by decide, Or.inr lc_9_157⟩, ⟨trivial, ⟨trivial, trivial⟩⟩⟩⟩⟩⟩⟩⟩⟩⟩⟩⟩⟩⟩⟩⟩⟩⟩⟩⟩⟩
def cd9_lose (t : Nat) : Option (List PI) := match t with
  | 0 => some bb9_lose_0
  | _ => none
theorem kd9_lose : ∀ t is, cd9_lose t = some is → okL m9_lose t is := by
  intro t is h
  unfold cd9_lose at h
  split at h <;> cases h
  · exact oo9_lose_0
theorem ff9_lose : mi_r m9_lose = (some .int) ∧ mi_l m9_lose = 3 ∧ mi_h m9_lose = [] ∧ (mi_rm m9_lose).cells = 1 ∧ (mi_rm m9_lose).slots = 6 ∧ (mi_rm m9_lose).locals = 117 ∧ cd9_lose 0 = some bb9_lose_0 ∧ (mi_rm m1_push).cells = 0 ∧ (mi_rm m1_push).slots = 0 ∧ (mi_rm m8_at).cells = 0 ∧ (mi_rm m8_at).slots = 0 ∧ (mi_rm m8_takeOut).cells = 0 ∧ (mi_rm m8_takeOut).slots = 0 ∧ (mi_rm m9_needPlace).cells = 1 ∧ (mi_rm m9_needPlace).slots = 6 := ⟨rfl, rfl, rfl, rfl, rfl, rfl, rfl, rfl, rfl, rfl, rfl, rfl, rfl, rfl, rfl⟩
theorem okt_m9_gain (pc : Nat) : okT m9_gain pc := fun y hy => by cases hy
def bb9_gain_0 : List PI := [(1, .iload_n 1, 0, 0, 0, 0, kZ), (3, .ifCond .lt 17, 18, 0, 0, 0, kZ), (1, .iload_n 1, 0, 0, 0, 0, kZ), (1, .aload_n 0, 0, 0, 0, 0, kZ), (3, .getfield 12, 9, 0, 0, 0, kZ), (3, .getfield 83, 7, 1, 0, 0, kZ), (3, .getfield 140, 8, 0, 0, 0, kZ), (3, .if_icmp .le 13, 28, 0, 0, 0, kZ)]
set_option maxRecDepth 100000 in
theorem oo9_gain_0 : okL m9_gain 0 bb9_gain_0 := okL_of _ _ (by decide +kernel) ⟨trivial, ⟨rfl, ⟨trivial, ⟨trivial, ⟨lf_9_12, ⟨lf_9_83, ⟨lf_9_140, ⟨rfl, trivial⟩⟩⟩⟩⟩⟩⟩⟩
def bb9_gain_18 : List PI := [(10, .athrow, 160, 162, 164, 0, (kX eIO "no such place"))]
set_option maxRecDepth 100000 in
theorem oo9_gain_18 : okL m9_gain 18 bb9_gain_18 := okL_of _ _ (by decide +kernel) ⟨⟨by decide, rfl, at_9_162, by decide +kernel, by decide +kernel, Or.inl ⟨by decide +kernel, by decide +kernel, by decide +kernel⟩⟩, trivial⟩
def bb9_gain_28 : List PI := [(1, .iload_n 2, 0, 0, 0, 0, kZ), (3, .invokestatic 146, 1, 9, 1, 0, m9_needNumber), (1, .aload_n 0, 0, 0, 0, 0, kZ), (3, .getfield 12, 9, 0, 0, 0, kZ), (3, .getfield 83, 7, 1, 0, 0, kZ), (3, .invokevirtual 165, 0, 8, 0, 0, m8_isFull), (3, .ifCond .eq 13, 55, 0, 0, 0, kZ), (10, .athrow, 104, 166, 108, 0, (kX eIS "the stream has 500 numbers"))]
set_option maxRecDepth 100000 in
theorem oo9_gain_28 : okL m9_gain 28 bb9_gain_28 := okL_of _ _ (by decide +kernel) ⟨trivial, ⟨⟨mok_m9_needNumber, ⟨by decide, by decide⟩, rfl, lc_9_146, okt_m9_gain _⟩, ⟨trivial, ⟨lf_9_12, ⟨lf_9_83, ⟨⟨mok_m8_isFull, ⟨by decide, by decide⟩, rfl, by decide, Or.inr lc_9_165⟩, ⟨rfl, ⟨⟨by decide, rfl, at_9_166, by decide +kernel, by decide +kernel, Or.inl ⟨by decide +kernel, by decide +kernel, by decide +kernel⟩⟩, trivial⟩⟩⟩⟩⟩⟩⟩⟩
def bb9_gain_55 : List PI := [(1, .aload_n 0, 0, 0, 0, 0, kZ), (3, .getfield 26, 9, 3, 0, 0, kZ), (1, .aload_n 0, 0, 0, 0, 0, kZ), (3, .getfield 12, 9, 0, 0, 0, kZ), (3, .invokevirtual 65, 1, 1, 0, 0, m1_push), (1, .aload_n 0, 0, 0, 0, 0, kZ), (3, .getfield 12, 9, 0, 0, 0, kZ), (3, .getfield 83, 7, 1, 0, 0, kZ), (1, .iload_n 1, 0, 0, 0, 0, kZ), (1, .iload_n 2, 0, 0, 0, 0, kZ), (3, .invokevirtual 168, 2, 8, 0, 0, m8_putAhead), (1, .aload_n 0, 0, 0, 0, 0, kZ), (3, .getfield 12, 9, 0, 0, 0, kZ), (3, .getfield 83, 7, 1, 0, 0, kZ), (3, .getfield 140, 8, 0, 0, 0, kZ), (1, .ireturn, 0, 0, 0, 0, kZ)]
set_option maxRecDepth 100000 in
theorem oo9_gain_55 : okL m9_gain 55 bb9_gain_55 := okL_of _ _ (by decide +kernel) ⟨trivial, ⟨lf_9_26, ⟨trivial, ⟨lf_9_12, ⟨⟨mok_m1_push, ⟨by decide, by decide⟩, rfl, by decide, Or.inr lc_9_65⟩, ⟨trivial, ⟨lf_9_12, ⟨lf_9_83, ⟨trivial, ⟨trivial, ⟨⟨mok_m8_putAhead, ⟨by decide, by decide⟩, rfl, by decide, Or.inr lc_9_168⟩, ⟨trivial, ⟨lf_9_12, ⟨lf_9_83, ⟨lf_9_140, ⟨trivial, trivial⟩⟩⟩⟩⟩⟩⟩⟩⟩⟩⟩⟩⟩⟩⟩⟩
def cd9_gain (t : Nat) : Option (List PI) := match t with
  | 0 => some bb9_gain_0
  | 18 => some bb9_gain_18
  | 28 => some bb9_gain_28
  | 55 => some bb9_gain_55
  | _ => none
theorem kd9_gain : ∀ t is, cd9_gain t = some is → okL m9_gain t is := by
  intro t is h
  unfold cd9_gain at h
  split at h <;> cases h
  · exact oo9_gain_0
  · exact oo9_gain_18
  · exact oo9_gain_28
  · exact oo9_gain_55
theorem ff9_gain : mi_r m9_gain = (some .int) ∧ mi_l m9_gain = 3 ∧ mi_h m9_gain = [] ∧ (mi_rm m9_gain).cells = 2 ∧ (mi_rm m9_gain).slots = 12 ∧ (mi_rm m9_gain).locals = 117 ∧ cd9_gain 0 = some bb9_gain_0 ∧ cd9_gain 18 = some bb9_gain_18 ∧ cd9_gain 28 = some bb9_gain_28 ∧ cd9_gain 55 = some bb9_gain_55 ∧ (mi_rm m1_push).cells = 0 ∧ (mi_rm m1_push).slots = 0 ∧ (mi_rm m8_isFull).cells = 0 ∧ (mi_rm m8_isFull).slots = 0 ∧ (mi_rm m8_putAhead).cells = 0 ∧ (mi_rm m8_putAhead).slots = 0 ∧ (mi_rm m9_needNumber).cells = 1 ∧ (mi_rm m9_needNumber).slots = 6 := ⟨rfl, rfl, rfl, rfl, rfl, rfl, rfl, rfl, rfl, rfl, rfl, rfl, rfl, rfl, rfl, rfl, rfl, rfl⟩
def bb9_receive_0 : List PI := [(1, .aload_n 0, 0, 0, 0, 0, kZ), (3, .getfield 26, 9, 3, 0, 0, kZ), (1, .aload_n 0, 0, 0, 0, 0, kZ), (3, .getfield 12, 9, 0, 0, 0, kZ), (3, .invokevirtual 65, 1, 1, 0, 0, m1_push), (1, .aload_n 0, 0, 0, 0, 0, kZ), (3, .getfield 47, 9, 6, 0, 0, kZ), (1, .aload_n 0, 0, 0, 0, 0, kZ), (3, .getfield 12, 9, 0, 0, 0, kZ), (3, .getfield 83, 7, 1, 0, 0, kZ), (1, .aload_n 0, 0, 0, 0, 0, kZ), (3, .getfield 12, 9, 0, 0, 0, kZ), (3, .getfield 69, 7, 0, 0, 0, kZ), (3, .getfield 73, 2, 0, 0, 0, kZ), (1, .aload_n 0, 0, 0, 0, 0, kZ), (3, .getfield 12, 9, 0, 0, 0, kZ), (3, .getfield 92, 7, 2, 0, 0, kZ), (3, .invokevirtual 172, 3, 5, 0, 0, m5_readAll), (1, .aload_n 0, 0, 0, 0, 0, kZ), (3, .getfield 12, 9, 0, 0, 0, kZ), (3, .getfield 92, 7, 2, 0, 0, kZ), (3, .invokevirtual 176, 0, 6, 0, 0, m6_count), (1, .ireturn, 0, 0, 0, 0, kZ)]
set_option maxRecDepth 100000 in
theorem oo9_receive_0 : okL m9_receive 0 bb9_receive_0 := okL_of _ _ (by decide +kernel) ⟨trivial, ⟨lf_9_26, ⟨trivial, ⟨lf_9_12, ⟨⟨mok_m1_push, ⟨by decide, by decide⟩, rfl, by decide, Or.inr lc_9_65⟩, ⟨trivial, ⟨lf_9_47, ⟨trivial, ⟨lf_9_12, ⟨lf_9_83, ⟨trivial, ⟨lf_9_12, ⟨lf_9_69, ⟨lf_9_73, ⟨trivial, ⟨lf_9_12, ⟨lf_9_92, ⟨⟨mok_m5_readAll, ⟨by decide, by decide⟩, rfl, by decide, Or.inr lc_9_172⟩, ⟨trivial, ⟨lf_9_12, ⟨lf_9_92, ⟨⟨mok_m6_count, ⟨by decide, by decide⟩, rfl, by decide, Or.inr lc_9_176⟩, ⟨trivial, trivial⟩⟩⟩⟩⟩⟩⟩⟩⟩⟩⟩⟩⟩⟩⟩⟩⟩⟩⟩⟩⟩⟩⟩
def cd9_receive (t : Nat) : Option (List PI) := match t with
  | 0 => some bb9_receive_0
  | _ => none
theorem kd9_receive : ∀ t is, cd9_receive t = some is → okL m9_receive t is := by
  intro t is h
  unfold cd9_receive at h
  split at h <;> cases h
  · exact oo9_receive_0
theorem ff9_receive : mi_r m9_receive = (some .int) ∧ mi_l m9_receive = 1 ∧ mi_h m9_receive = [] ∧ (mi_rm m9_receive).cells = 0 ∧ (mi_rm m9_receive).slots = 0 ∧ (mi_rm m9_receive).locals = 181 ∧ cd9_receive 0 = some bb9_receive_0 ∧ (mi_rm m1_push).cells = 0 ∧ (mi_rm m1_push).slots = 0 ∧ (mi_rm m5_readAll).cells = 0 ∧ (mi_rm m5_readAll).slots = 0 ∧ (mi_rm m6_count).cells = 0 ∧ (mi_rm m6_count).slots = 0 := ⟨rfl, rfl, rfl, rfl, rfl, rfl, rfl, rfl, rfl, rfl, rfl, rfl, rfl⟩
def bb9_hasStopped_0 : List PI := [(1, .aload_n 0, 0, 0, 0, 0, kZ), (3, .getfield 12, 9, 0, 0, 0, kZ), (3, .getfield 220, 7, 3, 0, 0, kZ), (1, .ireturn, 0, 0, 0, 0, kZ)]
set_option maxRecDepth 100000 in
theorem oo9_hasStopped_0 : okL m9_hasStopped 0 bb9_hasStopped_0 := okL_of _ _ (by decide +kernel) ⟨trivial, ⟨lf_9_12, ⟨lf_9_220, ⟨trivial, trivial⟩⟩⟩⟩
def cd9_hasStopped (t : Nat) : Option (List PI) := match t with
  | 0 => some bb9_hasStopped_0
  | _ => none
theorem kd9_hasStopped : ∀ t is, cd9_hasStopped t = some is → okL m9_hasStopped t is := by
  intro t is h
  unfold cd9_hasStopped at h
  split at h <;> cases h
  · exact oo9_hasStopped_0
theorem ff9_hasStopped : mi_r m9_hasStopped = (some .boolean) ∧ mi_l m9_hasStopped = 1 ∧ mi_h m9_hasStopped = [] ∧ (mi_rm m9_hasStopped).cells = 0 ∧ (mi_rm m9_hasStopped).slots = 0 ∧ (mi_rm m9_hasStopped).locals = 32 ∧ cd9_hasStopped 0 = some bb9_hasStopped_0 := ⟨rfl, rfl, rfl, rfl, rfl, rfl, rfl⟩
def bb9_stoppedPart_0 : List PI := [(1, .aload_n 0, 0, 0, 0, 0, kZ), (3, .getfield 12, 9, 0, 0, 0, kZ), (3, .getfield 220, 7, 3, 0, 0, kZ), (3, .ifCond .ne 13, 20, 0, 0, 0, kZ), (10, .athrow, 104, 226, 108, 0, (kX eIS "the latest text did not stop"))]
set_option maxRecDepth 100000 in
theorem oo9_stoppedPart_0 : okL m9_stoppedPart 0 bb9_stoppedPart_0 := okL_of _ _ (by decide +kernel) ⟨trivial, ⟨lf_9_12, ⟨lf_9_220, ⟨rfl, ⟨⟨by decide, rfl, at_9_226, by decide +kernel, by decide +kernel, Or.inl ⟨by decide +kernel, by decide +kernel, by decide +kernel⟩⟩, trivial⟩⟩⟩⟩⟩
def bb9_stoppedPart_20 : List PI := [(1, .aload_n 0, 0, 0, 0, 0, kZ), (3, .getfield 12, 9, 0, 0, 0, kZ), (3, .getfield 223, 7, 4, 0, 0, kZ), (1, .ireturn, 0, 0, 0, 0, kZ)]
set_option maxRecDepth 100000 in
theorem oo9_stoppedPart_20 : okL m9_stoppedPart 20 bb9_stoppedPart_20 := okL_of _ _ (by decide +kernel) ⟨trivial, ⟨lf_9_12, ⟨lf_9_223, ⟨trivial, trivial⟩⟩⟩⟩
def cd9_stoppedPart (t : Nat) : Option (List PI) := match t with
  | 0 => some bb9_stoppedPart_0
  | 20 => some bb9_stoppedPart_20
  | _ => none
theorem kd9_stoppedPart : ∀ t is, cd9_stoppedPart t = some is → okL m9_stoppedPart t is := by
  intro t is h
  unfold cd9_stoppedPart at h
  split at h <;> cases h
  · exact oo9_stoppedPart_0
  · exact oo9_stoppedPart_20
theorem ff9_stoppedPart : mi_r m9_stoppedPart = (some .int) ∧ mi_l m9_stoppedPart = 1 ∧ mi_h m9_stoppedPart = [] ∧ (mi_rm m9_stoppedPart).cells = 1 ∧ (mi_rm m9_stoppedPart).slots = 6 ∧ (mi_rm m9_stoppedPart).locals = 84 ∧ cd9_stoppedPart 0 = some bb9_stoppedPart_0 ∧ cd9_stoppedPart 20 = some bb9_stoppedPart_20 := ⟨rfl, rfl, rfl, rfl, rfl, rfl, rfl, rfl⟩
def bb9_undo_0 : List PI := [(1, .aload_n 0, 0, 0, 0, 0, kZ), (3, .getfield 26, 9, 3, 0, 0, kZ), (3, .getfield 228, 1, 0, 0, 0, kZ), (3, .ifCond .ne 13, 20, 0, 0, 0, kZ), (10, .athrow, 104, 229, 108, 0, (kX eIS "no state is saved"))]
set_option maxRecDepth 100000 in
theorem oo9_undo_0 : okL m9_undo 0 bb9_undo_0 := okL_of _ _ (by decide +kernel) ⟨trivial, ⟨lf_9_26, ⟨lf_9_228, ⟨rfl, ⟨⟨by decide, rfl, at_9_229, by decide +kernel, by decide +kernel, Or.inl ⟨by decide +kernel, by decide +kernel, by decide +kernel⟩⟩, trivial⟩⟩⟩⟩⟩
def bb9_undo_20 : List PI := [(1, .aload_n 0, 0, 0, 0, 0, kZ), (3, .getfield 26, 9, 3, 0, 0, kZ), (1, .aload_n 0, 0, 0, 0, 0, kZ), (3, .getfield 12, 9, 0, 0, 0, kZ), (3, .invokevirtual 231, 1, 1, 0, 0, m1_popInto), (1, .aload_n 0, 0, 0, 0, 0, kZ), (3, .getfield 26, 9, 3, 0, 0, kZ), (3, .getfield 228, 1, 0, 0, 0, kZ), (1, .ireturn, 0, 0, 0, 0, kZ)]
set_option maxRecDepth 100000 in
theorem oo9_undo_20 : okL m9_undo 20 bb9_undo_20 := okL_of _ _ (by decide +kernel) ⟨trivial, ⟨lf_9_26, ⟨trivial, ⟨lf_9_12, ⟨⟨mok_m1_popInto, ⟨by decide, by decide⟩, rfl, by decide, Or.inr lc_9_231⟩, ⟨trivial, ⟨lf_9_26, ⟨lf_9_228, ⟨trivial, trivial⟩⟩⟩⟩⟩⟩⟩⟩⟩
def cd9_undo (t : Nat) : Option (List PI) := match t with
  | 0 => some bb9_undo_0
  | 20 => some bb9_undo_20
  | _ => none
theorem kd9_undo : ∀ t is, cd9_undo t = some is → okL m9_undo t is := by
  intro t is h
  unfold cd9_undo at h
  split at h <;> cases h
  · exact oo9_undo_0
  · exact oo9_undo_20
theorem ff9_undo : mi_r m9_undo = (some .int) ∧ mi_l m9_undo = 1 ∧ mi_h m9_undo = [] ∧ (mi_rm m9_undo).cells = 1 ∧ (mi_rm m9_undo).slots = 6 ∧ (mi_rm m9_undo).locals = 117 ∧ cd9_undo 0 = some bb9_undo_0 ∧ cd9_undo 20 = some bb9_undo_20 ∧ (mi_rm m1_popInto).cells = 0 ∧ (mi_rm m1_popInto).slots = 0 := ⟨rfl, rfl, rfl, rfl, rfl, rfl, rfl, rfl, rfl, rfl⟩
def bb9_savedStates_0 : List PI := [(1, .aload_n 0, 0, 0, 0, 0, kZ), (3, .getfield 26, 9, 3, 0, 0, kZ), (3, .getfield 228, 1, 0, 0, 0, kZ), (1, .ireturn, 0, 0, 0, 0, kZ)]
set_option maxRecDepth 100000 in
theorem oo9_savedStates_0 : okL m9_savedStates 0 bb9_savedStates_0 := okL_of _ _ (by decide +kernel) ⟨trivial, ⟨lf_9_26, ⟨lf_9_228, ⟨trivial, trivial⟩⟩⟩⟩
def cd9_savedStates (t : Nat) : Option (List PI) := match t with
  | 0 => some bb9_savedStates_0
  | _ => none
theorem kd9_savedStates : ∀ t is, cd9_savedStates t = some is → okL m9_savedStates t is := by
  intro t is h
  unfold cd9_savedStates at h
  split at h <;> cases h
  · exact oo9_savedStates_0
theorem ff9_savedStates : mi_r m9_savedStates = (some .int) ∧ mi_l m9_savedStates = 1 ∧ mi_h m9_savedStates = [] ∧ (mi_rm m9_savedStates).cells = 0 ∧ (mi_rm m9_savedStates).slots = 0 ∧ (mi_rm m9_savedStates).locals = 32 ∧ cd9_savedStates 0 = some bb9_savedStates_0 := ⟨rfl, rfl, rfl, rfl, rfl, rfl, rfl⟩
def bb9_width_0 : List PI := [(1, .aload_n 0, 0, 0, 0, 0, kZ), (3, .getfield 12, 9, 0, 0, 0, kZ), (3, .getfield 69, 7, 0, 0, 0, kZ), (3, .getfield 73, 2, 0, 0, 0, kZ), (1, .ireturn, 0, 0, 0, 0, kZ)]
set_option maxRecDepth 100000 in
theorem oo9_width_0 : okL m9_width 0 bb9_width_0 := okL_of _ _ (by decide +kernel) ⟨trivial, ⟨lf_9_12, ⟨lf_9_69, ⟨lf_9_73, ⟨trivial, trivial⟩⟩⟩⟩⟩
def cd9_width (t : Nat) : Option (List PI) := match t with
  | 0 => some bb9_width_0
  | _ => none
theorem kd9_width : ∀ t is, cd9_width t = some is → okL m9_width t is := by
  intro t is h
  unfold cd9_width at h
  split at h <;> cases h
  · exact oo9_width_0
theorem ff9_width : mi_r m9_width = (some .int) ∧ mi_l m9_width = 1 ∧ mi_h m9_width = [] ∧ (mi_rm m9_width).cells = 0 ∧ (mi_rm m9_width).slots = 0 ∧ (mi_rm m9_width).locals = 32 ∧ cd9_width 0 = some bb9_width_0 := ⟨rfl, rfl, rfl, rfl, rfl, rfl, rfl⟩
def bb9_lines_0 : List PI := [(1, .aload_n 0, 0, 0, 0, 0, kZ), (3, .getfield 12, 9, 0, 0, 0, kZ), (3, .getfield 69, 7, 0, 0, 0, kZ), (3, .getfield 113, 2, 2, 0, 0, kZ), (1, .ireturn, 0, 0, 0, 0, kZ)]
set_option maxRecDepth 100000 in
theorem oo9_lines_0 : okL m9_lines 0 bb9_lines_0 := okL_of _ _ (by decide +kernel) ⟨trivial, ⟨lf_9_12, ⟨lf_9_69, ⟨lf_9_113, ⟨trivial, trivial⟩⟩⟩⟩⟩
def cd9_lines (t : Nat) : Option (List PI) := match t with
  | 0 => some bb9_lines_0
  | _ => none
theorem kd9_lines : ∀ t is, cd9_lines t = some is → okL m9_lines t is := by
  intro t is h
  unfold cd9_lines at h
  split at h <;> cases h
  · exact oo9_lines_0
theorem ff9_lines : mi_r m9_lines = (some .int) ∧ mi_l m9_lines = 1 ∧ mi_h m9_lines = [] ∧ (mi_rm m9_lines).cells = 0 ∧ (mi_rm m9_lines).slots = 0 ∧ (mi_rm m9_lines).locals = 32 ∧ cd9_lines 0 = some bb9_lines_0 := ⟨rfl, rfl, rfl, rfl, rfl, rfl, rfl⟩
def bb9_style_0 : List PI := [(1, .aload_n 0, 0, 0, 0, 0, kZ), (3, .getfield 12, 9, 0, 0, 0, kZ), (3, .getfield 69, 7, 0, 0, 0, kZ), (3, .getfield 134, 2, 1, 0, 0, kZ), (1, .ireturn, 0, 0, 0, 0, kZ)]
set_option maxRecDepth 100000 in
theorem oo9_style_0 : okL m9_style 0 bb9_style_0 := okL_of _ _ (by decide +kernel) ⟨trivial, ⟨lf_9_12, ⟨lf_9_69, ⟨lf_9_134, ⟨trivial, trivial⟩⟩⟩⟩⟩
def cd9_style (t : Nat) : Option (List PI) := match t with
  | 0 => some bb9_style_0
  | _ => none
theorem kd9_style : ∀ t is, cd9_style t = some is → okL m9_style t is := by
  intro t is h
  unfold cd9_style at h
  split at h <;> cases h
  · exact oo9_style_0
theorem ff9_style : mi_r m9_style = (some .int) ∧ mi_l m9_style = 1 ∧ mi_h m9_style = [] ∧ (mi_rm m9_style).cells = 0 ∧ (mi_rm m9_style).slots = 0 ∧ (mi_rm m9_style).locals = 32 ∧ cd9_style 0 = some bb9_style_0 := ⟨rfl, rfl, rfl, rfl, rfl, rfl, rfl⟩
theorem okt_m9_pixelsOf (pc : Nat) : okT m9_pixelsOf pc := fun y hy => by cases hy
def bb9_pixelsOf_0 : List PI := [(1, .aload_n 0, 0, 0, 0, 0, kZ), (1, .iload_n 1, 0, 0, 0, 0, kZ), (3, .invokevirtual 116, 1, 9, 1, 0, m9_needLine), (1, .aload_n 0, 0, 0, 0, 0, kZ), (3, .getfield 12, 9, 0, 0, 0, kZ), (3, .getfield 69, 7, 0, 0, 0, kZ), (1, .iload_n 1, 0, 0, 0, 0, kZ), (3, .invokevirtual 119, 1, 2, 0, 0, m2_rowOf), (1, .lreturn, 0, 0, 0, 0, kZ)]
set_option maxRecDepth 100000 in
theorem oo9_pixelsOf_0 : okL m9_pixelsOf 0 bb9_pixelsOf_0 := okL_of _ _ (by decide +kernel) ⟨trivial, ⟨trivial, ⟨⟨mok_m9_needLine, ⟨by decide, by decide⟩, rfl, by decide, lc_9_116, okt_m9_pixelsOf _⟩, ⟨trivial, ⟨lf_9_12, ⟨lf_9_69, ⟨trivial, ⟨⟨mok_m2_rowOf, ⟨by decide, by decide⟩, rfl, by decide, Or.inr lc_9_119⟩, ⟨rfl, trivial⟩⟩⟩⟩⟩⟩⟩⟩⟩
def cd9_pixelsOf (t : Nat) : Option (List PI) := match t with
  | 0 => some bb9_pixelsOf_0
  | _ => none
theorem kd9_pixelsOf : ∀ t is, cd9_pixelsOf t = some is → okL m9_pixelsOf t is := by
  intro t is h
  unfold cd9_pixelsOf at h
  split at h <;> cases h
  · exact oo9_pixelsOf_0
theorem ff9_pixelsOf : mi_r m9_pixelsOf = (some .long) ∧ mi_l m9_pixelsOf = 2 ∧ mi_h m9_pixelsOf = [] ∧ (mi_rm m9_pixelsOf).cells = 1 ∧ (mi_rm m9_pixelsOf).slots = 6 ∧ (mi_rm m9_pixelsOf).locals = 105 ∧ cd9_pixelsOf 0 = some bb9_pixelsOf_0 ∧ (mi_rm m2_rowOf).cells = 0 ∧ (mi_rm m2_rowOf).slots = 0 ∧ (mi_rm m9_needLine).cells = 1 ∧ (mi_rm m9_needLine).slots = 6 := ⟨rfl, rfl, rfl, rfl, rfl, rfl, rfl, rfl, rfl, rfl, rfl⟩
def bb9_isBlack_0 : List PI := [(1, .aload_n 0, 0, 0, 0, 0, kZ), (3, .getfield 12, 9, 0, 0, 0, kZ), (3, .getfield 69, 7, 0, 0, 0, kZ), (1, .iload_n 1, 0, 0, 0, 0, kZ), (3, .invokevirtual 239, 1, 2, 0, 0, m2_has), (3, .ifCond .eq 21, 32, 0, 0, 0, kZ), (1, .iload_n 2, 0, 0, 0, 0, kZ), (3, .ifCond .lt 17, 32, 0, 0, 0, kZ), (1, .iload_n 2, 0, 0, 0, 0, kZ), (1, .aload_n 0, 0, 0, 0, 0, kZ), (3, .getfield 12, 9, 0, 0, 0, kZ), (3, .getfield 69, 7, 0, 0, 0, kZ), (3, .getfield 73, 2, 0, 0, 0, kZ), (3, .if_icmp .lt 13, 42, 0, 0, 0, kZ)]
set_option maxRecDepth 100000 in
theorem oo9_isBlack_0 : okL m9_isBlack 0 bb9_isBlack_0 := okL_of _ _ (by decide +kernel) ⟨trivial, ⟨lf_9_12, ⟨lf_9_69, ⟨trivial, ⟨⟨mok_m2_has, ⟨by decide, by decide⟩, rfl, by decide, Or.inr lc_9_239⟩, ⟨rfl, ⟨trivial, ⟨rfl, ⟨trivial, ⟨trivial, ⟨lf_9_12, ⟨lf_9_69, ⟨lf_9_73, ⟨rfl, trivial⟩⟩⟩⟩⟩⟩⟩⟩⟩⟩⟩⟩⟩⟩
def bb9_isBlack_32 : List PI := [(10, .athrow, 160, 242, 164, 0, (kX eIO "no such line or pixel"))]
set_option maxRecDepth 100000 in
theorem oo9_isBlack_32 : okL m9_isBlack 32 bb9_isBlack_32 := okL_of _ _ (by decide +kernel) ⟨⟨by decide, rfl, at_9_242, by decide +kernel, by decide +kernel, Or.inl ⟨by decide +kernel, by decide +kernel, by decide +kernel⟩⟩, trivial⟩
def bb9_isBlack_42 : List PI := [(1, .aload_n 0, 0, 0, 0, 0, kZ), (3, .getfield 12, 9, 0, 0, 0, kZ), (3, .getfield 69, 7, 0, 0, 0, kZ), (1, .iload_n 1, 0, 0, 0, 0, kZ), (3, .invokevirtual 119, 1, 2, 0, 0, m2_rowOf), (1, .iload_n 2, 0, 0, 0, 0, kZ), (3, .invokestatic 244, 2, 9, 0, 0, m9_blackAt), (1, .ireturn, 0, 0, 0, 0, kZ)]
set_option maxRecDepth 100000 in
theorem oo9_isBlack_42 : okL m9_isBlack 42 bb9_isBlack_42 := okL_of _ _ (by decide +kernel) ⟨trivial, ⟨lf_9_12, ⟨lf_9_69, ⟨trivial, ⟨⟨mok_m2_rowOf, ⟨by decide, by decide⟩, rfl, by decide, Or.inr lc_9_119⟩, ⟨trivial, ⟨⟨mok_m9_blackAt, ⟨by decide, by decide⟩, rfl, Or.inl lc_9_244⟩, ⟨trivial, trivial⟩⟩⟩⟩⟩⟩⟩⟩
def cd9_isBlack (t : Nat) : Option (List PI) := match t with
  | 0 => some bb9_isBlack_0
  | 32 => some bb9_isBlack_32
  | 42 => some bb9_isBlack_42
  | _ => none
theorem kd9_isBlack : ∀ t is, cd9_isBlack t = some is → okL m9_isBlack t is := by
  intro t is h
  unfold cd9_isBlack at h
  split at h <;> cases h
  · exact oo9_isBlack_0
  · exact oo9_isBlack_32
  · exact oo9_isBlack_42
theorem ff9_isBlack : mi_r m9_isBlack = (some .boolean) ∧ mi_l m9_isBlack = 3 ∧ mi_h m9_isBlack = [] ∧ (mi_rm m9_isBlack).cells = 1 ∧ (mi_rm m9_isBlack).slots = 6 ∧ (mi_rm m9_isBlack).locals = 84 ∧ cd9_isBlack 0 = some bb9_isBlack_0 ∧ cd9_isBlack 32 = some bb9_isBlack_32 ∧ cd9_isBlack 42 = some bb9_isBlack_42 ∧ (mi_rm m2_has).cells = 0 ∧ (mi_rm m2_has).slots = 0 ∧ (mi_rm m2_rowOf).cells = 0 ∧ (mi_rm m2_rowOf).slots = 0 ∧ (mi_rm m9_blackAt).cells = 0 ∧ (mi_rm m9_blackAt).slots = 0 := ⟨rfl, rfl, rfl, rfl, rfl, rfl, rfl, rfl, rfl, rfl, rfl, rfl, rfl, rfl, rfl⟩
def bbJ13_bitCount_0 : List PI := [(1, .lload_n 0, 0, 0, 0, 0, kZ), (1, .lload_n 0, 0, 0, 0, 0, kZ), (1, .iconst 1, 0, 0, 0, 0, kZ), (1, .lushr, 0, 0, 0, 0, kZ), (3, .ldc2_w 314, 0, 0, 0, 6148914691236517205, kZ), (1, .land, 0, 0, 0, 0, kZ), (1, .lsub, 0, 0, 0, 0, kZ), (1, .lstore_n 0, 0, 0, 0, 0, kZ), (1, .lload_n 0, 0, 0, 0, 0, kZ), (3, .ldc2_w 316, 0, 0, 0, 3689348814741910323, kZ), (1, .land, 0, 0, 0, 0, kZ), (1, .lload_n 0, 0, 0, 0, 0, kZ), (1, .iconst 2, 0, 0, 0, 0, kZ), (1, .lushr, 0, 0, 0, 0, kZ), (3, .ldc2_w 316, 0, 0, 0, 3689348814741910323, kZ), (1, .land, 0, 0, 0, 0, kZ), (1, .ladd, 0, 0, 0, 0, kZ), (1, .lstore_n 0, 0, 0, 0, 0, kZ), (1, .lload_n 0, 0, 0, 0, 0, kZ), (1, .lload_n 0, 0, 0, 0, 0, kZ), (1, .iconst 4, 0, 0, 0, 0, kZ), (1, .lushr, 0, 0, 0, 0, kZ), (1, .ladd, 0, 0, 0, 0, kZ), (3, .ldc2_w 318, 0, 0, 0, 1085102592571150095, kZ), (1, .land, 0, 0, 0, 0, kZ), (1, .lstore_n 0, 0, 0, 0, 0, kZ), (1, .lload_n 0, 0, 0, 0, 0, kZ), (1, .lload_n 0, 0, 0, 0, 0, kZ), (2, .bipush 8, 0, 0, 0, 0, kZ), (1, .lushr, 0, 0, 0, 0, kZ), (1, .ladd, 0, 0, 0, 0, kZ), (1, .lstore_n 0, 0, 0, 0, 0, kZ), (1, .lload_n 0, 0, 0, 0, 0, kZ), (1, .lload_n 0, 0, 0, 0, 0, kZ), (2, .bipush 16, 0, 0, 0, 0, kZ), (1, .lushr, 0, 0, 0, 0, kZ), (1, .ladd, 0, 0, 0, 0, kZ), (1, .lstore_n 0, 0, 0, 0, 0, kZ), (1, .lload_n 0, 0, 0, 0, 0, kZ), (1, .lload_n 0, 0, 0, 0, 0, kZ), (2, .bipush 32, 0, 0, 0, 0, kZ), (1, .lushr, 0, 0, 0, 0, kZ), (1, .ladd, 0, 0, 0, 0, kZ), (1, .lstore_n 0, 0, 0, 0, 0, kZ), (1, .lload_n 0, 0, 0, 0, 0, kZ), (1, .l2i, 0, 0, 0, 0, kZ), (2, .bipush 127, 0, 0, 0, 0, kZ), (1, .iand, 0, 0, 0, 0, kZ), (1, .ireturn, 0, 0, 0, 0, kZ)]
set_option maxRecDepth 100000 in
theorem ooJ13_bitCount_0 : okL mJ13_bitCount 0 bbJ13_bitCount_0 := okL_of _ _ (by decide +kernel) ⟨trivial, ⟨trivial, ⟨trivial, ⟨trivial, ⟨(wt_4 76 (by decide +kernel) rfl), ⟨trivial, ⟨trivial, ⟨trivial, ⟨trivial, ⟨(wt_4 77 (by decide +kernel) rfl), ⟨trivial, ⟨trivial, ⟨trivial, ⟨trivial, ⟨(wt_4 77 (by decide +kernel) rfl), ⟨trivial, ⟨trivial, ⟨trivial, ⟨trivial, ⟨trivial, ⟨trivial, ⟨trivial, ⟨trivial, ⟨(wt_4 78 (by decide +kernel) rfl), ⟨trivial, ⟨trivial, ⟨trivial, ⟨trivial, ⟨trivial, ⟨trivial, ⟨trivial, ⟨trivial, ⟨trivial, ⟨trivial, ⟨trivial, ⟨trivial, ⟨trivial, ⟨trivial, ⟨trivial, ⟨trivial, ⟨trivial, ⟨trivial, ⟨trivial, ⟨trivial, ⟨trivial, ⟨trivial, ⟨trivial, ⟨trivial, ⟨trivial, trivial⟩⟩⟩⟩⟩⟩⟩⟩⟩⟩⟩⟩⟩⟩⟩⟩⟩⟩⟩⟩⟩⟩⟩⟩⟩⟩⟩⟩⟩⟩⟩⟩⟩⟩⟩⟩⟩⟩⟩⟩⟩⟩⟩⟩⟩⟩⟩⟩⟩
def cdJ13_bitCount (t : Nat) : Option (List PI) := match t with
  | 0 => some bbJ13_bitCount_0
  | _ => none
theorem kdJ13_bitCount : ∀ t is, cdJ13_bitCount t = some is → okL mJ13_bitCount t is := by
  intro t is h
  unfold cdJ13_bitCount at h
  split at h <;> cases h
  · exact ooJ13_bitCount_0
theorem ffJ13_bitCount : mi_r mJ13_bitCount = (some .int) ∧ mi_l mJ13_bitCount = 2 ∧ mi_h mJ13_bitCount = [] ∧ (mi_rm mJ13_bitCount).cells = 0 ∧ (mi_rm mJ13_bitCount).slots = 0 ∧ (mi_rm mJ13_bitCount).locals = 32 ∧ cdJ13_bitCount 0 = some bbJ13_bitCount_0 := ⟨rfl, rfl, rfl, rfl, rfl, rfl, rfl⟩
theorem okt_m9_runsOf (pc : Nat) : okT m9_runsOf pc := fun y hy => by cases hy
def bb9_runsOf_0 : List PI := [(1, .aload_n 0, 0, 0, 0, 0, kZ), (1, .iload_n 1, 0, 0, 0, 0, kZ), (3, .invokevirtual 116, 1, 9, 1, 0, m9_needLine), (1, .iconst 1, 0, 0, 0, 0, kZ), (1, .aload_n 0, 0, 0, 0, 0, kZ), (3, .getfield 12, 9, 0, 0, 0, kZ), (3, .getfield 69, 7, 0, 0, 0, kZ), (1, .iload_n 1, 0, 0, 0, 0, kZ), (3, .invokevirtual 119, 1, 2, 0, 0, m2_rowOf), (1, .aload_n 0, 0, 0, 0, 0, kZ), (3, .getfield 12, 9, 0, 0, 0, kZ), (3, .getfield 69, 7, 0, 0, 0, kZ), (3, .getfield 73, 2, 0, 0, 0, kZ), (3, .invokestatic 248, 2, 9, 0, 0, m9_bordersOf), (3, .invokestatic 252, 1, 0, 0, 0, mJ13_bitCount), (1, .iadd, 0, 0, 0, 0, kZ), (1, .ireturn, 0, 0, 0, 0, kZ)]
set_option maxRecDepth 100000 in
theorem oo9_runsOf_0 : okL m9_runsOf 0 bb9_runsOf_0 := okL_of _ _ (by decide +kernel) ⟨trivial, ⟨trivial, ⟨⟨mok_m9_needLine, ⟨by decide, by decide⟩, rfl, by decide, lc_9_116, okt_m9_runsOf _⟩, ⟨trivial, ⟨trivial, ⟨lf_9_12, ⟨lf_9_69, ⟨trivial, ⟨⟨mok_m2_rowOf, ⟨by decide, by decide⟩, rfl, by decide, Or.inr lc_9_119⟩, ⟨trivial, ⟨lf_9_12, ⟨lf_9_69, ⟨lf_9_73, ⟨⟨mok_m9_bordersOf, ⟨by decide, by decide⟩, rfl, Or.inl lc_9_248⟩, ⟨⟨mok_mJ13_bitCount, ⟨by decide, by decide⟩, rfl, Or.inl lc_9_252⟩, ⟨trivial, ⟨trivial, trivial⟩⟩⟩⟩⟩⟩⟩⟩⟩⟩⟩⟩⟩⟩⟩⟩⟩
def cd9_runsOf (t : Nat) : Option (List PI) := match t with
  | 0 => some bb9_runsOf_0
  | _ => none
theorem kd9_runsOf : ∀ t is, cd9_runsOf t = some is → okL m9_runsOf t is := by
  intro t is h
  unfold cd9_runsOf at h
  split at h <;> cases h
  · exact oo9_runsOf_0
theorem ff9_runsOf : mi_r m9_runsOf = (some .int) ∧ mi_l m9_runsOf = 2 ∧ mi_h m9_runsOf = [] ∧ (mi_rm m9_runsOf).cells = 1 ∧ (mi_rm m9_runsOf).slots = 6 ∧ (mi_rm m9_runsOf).locals = 105 ∧ cd9_runsOf 0 = some bb9_runsOf_0 ∧ (mi_rm m2_rowOf).cells = 0 ∧ (mi_rm m2_rowOf).slots = 0 ∧ (mi_rm m9_bordersOf).cells = 0 ∧ (mi_rm m9_bordersOf).slots = 0 ∧ (mi_rm m9_needLine).cells = 1 ∧ (mi_rm m9_needLine).slots = 6 ∧ (mi_rm mJ13_bitCount).cells = 0 ∧ (mi_rm mJ13_bitCount).slots = 0 := ⟨rfl, rfl, rfl, rfl, rfl, rfl, rfl, rfl, rfl, rfl, rfl, rfl, rfl, rfl, rfl⟩
def bb9_longestBetween_0 : List PI := [(1, .iconst 0, 0, 0, 0, 0, kZ), (1, .istore_n 3, 0, 0, 0, 0, kZ), (1, .iconst 0, 0, 0, 0, 0, kZ), (2, .istore 4, 0, 0, 0, 0, kZ), (1, .iconst 0, 0, 0, 0, 0, kZ), (2, .istore 5, 0, 0, 0, 0, kZ)]
set_option maxRecDepth 100000 in
theorem oo9_longestBetween_0 : okL m9_longestBetween 0 bb9_longestBetween_0 := okL_of _ _ (by decide +kernel) ⟨trivial, ⟨trivial, ⟨trivial, ⟨trivial, ⟨trivial, ⟨trivial, trivial⟩⟩⟩⟩⟩⟩
def bb9_longestBetween_8 : List PI := [(2, .iload 5, 0, 0, 0, 0, kZ), (1, .iload_n 2, 0, 0, 0, 0, kZ), (3, .if_icmp .ge 35, 46, 0, 0, 0, kZ), (1, .lload_n 0, 0, 0, 0, 0, kZ), (2, .iload 5, 0, 0, 0, 0, kZ), (3, .invokestatic 244, 2, 9, 0, 0, m9_blackAt), (3, .ifCond .eq 7, 27, 0, 0, 0, kZ), (1, .iconst 1, 0, 0, 0, 0, kZ), (3, .goto 7, 31, 0, 0, 0, kZ)]
set_option maxRecDepth 100000 in
theorem oo9_longestBetween_8 : okL m9_longestBetween 8 bb9_longestBetween_8 := okL_of _ _ (by decide +kernel) ⟨trivial, ⟨trivial, ⟨rfl, ⟨trivial, ⟨trivial, ⟨⟨mok_m9_blackAt, ⟨by decide, by decide⟩, rfl, Or.inl lc_9_244⟩, ⟨rfl, ⟨trivial, ⟨rfl, trivial⟩⟩⟩⟩⟩⟩⟩⟩⟩
def bb9_longestBetween_27 : List PI := [(2, .iload 4, 0, 0, 0, 0, kZ), (1, .iconst 1, 0, 0, 0, 0, kZ), (1, .iadd, 0, 0, 0, 0, kZ)]
set_option maxRecDepth 100000 in
theorem oo9_longestBetween_27 : okL m9_longestBetween 27 bb9_longestBetween_27 := okL_of _ _ (by decide +kernel) ⟨trivial, ⟨trivial, ⟨trivial, trivial⟩⟩⟩
def bb9_longestBetween_31 : List PI := [(2, .istore 4, 0, 0, 0, 0, kZ), (1, .iload_n 3, 0, 0, 0, 0, kZ), (2, .iload 4, 0, 0, 0, 0, kZ), (3, .invokestatic 415, 0, 0, 6, 0, kZ), (1, .istore_n 3, 0, 0, 0, 0, kZ), (3, .iinc 5 1, 0, 0, 0, 0, kZ), (3, .goto (-35), 8, 0, 0, 0, kZ)]
set_option maxRecDepth 100000 in
theorem oo9_longestBetween_31 : okL m9_longestBetween 31 bb9_longestBetween_31 := okL_of _ _ (by decide +kernel) ⟨trivial, ⟨trivial, ⟨trivial, ⟨⟨lm_9_415, by decide⟩, ⟨trivial, ⟨trivial, ⟨rfl, trivial⟩⟩⟩⟩⟩⟩⟩
def bb9_longestBetween_46 : List PI := [(1, .iload_n 3, 0, 0, 0, 0, kZ), (1, .ireturn, 0, 0, 0, 0, kZ)]
set_option maxRecDepth 100000 in
theorem oo9_longestBetween_46 : okL m9_longestBetween 46 bb9_longestBetween_46 := okL_of _ _ (by decide +kernel) ⟨trivial, ⟨trivial, trivial⟩⟩
def cd9_longestBetween (t : Nat) : Option (List PI) := match t with
  | 0 => some bb9_longestBetween_0
  | 27 => some bb9_longestBetween_27
  | 31 => some bb9_longestBetween_31
  | 46 => some bb9_longestBetween_46
  | _ => none
theorem kd9_longestBetween : ∀ t is, cd9_longestBetween t = some is → okL m9_longestBetween t is := by
  intro t is h
  unfold cd9_longestBetween at h
  split at h <;> cases h
  · exact oo9_longestBetween_0
  · exact oo9_longestBetween_27
  · exact oo9_longestBetween_31
  · exact oo9_longestBetween_46
theorem ff9_longestBetween : mi_r m9_longestBetween = (some .int) ∧ mi_l m9_longestBetween = 6 ∧ mi_h m9_longestBetween = [] ∧ (mi_rm m9_longestBetween).cells = 0 ∧ (mi_rm m9_longestBetween).slots = 0 ∧ (mi_rm m9_longestBetween).locals = 54 ∧ cd9_longestBetween 0 = some bb9_longestBetween_0 ∧ cd9_longestBetween 8 = none ∧ cd9_longestBetween 27 = some bb9_longestBetween_27 ∧ cd9_longestBetween 31 = some bb9_longestBetween_31 ∧ cd9_longestBetween 46 = some bb9_longestBetween_46 ∧ (mi_rm m9_blackAt).cells = 0 ∧ (mi_rm m9_blackAt).slots = 0 := ⟨rfl, rfl, rfl, rfl, rfl, rfl, rfl, rfl, rfl, rfl, rfl, rfl, rfl⟩
theorem okt_m9_longestRun (pc : Nat) : okT m9_longestRun pc := fun y hy => by cases hy
def bb9_longestRun_0 : List PI := [(1, .aload_n 0, 0, 0, 0, 0, kZ), (1, .iload_n 1, 0, 0, 0, 0, kZ), (3, .invokevirtual 116, 1, 9, 1, 0, m9_needLine), (1, .aload_n 0, 0, 0, 0, 0, kZ), (3, .getfield 12, 9, 0, 0, 0, kZ), (3, .getfield 69, 7, 0, 0, 0, kZ), (1, .iload_n 1, 0, 0, 0, 0, kZ), (3, .invokevirtual 119, 1, 2, 0, 0, m2_rowOf), (1, .aload_n 0, 0, 0, 0, 0, kZ), (3, .getfield 12, 9, 0, 0, 0, kZ), (3, .getfield 69, 7, 0, 0, 0, kZ), (3, .getfield 73, 2, 0, 0, 0, kZ), (3, .invokestatic 248, 2, 9, 0, 0, m9_bordersOf), (1, .aload_n 0, 0, 0, 0, 0, kZ), (3, .getfield 12, 9, 0, 0, 0, kZ), (3, .getfield 69, 7, 0, 0, 0, kZ), (3, .getfield 73, 2, 0, 0, 0, kZ), (3, .invokestatic 258, 2, 9, 0, 0, m9_longestBetween), (1, .ireturn, 0, 0, 0, 0, kZ)]
set_option maxRecDepth 100000 in
theorem oo9_longestRun_0 : okL m9_longestRun 0 bb9_longestRun_0 := okL_of _ _ (by decide +kernel) ⟨trivial, ⟨trivial, ⟨⟨mok_m9_needLine, ⟨by decide, by decide⟩, rfl, by decide, lc_9_116, okt_m9_longestRun _⟩, ⟨trivial, ⟨lf_9_12, ⟨lf_9_69, ⟨trivial, ⟨⟨mok_m2_rowOf, ⟨by decide, by decide⟩, rfl, by decide, Or.inr lc_9_119⟩, ⟨trivial, ⟨lf_9_12, ⟨lf_9_69, ⟨lf_9_73, ⟨⟨mok_m9_bordersOf, ⟨by decide, by decide⟩, rfl, Or.inl lc_9_248⟩, ⟨trivial, ⟨lf_9_12, ⟨lf_9_69, ⟨lf_9_73, ⟨⟨mok_m9_longestBetween, ⟨by decide, by decide⟩, rfl, Or.inl lc_9_258⟩, ⟨trivial, trivial⟩⟩⟩⟩⟩⟩⟩⟩⟩⟩⟩⟩⟩⟩⟩⟩⟩⟩⟩
def cd9_longestRun (t : Nat) : Option (List PI) := match t with
  | 0 => some bb9_longestRun_0
  | _ => none
theorem kd9_longestRun : ∀ t is, cd9_longestRun t = some is → okL m9_longestRun t is := by
  intro t is h
  unfold cd9_longestRun at h
  split at h <;> cases h
  · exact oo9_longestRun_0
theorem ff9_longestRun : mi_r m9_longestRun = (some .int) ∧ mi_l m9_longestRun = 2 ∧ mi_h m9_longestRun = [] ∧ (mi_rm m9_longestRun).cells = 1 ∧ (mi_rm m9_longestRun).slots = 6 ∧ (mi_rm m9_longestRun).locals = 105 ∧ cd9_longestRun 0 = some bb9_longestRun_0 ∧ (mi_rm m2_rowOf).cells = 0 ∧ (mi_rm m2_rowOf).slots = 0 ∧ (mi_rm m9_bordersOf).cells = 0 ∧ (mi_rm m9_bordersOf).slots = 0 ∧ (mi_rm m9_longestBetween).cells = 0 ∧ (mi_rm m9_longestBetween).slots = 0 ∧ (mi_rm m9_needLine).cells = 1 ∧ (mi_rm m9_needLine).slots = 6 := ⟨rfl, rfl, rfl, rfl, rfl, rfl, rfl, rfl, rfl, rfl, rfl, rfl, rfl, rfl, rfl⟩
def bb9_blackPixels_0 : List PI := [(1, .iconst 0, 0, 0, 0, 0, kZ), (1, .istore_n 1, 0, 0, 0, 0, kZ), (1, .iconst 0, 0, 0, 0, 0, kZ), (1, .istore_n 2, 0, 0, 0, 0, kZ)]
set_option maxRecDepth 100000 in
theorem oo9_blackPixels_0 : okL m9_blackPixels 0 bb9_blackPixels_0 := okL_of _ _ (by decide +kernel) ⟨trivial, ⟨trivial, ⟨trivial, ⟨trivial, trivial⟩⟩⟩⟩
def bb9_blackPixels_4 : List PI := [(1, .iload_n 2, 0, 0, 0, 0, kZ), (1, .aload_n 0, 0, 0, 0, 0, kZ), (3, .getfield 12, 9, 0, 0, 0, kZ), (3, .getfield 69, 7, 0, 0, 0, kZ), (3, .getfield 113, 2, 2, 0, 0, kZ), (3, .if_icmp .ge 26, 41, 0, 0, 0, kZ), (1, .iload_n 1, 0, 0, 0, 0, kZ), (1, .aload_n 0, 0, 0, 0, 0, kZ), (3, .getfield 12, 9, 0, 0, 0, kZ), (3, .getfield 69, 7, 0, 0, 0, kZ), (1, .iload_n 2, 0, 0, 0, 0, kZ), (3, .invokevirtual 119, 1, 2, 0, 0, m2_rowOf), (3, .invokestatic 252, 1, 0, 0, 0, mJ13_bitCount), (1, .iadd, 0, 0, 0, 0, kZ), (1, .istore_n 1, 0, 0, 0, 0, kZ), (3, .iinc 2 1, 0, 0, 0, 0, kZ), (3, .goto (-34), 4, 0, 0, 0, kZ)]
set_option maxRecDepth 100000 in
theorem oo9_blackPixels_4 : okL m9_blackPixels 4 bb9_blackPixels_4 := okL_of _ _ (by decide +kernel) ⟨trivial, ⟨trivial, ⟨lf_9_12, ⟨lf_9_69, ⟨lf_9_113, ⟨rfl, ⟨trivial, ⟨trivial, ⟨lf_9_12, ⟨lf_9_69, ⟨trivial, ⟨⟨mok_m2_rowOf, ⟨by decide, by decide⟩, rfl, by decide, Or.inr lc_9_119⟩, ⟨⟨mok_mJ13_bitCount, ⟨by decide, by decide⟩, rfl, Or.inl lc_9_252⟩, ⟨trivial, ⟨trivial, ⟨trivial, ⟨rfl, trivial⟩⟩⟩⟩⟩⟩⟩⟩⟩⟩⟩⟩⟩⟩⟩⟩⟩
def bb9_blackPixels_41 : List PI := [(1, .iload_n 1, 0, 0, 0, 0, kZ), (1, .ireturn, 0, 0, 0, 0, kZ)]
set_option maxRecDepth 100000 in
theorem oo9_blackPixels_41 : okL m9_blackPixels 41 bb9_blackPixels_41 := okL_of _ _ (by decide +kernel) ⟨trivial, ⟨trivial, trivial⟩⟩
def cd9_blackPixels (t : Nat) : Option (List PI) := match t with
  | 0 => some bb9_blackPixels_0
  | 41 => some bb9_blackPixels_41
  | _ => none
theorem kd9_blackPixels : ∀ t is, cd9_blackPixels t = some is → okL m9_blackPixels t is := by
  intro t is h
  unfold cd9_blackPixels at h
  split at h <;> cases h
  · exact oo9_blackPixels_0
  · exact oo9_blackPixels_41
theorem ff9_blackPixels : mi_r m9_blackPixels = (some .int) ∧ mi_l m9_blackPixels = 3 ∧ mi_h m9_blackPixels = [] ∧ (mi_rm m9_blackPixels).cells = 0 ∧ (mi_rm m9_blackPixels).slots = 0 ∧ (mi_rm m9_blackPixels).locals = 53 ∧ cd9_blackPixels 0 = some bb9_blackPixels_0 ∧ cd9_blackPixels 4 = none ∧ cd9_blackPixels 41 = some bb9_blackPixels_41 ∧ (mi_rm m2_rowOf).cells = 0 ∧ (mi_rm m2_rowOf).slots = 0 ∧ (mi_rm mJ13_bitCount).cells = 0 ∧ (mi_rm mJ13_bitCount).slots = 0 := ⟨rfl, rfl, rfl, rfl, rfl, rfl, rfl, rfl, rfl, rfl, rfl, rfl, rfl⟩
def bb9_needMode_0 : List PI := [(1, .iload_n 0, 0, 0, 0, 0, kZ), (3, .ifCond .lt 8, 9, 0, 0, 0, kZ), (1, .iload_n 0, 0, 0, 0, 0, kZ), (1, .iconst 3, 0, 0, 0, 0, kZ), (3, .if_icmp .lt 14, 20, 0, 0, 0, kZ)]
set_option maxRecDepth 100000 in
theorem oo9_needMode_0 : okL m9_needMode 0 bb9_needMode_0 := okL_of _ _ (by decide +kernel) ⟨trivial, ⟨rfl, ⟨trivial, ⟨trivial, ⟨rfl, trivial⟩⟩⟩⟩⟩
def bb9_needMode_9 : List PI := [(11, .athrow, 58, 381, 62, 0, (kX eIA "a mode is 0 to 2"))]
set_option maxRecDepth 100000 in
theorem oo9_needMode_9 : okL m9_needMode 9 bb9_needMode_9 := okL_of _ _ (by decide +kernel) ⟨⟨by decide, rfl, at_9_381, by decide +kernel, by decide +kernel, Or.inr ⟨by decide +kernel, by decide +kernel, by decide +kernel⟩⟩, trivial⟩
def bb9_needMode_20 : List PI := [(1, .return_, 0, 0, 0, 0, kZ)]
set_option maxRecDepth 100000 in
theorem oo9_needMode_20 : okL m9_needMode 20 bb9_needMode_20 := okL_of _ _ (by decide +kernel) ⟨rfl, trivial⟩
def cd9_needMode (t : Nat) : Option (List PI) := match t with
  | 0 => some bb9_needMode_0
  | 9 => some bb9_needMode_9
  | 20 => some bb9_needMode_20
  | _ => none
theorem kd9_needMode : ∀ t is, cd9_needMode t = some is → okL m9_needMode t is := by
  intro t is h
  unfold cd9_needMode at h
  split at h <;> cases h
  · exact oo9_needMode_0
  · exact oo9_needMode_9
  · exact oo9_needMode_20
theorem ff9_needMode : mi_r m9_needMode = none ∧ mi_l m9_needMode = 1 ∧ mi_h m9_needMode = [] ∧ (mi_rm m9_needMode).cells = 1 ∧ (mi_rm m9_needMode).slots = 6 ∧ (mi_rm m9_needMode).locals = 84 ∧ cd9_needMode 0 = some bb9_needMode_0 ∧ cd9_needMode 9 = some bb9_needMode_9 ∧ cd9_needMode 20 = some bb9_needMode_20 := ⟨rfl, rfl, rfl, rfl, rfl, rfl, rfl, rfl, rfl⟩
theorem okt_m9_codeLength (pc : Nat) : okT m9_codeLength pc := fun y hy => by cases hy
def bb9_codeLength_0 : List PI := [(1, .aload_n 0, 0, 0, 0, 0, kZ), (1, .iload_n 1, 0, 0, 0, 0, kZ), (3, .invokevirtual 116, 1, 9, 1, 0, m9_needLine), (1, .iload_n 2, 0, 0, 0, 0, kZ), (3, .invokestatic 262, 1, 9, 1, 0, m9_needMode), (1, .aload_n 0, 0, 0, 0, 0, kZ), (3, .getfield 40, 9, 5, 0, 0, kZ), (1, .aload_n 0, 0, 0, 0, 0, kZ), (3, .getfield 12, 9, 0, 0, 0, kZ), (3, .getfield 69, 7, 0, 0, 0, kZ), (1, .iload_n 1, 0, 0, 0, 0, kZ), (1, .iload_n 2, 0, 0, 0, 0, kZ), (3, .invokevirtual 265, 3, 0, 0, 0, m0_write), (1, .aload_n 0, 0, 0, 0, 0, kZ), (3, .getfield 40, 9, 5, 0, 0, kZ), (3, .getfield 269, 0, 3, 0, 0, kZ), (1, .ireturn, 0, 0, 0, 0, kZ)]
set_option maxRecDepth 100000 in
theorem oo9_codeLength_0 : okL m9_codeLength 0 bb9_codeLength_0 := okL_of _ _ (by decide +kernel) ⟨trivial, ⟨trivial, ⟨⟨mok_m9_needLine, ⟨by decide, by decide⟩, rfl, by decide, lc_9_116, okt_m9_codeLength _⟩, ⟨trivial, ⟨⟨mok_m9_needMode, ⟨by decide, by decide⟩, rfl, lc_9_262, okt_m9_codeLength _⟩, ⟨trivial, ⟨lf_9_40, ⟨trivial, ⟨lf_9_12, ⟨lf_9_69, ⟨trivial, ⟨trivial, ⟨⟨mok_m0_write, ⟨by decide, by decide⟩, rfl, by decide, Or.inr lc_9_265⟩, ⟨trivial, ⟨lf_9_40, ⟨lf_9_269, ⟨trivial, trivial⟩⟩⟩⟩⟩⟩⟩⟩⟩⟩⟩⟩⟩⟩⟩⟩⟩
def cd9_codeLength (t : Nat) : Option (List PI) := match t with
  | 0 => some bb9_codeLength_0
  | _ => none
theorem kd9_codeLength : ∀ t is, cd9_codeLength t = some is → okL m9_codeLength t is := by
  intro t is h
  unfold cd9_codeLength at h
  split at h <;> cases h
  · exact oo9_codeLength_0
theorem ff9_codeLength : mi_r m9_codeLength = (some .int) ∧ mi_l m9_codeLength = 3 ∧ mi_h m9_codeLength = [] ∧ (mi_rm m9_codeLength).cells = 2 ∧ (mi_rm m9_codeLength).slots = 12 ∧ (mi_rm m9_codeLength).locals = 127 ∧ cd9_codeLength 0 = some bb9_codeLength_0 ∧ (mi_rm m0_write).cells = 0 ∧ (mi_rm m0_write).slots = 0 ∧ (mi_rm m9_needLine).cells = 1 ∧ (mi_rm m9_needLine).slots = 6 ∧ (mi_rm m9_needMode).cells = 1 ∧ (mi_rm m9_needMode).slots = 6 := ⟨rfl, rfl, rfl, rfl, rfl, rfl, rfl, rfl, rfl, rfl, rfl, rfl, rfl⟩
theorem okt_m9_codeLengthByCounting (pc : Nat) : okT m9_codeLengthByCounting pc := fun y hy => by cases hy
def bb9_codeLengthByCounting_0 : List PI := [(1, .aload_n 0, 0, 0, 0, 0, kZ), (1, .iload_n 1, 0, 0, 0, 0, kZ), (3, .invokevirtual 116, 1, 9, 1, 0, m9_needLine), (1, .iload_n 2, 0, 0, 0, 0, kZ), (3, .invokestatic 262, 1, 9, 1, 0, m9_needMode), (1, .aload_n 0, 0, 0, 0, 0, kZ), (1, .iload_n 1, 0, 0, 0, 0, kZ), (1, .iload_n 2, 0, 0, 0, 0, kZ), (3, .invokevirtual 270, 2, 9, 0, 0, m9_countedLength), (1, .ireturn, 0, 0, 0, 0, kZ)]
set_option maxRecDepth 100000 in
theorem oo9_codeLengthByCounting_0 : okL m9_codeLengthByCounting 0 bb9_codeLengthByCounting_0 := okL_of _ _ (by decide +kernel) ⟨trivial, ⟨trivial, ⟨⟨mok_m9_needLine, ⟨by decide, by decide⟩, rfl, by decide, lc_9_116, okt_m9_codeLengthByCounting _⟩, ⟨trivial, ⟨⟨mok_m9_needMode, ⟨by decide, by decide⟩, rfl, lc_9_262, okt_m9_codeLengthByCounting _⟩, ⟨trivial, ⟨trivial, ⟨trivial, ⟨⟨mok_m9_countedLength, ⟨by decide, by decide⟩, rfl, by decide, Or.inl lc_9_270⟩, ⟨trivial, trivial⟩⟩⟩⟩⟩⟩⟩⟩⟩⟩
def cd9_codeLengthByCounting (t : Nat) : Option (List PI) := match t with
  | 0 => some bb9_codeLengthByCounting_0
  | _ => none
theorem kd9_codeLengthByCounting : ∀ t is, cd9_codeLengthByCounting t = some is → okL m9_codeLengthByCounting t is := by
  intro t is h
  unfold cd9_codeLengthByCounting at h
  split at h <;> cases h
  · exact oo9_codeLengthByCounting_0
theorem ff9_codeLengthByCounting : mi_r m9_codeLengthByCounting = (some .int) ∧ mi_l m9_codeLengthByCounting = 3 ∧ mi_h m9_codeLengthByCounting = [] ∧ (mi_rm m9_codeLengthByCounting).cells = 2 ∧ (mi_rm m9_codeLengthByCounting).slots = 12 ∧ (mi_rm m9_codeLengthByCounting).locals = 107 ∧ cd9_codeLengthByCounting 0 = some bb9_codeLengthByCounting_0 ∧ (mi_rm m9_countedLength).cells = 0 ∧ (mi_rm m9_countedLength).slots = 0 ∧ (mi_rm m9_needLine).cells = 1 ∧ (mi_rm m9_needLine).slots = 6 ∧ (mi_rm m9_needMode).cells = 1 ∧ (mi_rm m9_needMode).slots = 6 := ⟨rfl, rfl, rfl, rfl, rfl, rfl, rfl, rfl, rfl, rfl, rfl, rfl, rfl⟩
theorem okt_m9_modeOf (pc : Nat) : okT m9_modeOf pc := fun y hy => by cases hy
def bb9_modeOf_0 : List PI := [(1, .aload_n 0, 0, 0, 0, 0, kZ), (1, .iload_n 1, 0, 0, 0, 0, kZ), (3, .invokevirtual 116, 1, 9, 1, 0, m9_needLine), (1, .aload_n 0, 0, 0, 0, 0, kZ), (1, .iload_n 1, 0, 0, 0, 0, kZ), (3, .invokevirtual 274, 1, 9, 0, 0, m9_modeToSend), (1, .ireturn, 0, 0, 0, 0, kZ)]
set_option maxRecDepth 100000 in
theorem oo9_modeOf_0 : okL m9_modeOf 0 bb9_modeOf_0 := okL_of _ _ (by decide +kernel) ⟨trivial, ⟨trivial, ⟨⟨mok_m9_needLine, ⟨by decide, by decide⟩, rfl, by decide, lc_9_116, okt_m9_modeOf _⟩, ⟨trivial, ⟨trivial, ⟨⟨mok_m9_modeToSend, ⟨by decide, by decide⟩, rfl, by decide, Or.inl lc_9_274⟩, ⟨trivial, trivial⟩⟩⟩⟩⟩⟩⟩
def cd9_modeOf (t : Nat) : Option (List PI) := match t with
  | 0 => some bb9_modeOf_0
  | _ => none
theorem kd9_modeOf : ∀ t is, cd9_modeOf t = some is → okL m9_modeOf t is := by
  intro t is h
  unfold cd9_modeOf at h
  split at h <;> cases h
  · exact oo9_modeOf_0
theorem ff9_modeOf : mi_r m9_modeOf = (some .int) ∧ mi_l m9_modeOf = 2 ∧ mi_h m9_modeOf = [] ∧ (mi_rm m9_modeOf).cells = 1 ∧ (mi_rm m9_modeOf).slots = 6 ∧ (mi_rm m9_modeOf).locals = 132 ∧ cd9_modeOf 0 = some bb9_modeOf_0 ∧ (mi_rm m9_modeToSend).cells = 0 ∧ (mi_rm m9_modeToSend).slots = 0 ∧ (mi_rm m9_needLine).cells = 1 ∧ (mi_rm m9_needLine).slots = 6 := ⟨rfl, rfl, rfl, rfl, rfl, rfl, rfl, rfl, rfl, rfl, rfl⟩
theorem okt_m9_checkOf (pc : Nat) : okT m9_checkOf pc := fun y hy => by cases hy
def bb9_checkOf_0 : List PI := [(1, .aload_n 0, 0, 0, 0, 0, kZ), (1, .iload_n 1, 0, 0, 0, 0, kZ), (3, .invokevirtual 116, 1, 9, 1, 0, m9_needLine), (1, .iload_n 2, 0, 0, 0, 0, kZ), (3, .invokestatic 262, 1, 9, 1, 0, m9_needMode), (1, .aload_n 0, 0, 0, 0, 0, kZ), (3, .getfield 40, 9, 5, 0, 0, kZ), (1, .aload_n 0, 0, 0, 0, 0, kZ), (3, .getfield 12, 9, 0, 0, 0, kZ), (3, .getfield 69, 7, 0, 0, 0, kZ), (1, .iload_n 1, 0, 0, 0, 0, kZ), (1, .iload_n 2, 0, 0, 0, 0, kZ), (3, .invokevirtual 265, 3, 0, 0, 0, m0_write), (1, .aload_n 0, 0, 0, 0, 0, kZ), (3, .getfield 40, 9, 5, 0, 0, kZ), (3, .getfield 277, 0, 4, 0, 0, kZ), (1, .ireturn, 0, 0, 0, 0, kZ)]
set_option maxRecDepth 100000 in
theorem oo9_checkOf_0 : okL m9_checkOf 0 bb9_checkOf_0 := okL_of _ _ (by decide +kernel) ⟨trivial, ⟨trivial, ⟨⟨mok_m9_needLine, ⟨by decide, by decide⟩, rfl, by decide, lc_9_116, okt_m9_checkOf _⟩, ⟨trivial, ⟨⟨mok_m9_needMode, ⟨by decide, by decide⟩, rfl, lc_9_262, okt_m9_checkOf _⟩, ⟨trivial, ⟨lf_9_40, ⟨trivial, ⟨lf_9_12, ⟨lf_9_69, ⟨trivial, ⟨trivial, ⟨⟨mok_m0_write, ⟨by decide, by decide⟩, rfl, by decide, Or.inr lc_9_265⟩, ⟨trivial, ⟨lf_9_40, ⟨lf_9_277, ⟨trivial, trivial⟩⟩⟩⟩⟩⟩⟩⟩⟩⟩⟩⟩⟩⟩⟩⟩⟩
def cd9_checkOf (t : Nat) : Option (List PI) := match t with
  | 0 => some bb9_checkOf_0
  | _ => none
theorem kd9_checkOf : ∀ t is, cd9_checkOf t = some is → okL m9_checkOf t is := by
  intro t is h
  unfold cd9_checkOf at h
  split at h <;> cases h
  · exact oo9_checkOf_0
theorem ff9_checkOf : mi_r m9_checkOf = (some .int) ∧ mi_l m9_checkOf = 3 ∧ mi_h m9_checkOf = [] ∧ (mi_rm m9_checkOf).cells = 2 ∧ (mi_rm m9_checkOf).slots = 12 ∧ (mi_rm m9_checkOf).locals = 127 ∧ cd9_checkOf 0 = some bb9_checkOf_0 ∧ (mi_rm m0_write).cells = 0 ∧ (mi_rm m0_write).slots = 0 ∧ (mi_rm m9_needLine).cells = 1 ∧ (mi_rm m9_needLine).slots = 6 ∧ (mi_rm m9_needMode).cells = 1 ∧ (mi_rm m9_needMode).slots = 6 := ⟨rfl, rfl, rfl, rfl, rfl, rfl, rfl, rfl, rfl, rfl, rfl, rfl, rfl⟩
def bb9_wouldSend_0 : List PI := [(1, .iconst 0, 0, 0, 0, 0, kZ), (1, .istore_n 1, 0, 0, 0, 0, kZ), (1, .iconst 0, 0, 0, 0, 0, kZ), (1, .istore_n 2, 0, 0, 0, 0, kZ)]
set_option maxRecDepth 100000 in
theorem oo9_wouldSend_0 : okL m9_wouldSend 0 bb9_wouldSend_0 := okL_of _ _ (by decide +kernel) ⟨trivial, ⟨trivial, ⟨trivial, ⟨trivial, trivial⟩⟩⟩⟩
def bb9_wouldSend_4 : List PI := [(1, .iload_n 2, 0, 0, 0, 0, kZ), (1, .aload_n 0, 0, 0, 0, 0, kZ), (3, .getfield 12, 9, 0, 0, 0, kZ), (3, .getfield 69, 7, 0, 0, 0, kZ), (3, .getfield 113, 2, 2, 0, 0, kZ), (3, .if_icmp .ge 22, 37, 0, 0, 0, kZ), (1, .iload_n 1, 0, 0, 0, 0, kZ), (1, .aload_n 0, 0, 0, 0, 0, kZ), (1, .iload_n 2, 0, 0, 0, 0, kZ), (1, .aload_n 0, 0, 0, 0, 0, kZ), (1, .iload_n 2, 0, 0, 0, 0, kZ), (3, .invokevirtual 274, 1, 9, 0, 0, m9_modeToSend), (3, .invokevirtual 270, 2, 9, 0, 0, m9_countedLength), (1, .iadd, 0, 0, 0, 0, kZ), (1, .istore_n 1, 0, 0, 0, 0, kZ), (3, .iinc 2 1, 0, 0, 0, 0, kZ), (3, .goto (-30), 4, 0, 0, 0, kZ)]
set_option maxRecDepth 100000 in
theorem oo9_wouldSend_4 : okL m9_wouldSend 4 bb9_wouldSend_4 := okL_of _ _ (by decide +kernel) ⟨trivial, ⟨trivial, ⟨lf_9_12, ⟨lf_9_69, ⟨lf_9_113, ⟨rfl, ⟨trivial, ⟨trivial, ⟨trivial, ⟨trivial, ⟨trivial, ⟨⟨mok_m9_modeToSend, ⟨by decide, by decide⟩, rfl, by decide, Or.inl lc_9_274⟩, ⟨⟨mok_m9_countedLength, ⟨by decide, by decide⟩, rfl, by decide, Or.inl lc_9_270⟩, ⟨trivial, ⟨trivial, ⟨trivial, ⟨rfl, trivial⟩⟩⟩⟩⟩⟩⟩⟩⟩⟩⟩⟩⟩⟩⟩⟩⟩
def bb9_wouldSend_37 : List PI := [(1, .iload_n 1, 0, 0, 0, 0, kZ), (1, .ireturn, 0, 0, 0, 0, kZ)]
set_option maxRecDepth 100000 in
theorem oo9_wouldSend_37 : okL m9_wouldSend 37 bb9_wouldSend_37 := okL_of _ _ (by decide +kernel) ⟨trivial, ⟨trivial, trivial⟩⟩
def cd9_wouldSend (t : Nat) : Option (List PI) := match t with
  | 0 => some bb9_wouldSend_0
  | 37 => some bb9_wouldSend_37
  | _ => none
theorem kd9_wouldSend : ∀ t is, cd9_wouldSend t = some is → okL m9_wouldSend t is := by
  intro t is h
  unfold cd9_wouldSend at h
  split at h <;> cases h
  · exact oo9_wouldSend_0
  · exact oo9_wouldSend_37
theorem ff9_wouldSend : mi_r m9_wouldSend = (some .int) ∧ mi_l m9_wouldSend = 3 ∧ mi_h m9_wouldSend = [] ∧ (mi_rm m9_wouldSend).cells = 0 ∧ (mi_rm m9_wouldSend).slots = 0 ∧ (mi_rm m9_wouldSend).locals = 132 ∧ cd9_wouldSend 0 = some bb9_wouldSend_0 ∧ cd9_wouldSend 4 = none ∧ cd9_wouldSend 37 = some bb9_wouldSend_37 ∧ (mi_rm m9_countedLength).cells = 0 ∧ (mi_rm m9_countedLength).slots = 0 ∧ (mi_rm m9_modeToSend).cells = 0 ∧ (mi_rm m9_modeToSend).slots = 0 := ⟨rfl, rfl, rfl, rfl, rfl, rfl, rfl, rfl, rfl, rfl, rfl, rfl, rfl⟩
def bb9_streamLength_0 : List PI := [(1, .aload_n 0, 0, 0, 0, 0, kZ), (3, .getfield 12, 9, 0, 0, 0, kZ), (3, .getfield 83, 7, 1, 0, 0, kZ), (3, .getfield 140, 8, 0, 0, 0, kZ), (1, .ireturn, 0, 0, 0, 0, kZ)]
set_option maxRecDepth 100000 in
theorem oo9_streamLength_0 : okL m9_streamLength 0 bb9_streamLength_0 := okL_of _ _ (by decide +kernel) ⟨trivial, ⟨lf_9_12, ⟨lf_9_83, ⟨lf_9_140, ⟨trivial, trivial⟩⟩⟩⟩⟩
def cd9_streamLength (t : Nat) : Option (List PI) := match t with
  | 0 => some bb9_streamLength_0
  | _ => none
theorem kd9_streamLength : ∀ t is, cd9_streamLength t = some is → okL m9_streamLength t is := by
  intro t is h
  unfold cd9_streamLength at h
  split at h <;> cases h
  · exact oo9_streamLength_0
theorem ff9_streamLength : mi_r m9_streamLength = (some .int) ∧ mi_l m9_streamLength = 1 ∧ mi_h m9_streamLength = [] ∧ (mi_rm m9_streamLength).cells = 0 ∧ (mi_rm m9_streamLength).slots = 0 ∧ (mi_rm m9_streamLength).locals = 32 ∧ cd9_streamLength 0 = some bb9_streamLength_0 := ⟨rfl, rfl, rfl, rfl, rfl, rfl, rfl⟩
theorem okt_m9_numberAt (pc : Nat) : okT m9_numberAt pc := fun y hy => by cases hy
def bb9_numberAt_0 : List PI := [(1, .aload_n 0, 0, 0, 0, 0, kZ), (1, .iload_n 1, 0, 0, 0, 0, kZ), (3, .invokevirtual 143, 1, 9, 1, 0, m9_needPlace), (1, .aload_n 0, 0, 0, 0, 0, kZ), (3, .getfield 12, 9, 0, 0, 0, kZ), (3, .getfield 83, 7, 1, 0, 0, kZ), (1, .iload_n 1, 0, 0, 0, 0, kZ), (3, .invokevirtual 149, 1, 8, 0, 0, m8_at), (1, .ireturn, 0, 0, 0, 0, kZ)]
set_option maxRecDepth 100000 in
theorem oo9_numberAt_0 : okL m9_numberAt 0 bb9_numberAt_0 := okL_of _ _ (by decide +kernel) ⟨trivial, ⟨trivial, ⟨⟨mok_m9_needPlace, ⟨by decide, by decide⟩, rfl, by decide, lc_9_143, okt_m9_numberAt _⟩, ⟨trivial, ⟨lf_9_12, ⟨lf_9_83, ⟨trivial, ⟨⟨mok_m8_at, ⟨by decide, by decide⟩, rfl, by decide, Or.inr lc_9_149⟩, ⟨trivial, trivial⟩⟩⟩⟩⟩⟩⟩⟩⟩
def cd9_numberAt (t : Nat) : Option (List PI) := match t with
  | 0 => some bb9_numberAt_0
  | _ => none
theorem kd9_numberAt : ∀ t is, cd9_numberAt t = some is → okL m9_numberAt t is := by
  intro t is h
  unfold cd9_numberAt at h
  split at h <;> cases h
  · exact oo9_numberAt_0
theorem ff9_numberAt : mi_r m9_numberAt = (some .int) ∧ mi_l m9_numberAt = 2 ∧ mi_h m9_numberAt = [] ∧ (mi_rm m9_numberAt).cells = 1 ∧ (mi_rm m9_numberAt).slots = 6 ∧ (mi_rm m9_numberAt).locals = 105 ∧ cd9_numberAt 0 = some bb9_numberAt_0 ∧ (mi_rm m8_at).cells = 0 ∧ (mi_rm m8_at).slots = 0 ∧ (mi_rm m9_needPlace).cells = 1 ∧ (mi_rm m9_needPlace).slots = 6 := ⟨rfl, rfl, rfl, rfl, rfl, rfl, rfl, rfl, rfl, rfl, rfl⟩
def bb9_markers_0 : List PI := [(1, .aload_n 0, 0, 0, 0, 0, kZ), (3, .getfield 12, 9, 0, 0, 0, kZ), (3, .getfield 83, 7, 1, 0, 0, kZ), (3, .invokevirtual 280, 0, 8, 0, 0, m8_countMarkers), (1, .ireturn, 0, 0, 0, 0, kZ)]
set_option maxRecDepth 100000 in
theorem oo9_markers_0 : okL m9_markers 0 bb9_markers_0 := okL_of _ _ (by decide +kernel) ⟨trivial, ⟨lf_9_12, ⟨lf_9_83, ⟨⟨mok_m8_countMarkers, ⟨by decide, by decide⟩, rfl, by decide, Or.inr lc_9_280⟩, ⟨trivial, trivial⟩⟩⟩⟩⟩
def cd9_markers (t : Nat) : Option (List PI) := match t with
  | 0 => some bb9_markers_0
  | _ => none
theorem kd9_markers : ∀ t is, cd9_markers t = some is → okL m9_markers t is := by
  intro t is h
  unfold cd9_markers at h
  split at h <;> cases h
  · exact oo9_markers_0
theorem ff9_markers : mi_r m9_markers = (some .int) ∧ mi_l m9_markers = 1 ∧ mi_h m9_markers = [] ∧ (mi_rm m9_markers).cells = 0 ∧ (mi_rm m9_markers).slots = 0 ∧ (mi_rm m9_markers).locals = 96 ∧ cd9_markers 0 = some bb9_markers_0 ∧ (mi_rm m8_countMarkers).cells = 0 ∧ (mi_rm m8_countMarkers).slots = 0 := ⟨rfl, rfl, rfl, rfl, rfl, rfl, rfl, rfl, rfl⟩
def bb9_needLineOfAnyPage_0 : List PI := [(1, .iload_n 0, 0, 0, 0, 0, kZ), (3, .ifCond .lt 9, 10, 0, 0, 0, kZ), (1, .iload_n 0, 0, 0, 0, 0, kZ), (2, .bipush 10, 0, 0, 0, 0, kZ), (3, .if_icmp .lt 14, 21, 0, 0, 0, kZ)]
set_option maxRecDepth 100000 in
theorem oo9_needLineOfAnyPage_0 : okL m9_needLineOfAnyPage 0 bb9_needLineOfAnyPage_0 := okL_of _ _ (by decide +kernel) ⟨trivial, ⟨rfl, ⟨trivial, ⟨trivial, ⟨rfl, trivial⟩⟩⟩⟩⟩
def bb9_needLineOfAnyPage_10 : List PI := [(11, .athrow, 160, 366, 164, 0, (kX eIO "no page has such a line"))]
set_option maxRecDepth 100000 in
theorem oo9_needLineOfAnyPage_10 : okL m9_needLineOfAnyPage 10 bb9_needLineOfAnyPage_10 := okL_of _ _ (by decide +kernel) ⟨⟨by decide, rfl, at_9_366, by decide +kernel, by decide +kernel, Or.inr ⟨by decide +kernel, by decide +kernel, by decide +kernel⟩⟩, trivial⟩
def bb9_needLineOfAnyPage_21 : List PI := [(1, .return_, 0, 0, 0, 0, kZ)]
set_option maxRecDepth 100000 in
theorem oo9_needLineOfAnyPage_21 : okL m9_needLineOfAnyPage 21 bb9_needLineOfAnyPage_21 := okL_of _ _ (by decide +kernel) ⟨rfl, trivial⟩
def cd9_needLineOfAnyPage (t : Nat) : Option (List PI) := match t with
  | 0 => some bb9_needLineOfAnyPage_0
  | 10 => some bb9_needLineOfAnyPage_10
  | 21 => some bb9_needLineOfAnyPage_21
  | _ => none
theorem kd9_needLineOfAnyPage : ∀ t is, cd9_needLineOfAnyPage t = some is → okL m9_needLineOfAnyPage t is := by
  intro t is h
  unfold cd9_needLineOfAnyPage at h
  split at h <;> cases h
  · exact oo9_needLineOfAnyPage_0
  · exact oo9_needLineOfAnyPage_10
  · exact oo9_needLineOfAnyPage_21
theorem ff9_needLineOfAnyPage : mi_r m9_needLineOfAnyPage = none ∧ mi_l m9_needLineOfAnyPage = 1 ∧ mi_h m9_needLineOfAnyPage = [] ∧ (mi_rm m9_needLineOfAnyPage).cells = 1 ∧ (mi_rm m9_needLineOfAnyPage).slots = 6 ∧ (mi_rm m9_needLineOfAnyPage).locals = 84 ∧ cd9_needLineOfAnyPage 0 = some bb9_needLineOfAnyPage_0 ∧ cd9_needLineOfAnyPage 10 = some bb9_needLineOfAnyPage_10 ∧ cd9_needLineOfAnyPage 21 = some bb9_needLineOfAnyPage_21 := ⟨rfl, rfl, rfl, rfl, rfl, rfl, rfl, rfl, rfl⟩
theorem okt_m9_isReceived (pc : Nat) : okT m9_isReceived pc := fun y hy => by cases hy
def bb9_isReceived_0 : List PI := [(1, .iload_n 1, 0, 0, 0, 0, kZ), (3, .invokestatic 283, 1, 9, 1, 0, m9_needLineOfAnyPage), (1, .aload_n 0, 0, 0, 0, 0, kZ), (3, .getfield 12, 9, 0, 0, 0, kZ), (3, .getfield 92, 7, 2, 0, 0, kZ), (1, .iload_n 1, 0, 0, 0, 0, kZ), (3, .invokevirtual 286, 1, 6, 0, 0, m6_has), (1, .ireturn, 0, 0, 0, 0, kZ)]
set_option maxRecDepth 100000 in
theorem oo9_isReceived_0 : okL m9_isReceived 0 bb9_isReceived_0 := okL_of _ _ (by decide +kernel) ⟨trivial, ⟨⟨mok_m9_needLineOfAnyPage, ⟨by decide, by decide⟩, rfl, lc_9_283, okt_m9_isReceived _⟩, ⟨trivial, ⟨lf_9_12, ⟨lf_9_92, ⟨trivial, ⟨⟨mok_m6_has, ⟨by decide, by decide⟩, rfl, by decide, Or.inr lc_9_286⟩, ⟨trivial, trivial⟩⟩⟩⟩⟩⟩⟩⟩
def cd9_isReceived (t : Nat) : Option (List PI) := match t with
  | 0 => some bb9_isReceived_0
  | _ => none
theorem kd9_isReceived : ∀ t is, cd9_isReceived t = some is → okL m9_isReceived t is := by
  intro t is h
  unfold cd9_isReceived at h
  split at h <;> cases h
  · exact oo9_isReceived_0
theorem ff9_isReceived : mi_r m9_isReceived = (some .boolean) ∧ mi_l m9_isReceived = 2 ∧ mi_h m9_isReceived = [] ∧ (mi_rm m9_isReceived).cells = 1 ∧ (mi_rm m9_isReceived).slots = 6 ∧ (mi_rm m9_isReceived).locals = 104 ∧ cd9_isReceived 0 = some bb9_isReceived_0 ∧ (mi_rm m6_has).cells = 0 ∧ (mi_rm m6_has).slots = 0 ∧ (mi_rm m9_needLineOfAnyPage).cells = 1 ∧ (mi_rm m9_needLineOfAnyPage).slots = 6 := ⟨rfl, rfl, rfl, rfl, rfl, rfl, rfl, rfl, rfl, rfl, rfl⟩
theorem okt_m9_receivedPixels (pc : Nat) : okT m9_receivedPixels pc := fun y hy => by cases hy
def bb9_receivedPixels_0 : List PI := [(1, .iload_n 1, 0, 0, 0, 0, kZ), (3, .invokestatic 283, 1, 9, 1, 0, m9_needLineOfAnyPage), (1, .aload_n 0, 0, 0, 0, 0, kZ), (3, .getfield 12, 9, 0, 0, 0, kZ), (3, .getfield 92, 7, 2, 0, 0, kZ), (1, .iload_n 1, 0, 0, 0, 0, kZ), (3, .invokevirtual 286, 1, 6, 0, 0, m6_has), (3, .ifCond .ne 14, 29, 0, 0, 0, kZ), (11, .athrow, 104, 287, 108, 0, (kX eIS "the line is not received"))]
set_option maxRecDepth 100000 in
theorem oo9_receivedPixels_0 : okL m9_receivedPixels 0 bb9_receivedPixels_0 := okL_of _ _ (by decide +kernel) ⟨trivial, ⟨⟨mok_m9_needLineOfAnyPage, ⟨by decide, by decide⟩, rfl, lc_9_283, okt_m9_receivedPixels _⟩, ⟨trivial, ⟨lf_9_12, ⟨lf_9_92, ⟨trivial, ⟨⟨mok_m6_has, ⟨by decide, by decide⟩, rfl, by decide, Or.inr lc_9_286⟩, ⟨rfl, ⟨⟨by decide, rfl, at_9_287, by decide +kernel, by decide +kernel, Or.inr ⟨by decide +kernel, by decide +kernel, by decide +kernel⟩⟩, trivial⟩⟩⟩⟩⟩⟩⟩⟩⟩
def bb9_receivedPixels_29 : List PI := [(1, .aload_n 0, 0, 0, 0, 0, kZ), (3, .getfield 12, 9, 0, 0, 0, kZ), (3, .getfield 92, 7, 2, 0, 0, kZ), (1, .iload_n 1, 0, 0, 0, 0, kZ), (3, .invokevirtual 289, 1, 6, 0, 0, m6_rowOf), (1, .lreturn, 0, 0, 0, 0, kZ)]
set_option maxRecDepth 100000 in
theorem oo9_receivedPixels_29 : okL m9_receivedPixels 29 bb9_receivedPixels_29 := okL_of _ _ (by decide +kernel) ⟨trivial, ⟨lf_9_12, ⟨lf_9_92, ⟨trivial, ⟨⟨mok_m6_rowOf, ⟨by decide, by decide⟩, rfl, by decide, Or.inr lc_9_289⟩, ⟨rfl, trivial⟩⟩⟩⟩⟩⟩
def cd9_receivedPixels (t : Nat) : Option (List PI) := match t with
  | 0 => some bb9_receivedPixels_0
  | 29 => some bb9_receivedPixels_29
  | _ => none
theorem kd9_receivedPixels : ∀ t is, cd9_receivedPixels t = some is → okL m9_receivedPixels t is := by
  intro t is h
  unfold cd9_receivedPixels at h
  split at h <;> cases h
  · exact oo9_receivedPixels_0
  · exact oo9_receivedPixels_29
theorem ff9_receivedPixels : mi_r m9_receivedPixels = (some .long) ∧ mi_l m9_receivedPixels = 2 ∧ mi_h m9_receivedPixels = [] ∧ (mi_rm m9_receivedPixels).cells = 2 ∧ (mi_rm m9_receivedPixels).slots = 12 ∧ (mi_rm m9_receivedPixels).locals = 104 ∧ cd9_receivedPixels 0 = some bb9_receivedPixels_0 ∧ cd9_receivedPixels 29 = some bb9_receivedPixels_29 ∧ (mi_rm m6_has).cells = 0 ∧ (mi_rm m6_has).slots = 0 ∧ (mi_rm m6_rowOf).cells = 0 ∧ (mi_rm m6_rowOf).slots = 0 ∧ (mi_rm m9_needLineOfAnyPage).cells = 1 ∧ (mi_rm m9_needLineOfAnyPage).slots = 6 := ⟨rfl, rfl, rfl, rfl, rfl, rfl, rfl, rfl, rfl, rfl, rfl, rfl, rfl, rfl⟩
def bb9_received_0 : List PI := [(1, .aload_n 0, 0, 0, 0, 0, kZ), (3, .getfield 12, 9, 0, 0, 0, kZ), (3, .getfield 92, 7, 2, 0, 0, kZ), (3, .invokevirtual 176, 0, 6, 0, 0, m6_count), (1, .ireturn, 0, 0, 0, 0, kZ)]
set_option maxRecDepth 100000 in
theorem oo9_received_0 : okL m9_received 0 bb9_received_0 := okL_of _ _ (by decide +kernel) ⟨trivial, ⟨lf_9_12, ⟨lf_9_92, ⟨⟨mok_m6_count, ⟨by decide, by decide⟩, rfl, by decide, Or.inr lc_9_176⟩, ⟨trivial, trivial⟩⟩⟩⟩⟩
def cd9_received (t : Nat) : Option (List PI) := match t with
  | 0 => some bb9_received_0
  | _ => none
theorem kd9_received : ∀ t is, cd9_received t = some is → okL m9_received t is := by
  intro t is h
  unfold cd9_received at h
  split at h <;> cases h
  · exact oo9_received_0
theorem ff9_received : mi_r m9_received = (some .int) ∧ mi_l m9_received = 1 ∧ mi_h m9_received = [] ∧ (mi_rm m9_received).cells = 0 ∧ (mi_rm m9_received).slots = 0 ∧ (mi_rm m9_received).locals = 72 ∧ cd9_received 0 = some bb9_received_0 ∧ (mi_rm m6_count).cells = 0 ∧ (mi_rm m6_count).slots = 0 := ⟨rfl, rfl, rfl, rfl, rfl, rfl, rfl, rfl, rfl⟩
def bb9_right_0 : List PI := [(1, .aload_n 0, 0, 0, 0, 0, kZ), (3, .getfield 12, 9, 0, 0, 0, kZ), (3, .getfield 92, 7, 2, 0, 0, kZ), (1, .aload_n 0, 0, 0, 0, 0, kZ), (3, .getfield 12, 9, 0, 0, 0, kZ), (3, .getfield 69, 7, 0, 0, 0, kZ), (3, .invokevirtual 290, 1, 6, 0, 0, m6_countAlike), (1, .ireturn, 0, 0, 0, 0, kZ)]
set_option maxRecDepth 100000 in
theorem oo9_right_0 : okL m9_right 0 bb9_right_0 := okL_of _ _ (by decide +kernel) ⟨trivial, ⟨lf_9_12, ⟨lf_9_92, ⟨trivial, ⟨lf_9_12, ⟨lf_9_69, ⟨⟨mok_m6_countAlike, ⟨by decide, by decide⟩, rfl, by decide, Or.inr lc_9_290⟩, ⟨trivial, trivial⟩⟩⟩⟩⟩⟩⟩⟩
def cd9_right (t : Nat) : Option (List PI) := match t with
  | 0 => some bb9_right_0
  | _ => none
theorem kd9_right : ∀ t is, cd9_right t = some is → okL m9_right t is := by
  intro t is h
  unfold cd9_right at h
  split at h <;> cases h
  · exact oo9_right_0
theorem ff9_right : mi_r m9_right = (some .int) ∧ mi_l m9_right = 1 ∧ mi_h m9_right = [] ∧ (mi_rm m9_right).cells = 0 ∧ (mi_rm m9_right).slots = 0 ∧ (mi_rm m9_right).locals = 97 ∧ cd9_right 0 = some bb9_right_0 ∧ (mi_rm m6_countAlike).cells = 0 ∧ (mi_rm m6_countAlike).slots = 0 := ⟨rfl, rfl, rfl, rfl, rfl, rfl, rfl, rfl, rfl⟩
def bb9_errors_0 : List PI := [(1, .aload_n 0, 0, 0, 0, 0, kZ), (3, .getfield 12, 9, 0, 0, 0, kZ), (3, .getfield 92, 7, 2, 0, 0, kZ), (3, .getfield 294, 6, 2, 0, 0, kZ), (1, .ireturn, 0, 0, 0, 0, kZ)]
set_option maxRecDepth 100000 in
theorem oo9_errors_0 : okL m9_errors 0 bb9_errors_0 := okL_of _ _ (by decide +kernel) ⟨trivial, ⟨lf_9_12, ⟨lf_9_92, ⟨lf_9_294, ⟨trivial, trivial⟩⟩⟩⟩⟩
def cd9_errors (t : Nat) : Option (List PI) := match t with
  | 0 => some bb9_errors_0
  | _ => none
theorem kd9_errors : ∀ t is, cd9_errors t = some is → okL m9_errors t is := by
  intro t is h
  unfold cd9_errors at h
  split at h <;> cases h
  · exact oo9_errors_0
theorem ff9_errors : mi_r m9_errors = (some .int) ∧ mi_l m9_errors = 1 ∧ mi_h m9_errors = [] ∧ (mi_rm m9_errors).cells = 0 ∧ (mi_rm m9_errors).slots = 0 ∧ (mi_rm m9_errors).locals = 32 ∧ cd9_errors 0 = some bb9_errors_0 := ⟨rfl, rfl, rfl, rfl, rfl, rfl, rfl⟩
def bb9_needError_0 : List PI := [(1, .aload_n 0, 0, 0, 0, 0, kZ), (3, .getfield 12, 9, 0, 0, 0, kZ), (3, .getfield 92, 7, 2, 0, 0, kZ), (1, .iload_n 1, 0, 0, 0, 0, kZ), (3, .invokevirtual 369, 1, 6, 0, 0, m6_hasError), (3, .ifCond .ne 14, 25, 0, 0, 0, kZ), (11, .athrow, 160, 372, 164, 0, (kX eIO "no such error"))]
set_option maxRecDepth 100000 in
theorem oo9_needError_0 : okL m9_needError 0 bb9_needError_0 := okL_of _ _ (by decide +kernel) ⟨trivial, ⟨lf_9_12, ⟨lf_9_92, ⟨trivial, ⟨⟨mok_m6_hasError, ⟨by decide, by decide⟩, rfl, by decide, Or.inr lc_9_369⟩, ⟨rfl, ⟨⟨by decide, rfl, at_9_372, by decide +kernel, by decide +kernel, Or.inr ⟨by decide +kernel, by decide +kernel, by decide +kernel⟩⟩, trivial⟩⟩⟩⟩⟩⟩⟩
def bb9_needError_25 : List PI := [(1, .return_, 0, 0, 0, 0, kZ)]
set_option maxRecDepth 100000 in
theorem oo9_needError_25 : okL m9_needError 25 bb9_needError_25 := okL_of _ _ (by decide +kernel) ⟨rfl, trivial⟩
def cd9_needError (t : Nat) : Option (List PI) := match t with
  | 0 => some bb9_needError_0
  | 25 => some bb9_needError_25
  | _ => none
theorem kd9_needError : ∀ t is, cd9_needError t = some is → okL m9_needError t is := by
  intro t is h
  unfold cd9_needError at h
  split at h <;> cases h
  · exact oo9_needError_0
  · exact oo9_needError_25
theorem ff9_needError : mi_r m9_needError = none ∧ mi_l m9_needError = 2 ∧ mi_h m9_needError = [] ∧ (mi_rm m9_needError).cells = 1 ∧ (mi_rm m9_needError).slots = 6 ∧ (mi_rm m9_needError).locals = 84 ∧ cd9_needError 0 = some bb9_needError_0 ∧ cd9_needError 25 = some bb9_needError_25 ∧ (mi_rm m6_hasError).cells = 0 ∧ (mi_rm m6_hasError).slots = 0 := ⟨rfl, rfl, rfl, rfl, rfl, rfl, rfl, rfl, rfl, rfl⟩

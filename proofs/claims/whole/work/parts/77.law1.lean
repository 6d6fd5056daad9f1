/-! THE LAW'S CODE, 1 -/
def bbL_law_0 : List PI := [(3, .new 8, 9, 0, 0, 0, kZ), (1, .dup, 0, 0, 0, 0, kZ), (3, .invokespecial 104, 0, 9, 0, 0, m9_init), (1, .astore_n 1, 0, 0, 0, 0, kZ), (3, .new 105, 10, 0, 0, 0, kZ), (1, .dup, 0, 0, 0, 0, kZ), (3, .invokespecial 107, 0, 10, 0, 0, m10_init), (1, .astore_n 2, 0, 0, 0, 0, kZ), (1, .iconst 1, 0, 0, 0, 0, kZ), (2, .newarray .long, 1, 0, 0, 0, kZ), (1, .astore_n 3, 0, 0, 0, 0, kZ), (1, .iconst 0, 0, 0, 0, 0, kZ), (2, .istore 4, 0, 0, 0, 0, kZ)]
set_option maxRecDepth 100000 in
theorem ooL_law_0 (n : String) (h : List ((Nat × Nat × Nat × Nat) × String)) : okL (mLL n h) 0 bbL_law_0 := okL_of _ _ (show dB code 9 0 bbL_law_0 = true by decide +kernel) ⟨ln_L_8, ⟨trivial, ⟨⟨mok_m9_init, rmLL _ _ (by decide) (by decide), rfl, Or.inl lc_L_104⟩, ⟨trivial, ⟨ln_L_105, ⟨trivial, ⟨⟨mok_m10_init, rmLL _ _ (by decide) (by decide), rfl, Or.inl lc_L_107⟩, ⟨trivial, ⟨trivial, ⟨la_1, ⟨trivial, ⟨trivial, ⟨trivial, trivial⟩⟩⟩⟩⟩⟩⟩⟩⟩⟩⟩⟩⟩
def bbL_law_23 : List PI := [(2, .iload 4, 0, 0, 0, 0, kZ), (1, .aload_n 0, 0, 0, 0, 0, kZ), (1, .arraylength, 0, 0, 0, 0, kZ), (1, .iconst 4, 0, 0, 0, 0, kZ), (1, .isub, 0, 0, 0, 0, kZ), (3, .if_icmp .gt 2146, 2175, 0, 0, 0, kZ), (1, .aload_n 0, 0, 0, 0, 0, kZ), (2, .iload 4, 0, 0, 0, 0, kZ), (1, .iaload, 0, 0, 0, 0, kZ), (2, .bipush 63, 0, 0, 0, 0, kZ), (1, .iand, 0, 0, 0, 0, kZ), (205, .tableswitch 2130 0 47 #[205, 261, 349, 448, 492, 548, 561, 629, 685, 753, 766, 822, 835, 848, 892, 905, 949, 993, 1006, 1050, 1063, 1076, 1089, 1102, 1157, 1232, 1288, 1344, 1357, 1425, 1493, 1549, 1617, 1630, 1643, 1699, 1712, 1775, 1830, 1843, 1856, 1869, 1925, 1981, 1994, 2007, 2075, 2116], 2169, 0, 0, 0, kZ)]
set_option maxRecDepth 100000 in
theorem ooL_law_23 (n : String) (h : List ((Nat × Nat × Nat × Nat) × String)) : okL (mLL n h) 23 bbL_law_23 := okL_of _ _ (show dB code 9 23 bbL_law_23 = true by decide +kernel) ⟨trivial, ⟨trivial, ⟨trivial, ⟨trivial, ⟨trivial, ⟨rfl, ⟨trivial, ⟨trivial, ⟨trivial, ⟨trivial, ⟨trivial, ⟨⟨by decide, by decide, by decide⟩, trivial⟩⟩⟩⟩⟩⟩⟩⟩⟩⟩⟩⟩
def bbL_law_2169 : List PI := [(3, .iinc 4 4, 0, 0, 0, 0, kZ), (3, .goto (-2149), 23, 0, 0, 0, kZ)]
set_option maxRecDepth 100000 in
theorem ooL_law_2169 (n : String) (h : List ((Nat × Nat × Nat × Nat) × String)) : okL (mLL n h) 2169 bbL_law_2169 := okL_of _ _ (show dB code 9 2169 bbL_law_2169 = true by decide +kernel) ⟨trivial, ⟨rfl, trivial⟩⟩
def bbL_law_2175 : List PI := [(1, .iconst 1, 0, 0, 0, 0, kZ), (1, .ireturn, 0, 0, 0, 0, kZ)]
set_option maxRecDepth 100000 in
theorem ooL_law_2175 (n : String) (h : List ((Nat × Nat × Nat × Nat) × String)) : okL (mLL n h) 2175 bbL_law_2175 := okL_of _ _ (show dB code 9 2175 bbL_law_2175 = true by decide +kernel) ⟨trivial, ⟨trivial, trivial⟩⟩
def cdc_0 (t : Nat) : Option (List PI) := match t with
  | 0 => some bbL_law_0
  | _ => none
theorem kdc_0 (n : String) (h : List ((Nat × Nat × Nat × Nat) × String)) : ∀ t is, cdc_0 t = some is → okL (mLL n h) t is := by
  intro t is hh
  unfold cdc_0 at hh
  split at hh <;> cases hh
  · exact ooL_law_0 n h
theorem ffc_0 (n : String) (h : List ((Nat × Nat × Nat × Nat) × String)) : mi_r (mLL n h) = some .boolean ∧ mi_l (mLL n h) = 9 ∧ (mi_rm (mLL n h)).cells = 601024 ∧ (mi_rm (mLL n h)).slots = 7293034 := ⟨rfl, rfl, rfl, rfl⟩
theorem ffk_0 : cdc_0 0 = some bbL_law_0 ∧ cdc_0 23 = none ∧ (mi_rm m9_init).cells = 76 ∧ (mi_rm m9_init).slots = 4277 ∧ (mi_rm m10_init).cells = 8 ∧ (mi_rm m10_init).slots = 4862 := ⟨rfl, rfl, rfl, rfl, rfl, rfl⟩
def cdc_23 (t : Nat) : Option (List PI) := match t with
  | 23 => some bbL_law_23
  | 2175 => some bbL_law_2175
  | _ => none
theorem kdc_23 (n : String) (h : List ((Nat × Nat × Nat × Nat) × String)) : ∀ t is, cdc_23 t = some is → okL (mLL n h) t is := by
  intro t is hh
  unfold cdc_23 at hh
  split at hh <;> cases hh
  · exact ooL_law_23 n h
  · exact ooL_law_2175 n h
theorem ffc_23 (n : String) (h : List ((Nat × Nat × Nat × Nat) × String)) : mi_r (mLL n h) = some .boolean ∧ mi_l (mLL n h) = 9 ∧ (mi_rm (mLL n h)).cells = 601024 ∧ (mi_rm (mLL n h)).slots = 7293034 := ⟨rfl, rfl, rfl, rfl⟩
theorem ffk_23 : cdc_23 23 = some bbL_law_23 ∧ cdc_23 244 = none ∧ cdc_23 300 = none ∧ cdc_23 388 = none ∧ cdc_23 487 = none ∧ cdc_23 531 = none ∧ cdc_23 587 = none ∧ cdc_23 600 = none ∧ cdc_23 668 = none ∧ cdc_23 724 = none ∧ cdc_23 792 = none ∧ cdc_23 805 = none ∧ cdc_23 861 = none ∧ cdc_23 874 = none ∧ cdc_23 887 = none ∧ cdc_23 931 = none ∧ cdc_23 944 = none ∧ cdc_23 988 = none ∧ cdc_23 1032 = none ∧ cdc_23 1045 = none ∧ cdc_23 1089 = none ∧ cdc_23 1102 = none ∧ cdc_23 1115 = none ∧ cdc_23 1128 = none ∧ cdc_23 1141 = none ∧ cdc_23 1196 = none ∧ cdc_23 1271 = none ∧ cdc_23 1327 = none ∧ cdc_23 1383 = none ∧ cdc_23 1396 = none ∧ cdc_23 1464 = none ∧ cdc_23 1532 = none ∧ cdc_23 1588 = none ∧ cdc_23 1656 = none ∧ cdc_23 1669 = none ∧ cdc_23 1682 = none ∧ cdc_23 1738 = none ∧ cdc_23 1751 = none ∧ cdc_23 1814 = none ∧ cdc_23 1869 = none ∧ cdc_23 1882 = none ∧ cdc_23 1895 = none ∧ cdc_23 1908 = none ∧ cdc_23 1964 = none ∧ cdc_23 2020 = none ∧ cdc_23 2033 = none ∧ cdc_23 2046 = none ∧ cdc_23 2114 = none ∧ cdc_23 2155 = none ∧ cdc_23 2169 = none ∧ cdc_23 2175 = some bbL_law_2175 := ⟨rfl, rfl, rfl, rfl, rfl, rfl, rfl, rfl, rfl, rfl, rfl, rfl, rfl, rfl, rfl, rfl, rfl, rfl, rfl, rfl, rfl, rfl, rfl, rfl, rfl, rfl, rfl, rfl, rfl, rfl, rfl, rfl, rfl, rfl, rfl, rfl, rfl, rfl, rfl, rfl, rfl, rfl, rfl, rfl, rfl, rfl, rfl, rfl, rfl, rfl, rfl⟩
def cdc_2169 (t : Nat) : Option (List PI) := match t with
  | 2169 => some bbL_law_2169
  | _ => none
theorem kdc_2169 (n : String) (h : List ((Nat × Nat × Nat × Nat) × String)) : ∀ t is, cdc_2169 t = some is → okL (mLL n h) t is := by
  intro t is hh
  unfold cdc_2169 at hh
  split at hh <;> cases hh
  · exact ooL_law_2169 n h
theorem ffc_2169 (n : String) (h : List ((Nat × Nat × Nat × Nat) × String)) : mi_r (mLL n h) = some .boolean ∧ mi_l (mLL n h) = 9 ∧ (mi_rm (mLL n h)).cells = 601024 ∧ (mi_rm (mLL n h)).slots = 7293034 := ⟨rfl, rfl, rfl, rfl⟩
theorem ffk_2169 : cdc_2169 23 = none ∧ cdc_2169 2169 = some bbL_law_2169 := ⟨rfl, rfl⟩
def bbL_law_244 : List PI := [(1, .aload_n 1, 0, 0, 0, 0, kZ), (1, .aload_n 0, 0, 0, 0, 0, kZ), (2, .iload 4, 0, 0, 0, 0, kZ), (1, .iconst 1, 0, 0, 0, 0, kZ), (1, .iadd, 0, 0, 0, 0, kZ), (1, .iaload, 0, 0, 0, 0, kZ), (1, .aload_n 3, 0, 0, 0, 0, kZ), (3, .invokestatic 108, 3, 0, 2, 0, mL_setWidth), (2, .istore 5, 0, 0, 0, 0, kZ), (1, .aload_n 2, 0, 0, 0, 0, kZ), (1, .aload_n 0, 0, 0, 0, 0, kZ), (2, .iload 4, 0, 0, 0, 0, kZ), (1, .iconst 1, 0, 0, 0, 0, kZ), (1, .iadd, 0, 0, 0, 0, kZ), (1, .iaload, 0, 0, 0, 0, kZ), (3, .invokevirtual 113, 1, 10, 0, 0, m10_setWidth), (2, .istore 6, 0, 0, 0, 0, kZ), (1, .aload_n 2, 0, 0, 0, 0, kZ), (3, .invokevirtual 114, 0, 10, 0, 0, m10_thrown), (2, .iload 5, 0, 0, 0, 0, kZ), (3, .if_icmp .eq 5, 280, 0, 0, 0, kZ), (1, .iconst 0, 0, 0, 0, 0, kZ), (1, .ireturn, 0, 0, 0, 0, kZ)]
set_option maxRecDepth 100000 in
theorem ooL_law_244 (n : String) (h : List ((Nat × Nat × Nat × Nat) × String)) : okL (mLL n h) 244 bbL_law_244 := okL_of _ _ (show dB code 9 244 bbL_law_244 = true by decide +kernel) ⟨trivial, ⟨trivial, ⟨trivial, ⟨trivial, ⟨trivial, ⟨trivial, ⟨trivial, ⟨⟨mok_mL_setWidth, rmLL _ _ (by decide) (by decide), lc_L_108, by decide⟩, ⟨trivial, ⟨trivial, ⟨trivial, ⟨trivial, ⟨trivial, ⟨trivial, ⟨trivial, ⟨⟨mok_m10_setWidth, rmLL _ _ (by decide) (by decide), rfl, by decide, Or.inl lc_L_113⟩, ⟨trivial, ⟨trivial, ⟨⟨mok_m10_thrown, rmLL _ _ (by decide) (by decide), rfl, by decide, Or.inl lc_L_114⟩, ⟨trivial, ⟨rfl, ⟨trivial, ⟨trivial, trivial⟩⟩⟩⟩⟩⟩⟩⟩⟩⟩⟩⟩⟩⟩⟩⟩⟩⟩⟩⟩⟩⟩⟩
def bbL_law_280 : List PI := [(2, .iload 5, 0, 0, 0, 0, kZ), (3, .ifCond .ne 15, 297, 0, 0, 0, kZ), (1, .aload_n 3, 0, 0, 0, 0, kZ), (1, .iconst 0, 0, 0, 0, 0, kZ), (1, .laload, 0, 0, 0, 0, kZ), (2, .iload 6, 0, 0, 0, 0, kZ), (1, .i2l, 0, 0, 0, 0, kZ), (1, .lcmp, 0, 0, 0, 0, kZ), (3, .ifCond .eq 5, 297, 0, 0, 0, kZ), (1, .iconst 0, 0, 0, 0, 0, kZ), (1, .ireturn, 0, 0, 0, 0, kZ)]
set_option maxRecDepth 100000 in
theorem ooL_law_280 (n : String) (h : List ((Nat × Nat × Nat × Nat) × String)) : okL (mLL n h) 280 bbL_law_280 := okL_of _ _ (show dB code 9 280 bbL_law_280 = true by decide +kernel) ⟨trivial, ⟨rfl, ⟨trivial, ⟨trivial, ⟨trivial, ⟨trivial, ⟨trivial, ⟨trivial, ⟨rfl, ⟨trivial, ⟨trivial, trivial⟩⟩⟩⟩⟩⟩⟩⟩⟩⟩⟩
def bbL_law_297 : List PI := [(3, .goto 1872, 2169, 0, 0, 0, kZ)]
set_option maxRecDepth 100000 in
theorem ooL_law_297 (n : String) (h : List ((Nat × Nat × Nat × Nat) × String)) : okL (mLL n h) 297 bbL_law_297 := okL_of _ _ (show dB code 9 297 bbL_law_297 = true by decide +kernel) ⟨rfl, trivial⟩
def cdc_244 (t : Nat) : Option (List PI) := match t with
  | 244 => some bbL_law_244
  | 280 => some bbL_law_280
  | 297 => some bbL_law_297
  | _ => none
theorem kdc_244 (n : String) (h : List ((Nat × Nat × Nat × Nat) × String)) : ∀ t is, cdc_244 t = some is → okL (mLL n h) t is := by
  intro t is hh
  unfold cdc_244 at hh
  split at hh <;> cases hh
  · exact ooL_law_244 n h
  · exact ooL_law_280 n h
  · exact ooL_law_297 n h
theorem ffc_244 (n : String) (h : List ((Nat × Nat × Nat × Nat) × String)) : mi_r (mLL n h) = some .boolean ∧ mi_l (mLL n h) = 9 ∧ (mi_rm (mLL n h)).cells = 601024 ∧ (mi_rm (mLL n h)).slots = 7293034 := ⟨rfl, rfl, rfl, rfl⟩
theorem ffk_244 : cdc_244 244 = some bbL_law_244 ∧ cdc_244 280 = some bbL_law_280 ∧ cdc_244 297 = some bbL_law_297 ∧ cdc_244 2169 = none ∧ (mi_rm mL_setWidth).cells = 1 ∧ (mi_rm mL_setWidth).slots = 6 ∧ (mi_rm m10_setWidth).cells = 0 ∧ (mi_rm m10_setWidth).slots = 0 ∧ (mi_rm m10_thrown).cells = 0 ∧ (mi_rm m10_thrown).slots = 0 := ⟨rfl, rfl, rfl, rfl, rfl, rfl, rfl, rfl, rfl, rfl⟩
def bbL_law_300 : List PI := [(1, .aload_n 1, 0, 0, 0, 0, kZ), (1, .aload_n 0, 0, 0, 0, 0, kZ), (2, .iload 4, 0, 0, 0, 0, kZ), (1, .iconst 1, 0, 0, 0, 0, kZ), (1, .iadd, 0, 0, 0, 0, kZ), (1, .iaload, 0, 0, 0, 0, kZ), (1, .i2l, 0, 0, 0, 0, kZ), (2, .bipush 32, 0, 0, 0, 0, kZ), (1, .lshl, 0, 0, 0, 0, kZ), (1, .aload_n 0, 0, 0, 0, 0, kZ), (2, .iload 4, 0, 0, 0, 0, kZ), (1, .iconst 2, 0, 0, 0, 0, kZ), (1, .iadd, 0, 0, 0, 0, kZ), (1, .iaload, 0, 0, 0, 0, kZ), (1, .i2l, 0, 0, 0, 0, kZ), (3, .ldc2_w 117, 0, 0, 0, 4294967295, kZ), (1, .land, 0, 0, 0, 0, kZ), (1, .lor, 0, 0, 0, 0, kZ), (1, .aload_n 3, 0, 0, 0, 0, kZ), (3, .invokestatic 119, 3, 0, 2, 0, mL_addLine), (2, .istore 5, 0, 0, 0, 0, kZ), (1, .aload_n 2, 0, 0, 0, 0, kZ), (1, .aload_n 0, 0, 0, 0, 0, kZ), (2, .iload 4, 0, 0, 0, 0, kZ), (1, .iconst 1, 0, 0, 0, 0, kZ), (1, .iadd, 0, 0, 0, 0, kZ), (1, .iaload, 0, 0, 0, 0, kZ), (1, .i2l, 0, 0, 0, 0, kZ), (2, .bipush 32, 0, 0, 0, 0, kZ), (1, .lshl, 0, 0, 0, 0, kZ), (1, .aload_n 0, 0, 0, 0, 0, kZ), (2, .iload 4, 0, 0, 0, 0, kZ), (1, .iconst 2, 0, 0, 0, 0, kZ), (1, .iadd, 0, 0, 0, 0, kZ), (1, .iaload, 0, 0, 0, 0, kZ), (1, .i2l, 0, 0, 0, 0, kZ), (3, .ldc2_w 117, 0, 0, 0, 4294967295, kZ), (1, .land, 0, 0, 0, 0, kZ), (1, .lor, 0, 0, 0, 0, kZ), (3, .invokevirtual 122, 1, 10, 0, 0, m10_addLine), (2, .istore 6, 0, 0, 0, 0, kZ), (1, .aload_n 2, 0, 0, 0, 0, kZ), (3, .invokevirtual 114, 0, 10, 0, 0, m10_thrown), (2, .iload 5, 0, 0, 0, 0, kZ), (3, .if_icmp .eq 5, 368, 0, 0, 0, kZ), (1, .iconst 0, 0, 0, 0, 0, kZ), (1, .ireturn, 0, 0, 0, 0, kZ)]
set_option maxRecDepth 100000 in
theorem ooL_law_300 (n : String) (h : List ((Nat × Nat × Nat × Nat) × String)) : okL (mLL n h) 300 bbL_law_300 := okL_of _ _ (show dB code 9 300 bbL_law_300 = true by decide +kernel) ⟨trivial, ⟨trivial, ⟨trivial, ⟨trivial, ⟨trivial, ⟨trivial, ⟨trivial, ⟨trivial, ⟨trivial, ⟨trivial, ⟨trivial, ⟨trivial, ⟨trivial, ⟨trivial, ⟨trivial, ⟨lk_L_117, ⟨trivial, ⟨trivial, ⟨trivial, ⟨⟨mok_mL_addLine, rmLL _ _ (by decide) (by decide), lc_L_119, by decide⟩, ⟨trivial, ⟨trivial, ⟨trivial, ⟨trivial, ⟨trivial, ⟨trivial, ⟨trivial, ⟨trivial, ⟨trivial, ⟨trivial, ⟨trivial, ⟨trivial, ⟨trivial, ⟨trivial, ⟨trivial, ⟨trivial, ⟨lk_L_117, ⟨trivial, ⟨trivial, ⟨⟨mok_m10_addLine, rmLL _ _ (by decide) (by decide), rfl, by decide, Or.inl lc_L_122⟩, ⟨trivial, ⟨trivial, ⟨⟨mok_m10_thrown, rmLL _ _ (by decide) (by decide), rfl, by decide, Or.inl lc_L_114⟩, ⟨trivial, ⟨rfl, ⟨trivial, ⟨trivial, trivial⟩⟩⟩⟩⟩⟩⟩⟩⟩⟩⟩⟩⟩⟩⟩⟩⟩⟩⟩⟩⟩⟩⟩⟩⟩⟩⟩⟩⟩⟩⟩⟩⟩⟩⟩⟩⟩⟩⟩⟩⟩⟩⟩⟩⟩⟩⟩
def bbL_law_368 : List PI := [(2, .iload 5, 0, 0, 0, 0, kZ), (3, .ifCond .ne 15, 385, 0, 0, 0, kZ), (1, .aload_n 3, 0, 0, 0, 0, kZ), (1, .iconst 0, 0, 0, 0, 0, kZ), (1, .laload, 0, 0, 0, 0, kZ), (2, .iload 6, 0, 0, 0, 0, kZ), (1, .i2l, 0, 0, 0, 0, kZ), (1, .lcmp, 0, 0, 0, 0, kZ), (3, .ifCond .eq 5, 385, 0, 0, 0, kZ), (1, .iconst 0, 0, 0, 0, 0, kZ), (1, .ireturn, 0, 0, 0, 0, kZ)]
set_option maxRecDepth 100000 in
theorem ooL_law_368 (n : String) (h : List ((Nat × Nat × Nat × Nat) × String)) : okL (mLL n h) 368 bbL_law_368 := okL_of _ _ (show dB code 9 368 bbL_law_368 = true by decide +kernel) ⟨trivial, ⟨rfl, ⟨trivial, ⟨trivial, ⟨trivial, ⟨trivial, ⟨trivial, ⟨trivial, ⟨rfl, ⟨trivial, ⟨trivial, trivial⟩⟩⟩⟩⟩⟩⟩⟩⟩⟩⟩
def bbL_law_385 : List PI := [(3, .goto 1784, 2169, 0, 0, 0, kZ)]
set_option maxRecDepth 100000 in
theorem ooL_law_385 (n : String) (h : List ((Nat × Nat × Nat × Nat) × String)) : okL (mLL n h) 385 bbL_law_385 := okL_of _ _ (show dB code 9 385 bbL_law_385 = true by decide +kernel) ⟨rfl, trivial⟩
def cdc_300 (t : Nat) : Option (List PI) := match t with
  | 300 => some bbL_law_300
  | 368 => some bbL_law_368
  | 385 => some bbL_law_385
  | _ => none
theorem kdc_300 (n : String) (h : List ((Nat × Nat × Nat × Nat) × String)) : ∀ t is, cdc_300 t = some is → okL (mLL n h) t is := by
  intro t is hh
  unfold cdc_300 at hh
  split at hh <;> cases hh
  · exact ooL_law_300 n h
  · exact ooL_law_368 n h
  · exact ooL_law_385 n h
theorem ffc_300 (n : String) (h : List ((Nat × Nat × Nat × Nat) × String)) : mi_r (mLL n h) = some .boolean ∧ mi_l (mLL n h) = 9 ∧ (mi_rm (mLL n h)).cells = 601024 ∧ (mi_rm (mLL n h)).slots = 7293034 := ⟨rfl, rfl, rfl, rfl⟩
theorem ffk_300 : cdc_300 300 = some bbL_law_300 ∧ cdc_300 368 = some bbL_law_368 ∧ cdc_300 385 = some bbL_law_385 ∧ cdc_300 2169 = none ∧ (mi_rm mL_addLine).cells = 2 ∧ (mi_rm mL_addLine).slots = 12 ∧ (mi_rm m10_addLine).cells = 0 ∧ (mi_rm m10_addLine).slots = 0 ∧ (mi_rm m10_thrown).cells = 0 ∧ (mi_rm m10_thrown).slots = 0 := ⟨rfl, rfl, rfl, rfl, rfl, rfl, rfl, rfl, rfl, rfl⟩
def bbL_law_388 : List PI := [(1, .aload_n 1, 0, 0, 0, 0, kZ), (1, .aload_n 0, 0, 0, 0, 0, kZ), (2, .iload 4, 0, 0, 0, 0, kZ), (1, .iconst 1, 0, 0, 0, 0, kZ), (1, .iadd, 0, 0, 0, 0, kZ), (1, .iaload, 0, 0, 0, 0, kZ), (1, .aload_n 0, 0, 0, 0, 0, kZ), (2, .iload 4, 0, 0, 0, 0, kZ), (1, .iconst 2, 0, 0, 0, 0, kZ), (1, .iadd, 0, 0, 0, 0, kZ), (1, .iaload, 0, 0, 0, 0, kZ), (1, .i2l, 0, 0, 0, 0, kZ), (2, .bipush 32, 0, 0, 0, 0, kZ), (1, .lshl, 0, 0, 0, 0, kZ), (1, .aload_n 0, 0, 0, 0, 0, kZ), (2, .iload 4, 0, 0, 0, 0, kZ), (1, .iconst 3, 0, 0, 0, 0, kZ), (1, .iadd, 0, 0, 0, 0, kZ), (1, .iaload, 0, 0, 0, 0, kZ), (1, .i2l, 0, 0, 0, 0, kZ), (3, .ldc2_w 117, 0, 0, 0, 4294967295, kZ), (1, .land, 0, 0, 0, 0, kZ), (1, .lor, 0, 0, 0, 0, kZ), (1, .aload_n 3, 0, 0, 0, 0, kZ), (3, .invokestatic 123, 4, 0, 2, 0, mL_setLine), (2, .istore 5, 0, 0, 0, 0, kZ), (1, .aload_n 2, 0, 0, 0, 0, kZ), (1, .aload_n 0, 0, 0, 0, 0, kZ), (2, .iload 4, 0, 0, 0, 0, kZ), (1, .iconst 1, 0, 0, 0, 0, kZ), (1, .iadd, 0, 0, 0, 0, kZ), (1, .iaload, 0, 0, 0, 0, kZ), (1, .aload_n 0, 0, 0, 0, 0, kZ), (2, .iload 4, 0, 0, 0, 0, kZ), (1, .iconst 2, 0, 0, 0, 0, kZ), (1, .iadd, 0, 0, 0, 0, kZ), (1, .iaload, 0, 0, 0, 0, kZ), (1, .i2l, 0, 0, 0, 0, kZ), (2, .bipush 32, 0, 0, 0, 0, kZ), (1, .lshl, 0, 0, 0, 0, kZ), (1, .aload_n 0, 0, 0, 0, 0, kZ), (2, .iload 4, 0, 0, 0, 0, kZ), (1, .iconst 3, 0, 0, 0, 0, kZ), (1, .iadd, 0, 0, 0, 0, kZ), (1, .iaload, 0, 0, 0, 0, kZ), (1, .i2l, 0, 0, 0, 0, kZ), (3, .ldc2_w 117, 0, 0, 0, 4294967295, kZ), (1, .land, 0, 0, 0, 0, kZ), (1, .lor, 0, 0, 0, 0, kZ), (3, .invokevirtual 126, 2, 10, 0, 0, m10_setLine), (2, .lstore 6, 0, 0, 0, 0, kZ), (1, .aload_n 2, 0, 0, 0, 0, kZ), (3, .invokevirtual 114, 0, 10, 0, 0, m10_thrown), (2, .iload 5, 0, 0, 0, 0, kZ), (3, .if_icmp .eq 5, 468, 0, 0, 0, kZ), (1, .iconst 0, 0, 0, 0, 0, kZ), (1, .ireturn, 0, 0, 0, 0, kZ)]
set_option maxRecDepth 100000 in
theorem ooL_law_388 (n : String) (h : List ((Nat × Nat × Nat × Nat) × String)) : okL (mLL n h) 388 bbL_law_388 := okL_of _ _ (show dB code 9 388 bbL_law_388 = true by decide +kernel) ⟨trivial, ⟨trivial, ⟨trivial, ⟨trivial, ⟨trivial, ⟨trivial, ⟨trivial, ⟨trivial, ⟨trivial, ⟨trivial, ⟨trivial, ⟨trivial, ⟨trivial, ⟨trivial, ⟨trivial, ⟨trivial, ⟨trivial, ⟨trivial, ⟨trivial, ⟨trivial, ⟨lk_L_117, ⟨trivial, ⟨trivial, ⟨trivial, ⟨⟨mok_mL_setLine, rmLL _ _ (by decide) (by decide), lc_L_123, by decide⟩, ⟨trivial, ⟨trivial, ⟨trivial, ⟨trivial, ⟨trivial, ⟨trivial, ⟨trivial, ⟨trivial, ⟨trivial, ⟨trivial, ⟨trivial, ⟨trivial, ⟨trivial, ⟨trivial, ⟨trivial, ⟨trivial, ⟨trivial, ⟨trivial, ⟨trivial, ⟨trivial, ⟨trivial, ⟨lk_L_117, ⟨trivial, ⟨trivial, ⟨⟨mok_m10_setLine, rmLL _ _ (by decide) (by decide), rfl, by decide, Or.inl lc_L_126⟩, ⟨trivial, ⟨trivial, ⟨⟨mok_m10_thrown, rmLL _ _ (by decide) (by decide), rfl, by decide, Or.inl lc_L_114⟩, ⟨trivial, ⟨rfl, ⟨trivial, ⟨trivial, trivial⟩⟩⟩⟩⟩⟩⟩⟩⟩⟩⟩⟩⟩⟩⟩⟩⟩⟩⟩⟩⟩⟩⟩⟩⟩⟩⟩⟩⟩⟩⟩⟩⟩⟩⟩⟩⟩⟩⟩⟩⟩⟩⟩⟩⟩⟩⟩⟩⟩⟩⟩⟩⟩⟩⟩⟩⟩
def bbL_law_468 : List PI := [(2, .iload 5, 0, 0, 0, 0, kZ), (3, .ifCond .ne 14, 484, 0, 0, 0, kZ), (1, .aload_n 3, 0, 0, 0, 0, kZ), (1, .iconst 0, 0, 0, 0, 0, kZ), (1, .laload, 0, 0, 0, 0, kZ), (2, .lload 6, 0, 0, 0, 0, kZ), (1, .lcmp, 0, 0, 0, 0, kZ), (3, .ifCond .eq 5, 484, 0, 0, 0, kZ), (1, .iconst 0, 0, 0, 0, 0, kZ), (1, .ireturn, 0, 0, 0, 0, kZ)]
set_option maxRecDepth 100000 in
theorem ooL_law_468 (n : String) (h : List ((Nat × Nat × Nat × Nat) × String)) : okL (mLL n h) 468 bbL_law_468 := okL_of _ _ (show dB code 9 468 bbL_law_468 = true by decide +kernel) ⟨trivial, ⟨rfl, ⟨trivial, ⟨trivial, ⟨trivial, ⟨trivial, ⟨trivial, ⟨rfl, ⟨trivial, ⟨trivial, trivial⟩⟩⟩⟩⟩⟩⟩⟩⟩⟩
def bbL_law_484 : List PI := [(3, .goto 1685, 2169, 0, 0, 0, kZ)]
set_option maxRecDepth 100000 in
theorem ooL_law_484 (n : String) (h : List ((Nat × Nat × Nat × Nat) × String)) : okL (mLL n h) 484 bbL_law_484 := okL_of _ _ (show dB code 9 484 bbL_law_484 = true by decide +kernel) ⟨rfl, trivial⟩
def cdc_388 (t : Nat) : Option (List PI) := match t with
  | 388 => some bbL_law_388
  | 468 => some bbL_law_468
  | 484 => some bbL_law_484
  | _ => none
theorem kdc_388 (n : String) (h : List ((Nat × Nat × Nat × Nat) × String)) : ∀ t is, cdc_388 t = some is → okL (mLL n h) t is := by
  intro t is hh
  unfold cdc_388 at hh
  split at hh <;> cases hh
  · exact ooL_law_388 n h
  · exact ooL_law_468 n h
  · exact ooL_law_484 n h
theorem ffc_388 (n : String) (h : List ((Nat × Nat × Nat × Nat) × String)) : mi_r (mLL n h) = some .boolean ∧ mi_l (mLL n h) = 9 ∧ (mi_rm (mLL n h)).cells = 601024 ∧ (mi_rm (mLL n h)).slots = 7293034 := ⟨rfl, rfl, rfl, rfl⟩
theorem ffk_388 : cdc_388 388 = some bbL_law_388 ∧ cdc_388 468 = some bbL_law_468 ∧ cdc_388 484 = some bbL_law_484 ∧ cdc_388 2169 = none ∧ (mi_rm mL_setLine).cells = 2 ∧ (mi_rm mL_setLine).slots = 12 ∧ (mi_rm m10_setLine).cells = 0 ∧ (mi_rm m10_setLine).slots = 0 ∧ (mi_rm m10_thrown).cells = 0 ∧ (mi_rm m10_thrown).slots = 0 := ⟨rfl, rfl, rfl, rfl, rfl, rfl, rfl, rfl, rfl, rfl⟩
def bbL_law_487 : List PI := [(1, .aload_n 1, 0, 0, 0, 0, kZ), (1, .aload_n 3, 0, 0, 0, 0, kZ), (3, .invokestatic 127, 2, 0, 2, 0, mL_dropLast), (2, .istore 5, 0, 0, 0, 0, kZ), (1, .aload_n 2, 0, 0, 0, 0, kZ), (3, .invokevirtual 130, 0, 10, 0, 0, m10_dropLast), (2, .istore 6, 0, 0, 0, 0, kZ), (1, .aload_n 2, 0, 0, 0, 0, kZ), (3, .invokevirtual 114, 0, 10, 0, 0, m10_thrown), (2, .iload 5, 0, 0, 0, 0, kZ), (3, .if_icmp .eq 5, 511, 0, 0, 0, kZ), (1, .iconst 0, 0, 0, 0, 0, kZ), (1, .ireturn, 0, 0, 0, 0, kZ)]
set_option maxRecDepth 100000 in
theorem ooL_law_487 (n : String) (h : List ((Nat × Nat × Nat × Nat) × String)) : okL (mLL n h) 487 bbL_law_487 := okL_of _ _ (show dB code 9 487 bbL_law_487 = true by decide +kernel) ⟨trivial, ⟨trivial, ⟨⟨mok_mL_dropLast, rmLL _ _ (by decide) (by decide), lc_L_127, by decide⟩, ⟨trivial, ⟨trivial, ⟨⟨mok_m10_dropLast, rmLL _ _ (by decide) (by decide), rfl, by decide, Or.inl lc_L_130⟩, ⟨trivial, ⟨trivial, ⟨⟨mok_m10_thrown, rmLL _ _ (by decide) (by decide), rfl, by decide, Or.inl lc_L_114⟩, ⟨trivial, ⟨rfl, ⟨trivial, ⟨trivial, trivial⟩⟩⟩⟩⟩⟩⟩⟩⟩⟩⟩⟩⟩
def bbL_law_511 : List PI := [(2, .iload 5, 0, 0, 0, 0, kZ), (3, .ifCond .ne 15, 528, 0, 0, 0, kZ), (1, .aload_n 3, 0, 0, 0, 0, kZ), (1, .iconst 0, 0, 0, 0, 0, kZ), (1, .laload, 0, 0, 0, 0, kZ), (2, .iload 6, 0, 0, 0, 0, kZ), (1, .i2l, 0, 0, 0, 0, kZ), (1, .lcmp, 0, 0, 0, 0, kZ), (3, .ifCond .eq 5, 528, 0, 0, 0, kZ), (1, .iconst 0, 0, 0, 0, 0, kZ), (1, .ireturn, 0, 0, 0, 0, kZ)]
set_option maxRecDepth 100000 in
theorem ooL_law_511 (n : String) (h : List ((Nat × Nat × Nat × Nat) × String)) : okL (mLL n h) 511 bbL_law_511 := okL_of _ _ (show dB code 9 511 bbL_law_511 = true by decide +kernel) ⟨trivial, ⟨rfl, ⟨trivial, ⟨trivial, ⟨trivial, ⟨trivial, ⟨trivial, ⟨trivial, ⟨rfl, ⟨trivial, ⟨trivial, trivial⟩⟩⟩⟩⟩⟩⟩⟩⟩⟩⟩
def bbL_law_528 : List PI := [(3, .goto 1641, 2169, 0, 0, 0, kZ)]
set_option maxRecDepth 100000 in
theorem ooL_law_528 (n : String) (h : List ((Nat × Nat × Nat × Nat) × String)) : okL (mLL n h) 528 bbL_law_528 := okL_of _ _ (show dB code 9 528 bbL_law_528 = true by decide +kernel) ⟨rfl, trivial⟩
def cdc_487 (t : Nat) : Option (List PI) := match t with
  | 487 => some bbL_law_487
  | 511 => some bbL_law_511
  | 528 => some bbL_law_528
  | _ => none
theorem kdc_487 (n : String) (h : List ((Nat × Nat × Nat × Nat) × String)) : ∀ t is, cdc_487 t = some is → okL (mLL n h) t is := by
  intro t is hh
  unfold cdc_487 at hh
  split at hh <;> cases hh
  · exact ooL_law_487 n h
  · exact ooL_law_511 n h
  · exact ooL_law_528 n h
theorem ffc_487 (n : String) (h : List ((Nat × Nat × Nat × Nat) × String)) : mi_r (mLL n h) = some .boolean ∧ mi_l (mLL n h) = 9 ∧ (mi_rm (mLL n h)).cells = 601024 ∧ (mi_rm (mLL n h)).slots = 7293034 := ⟨rfl, rfl, rfl, rfl⟩
theorem ffk_487 : cdc_487 487 = some bbL_law_487 ∧ cdc_487 511 = some bbL_law_511 ∧ cdc_487 528 = some bbL_law_528 ∧ cdc_487 2169 = none ∧ (mi_rm mL_dropLast).cells = 1 ∧ (mi_rm mL_dropLast).slots = 6 ∧ (mi_rm m10_dropLast).cells = 0 ∧ (mi_rm m10_dropLast).slots = 0 ∧ (mi_rm m10_thrown).cells = 0 ∧ (mi_rm m10_thrown).slots = 0 := ⟨rfl, rfl, rfl, rfl, rfl, rfl, rfl, rfl, rfl, rfl⟩
def bbL_law_531 : List PI := [(1, .aload_n 1, 0, 0, 0, 0, kZ), (1, .aload_n 0, 0, 0, 0, 0, kZ), (2, .iload 4, 0, 0, 0, 0, kZ), (1, .iconst 1, 0, 0, 0, 0, kZ), (1, .iadd, 0, 0, 0, 0, kZ), (1, .iaload, 0, 0, 0, 0, kZ), (1, .aload_n 3, 0, 0, 0, 0, kZ), (3, .invokestatic 131, 3, 0, 2, 0, mL_setStyle), (2, .istore 5, 0, 0, 0, 0, kZ), (1, .aload_n 2, 0, 0, 0, 0, kZ), (1, .aload_n 0, 0, 0, 0, 0, kZ), (2, .iload 4, 0, 0, 0, 0, kZ), (1, .iconst 1, 0, 0, 0, 0, kZ), (1, .iadd, 0, 0, 0, 0, kZ), (1, .iaload, 0, 0, 0, 0, kZ), (3, .invokevirtual 133, 1, 10, 0, 0, m10_setStyle), (2, .istore 6, 0, 0, 0, 0, kZ), (1, .aload_n 2, 0, 0, 0, 0, kZ), (3, .invokevirtual 114, 0, 10, 0, 0, m10_thrown), (2, .iload 5, 0, 0, 0, 0, kZ), (3, .if_icmp .eq 5, 567, 0, 0, 0, kZ), (1, .iconst 0, 0, 0, 0, 0, kZ), (1, .ireturn, 0, 0, 0, 0, kZ)]
set_option maxRecDepth 100000 in
theorem ooL_law_531 (n : String) (h : List ((Nat × Nat × Nat × Nat) × String)) : okL (mLL n h) 531 bbL_law_531 := okL_of _ _ (show dB code 9 531 bbL_law_531 = true by decide +kernel) ⟨trivial, ⟨trivial, ⟨trivial, ⟨trivial, ⟨trivial, ⟨trivial, ⟨trivial, ⟨⟨mok_mL_setStyle, rmLL _ _ (by decide) (by decide), lc_L_131, by decide⟩, ⟨trivial, ⟨trivial, ⟨trivial, ⟨trivial, ⟨trivial, ⟨trivial, ⟨trivial, ⟨⟨mok_m10_setStyle, rmLL _ _ (by decide) (by decide), rfl, by decide, Or.inl lc_L_133⟩, ⟨trivial, ⟨trivial, ⟨⟨mok_m10_thrown, rmLL _ _ (by decide) (by decide), rfl, by decide, Or.inl lc_L_114⟩, ⟨trivial, ⟨rfl, ⟨trivial, ⟨trivial, trivial⟩⟩⟩⟩⟩⟩⟩⟩⟩⟩⟩⟩⟩⟩⟩⟩⟩⟩⟩⟩⟩⟩⟩
def bbL_law_567 : List PI := [(2, .iload 5, 0, 0, 0, 0, kZ), (3, .ifCond .ne 15, 584, 0, 0, 0, kZ), (1, .aload_n 3, 0, 0, 0, 0, kZ), (1, .iconst 0, 0, 0, 0, 0, kZ), (1, .laload, 0, 0, 0, 0, kZ), (2, .iload 6, 0, 0, 0, 0, kZ), (1, .i2l, 0, 0, 0, 0, kZ), (1, .lcmp, 0, 0, 0, 0, kZ), (3, .ifCond .eq 5, 584, 0, 0, 0, kZ), (1, .iconst 0, 0, 0, 0, 0, kZ), (1, .ireturn, 0, 0, 0, 0, kZ)]
set_option maxRecDepth 100000 in
theorem ooL_law_567 (n : String) (h : List ((Nat × Nat × Nat × Nat) × String)) : okL (mLL n h) 567 bbL_law_567 := okL_of _ _ (show dB code 9 567 bbL_law_567 = true by decide +kernel) ⟨trivial, ⟨rfl, ⟨trivial, ⟨trivial, ⟨trivial, ⟨trivial, ⟨trivial, ⟨trivial, ⟨rfl, ⟨trivial, ⟨trivial, trivial⟩⟩⟩⟩⟩⟩⟩⟩⟩⟩⟩
def bbL_law_584 : List PI := [(3, .goto 1585, 2169, 0, 0, 0, kZ)]
set_option maxRecDepth 100000 in
theorem ooL_law_584 (n : String) (h : List ((Nat × Nat × Nat × Nat) × String)) : okL (mLL n h) 584 bbL_law_584 := okL_of _ _ (show dB code 9 584 bbL_law_584 = true by decide +kernel) ⟨rfl, trivial⟩
def cdc_531 (t : Nat) : Option (List PI) := match t with
  | 531 => some bbL_law_531
  | 567 => some bbL_law_567
  | 584 => some bbL_law_584
  | _ => none
theorem kdc_531 (n : String) (h : List ((Nat × Nat × Nat × Nat) × String)) : ∀ t is, cdc_531 t = some is → okL (mLL n h) t is := by
  intro t is hh
  unfold cdc_531 at hh
  split at hh <;> cases hh
  · exact ooL_law_531 n h
  · exact ooL_law_567 n h
  · exact ooL_law_584 n h
theorem ffc_531 (n : String) (h : List ((Nat × Nat × Nat × Nat) × String)) : mi_r (mLL n h) = some .boolean ∧ mi_l (mLL n h) = 9 ∧ (mi_rm (mLL n h)).cells = 601024 ∧ (mi_rm (mLL n h)).slots = 7293034 := ⟨rfl, rfl, rfl, rfl⟩
theorem ffk_531 : cdc_531 531 = some bbL_law_531 ∧ cdc_531 567 = some bbL_law_567 ∧ cdc_531 584 = some bbL_law_584 ∧ cdc_531 2169 = none ∧ (mi_rm mL_setStyle).cells = 1 ∧ (mi_rm mL_setStyle).slots = 6 ∧ (mi_rm m10_setStyle).cells = 0 ∧ (mi_rm m10_setStyle).slots = 0 ∧ (mi_rm m10_thrown).cells = 0 ∧ (mi_rm m10_thrown).slots = 0 := ⟨rfl, rfl, rfl, rfl, rfl, rfl, rfl, rfl, rfl, rfl⟩
def bbL_law_587 : List PI := [(1, .aload_n 1, 0, 0, 0, 0, kZ), (3, .invokevirtual 134, 0, 9, 0, 0, m9_send), (1, .aload_n 2, 0, 0, 0, 0, kZ), (3, .invokevirtual 137, 0, 10, 0, 0, m10_send), (3, .if_icmp .eq 1574, 2169, 0, 0, 0, kZ), (1, .iconst 0, 0, 0, 0, 0, kZ), (1, .ireturn, 0, 0, 0, 0, kZ)]
set_option maxRecDepth 100000 in
theorem ooL_law_587 (n : String) (h : List ((Nat × Nat × Nat × Nat) × String)) : okL (mLL n h) 587 bbL_law_587 := okL_of _ _ (show dB code 9 587 bbL_law_587 = true by decide +kernel) ⟨trivial, ⟨⟨mok_m9_send, rmLL _ _ (by decide) (by decide), rfl, by decide, Or.inl lc_L_134⟩, ⟨trivial, ⟨⟨mok_m10_send, rmLL _ _ (by decide) (by decide), rfl, by decide, Or.inl lc_L_137⟩, ⟨rfl, ⟨trivial, ⟨trivial, trivial⟩⟩⟩⟩⟩⟩⟩
def cdc_587 (t : Nat) : Option (List PI) := match t with
  | 587 => some bbL_law_587
  | _ => none
theorem kdc_587 (n : String) (h : List ((Nat × Nat × Nat × Nat) × String)) : ∀ t is, cdc_587 t = some is → okL (mLL n h) t is := by
  intro t is hh
  unfold cdc_587 at hh
  split at hh <;> cases hh
  · exact ooL_law_587 n h
theorem ffc_587 (n : String) (h : List ((Nat × Nat × Nat × Nat) × String)) : mi_r (mLL n h) = some .boolean ∧ mi_l (mLL n h) = 9 ∧ (mi_rm (mLL n h)).cells = 601024 ∧ (mi_rm (mLL n h)).slots = 7293034 := ⟨rfl, rfl, rfl, rfl⟩
theorem ffk_587 : cdc_587 587 = some bbL_law_587 ∧ cdc_587 2169 = none ∧ (mi_rm m9_send).cells = 0 ∧ (mi_rm m9_send).slots = 0 ∧ (mi_rm m10_send).cells = 0 ∧ (mi_rm m10_send).slots = 0 := ⟨rfl, rfl, rfl, rfl, rfl, rfl⟩
def bbL_law_600 : List PI := [(1, .aload_n 1, 0, 0, 0, 0, kZ), (1, .aload_n 0, 0, 0, 0, 0, kZ), (2, .iload 4, 0, 0, 0, 0, kZ), (1, .iconst 1, 0, 0, 0, 0, kZ), (1, .iadd, 0, 0, 0, 0, kZ), (1, .iaload, 0, 0, 0, 0, kZ), (1, .aload_n 0, 0, 0, 0, 0, kZ), (2, .iload 4, 0, 0, 0, 0, kZ), (1, .iconst 2, 0, 0, 0, 0, kZ), (1, .iadd, 0, 0, 0, 0, kZ), (1, .iaload, 0, 0, 0, 0, kZ), (1, .aload_n 3, 0, 0, 0, 0, kZ), (3, .invokestatic 138, 4, 0, 2, 0, mL_replace), (2, .istore 5, 0, 0, 0, 0, kZ), (1, .aload_n 2, 0, 0, 0, 0, kZ), (1, .aload_n 0, 0, 0, 0, 0, kZ), (2, .iload 4, 0, 0, 0, 0, kZ), (1, .iconst 1, 0, 0, 0, 0, kZ), (1, .iadd, 0, 0, 0, 0, kZ), (1, .iaload, 0, 0, 0, 0, kZ), (1, .aload_n 0, 0, 0, 0, 0, kZ), (2, .iload 4, 0, 0, 0, 0, kZ), (1, .iconst 2, 0, 0, 0, 0, kZ), (1, .iadd, 0, 0, 0, 0, kZ), (1, .iaload, 0, 0, 0, 0, kZ), (3, .invokevirtual 141, 2, 10, 0, 0, m10_replace), (2, .istore 6, 0, 0, 0, 0, kZ), (1, .aload_n 2, 0, 0, 0, 0, kZ), (3, .invokevirtual 114, 0, 10, 0, 0, m10_thrown), (2, .iload 5, 0, 0, 0, 0, kZ), (3, .if_icmp .eq 5, 648, 0, 0, 0, kZ), (1, .iconst 0, 0, 0, 0, 0, kZ), (1, .ireturn, 0, 0, 0, 0, kZ)]
set_option maxRecDepth 100000 in
theorem ooL_law_600 (n : String) (h : List ((Nat × Nat × Nat × Nat) × String)) : okL (mLL n h) 600 bbL_law_600 := okL_of _ _ (show dB code 9 600 bbL_law_600 = true by decide +kernel) ⟨trivial, ⟨trivial, ⟨trivial, ⟨trivial, ⟨trivial, ⟨trivial, ⟨trivial, ⟨trivial, ⟨trivial, ⟨trivial, ⟨trivial, ⟨trivial, ⟨⟨mok_mL_replace, rmLL _ _ (by decide) (by decide), lc_L_138, by decide⟩, ⟨trivial, ⟨trivial, ⟨trivial, ⟨trivial, ⟨trivial, ⟨trivial, ⟨trivial, ⟨trivial, ⟨trivial, ⟨trivial, ⟨trivial, ⟨trivial, ⟨⟨mok_m10_replace, rmLL _ _ (by decide) (by decide), rfl, by decide, Or.inl lc_L_141⟩, ⟨trivial, ⟨trivial, ⟨⟨mok_m10_thrown, rmLL _ _ (by decide) (by decide), rfl, by decide, Or.inl lc_L_114⟩, ⟨trivial, ⟨rfl, ⟨trivial, ⟨trivial, trivial⟩⟩⟩⟩⟩⟩⟩⟩⟩⟩⟩⟩⟩⟩⟩⟩⟩⟩⟩⟩⟩⟩⟩⟩⟩⟩⟩⟩⟩⟩⟩⟩⟩
def bbL_law_648 : List PI := [(2, .iload 5, 0, 0, 0, 0, kZ), (3, .ifCond .ne 15, 665, 0, 0, 0, kZ), (1, .aload_n 3, 0, 0, 0, 0, kZ), (1, .iconst 0, 0, 0, 0, 0, kZ), (1, .laload, 0, 0, 0, 0, kZ), (2, .iload 6, 0, 0, 0, 0, kZ), (1, .i2l, 0, 0, 0, 0, kZ), (1, .lcmp, 0, 0, 0, 0, kZ), (3, .ifCond .eq 5, 665, 0, 0, 0, kZ), (1, .iconst 0, 0, 0, 0, 0, kZ), (1, .ireturn, 0, 0, 0, 0, kZ)]
set_option maxRecDepth 100000 in
theorem ooL_law_648 (n : String) (h : List ((Nat × Nat × Nat × Nat) × String)) : okL (mLL n h) 648 bbL_law_648 := okL_of _ _ (show dB code 9 648 bbL_law_648 = true by decide +kernel) ⟨trivial, ⟨rfl, ⟨trivial, ⟨trivial, ⟨trivial, ⟨trivial, ⟨trivial, ⟨trivial, ⟨rfl, ⟨trivial, ⟨trivial, trivial⟩⟩⟩⟩⟩⟩⟩⟩⟩⟩⟩
def bbL_law_665 : List PI := [(3, .goto 1504, 2169, 0, 0, 0, kZ)]
set_option maxRecDepth 100000 in
theorem ooL_law_665 (n : String) (h : List ((Nat × Nat × Nat × Nat) × String)) : okL (mLL n h) 665 bbL_law_665 := okL_of _ _ (show dB code 9 665 bbL_law_665 = true by decide +kernel) ⟨rfl, trivial⟩
def cdc_600 (t : Nat) : Option (List PI) := match t with
  | 600 => some bbL_law_600
  | 648 => some bbL_law_648
  | 665 => some bbL_law_665
  | _ => none
theorem kdc_600 (n : String) (h : List ((Nat × Nat × Nat × Nat) × String)) : ∀ t is, cdc_600 t = some is → okL (mLL n h) t is := by
  intro t is hh
  unfold cdc_600 at hh
  split at hh <;> cases hh
  · exact ooL_law_600 n h
  · exact ooL_law_648 n h
  · exact ooL_law_665 n h
theorem ffc_600 (n : String) (h : List ((Nat × Nat × Nat × Nat) × String)) : mi_r (mLL n h) = some .boolean ∧ mi_l (mLL n h) = 9 ∧ (mi_rm (mLL n h)).cells = 601024 ∧ (mi_rm (mLL n h)).slots = 7293034 := ⟨rfl, rfl, rfl, rfl⟩
theorem ffk_600 : cdc_600 600 = some bbL_law_600 ∧ cdc_600 648 = some bbL_law_648 ∧ cdc_600 665 = some bbL_law_665 ∧ cdc_600 2169 = none ∧ (mi_rm mL_replace).cells = 2 ∧ (mi_rm mL_replace).slots = 12 ∧ (mi_rm m10_replace).cells = 0 ∧ (mi_rm m10_replace).slots = 0 ∧ (mi_rm m10_thrown).cells = 0 ∧ (mi_rm m10_thrown).slots = 0 := ⟨rfl, rfl, rfl, rfl, rfl, rfl, rfl, rfl, rfl, rfl⟩
def bbL_law_668 : List PI := [(1, .aload_n 1, 0, 0, 0, 0, kZ), (1, .aload_n 0, 0, 0, 0, 0, kZ), (2, .iload 4, 0, 0, 0, 0, kZ), (1, .iconst 1, 0, 0, 0, 0, kZ), (1, .iadd, 0, 0, 0, 0, kZ), (1, .iaload, 0, 0, 0, 0, kZ), (1, .aload_n 3, 0, 0, 0, 0, kZ), (3, .invokestatic 142, 3, 0, 2, 0, mL_lose), (2, .istore 5, 0, 0, 0, 0, kZ), (1, .aload_n 2, 0, 0, 0, 0, kZ), (1, .aload_n 0, 0, 0, 0, 0, kZ), (2, .iload 4, 0, 0, 0, 0, kZ), (1, .iconst 1, 0, 0, 0, 0, kZ), (1, .iadd, 0, 0, 0, 0, kZ), (1, .iaload, 0, 0, 0, 0, kZ), (3, .invokevirtual 144, 1, 10, 0, 0, m10_lose), (2, .istore 6, 0, 0, 0, 0, kZ), (1, .aload_n 2, 0, 0, 0, 0, kZ), (3, .invokevirtual 114, 0, 10, 0, 0, m10_thrown), (2, .iload 5, 0, 0, 0, 0, kZ), (3, .if_icmp .eq 5, 704, 0, 0, 0, kZ), (1, .iconst 0, 0, 0, 0, 0, kZ), (1, .ireturn, 0, 0, 0, 0, kZ)]
set_option maxRecDepth 100000 in
theorem ooL_law_668 (n : String) (h : List ((Nat × Nat × Nat × Nat) × String)) : okL (mLL n h) 668 bbL_law_668 := okL_of _ _ (show dB code 9 668 bbL_law_668 = true by decide +kernel) ⟨trivial, ⟨trivial, ⟨trivial, ⟨trivial, ⟨trivial, ⟨trivial, ⟨trivial, ⟨⟨mok_mL_lose, rmLL _ _ (by decide) (by decide), lc_L_142, by decide⟩, ⟨trivial, ⟨trivial, ⟨trivial, ⟨trivial, ⟨trivial, ⟨trivial, ⟨trivial, ⟨⟨mok_m10_lose, rmLL _ _ (by decide) (by decide), rfl, by decide, Or.inl lc_L_144⟩, ⟨trivial, ⟨trivial, ⟨⟨mok_m10_thrown, rmLL _ _ (by decide) (by decide), rfl, by decide, Or.inl lc_L_114⟩, ⟨trivial, ⟨rfl, ⟨trivial, ⟨trivial, trivial⟩⟩⟩⟩⟩⟩⟩⟩⟩⟩⟩⟩⟩⟩⟩⟩⟩⟩⟩⟩⟩⟩⟩
def bbL_law_704 : List PI := [(2, .iload 5, 0, 0, 0, 0, kZ), (3, .ifCond .ne 15, 721, 0, 0, 0, kZ), (1, .aload_n 3, 0, 0, 0, 0, kZ), (1, .iconst 0, 0, 0, 0, 0, kZ), (1, .laload, 0, 0, 0, 0, kZ), (2, .iload 6, 0, 0, 0, 0, kZ), (1, .i2l, 0, 0, 0, 0, kZ), (1, .lcmp, 0, 0, 0, 0, kZ), (3, .ifCond .eq 5, 721, 0, 0, 0, kZ), (1, .iconst 0, 0, 0, 0, 0, kZ), (1, .ireturn, 0, 0, 0, 0, kZ)]
set_option maxRecDepth 100000 in
theorem ooL_law_704 (n : String) (h : List ((Nat × Nat × Nat × Nat) × String)) : okL (mLL n h) 704 bbL_law_704 := okL_of _ _ (show dB code 9 704 bbL_law_704 = true by decide +kernel) ⟨trivial, ⟨rfl, ⟨trivial, ⟨trivial, ⟨trivial, ⟨trivial, ⟨trivial, ⟨trivial, ⟨rfl, ⟨trivial, ⟨trivial, trivial⟩⟩⟩⟩⟩⟩⟩⟩⟩⟩⟩
def bbL_law_721 : List PI := [(3, .goto 1448, 2169, 0, 0, 0, kZ)]
set_option maxRecDepth 100000 in
theorem ooL_law_721 (n : String) (h : List ((Nat × Nat × Nat × Nat) × String)) : okL (mLL n h) 721 bbL_law_721 := okL_of _ _ (show dB code 9 721 bbL_law_721 = true by decide +kernel) ⟨rfl, trivial⟩
def cdc_668 (t : Nat) : Option (List PI) := match t with
  | 668 => some bbL_law_668
  | 704 => some bbL_law_704
  | 721 => some bbL_law_721
  | _ => none
theorem kdc_668 (n : String) (h : List ((Nat × Nat × Nat × Nat) × String)) : ∀ t is, cdc_668 t = some is → okL (mLL n h) t is := by
  intro t is hh
  unfold cdc_668 at hh
  split at hh <;> cases hh
  · exact ooL_law_668 n h
  · exact ooL_law_704 n h
  · exact ooL_law_721 n h
theorem ffc_668 (n : String) (h : List ((Nat × Nat × Nat × Nat) × String)) : mi_r (mLL n h) = some .boolean ∧ mi_l (mLL n h) = 9 ∧ (mi_rm (mLL n h)).cells = 601024 ∧ (mi_rm (mLL n h)).slots = 7293034 := ⟨rfl, rfl, rfl, rfl⟩
theorem ffk_668 : cdc_668 668 = some bbL_law_668 ∧ cdc_668 704 = some bbL_law_704 ∧ cdc_668 721 = some bbL_law_721 ∧ cdc_668 2169 = none ∧ (mi_rm mL_lose).cells = 1 ∧ (mi_rm mL_lose).slots = 6 ∧ (mi_rm m10_lose).cells = 0 ∧ (mi_rm m10_lose).slots = 0 ∧ (mi_rm m10_thrown).cells = 0 ∧ (mi_rm m10_thrown).slots = 0 := ⟨rfl, rfl, rfl, rfl, rfl, rfl, rfl, rfl, rfl, rfl⟩
def bbL_law_724 : List PI := [(1, .aload_n 1, 0, 0, 0, 0, kZ), (1, .aload_n 0, 0, 0, 0, 0, kZ), (2, .iload 4, 0, 0, 0, 0, kZ), (1, .iconst 1, 0, 0, 0, 0, kZ), (1, .iadd, 0, 0, 0, 0, kZ), (1, .iaload, 0, 0, 0, 0, kZ), (1, .aload_n 0, 0, 0, 0, 0, kZ), (2, .iload 4, 0, 0, 0, 0, kZ), (1, .iconst 2, 0, 0, 0, 0, kZ), (1, .iadd, 0, 0, 0, 0, kZ), (1, .iaload, 0, 0, 0, 0, kZ), (1, .aload_n 3, 0, 0, 0, 0, kZ), (3, .invokestatic 145, 4, 0, 2, 0, mL_gain), (2, .istore 5, 0, 0, 0, 0, kZ), (1, .aload_n 2, 0, 0, 0, 0, kZ), (1, .aload_n 0, 0, 0, 0, 0, kZ), (2, .iload 4, 0, 0, 0, 0, kZ), (1, .iconst 1, 0, 0, 0, 0, kZ), (1, .iadd, 0, 0, 0, 0, kZ), (1, .iaload, 0, 0, 0, 0, kZ), (1, .aload_n 0, 0, 0, 0, 0, kZ), (2, .iload 4, 0, 0, 0, 0, kZ), (1, .iconst 2, 0, 0, 0, 0, kZ), (1, .iadd, 0, 0, 0, 0, kZ), (1, .iaload, 0, 0, 0, 0, kZ), (3, .invokevirtual 147, 2, 10, 0, 0, m10_gain), (2, .istore 6, 0, 0, 0, 0, kZ), (1, .aload_n 2, 0, 0, 0, 0, kZ), (3, .invokevirtual 114, 0, 10, 0, 0, m10_thrown), (2, .iload 5, 0, 0, 0, 0, kZ), (3, .if_icmp .eq 5, 772, 0, 0, 0, kZ), (1, .iconst 0, 0, 0, 0, 0, kZ), (1, .ireturn, 0, 0, 0, 0, kZ)]
set_option maxRecDepth 100000 in
theorem ooL_law_724 (n : String) (h : List ((Nat × Nat × Nat × Nat) × String)) : okL (mLL n h) 724 bbL_law_724 := okL_of _ _ (show dB code 9 724 bbL_law_724 = true by decide +kernel) ⟨trivial, ⟨trivial, ⟨trivial, ⟨trivial, ⟨trivial, ⟨trivial, ⟨trivial, ⟨trivial, ⟨trivial, ⟨trivial, ⟨trivial, ⟨trivial, ⟨⟨mok_mL_gain, rmLL _ _ (by decide) (by decide), lc_L_145, by decide⟩, ⟨trivial, ⟨trivial, ⟨trivial, ⟨trivial, ⟨trivial, ⟨trivial, ⟨trivial, ⟨trivial, ⟨trivial, ⟨trivial, ⟨trivial, ⟨trivial, ⟨⟨mok_m10_gain, rmLL _ _ (by decide) (by decide), rfl, by decide, Or.inl lc_L_147⟩, ⟨trivial, ⟨trivial, ⟨⟨mok_m10_thrown, rmLL _ _ (by decide) (by decide), rfl, by decide, Or.inl lc_L_114⟩, ⟨trivial, ⟨rfl, ⟨trivial, ⟨trivial, trivial⟩⟩⟩⟩⟩⟩⟩⟩⟩⟩⟩⟩⟩⟩⟩⟩⟩⟩⟩⟩⟩⟩⟩⟩⟩⟩⟩⟩⟩⟩⟩⟩⟩
def bbL_law_772 : List PI := [(2, .iload 5, 0, 0, 0, 0, kZ), (3, .ifCond .ne 15, 789, 0, 0, 0, kZ), (1, .aload_n 3, 0, 0, 0, 0, kZ), (1, .iconst 0, 0, 0, 0, 0, kZ), (1, .laload, 0, 0, 0, 0, kZ), (2, .iload 6, 0, 0, 0, 0, kZ), (1, .i2l, 0, 0, 0, 0, kZ), (1, .lcmp, 0, 0, 0, 0, kZ), (3, .ifCond .eq 5, 789, 0, 0, 0, kZ), (1, .iconst 0, 0, 0, 0, 0, kZ), (1, .ireturn, 0, 0, 0, 0, kZ)]
set_option maxRecDepth 100000 in
theorem ooL_law_772 (n : String) (h : List ((Nat × Nat × Nat × Nat) × String)) : okL (mLL n h) 772 bbL_law_772 := okL_of _ _ (show dB code 9 772 bbL_law_772 = true by decide +kernel) ⟨trivial, ⟨rfl, ⟨trivial, ⟨trivial, ⟨trivial, ⟨trivial, ⟨trivial, ⟨trivial, ⟨rfl, ⟨trivial, ⟨trivial, trivial⟩⟩⟩⟩⟩⟩⟩⟩⟩⟩⟩
def bbL_law_789 : List PI := [(3, .goto 1380, 2169, 0, 0, 0, kZ)]
set_option maxRecDepth 100000 in
theorem ooL_law_789 (n : String) (h : List ((Nat × Nat × Nat × Nat) × String)) : okL (mLL n h) 789 bbL_law_789 := okL_of _ _ (show dB code 9 789 bbL_law_789 = true by decide +kernel) ⟨rfl, trivial⟩
def cdc_724 (t : Nat) : Option (List PI) := match t with
  | 724 => some bbL_law_724
  | 772 => some bbL_law_772
  | 789 => some bbL_law_789
  | _ => none
theorem kdc_724 (n : String) (h : List ((Nat × Nat × Nat × Nat) × String)) : ∀ t is, cdc_724 t = some is → okL (mLL n h) t is := by
  intro t is hh
  unfold cdc_724 at hh
  split at hh <;> cases hh
  · exact ooL_law_724 n h
  · exact ooL_law_772 n h
  · exact ooL_law_789 n h
theorem ffc_724 (n : String) (h : List ((Nat × Nat × Nat × Nat) × String)) : mi_r (mLL n h) = some .boolean ∧ mi_l (mLL n h) = 9 ∧ (mi_rm (mLL n h)).cells = 601024 ∧ (mi_rm (mLL n h)).slots = 7293034 := ⟨rfl, rfl, rfl, rfl⟩
theorem ffk_724 : cdc_724 724 = some bbL_law_724 ∧ cdc_724 772 = some bbL_law_772 ∧ cdc_724 789 = some bbL_law_789 ∧ cdc_724 2169 = none ∧ (mi_rm mL_gain).cells = 2 ∧ (mi_rm mL_gain).slots = 12 ∧ (mi_rm m10_gain).cells = 0 ∧ (mi_rm m10_gain).slots = 0 ∧ (mi_rm m10_thrown).cells = 0 ∧ (mi_rm m10_thrown).slots = 0 := ⟨rfl, rfl, rfl, rfl, rfl, rfl, rfl, rfl, rfl, rfl⟩
def bbL_law_792 : List PI := [(1, .aload_n 1, 0, 0, 0, 0, kZ), (3, .invokevirtual 148, 0, 9, 0, 0, m9_receive), (1, .aload_n 2, 0, 0, 0, 0, kZ), (3, .invokevirtual 151, 0, 10, 0, 0, m10_receive), (3, .if_icmp .eq 1369, 2169, 0, 0, 0, kZ), (1, .iconst 0, 0, 0, 0, 0, kZ), (1, .ireturn, 0, 0, 0, 0, kZ)]
set_option maxRecDepth 100000 in
theorem ooL_law_792 (n : String) (h : List ((Nat × Nat × Nat × Nat) × String)) : okL (mLL n h) 792 bbL_law_792 := okL_of _ _ (show dB code 9 792 bbL_law_792 = true by decide +kernel) ⟨trivial, ⟨⟨mok_m9_receive, rmLL _ _ (by decide) (by decide), rfl, by decide, Or.inl lc_L_148⟩, ⟨trivial, ⟨⟨mok_m10_receive, rmLL _ _ (by decide) (by decide), rfl, by decide, Or.inl lc_L_151⟩, ⟨rfl, ⟨trivial, ⟨trivial, trivial⟩⟩⟩⟩⟩⟩⟩
def cdc_792 (t : Nat) : Option (List PI) := match t with
  | 792 => some bbL_law_792
  | _ => none
theorem kdc_792 (n : String) (h : List ((Nat × Nat × Nat × Nat) × String)) : ∀ t is, cdc_792 t = some is → okL (mLL n h) t is := by
  intro t is hh
  unfold cdc_792 at hh
  split at hh <;> cases hh
  · exact ooL_law_792 n h
theorem ffc_792 (n : String) (h : List ((Nat × Nat × Nat × Nat) × String)) : mi_r (mLL n h) = some .boolean ∧ mi_l (mLL n h) = 9 ∧ (mi_rm (mLL n h)).cells = 601024 ∧ (mi_rm (mLL n h)).slots = 7293034 := ⟨rfl, rfl, rfl, rfl⟩
theorem ffk_792 : cdc_792 792 = some bbL_law_792 ∧ cdc_792 2169 = none ∧ (mi_rm m9_receive).cells = 0 ∧ (mi_rm m9_receive).slots = 0 ∧ (mi_rm m10_receive).cells = 0 ∧ (mi_rm m10_receive).slots = 0 := ⟨rfl, rfl, rfl, rfl, rfl, rfl⟩
def bbL_law_805 : List PI := [(1, .aload_n 1, 0, 0, 0, 0, kZ), (1, .aload_n 0, 0, 0, 0, 0, kZ), (2, .iload 4, 0, 0, 0, 0, kZ), (1, .iconst 1, 0, 0, 0, 0, kZ), (1, .iadd, 0, 0, 0, 0, kZ), (1, .iaload, 0, 0, 0, 0, kZ), (1, .aload_n 3, 0, 0, 0, 0, kZ), (3, .invokestatic 152, 3, 0, 2, 0, mL_append), (2, .istore 5, 0, 0, 0, 0, kZ), (1, .aload_n 2, 0, 0, 0, 0, kZ), (1, .aload_n 0, 0, 0, 0, 0, kZ), (2, .iload 4, 0, 0, 0, 0, kZ), (1, .iconst 1, 0, 0, 0, 0, kZ), (1, .iadd, 0, 0, 0, 0, kZ), (1, .iaload, 0, 0, 0, 0, kZ), (3, .invokevirtual 154, 1, 10, 0, 0, m10_append), (2, .istore 6, 0, 0, 0, 0, kZ), (1, .aload_n 2, 0, 0, 0, 0, kZ), (3, .invokevirtual 114, 0, 10, 0, 0, m10_thrown), (2, .iload 5, 0, 0, 0, 0, kZ), (3, .if_icmp .eq 5, 841, 0, 0, 0, kZ), (1, .iconst 0, 0, 0, 0, 0, kZ), (1, .ireturn, 0, 0, 0, 0, kZ)]
set_option maxRecDepth 100000 in
theorem ooL_law_805 (n : String) (h : List ((Nat × Nat × Nat × Nat) × String)) : okL (mLL n h) 805 bbL_law_805 := okL_of _ _ (show dB code 9 805 bbL_law_805 = true by decide +kernel) ⟨trivial, ⟨trivial, ⟨trivial, ⟨trivial, ⟨trivial, ⟨trivial, ⟨trivial, ⟨⟨mok_mL_append, rmLL _ _ (by decide) (by decide), lc_L_152, by decide⟩, ⟨trivial, ⟨trivial, ⟨trivial, ⟨trivial, ⟨trivial, ⟨trivial, ⟨trivial, ⟨⟨mok_m10_append, rmLL _ _ (by decide) (by decide), rfl, by decide, Or.inl lc_L_154⟩, ⟨trivial, ⟨trivial, ⟨⟨mok_m10_thrown, rmLL _ _ (by decide) (by decide), rfl, by decide, Or.inl lc_L_114⟩, ⟨trivial, ⟨rfl, ⟨trivial, ⟨trivial, trivial⟩⟩⟩⟩⟩⟩⟩⟩⟩⟩⟩⟩⟩⟩⟩⟩⟩⟩⟩⟩⟩⟩⟩
def bbL_law_841 : List PI := [(2, .iload 5, 0, 0, 0, 0, kZ), (3, .ifCond .ne 15, 858, 0, 0, 0, kZ), (1, .aload_n 3, 0, 0, 0, 0, kZ), (1, .iconst 0, 0, 0, 0, 0, kZ), (1, .laload, 0, 0, 0, 0, kZ), (2, .iload 6, 0, 0, 0, 0, kZ), (1, .i2l, 0, 0, 0, 0, kZ), (1, .lcmp, 0, 0, 0, 0, kZ), (3, .ifCond .eq 5, 858, 0, 0, 0, kZ), (1, .iconst 0, 0, 0, 0, 0, kZ), (1, .ireturn, 0, 0, 0, 0, kZ)]
set_option maxRecDepth 100000 in
theorem ooL_law_841 (n : String) (h : List ((Nat × Nat × Nat × Nat) × String)) : okL (mLL n h) 841 bbL_law_841 := okL_of _ _ (show dB code 9 841 bbL_law_841 = true by decide +kernel) ⟨trivial, ⟨rfl, ⟨trivial, ⟨trivial, ⟨trivial, ⟨trivial, ⟨trivial, ⟨trivial, ⟨rfl, ⟨trivial, ⟨trivial, trivial⟩⟩⟩⟩⟩⟩⟩⟩⟩⟩⟩
def bbL_law_858 : List PI := [(3, .goto 1311, 2169, 0, 0, 0, kZ)]
set_option maxRecDepth 100000 in
theorem ooL_law_858 (n : String) (h : List ((Nat × Nat × Nat × Nat) × String)) : okL (mLL n h) 858 bbL_law_858 := okL_of _ _ (show dB code 9 858 bbL_law_858 = true by decide +kernel) ⟨rfl, trivial⟩
def cdc_805 (t : Nat) : Option (List PI) := match t with
  | 805 => some bbL_law_805
  | 841 => some bbL_law_841
  | 858 => some bbL_law_858
  | _ => none
theorem kdc_805 (n : String) (h : List ((Nat × Nat × Nat × Nat) × String)) : ∀ t is, cdc_805 t = some is → okL (mLL n h) t is := by
  intro t is hh
  unfold cdc_805 at hh
  split at hh <;> cases hh
  · exact ooL_law_805 n h
  · exact ooL_law_841 n h
  · exact ooL_law_858 n h
theorem ffc_805 (n : String) (h : List ((Nat × Nat × Nat × Nat) × String)) : mi_r (mLL n h) = some .boolean ∧ mi_l (mLL n h) = 9 ∧ (mi_rm (mLL n h)).cells = 601024 ∧ (mi_rm (mLL n h)).slots = 7293034 := ⟨rfl, rfl, rfl, rfl⟩
theorem ffk_805 : cdc_805 805 = some bbL_law_805 ∧ cdc_805 841 = some bbL_law_841 ∧ cdc_805 858 = some bbL_law_858 ∧ cdc_805 2169 = none ∧ (mi_rm mL_append).cells = 1 ∧ (mi_rm mL_append).slots = 6 ∧ (mi_rm m10_append).cells = 0 ∧ (mi_rm m10_append).slots = 0 ∧ (mi_rm m10_thrown).cells = 0 ∧ (mi_rm m10_thrown).slots = 0 := ⟨rfl, rfl, rfl, rfl, rfl, rfl, rfl, rfl, rfl, rfl⟩
def bbL_law_861 : List PI := [(1, .aload_n 1, 0, 0, 0, 0, kZ), (3, .invokevirtual 155, 0, 9, 0, 0, m9_clearBuffer), (1, .aload_n 2, 0, 0, 0, 0, kZ), (3, .invokevirtual 158, 0, 10, 0, 0, m10_clearBuffer), (3, .if_icmp .eq 1300, 2169, 0, 0, 0, kZ), (1, .iconst 0, 0, 0, 0, 0, kZ), (1, .ireturn, 0, 0, 0, 0, kZ)]
set_option maxRecDepth 100000 in
theorem ooL_law_861 (n : String) (h : List ((Nat × Nat × Nat × Nat) × String)) : okL (mLL n h) 861 bbL_law_861 := okL_of _ _ (show dB code 9 861 bbL_law_861 = true by decide +kernel) ⟨trivial, ⟨⟨mok_m9_clearBuffer, rmLL _ _ (by decide) (by decide), rfl, by decide, Or.inl lc_L_155⟩, ⟨trivial, ⟨⟨mok_m10_clearBuffer, rmLL _ _ (by decide) (by decide), rfl, by decide, Or.inl lc_L_158⟩, ⟨rfl, ⟨trivial, ⟨trivial, trivial⟩⟩⟩⟩⟩⟩⟩
def cdc_861 (t : Nat) : Option (List PI) := match t with
  | 861 => some bbL_law_861
  | _ => none
theorem kdc_861 (n : String) (h : List ((Nat × Nat × Nat × Nat) × String)) : ∀ t is, cdc_861 t = some is → okL (mLL n h) t is := by
  intro t is hh
  unfold cdc_861 at hh
  split at hh <;> cases hh
  · exact ooL_law_861 n h
theorem ffc_861 (n : String) (h : List ((Nat × Nat × Nat × Nat) × String)) : mi_r (mLL n h) = some .boolean ∧ mi_l (mLL n h) = 9 ∧ (mi_rm (mLL n h)).cells = 601024 ∧ (mi_rm (mLL n h)).slots = 7293034 := ⟨rfl, rfl, rfl, rfl⟩
theorem ffk_861 : cdc_861 861 = some bbL_law_861 ∧ cdc_861 2169 = none ∧ (mi_rm m9_clearBuffer).cells = 0 ∧ (mi_rm m9_clearBuffer).slots = 0 ∧ (mi_rm m10_clearBuffer).cells = 0 ∧ (mi_rm m10_clearBuffer).slots = 0 := ⟨rfl, rfl, rfl, rfl, rfl, rfl⟩
def bbL_law_874 : List PI := [(1, .aload_n 1, 0, 0, 0, 0, kZ), (3, .invokevirtual 159, 0, 9, 0, 0, m9_firstError), (1, .aload_n 2, 0, 0, 0, 0, kZ), (3, .invokevirtual 162, 0, 10, 0, 0, m10_firstError), (3, .if_icmp .eq 1287, 2169, 0, 0, 0, kZ), (1, .iconst 0, 0, 0, 0, 0, kZ), (1, .ireturn, 0, 0, 0, 0, kZ)]
set_option maxRecDepth 100000 in
theorem ooL_law_874 (n : String) (h : List ((Nat × Nat × Nat × Nat) × String)) : okL (mLL n h) 874 bbL_law_874 := okL_of _ _ (show dB code 9 874 bbL_law_874 = true by decide +kernel) ⟨trivial, ⟨⟨mok_m9_firstError, rmLL _ _ (by decide) (by decide), rfl, by decide, Or.inl lc_L_159⟩, ⟨trivial, ⟨⟨mok_m10_firstError, rmLL _ _ (by decide) (by decide), rfl, by decide, Or.inl lc_L_162⟩, ⟨rfl, ⟨trivial, ⟨trivial, trivial⟩⟩⟩⟩⟩⟩⟩
def cdc_874 (t : Nat) : Option (List PI) := match t with
  | 874 => some bbL_law_874
  | _ => none
theorem kdc_874 (n : String) (h : List ((Nat × Nat × Nat × Nat) × String)) : ∀ t is, cdc_874 t = some is → okL (mLL n h) t is := by
  intro t is hh
  unfold cdc_874 at hh
  split at hh <;> cases hh
  · exact ooL_law_874 n h
theorem ffc_874 (n : String) (h : List ((Nat × Nat × Nat × Nat) × String)) : mi_r (mLL n h) = some .boolean ∧ mi_l (mLL n h) = 9 ∧ (mi_rm (mLL n h)).cells = 601024 ∧ (mi_rm (mLL n h)).slots = 7293034 := ⟨rfl, rfl, rfl, rfl⟩
theorem ffk_874 : cdc_874 874 = some bbL_law_874 ∧ cdc_874 2169 = none ∧ (mi_rm m9_firstError).cells = 0 ∧ (mi_rm m9_firstError).slots = 0 ∧ (mi_rm m10_firstError).cells = 0 ∧ (mi_rm m10_firstError).slots = 0 := ⟨rfl, rfl, rfl, rfl, rfl, rfl⟩
def bbL_law_887 : List PI := [(1, .aload_n 1, 0, 0, 0, 0, kZ), (1, .aload_n 3, 0, 0, 0, 0, kZ), (3, .invokestatic 163, 2, 0, 2, 0, mL_play), (2, .istore 5, 0, 0, 0, 0, kZ), (1, .aload_n 2, 0, 0, 0, 0, kZ), (3, .invokevirtual 165, 0, 10, 0, 0, m10_play), (2, .istore 6, 0, 0, 0, 0, kZ), (1, .aload_n 2, 0, 0, 0, 0, kZ), (3, .invokevirtual 114, 0, 10, 0, 0, m10_thrown), (2, .iload 5, 0, 0, 0, 0, kZ), (3, .if_icmp .eq 5, 911, 0, 0, 0, kZ), (1, .iconst 0, 0, 0, 0, 0, kZ), (1, .ireturn, 0, 0, 0, 0, kZ)]
set_option maxRecDepth 100000 in
theorem ooL_law_887 (n : String) (h : List ((Nat × Nat × Nat × Nat) × String)) : okL (mLL n h) 887 bbL_law_887 := okL_of _ _ (show dB code 9 887 bbL_law_887 = true by decide +kernel) ⟨trivial, ⟨trivial, ⟨⟨mok_mL_play, rmLL _ _ (by decide) (by decide), lc_L_163, by decide⟩, ⟨trivial, ⟨trivial, ⟨⟨mok_m10_play, rmLL _ _ (by decide) (by decide), rfl, by decide, Or.inl lc_L_165⟩, ⟨trivial, ⟨trivial, ⟨⟨mok_m10_thrown, rmLL _ _ (by decide) (by decide), rfl, by decide, Or.inl lc_L_114⟩, ⟨trivial, ⟨rfl, ⟨trivial, ⟨trivial, trivial⟩⟩⟩⟩⟩⟩⟩⟩⟩⟩⟩⟩⟩
def bbL_law_911 : List PI := [(2, .iload 5, 0, 0, 0, 0, kZ), (3, .ifCond .ne 15, 928, 0, 0, 0, kZ), (1, .aload_n 3, 0, 0, 0, 0, kZ), (1, .iconst 0, 0, 0, 0, 0, kZ), (1, .laload, 0, 0, 0, 0, kZ), (2, .iload 6, 0, 0, 0, 0, kZ), (1, .i2l, 0, 0, 0, 0, kZ), (1, .lcmp, 0, 0, 0, 0, kZ), (3, .ifCond .eq 5, 928, 0, 0, 0, kZ), (1, .iconst 0, 0, 0, 0, 0, kZ), (1, .ireturn, 0, 0, 0, 0, kZ)]
set_option maxRecDepth 100000 in
theorem ooL_law_911 (n : String) (h : List ((Nat × Nat × Nat × Nat) × String)) : okL (mLL n h) 911 bbL_law_911 := okL_of _ _ (show dB code 9 911 bbL_law_911 = true by decide +kernel) ⟨trivial, ⟨rfl, ⟨trivial, ⟨trivial, ⟨trivial, ⟨trivial, ⟨trivial, ⟨trivial, ⟨rfl, ⟨trivial, ⟨trivial, trivial⟩⟩⟩⟩⟩⟩⟩⟩⟩⟩⟩
def bbL_law_928 : List PI := [(3, .goto 1241, 2169, 0, 0, 0, kZ)]
set_option maxRecDepth 100000 in
theorem ooL_law_928 (n : String) (h : List ((Nat × Nat × Nat × Nat) × String)) : okL (mLL n h) 928 bbL_law_928 := okL_of _ _ (show dB code 9 928 bbL_law_928 = true by decide +kernel) ⟨rfl, trivial⟩
def cdc_887 (t : Nat) : Option (List PI) := match t with
  | 887 => some bbL_law_887
  | 911 => some bbL_law_911
  | 928 => some bbL_law_928
  | _ => none
theorem kdc_887 (n : String) (h : List ((Nat × Nat × Nat × Nat) × String)) : ∀ t is, cdc_887 t = some is → okL (mLL n h) t is := by
  intro t is hh
  unfold cdc_887 at hh
  split at hh <;> cases hh
  · exact ooL_law_887 n h
  · exact ooL_law_911 n h
  · exact ooL_law_928 n h
theorem ffc_887 (n : String) (h : List ((Nat × Nat × Nat × Nat) × String)) : mi_r (mLL n h) = some .boolean ∧ mi_l (mLL n h) = 9 ∧ (mi_rm (mLL n h)).cells = 601024 ∧ (mi_rm (mLL n h)).slots = 7293034 := ⟨rfl, rfl, rfl, rfl⟩
theorem ffk_887 : cdc_887 887 = some bbL_law_887 ∧ cdc_887 911 = some bbL_law_911 ∧ cdc_887 928 = some bbL_law_928 ∧ cdc_887 2169 = none ∧ (mi_rm mL_play).cells = 1 ∧ (mi_rm mL_play).slots = 6 ∧ (mi_rm m10_play).cells = 0 ∧ (mi_rm m10_play).slots = 0 ∧ (mi_rm m10_thrown).cells = 0 ∧ (mi_rm m10_thrown).slots = 0 := ⟨rfl, rfl, rfl, rfl, rfl, rfl, rfl, rfl, rfl, rfl⟩
def bbL_law_931 : List PI := [(1, .aload_n 1, 0, 0, 0, 0, kZ), (3, .invokevirtual 166, 0, 9, 0, 0, m9_hasStopped), (1, .aload_n 2, 0, 0, 0, 0, kZ), (3, .invokevirtual 170, 0, 10, 0, 0, m10_hasStopped), (3, .if_icmp .eq 1230, 2169, 0, 0, 0, kZ), (1, .iconst 0, 0, 0, 0, 0, kZ), (1, .ireturn, 0, 0, 0, 0, kZ)]
set_option maxRecDepth 100000 in
theorem ooL_law_931 (n : String) (h : List ((Nat × Nat × Nat × Nat) × String)) : okL (mLL n h) 931 bbL_law_931 := okL_of _ _ (show dB code 9 931 bbL_law_931 = true by decide +kernel) ⟨trivial, ⟨⟨mok_m9_hasStopped, rmLL _ _ (by decide) (by decide), rfl, by decide, Or.inl lc_L_166⟩, ⟨trivial, ⟨⟨mok_m10_hasStopped, rmLL _ _ (by decide) (by decide), rfl, by decide, Or.inl lc_L_170⟩, ⟨rfl, ⟨trivial, ⟨trivial, trivial⟩⟩⟩⟩⟩⟩⟩
def cdc_931 (t : Nat) : Option (List PI) := match t with
  | 931 => some bbL_law_931
  | _ => none
theorem kdc_931 (n : String) (h : List ((Nat × Nat × Nat × Nat) × String)) : ∀ t is, cdc_931 t = some is → okL (mLL n h) t is := by
  intro t is hh
  unfold cdc_931 at hh
  split at hh <;> cases hh
  · exact ooL_law_931 n h
theorem ffc_931 (n : String) (h : List ((Nat × Nat × Nat × Nat) × String)) : mi_r (mLL n h) = some .boolean ∧ mi_l (mLL n h) = 9 ∧ (mi_rm (mLL n h)).cells = 601024 ∧ (mi_rm (mLL n h)).slots = 7293034 := ⟨rfl, rfl, rfl, rfl⟩
theorem ffk_931 : cdc_931 931 = some bbL_law_931 ∧ cdc_931 2169 = none ∧ (mi_rm m9_hasStopped).cells = 0 ∧ (mi_rm m9_hasStopped).slots = 0 ∧ (mi_rm m10_hasStopped).cells = 0 ∧ (mi_rm m10_hasStopped).slots = 0 := ⟨rfl, rfl, rfl, rfl, rfl, rfl⟩
def bbL_law_944 : List PI := [(1, .aload_n 1, 0, 0, 0, 0, kZ), (1, .aload_n 3, 0, 0, 0, 0, kZ), (3, .invokestatic 171, 2, 0, 2, 0, mL_stoppedPart), (2, .istore 5, 0, 0, 0, 0, kZ), (1, .aload_n 2, 0, 0, 0, 0, kZ), (3, .invokevirtual 173, 0, 10, 0, 0, m10_stoppedPart), (2, .istore 6, 0, 0, 0, 0, kZ), (1, .aload_n 2, 0, 0, 0, 0, kZ), (3, .invokevirtual 114, 0, 10, 0, 0, m10_thrown), (2, .iload 5, 0, 0, 0, 0, kZ), (3, .if_icmp .eq 5, 968, 0, 0, 0, kZ), (1, .iconst 0, 0, 0, 0, 0, kZ), (1, .ireturn, 0, 0, 0, 0, kZ)]
set_option maxRecDepth 100000 in
theorem ooL_law_944 (n : String) (h : List ((Nat × Nat × Nat × Nat) × String)) : okL (mLL n h) 944 bbL_law_944 := okL_of _ _ (show dB code 9 944 bbL_law_944 = true by decide +kernel) ⟨trivial, ⟨trivial, ⟨⟨mok_mL_stoppedPart, rmLL _ _ (by decide) (by decide), lc_L_171, by decide⟩, ⟨trivial, ⟨trivial, ⟨⟨mok_m10_stoppedPart, rmLL _ _ (by decide) (by decide), rfl, by decide, Or.inl lc_L_173⟩, ⟨trivial, ⟨trivial, ⟨⟨mok_m10_thrown, rmLL _ _ (by decide) (by decide), rfl, by decide, Or.inl lc_L_114⟩, ⟨trivial, ⟨rfl, ⟨trivial, ⟨trivial, trivial⟩⟩⟩⟩⟩⟩⟩⟩⟩⟩⟩⟩⟩
def bbL_law_968 : List PI := [(2, .iload 5, 0, 0, 0, 0, kZ), (3, .ifCond .ne 15, 985, 0, 0, 0, kZ), (1, .aload_n 3, 0, 0, 0, 0, kZ), (1, .iconst 0, 0, 0, 0, 0, kZ), (1, .laload, 0, 0, 0, 0, kZ), (2, .iload 6, 0, 0, 0, 0, kZ), (1, .i2l, 0, 0, 0, 0, kZ), (1, .lcmp, 0, 0, 0, 0, kZ), (3, .ifCond .eq 5, 985, 0, 0, 0, kZ), (1, .iconst 0, 0, 0, 0, 0, kZ), (1, .ireturn, 0, 0, 0, 0, kZ)]
set_option maxRecDepth 100000 in
theorem ooL_law_968 (n : String) (h : List ((Nat × Nat × Nat × Nat) × String)) : okL (mLL n h) 968 bbL_law_968 := okL_of _ _ (show dB code 9 968 bbL_law_968 = true by decide +kernel) ⟨trivial, ⟨rfl, ⟨trivial, ⟨trivial, ⟨trivial, ⟨trivial, ⟨trivial, ⟨trivial, ⟨rfl, ⟨trivial, ⟨trivial, trivial⟩⟩⟩⟩⟩⟩⟩⟩⟩⟩⟩
def bbL_law_985 : List PI := [(3, .goto 1184, 2169, 0, 0, 0, kZ)]
set_option maxRecDepth 100000 in
theorem ooL_law_985 (n : String) (h : List ((Nat × Nat × Nat × Nat) × String)) : okL (mLL n h) 985 bbL_law_985 := okL_of _ _ (show dB code 9 985 bbL_law_985 = true by decide +kernel) ⟨rfl, trivial⟩
def cdc_944 (t : Nat) : Option (List PI) := match t with
  | 944 => some bbL_law_944
  | 968 => some bbL_law_968
  | 985 => some bbL_law_985
  | _ => none
theorem kdc_944 (n : String) (h : List ((Nat × Nat × Nat × Nat) × String)) : ∀ t is, cdc_944 t = some is → okL (mLL n h) t is := by
  intro t is hh
  unfold cdc_944 at hh
  split at hh <;> cases hh
  · exact ooL_law_944 n h
  · exact ooL_law_968 n h
  · exact ooL_law_985 n h
theorem ffc_944 (n : String) (h : List ((Nat × Nat × Nat × Nat) × String)) : mi_r (mLL n h) = some .boolean ∧ mi_l (mLL n h) = 9 ∧ (mi_rm (mLL n h)).cells = 601024 ∧ (mi_rm (mLL n h)).slots = 7293034 := ⟨rfl, rfl, rfl, rfl⟩
theorem ffk_944 : cdc_944 944 = some bbL_law_944 ∧ cdc_944 968 = some bbL_law_968 ∧ cdc_944 985 = some bbL_law_985 ∧ cdc_944 2169 = none ∧ (mi_rm mL_stoppedPart).cells = 1 ∧ (mi_rm mL_stoppedPart).slots = 6 ∧ (mi_rm m10_stoppedPart).cells = 0 ∧ (mi_rm m10_stoppedPart).slots = 0 ∧ (mi_rm m10_thrown).cells = 0 ∧ (mi_rm m10_thrown).slots = 0 := ⟨rfl, rfl, rfl, rfl, rfl, rfl, rfl, rfl, rfl, rfl⟩
def bbL_law_988 : List PI := [(1, .aload_n 1, 0, 0, 0, 0, kZ), (1, .aload_n 3, 0, 0, 0, 0, kZ), (3, .invokestatic 174, 2, 0, 2, 0, mL_undo), (2, .istore 5, 0, 0, 0, 0, kZ), (1, .aload_n 2, 0, 0, 0, 0, kZ), (3, .invokevirtual 176, 0, 10, 0, 0, m10_undo), (2, .istore 6, 0, 0, 0, 0, kZ), (1, .aload_n 2, 0, 0, 0, 0, kZ), (3, .invokevirtual 114, 0, 10, 0, 0, m10_thrown), (2, .iload 5, 0, 0, 0, 0, kZ), (3, .if_icmp .eq 5, 1012, 0, 0, 0, kZ), (1, .iconst 0, 0, 0, 0, 0, kZ), (1, .ireturn, 0, 0, 0, 0, kZ)]
set_option maxRecDepth 100000 in
theorem ooL_law_988 (n : String) (h : List ((Nat × Nat × Nat × Nat) × String)) : okL (mLL n h) 988 bbL_law_988 := okL_of _ _ (show dB code 9 988 bbL_law_988 = true by decide +kernel) ⟨trivial, ⟨trivial, ⟨⟨mok_mL_undo, rmLL _ _ (by decide) (by decide), lc_L_174, by decide⟩, ⟨trivial, ⟨trivial, ⟨⟨mok_m10_undo, rmLL _ _ (by decide) (by decide), rfl, by decide, Or.inl lc_L_176⟩, ⟨trivial, ⟨trivial, ⟨⟨mok_m10_thrown, rmLL _ _ (by decide) (by decide), rfl, by decide, Or.inl lc_L_114⟩, ⟨trivial, ⟨rfl, ⟨trivial, ⟨trivial, trivial⟩⟩⟩⟩⟩⟩⟩⟩⟩⟩⟩⟩⟩
def bbL_law_1012 : List PI := [(2, .iload 5, 0, 0, 0, 0, kZ), (3, .ifCond .ne 15, 1029, 0, 0, 0, kZ), (1, .aload_n 3, 0, 0, 0, 0, kZ), (1, .iconst 0, 0, 0, 0, 0, kZ), (1, .laload, 0, 0, 0, 0, kZ), (2, .iload 6, 0, 0, 0, 0, kZ), (1, .i2l, 0, 0, 0, 0, kZ), (1, .lcmp, 0, 0, 0, 0, kZ), (3, .ifCond .eq 5, 1029, 0, 0, 0, kZ), (1, .iconst 0, 0, 0, 0, 0, kZ), (1, .ireturn, 0, 0, 0, 0, kZ)]
set_option maxRecDepth 100000 in
theorem ooL_law_1012 (n : String) (h : List ((Nat × Nat × Nat × Nat) × String)) : okL (mLL n h) 1012 bbL_law_1012 := okL_of _ _ (show dB code 9 1012 bbL_law_1012 = true by decide +kernel) ⟨trivial, ⟨rfl, ⟨trivial, ⟨trivial, ⟨trivial, ⟨trivial, ⟨trivial, ⟨trivial, ⟨rfl, ⟨trivial, ⟨trivial, trivial⟩⟩⟩⟩⟩⟩⟩⟩⟩⟩⟩
def bbL_law_1029 : List PI := [(3, .goto 1140, 2169, 0, 0, 0, kZ)]
set_option maxRecDepth 100000 in
theorem ooL_law_1029 (n : String) (h : List ((Nat × Nat × Nat × Nat) × String)) : okL (mLL n h) 1029 bbL_law_1029 := okL_of _ _ (show dB code 9 1029 bbL_law_1029 = true by decide +kernel) ⟨rfl, trivial⟩
def cdc_988 (t : Nat) : Option (List PI) := match t with
  | 988 => some bbL_law_988
  | 1012 => some bbL_law_1012
  | 1029 => some bbL_law_1029
  | _ => none
theorem kdc_988 (n : String) (h : List ((Nat × Nat × Nat × Nat) × String)) : ∀ t is, cdc_988 t = some is → okL (mLL n h) t is := by
  intro t is hh
  unfold cdc_988 at hh
  split at hh <;> cases hh
  · exact ooL_law_988 n h
  · exact ooL_law_1012 n h
  · exact ooL_law_1029 n h
theorem ffc_988 (n : String) (h : List ((Nat × Nat × Nat × Nat) × String)) : mi_r (mLL n h) = some .boolean ∧ mi_l (mLL n h) = 9 ∧ (mi_rm (mLL n h)).cells = 601024 ∧ (mi_rm (mLL n h)).slots = 7293034 := ⟨rfl, rfl, rfl, rfl⟩
theorem ffk_988 : cdc_988 988 = some bbL_law_988 ∧ cdc_988 1012 = some bbL_law_1012 ∧ cdc_988 1029 = some bbL_law_1029 ∧ cdc_988 2169 = none ∧ (mi_rm mL_undo).cells = 1 ∧ (mi_rm mL_undo).slots = 6 ∧ (mi_rm m10_undo).cells = 0 ∧ (mi_rm m10_undo).slots = 0 ∧ (mi_rm m10_thrown).cells = 0 ∧ (mi_rm m10_thrown).slots = 0 := ⟨rfl, rfl, rfl, rfl, rfl, rfl, rfl, rfl, rfl, rfl⟩
def bbL_law_1032 : List PI := [(1, .aload_n 1, 0, 0, 0, 0, kZ), (3, .invokevirtual 177, 0, 9, 0, 0, m9_keep), (1, .aload_n 2, 0, 0, 0, 0, kZ), (3, .invokevirtual 180, 0, 10, 0, 0, m10_keep), (3, .if_icmp .eq 1129, 2169, 0, 0, 0, kZ), (1, .iconst 0, 0, 0, 0, 0, kZ), (1, .ireturn, 0, 0, 0, 0, kZ)]
set_option maxRecDepth 100000 in
theorem ooL_law_1032 (n : String) (h : List ((Nat × Nat × Nat × Nat) × String)) : okL (mLL n h) 1032 bbL_law_1032 := okL_of _ _ (show dB code 9 1032 bbL_law_1032 = true by decide +kernel) ⟨trivial, ⟨⟨mok_m9_keep, rmLL _ _ (by decide) (by decide), rfl, by decide, Or.inl lc_L_177⟩, ⟨trivial, ⟨⟨mok_m10_keep, rmLL _ _ (by decide) (by decide), rfl, by decide, Or.inl lc_L_180⟩, ⟨rfl, ⟨trivial, ⟨trivial, trivial⟩⟩⟩⟩⟩⟩⟩
def cdc_1032 (t : Nat) : Option (List PI) := match t with
  | 1032 => some bbL_law_1032
  | _ => none
theorem kdc_1032 (n : String) (h : List ((Nat × Nat × Nat × Nat) × String)) : ∀ t is, cdc_1032 t = some is → okL (mLL n h) t is := by
  intro t is hh
  unfold cdc_1032 at hh
  split at hh <;> cases hh
  · exact ooL_law_1032 n h
theorem ffc_1032 (n : String) (h : List ((Nat × Nat × Nat × Nat) × String)) : mi_r (mLL n h) = some .boolean ∧ mi_l (mLL n h) = 9 ∧ (mi_rm (mLL n h)).cells = 601024 ∧ (mi_rm (mLL n h)).slots = 7293034 := ⟨rfl, rfl, rfl, rfl⟩
theorem ffk_1032 : cdc_1032 1032 = some bbL_law_1032 ∧ cdc_1032 2169 = none ∧ (mi_rm m9_keep).cells = 0 ∧ (mi_rm m9_keep).slots = 0 ∧ (mi_rm m10_keep).cells = 0 ∧ (mi_rm m10_keep).slots = 0 := ⟨rfl, rfl, rfl, rfl, rfl, rfl⟩
def bbL_law_1045 : List PI := [(1, .aload_n 1, 0, 0, 0, 0, kZ), (1, .aload_n 3, 0, 0, 0, 0, kZ), (3, .invokestatic 181, 2, 0, 2, 0, mL_restore), (2, .istore 5, 0, 0, 0, 0, kZ), (1, .aload_n 2, 0, 0, 0, 0, kZ), (3, .invokevirtual 183, 0, 10, 0, 0, m10_restore), (2, .istore 6, 0, 0, 0, 0, kZ), (1, .aload_n 2, 0, 0, 0, 0, kZ), (3, .invokevirtual 114, 0, 10, 0, 0, m10_thrown), (2, .iload 5, 0, 0, 0, 0, kZ), (3, .if_icmp .eq 5, 1069, 0, 0, 0, kZ), (1, .iconst 0, 0, 0, 0, 0, kZ), (1, .ireturn, 0, 0, 0, 0, kZ)]
set_option maxRecDepth 100000 in
theorem ooL_law_1045 (n : String) (h : List ((Nat × Nat × Nat × Nat) × String)) : okL (mLL n h) 1045 bbL_law_1045 := okL_of _ _ (show dB code 9 1045 bbL_law_1045 = true by decide +kernel) ⟨trivial, ⟨trivial, ⟨⟨mok_mL_restore, rmLL _ _ (by decide) (by decide), lc_L_181, by decide⟩, ⟨trivial, ⟨trivial, ⟨⟨mok_m10_restore, rmLL _ _ (by decide) (by decide), rfl, by decide, Or.inl lc_L_183⟩, ⟨trivial, ⟨trivial, ⟨⟨mok_m10_thrown, rmLL _ _ (by decide) (by decide), rfl, by decide, Or.inl lc_L_114⟩, ⟨trivial, ⟨rfl, ⟨trivial, ⟨trivial, trivial⟩⟩⟩⟩⟩⟩⟩⟩⟩⟩⟩⟩⟩
def bbL_law_1069 : List PI := [(2, .iload 5, 0, 0, 0, 0, kZ), (3, .ifCond .ne 15, 1086, 0, 0, 0, kZ), (1, .aload_n 3, 0, 0, 0, 0, kZ), (1, .iconst 0, 0, 0, 0, 0, kZ), (1, .laload, 0, 0, 0, 0, kZ), (2, .iload 6, 0, 0, 0, 0, kZ), (1, .i2l, 0, 0, 0, 0, kZ), (1, .lcmp, 0, 0, 0, 0, kZ), (3, .ifCond .eq 5, 1086, 0, 0, 0, kZ), (1, .iconst 0, 0, 0, 0, 0, kZ), (1, .ireturn, 0, 0, 0, 0, kZ)]
set_option maxRecDepth 100000 in
theorem ooL_law_1069 (n : String) (h : List ((Nat × Nat × Nat × Nat) × String)) : okL (mLL n h) 1069 bbL_law_1069 := okL_of _ _ (show dB code 9 1069 bbL_law_1069 = true by decide +kernel) ⟨trivial, ⟨rfl, ⟨trivial, ⟨trivial, ⟨trivial, ⟨trivial, ⟨trivial, ⟨trivial, ⟨rfl, ⟨trivial, ⟨trivial, trivial⟩⟩⟩⟩⟩⟩⟩⟩⟩⟩⟩
def bbL_law_1086 : List PI := [(3, .goto 1083, 2169, 0, 0, 0, kZ)]
set_option maxRecDepth 100000 in
theorem ooL_law_1086 (n : String) (h : List ((Nat × Nat × Nat × Nat) × String)) : okL (mLL n h) 1086 bbL_law_1086 := okL_of _ _ (show dB code 9 1086 bbL_law_1086 = true by decide +kernel) ⟨rfl, trivial⟩
def cdc_1045 (t : Nat) : Option (List PI) := match t with
  | 1045 => some bbL_law_1045
  | 1069 => some bbL_law_1069
  | 1086 => some bbL_law_1086
  | _ => none
theorem kdc_1045 (n : String) (h : List ((Nat × Nat × Nat × Nat) × String)) : ∀ t is, cdc_1045 t = some is → okL (mLL n h) t is := by
  intro t is hh
  unfold cdc_1045 at hh
  split at hh <;> cases hh
  · exact ooL_law_1045 n h
  · exact ooL_law_1069 n h
  · exact ooL_law_1086 n h
theorem ffc_1045 (n : String) (h : List ((Nat × Nat × Nat × Nat) × String)) : mi_r (mLL n h) = some .boolean ∧ mi_l (mLL n h) = 9 ∧ (mi_rm (mLL n h)).cells = 601024 ∧ (mi_rm (mLL n h)).slots = 7293034 := ⟨rfl, rfl, rfl, rfl⟩
theorem ffk_1045 : cdc_1045 1045 = some bbL_law_1045 ∧ cdc_1045 1069 = some bbL_law_1069 ∧ cdc_1045 1086 = some bbL_law_1086 ∧ cdc_1045 2169 = none ∧ (mi_rm mL_restore).cells = 1 ∧ (mi_rm mL_restore).slots = 6 ∧ (mi_rm m10_restore).cells = 0 ∧ (mi_rm m10_restore).slots = 0 ∧ (mi_rm m10_thrown).cells = 0 ∧ (mi_rm m10_thrown).slots = 0 := ⟨rfl, rfl, rfl, rfl, rfl, rfl, rfl, rfl, rfl, rfl⟩
def bbL_law_1089 : List PI := [(1, .aload_n 1, 0, 0, 0, 0, kZ), (3, .invokevirtual 184, 0, 9, 0, 0, m9_savedStates), (1, .aload_n 2, 0, 0, 0, 0, kZ), (3, .invokevirtual 187, 0, 10, 0, 0, m10_savedStates), (3, .if_icmp .eq 1072, 2169, 0, 0, 0, kZ), (1, .iconst 0, 0, 0, 0, 0, kZ), (1, .ireturn, 0, 0, 0, 0, kZ)]
set_option maxRecDepth 100000 in
theorem ooL_law_1089 (n : String) (h : List ((Nat × Nat × Nat × Nat) × String)) : okL (mLL n h) 1089 bbL_law_1089 := okL_of _ _ (show dB code 9 1089 bbL_law_1089 = true by decide +kernel) ⟨trivial, ⟨⟨mok_m9_savedStates, rmLL _ _ (by decide) (by decide), rfl, by decide, Or.inl lc_L_184⟩, ⟨trivial, ⟨⟨mok_m10_savedStates, rmLL _ _ (by decide) (by decide), rfl, by decide, Or.inl lc_L_187⟩, ⟨rfl, ⟨trivial, ⟨trivial, trivial⟩⟩⟩⟩⟩⟩⟩
def cdc_1089 (t : Nat) : Option (List PI) := match t with
  | 1089 => some bbL_law_1089
  | _ => none
theorem kdc_1089 (n : String) (h : List ((Nat × Nat × Nat × Nat) × String)) : ∀ t is, cdc_1089 t = some is → okL (mLL n h) t is := by
  intro t is hh
  unfold cdc_1089 at hh
  split at hh <;> cases hh
  · exact ooL_law_1089 n h
theorem ffc_1089 (n : String) (h : List ((Nat × Nat × Nat × Nat) × String)) : mi_r (mLL n h) = some .boolean ∧ mi_l (mLL n h) = 9 ∧ (mi_rm (mLL n h)).cells = 601024 ∧ (mi_rm (mLL n h)).slots = 7293034 := ⟨rfl, rfl, rfl, rfl⟩
theorem ffk_1089 : cdc_1089 1089 = some bbL_law_1089 ∧ cdc_1089 2169 = none ∧ (mi_rm m9_savedStates).cells = 0 ∧ (mi_rm m9_savedStates).slots = 0 ∧ (mi_rm m10_savedStates).cells = 0 ∧ (mi_rm m10_savedStates).slots = 0 := ⟨rfl, rfl, rfl, rfl, rfl, rfl⟩
def bbL_law_1102 : List PI := [(1, .aload_n 1, 0, 0, 0, 0, kZ), (3, .invokevirtual 188, 0, 9, 0, 0, m9_width), (1, .aload_n 2, 0, 0, 0, 0, kZ), (3, .invokevirtual 191, 0, 10, 0, 0, m10_width), (3, .if_icmp .eq 1059, 2169, 0, 0, 0, kZ), (1, .iconst 0, 0, 0, 0, 0, kZ), (1, .ireturn, 0, 0, 0, 0, kZ)]
set_option maxRecDepth 100000 in
theorem ooL_law_1102 (n : String) (h : List ((Nat × Nat × Nat × Nat) × String)) : okL (mLL n h) 1102 bbL_law_1102 := okL_of _ _ (show dB code 9 1102 bbL_law_1102 = true by decide +kernel) ⟨trivial, ⟨⟨mok_m9_width, rmLL _ _ (by decide) (by decide), rfl, by decide, Or.inl lc_L_188⟩, ⟨trivial, ⟨⟨mok_m10_width, rmLL _ _ (by decide) (by decide), rfl, by decide, Or.inl lc_L_191⟩, ⟨rfl, ⟨trivial, ⟨trivial, trivial⟩⟩⟩⟩⟩⟩⟩
def cdc_1102 (t : Nat) : Option (List PI) := match t with
  | 1102 => some bbL_law_1102
  | _ => none
theorem kdc_1102 (n : String) (h : List ((Nat × Nat × Nat × Nat) × String)) : ∀ t is, cdc_1102 t = some is → okL (mLL n h) t is := by
  intro t is hh
  unfold cdc_1102 at hh
  split at hh <;> cases hh
  · exact ooL_law_1102 n h
theorem ffc_1102 (n : String) (h : List ((Nat × Nat × Nat × Nat) × String)) : mi_r (mLL n h) = some .boolean ∧ mi_l (mLL n h) = 9 ∧ (mi_rm (mLL n h)).cells = 601024 ∧ (mi_rm (mLL n h)).slots = 7293034 := ⟨rfl, rfl, rfl, rfl⟩
theorem ffk_1102 : cdc_1102 1102 = some bbL_law_1102 ∧ cdc_1102 2169 = none ∧ (mi_rm m9_width).cells = 0 ∧ (mi_rm m9_width).slots = 0 ∧ (mi_rm m10_width).cells = 0 ∧ (mi_rm m10_width).slots = 0 := ⟨rfl, rfl, rfl, rfl, rfl, rfl⟩
def bbL_law_1115 : List PI := [(1, .aload_n 1, 0, 0, 0, 0, kZ), (3, .invokevirtual 192, 0, 9, 0, 0, m9_lines), (1, .aload_n 2, 0, 0, 0, 0, kZ), (3, .invokevirtual 195, 0, 10, 0, 0, m10_lines), (3, .if_icmp .eq 1046, 2169, 0, 0, 0, kZ), (1, .iconst 0, 0, 0, 0, 0, kZ), (1, .ireturn, 0, 0, 0, 0, kZ)]
set_option maxRecDepth 100000 in
theorem ooL_law_1115 (n : String) (h : List ((Nat × Nat × Nat × Nat) × String)) : okL (mLL n h) 1115 bbL_law_1115 := okL_of _ _ (show dB code 9 1115 bbL_law_1115 = true by decide +kernel) ⟨trivial, ⟨⟨mok_m9_lines, rmLL _ _ (by decide) (by decide), rfl, by decide, Or.inl lc_L_192⟩, ⟨trivial, ⟨⟨mok_m10_lines, rmLL _ _ (by decide) (by decide), rfl, by decide, Or.inl lc_L_195⟩, ⟨rfl, ⟨trivial, ⟨trivial, trivial⟩⟩⟩⟩⟩⟩⟩
def cdc_1115 (t : Nat) : Option (List PI) := match t with
  | 1115 => some bbL_law_1115
  | _ => none
theorem kdc_1115 (n : String) (h : List ((Nat × Nat × Nat × Nat) × String)) : ∀ t is, cdc_1115 t = some is → okL (mLL n h) t is := by
  intro t is hh
  unfold cdc_1115 at hh
  split at hh <;> cases hh
  · exact ooL_law_1115 n h
theorem ffc_1115 (n : String) (h : List ((Nat × Nat × Nat × Nat) × String)) : mi_r (mLL n h) = some .boolean ∧ mi_l (mLL n h) = 9 ∧ (mi_rm (mLL n h)).cells = 601024 ∧ (mi_rm (mLL n h)).slots = 7293034 := ⟨rfl, rfl, rfl, rfl⟩
theorem ffk_1115 : cdc_1115 1115 = some bbL_law_1115 ∧ cdc_1115 2169 = none ∧ (mi_rm m9_lines).cells = 0 ∧ (mi_rm m9_lines).slots = 0 ∧ (mi_rm m10_lines).cells = 0 ∧ (mi_rm m10_lines).slots = 0 := ⟨rfl, rfl, rfl, rfl, rfl, rfl⟩
def bbL_law_1128 : List PI := [(1, .aload_n 1, 0, 0, 0, 0, kZ), (3, .invokevirtual 196, 0, 9, 0, 0, m9_style), (1, .aload_n 2, 0, 0, 0, 0, kZ), (3, .invokevirtual 199, 0, 10, 0, 0, m10_style), (3, .if_icmp .eq 1033, 2169, 0, 0, 0, kZ), (1, .iconst 0, 0, 0, 0, 0, kZ), (1, .ireturn, 0, 0, 0, 0, kZ)]
set_option maxRecDepth 100000 in
theorem ooL_law_1128 (n : String) (h : List ((Nat × Nat × Nat × Nat) × String)) : okL (mLL n h) 1128 bbL_law_1128 := okL_of _ _ (show dB code 9 1128 bbL_law_1128 = true by decide +kernel) ⟨trivial, ⟨⟨mok_m9_style, rmLL _ _ (by decide) (by decide), rfl, by decide, Or.inl lc_L_196⟩, ⟨trivial, ⟨⟨mok_m10_style, rmLL _ _ (by decide) (by decide), rfl, by decide, Or.inl lc_L_199⟩, ⟨rfl, ⟨trivial, ⟨trivial, trivial⟩⟩⟩⟩⟩⟩⟩
def cdc_1128 (t : Nat) : Option (List PI) := match t with
  | 1128 => some bbL_law_1128
  | _ => none
theorem kdc_1128 (n : String) (h : List ((Nat × Nat × Nat × Nat) × String)) : ∀ t is, cdc_1128 t = some is → okL (mLL n h) t is := by
  intro t is hh
  unfold cdc_1128 at hh
  split at hh <;> cases hh
  · exact ooL_law_1128 n h
theorem ffc_1128 (n : String) (h : List ((Nat × Nat × Nat × Nat) × String)) : mi_r (mLL n h) = some .boolean ∧ mi_l (mLL n h) = 9 ∧ (mi_rm (mLL n h)).cells = 601024 ∧ (mi_rm (mLL n h)).slots = 7293034 := ⟨rfl, rfl, rfl, rfl⟩
theorem ffk_1128 : cdc_1128 1128 = some bbL_law_1128 ∧ cdc_1128 2169 = none ∧ (mi_rm m9_style).cells = 0 ∧ (mi_rm m9_style).slots = 0 ∧ (mi_rm m10_style).cells = 0 ∧ (mi_rm m10_style).slots = 0 := ⟨rfl, rfl, rfl, rfl, rfl, rfl⟩

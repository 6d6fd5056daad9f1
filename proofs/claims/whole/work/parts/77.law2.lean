/-! THE LAW'S CODE, 2 -/
def bbL_law_1141 : List PI := [(1, .aload_n 1, 0, 0, 0, 0, kZ), (1, .aload_n 0, 0, 0, 0, 0, kZ), (2, .iload 4, 0, 0, 0, 0, kZ), (1, .iconst 1, 0, 0, 0, 0, kZ), (1, .iadd, 0, 0, 0, 0, kZ), (1, .iaload, 0, 0, 0, 0, kZ), (1, .aload_n 3, 0, 0, 0, 0, kZ), (3, .invokestatic 200, 3, 0, 2, 0, mL_pixelsOf), (2, .istore 5, 0, 0, 0, 0, kZ), (1, .aload_n 2, 0, 0, 0, 0, kZ), (1, .aload_n 0, 0, 0, 0, 0, kZ), (2, .iload 4, 0, 0, 0, 0, kZ), (1, .iconst 1, 0, 0, 0, 0, kZ), (1, .iadd, 0, 0, 0, 0, kZ), (1, .iaload, 0, 0, 0, 0, kZ), (3, .invokevirtual 202, 1, 10, 0, 0, m10_pixelsOf), (2, .lstore 6, 0, 0, 0, 0, kZ), (1, .aload_n 2, 0, 0, 0, 0, kZ), (3, .invokevirtual 114, 0, 10, 0, 0, m10_thrown), (2, .iload 5, 0, 0, 0, 0, kZ), (3, .if_icmp .eq 5, 1177, 0, 0, 0, kZ), (1, .iconst 0, 0, 0, 0, 0, kZ), (1, .ireturn, 0, 0, 0, 0, kZ)]
set_option maxRecDepth 100000 in
theorem ooL_law_1141 (n : String) (h : List ((Nat × Nat × Nat × Nat) × String)) : okL (mLL n h) 1141 bbL_law_1141 := okL_of _ _ (show dB code 9 1141 bbL_law_1141 = true by decide +kernel) ⟨trivial, ⟨trivial, ⟨trivial, ⟨trivial, ⟨trivial, ⟨trivial, ⟨trivial, ⟨⟨mok_mL_pixelsOf, rmLL _ _ (by decide) (by decide), lc_L_200, by decide⟩, ⟨trivial, ⟨trivial, ⟨trivial, ⟨trivial, ⟨trivial, ⟨trivial, ⟨trivial, ⟨⟨mok_m10_pixelsOf, rmLL _ _ (by decide) (by decide), rfl, by decide, Or.inl lc_L_202⟩, ⟨trivial, ⟨trivial, ⟨⟨mok_m10_thrown, rmLL _ _ (by decide) (by decide), rfl, by decide, Or.inl lc_L_114⟩, ⟨trivial, ⟨rfl, ⟨trivial, ⟨trivial, trivial⟩⟩⟩⟩⟩⟩⟩⟩⟩⟩⟩⟩⟩⟩⟩⟩⟩⟩⟩⟩⟩⟩⟩
def bbL_law_1177 : List PI := [(2, .iload 5, 0, 0, 0, 0, kZ), (3, .ifCond .ne 14, 1193, 0, 0, 0, kZ), (1, .aload_n 3, 0, 0, 0, 0, kZ), (1, .iconst 0, 0, 0, 0, 0, kZ), (1, .laload, 0, 0, 0, 0, kZ), (2, .lload 6, 0, 0, 0, 0, kZ), (1, .lcmp, 0, 0, 0, 0, kZ), (3, .ifCond .eq 5, 1193, 0, 0, 0, kZ), (1, .iconst 0, 0, 0, 0, 0, kZ), (1, .ireturn, 0, 0, 0, 0, kZ)]
set_option maxRecDepth 100000 in
theorem ooL_law_1177 (n : String) (h : List ((Nat × Nat × Nat × Nat) × String)) : okL (mLL n h) 1177 bbL_law_1177 := okL_of _ _ (show dB code 9 1177 bbL_law_1177 = true by decide +kernel) ⟨trivial, ⟨rfl, ⟨trivial, ⟨trivial, ⟨trivial, ⟨trivial, ⟨trivial, ⟨rfl, ⟨trivial, ⟨trivial, trivial⟩⟩⟩⟩⟩⟩⟩⟩⟩⟩
def bbL_law_1193 : List PI := [(3, .goto 976, 2169, 0, 0, 0, kZ)]
set_option maxRecDepth 100000 in
theorem ooL_law_1193 (n : String) (h : List ((Nat × Nat × Nat × Nat) × String)) : okL (mLL n h) 1193 bbL_law_1193 := okL_of _ _ (show dB code 9 1193 bbL_law_1193 = true by decide +kernel) ⟨rfl, trivial⟩
def cdc_1141 (t : Nat) : Option (List PI) := match t with
  | 1141 => some bbL_law_1141
  | 1177 => some bbL_law_1177
  | 1193 => some bbL_law_1193
  | _ => none
theorem kdc_1141 (n : String) (h : List ((Nat × Nat × Nat × Nat) × String)) : ∀ t is, cdc_1141 t = some is → okL (mLL n h) t is := by
  intro t is hh
  unfold cdc_1141 at hh
  split at hh <;> cases hh
  · exact ooL_law_1141 n h
  · exact ooL_law_1177 n h
  · exact ooL_law_1193 n h
theorem ffc_1141 (n : String) (h : List ((Nat × Nat × Nat × Nat) × String)) : mi_r (mLL n h) = some .boolean ∧ mi_l (mLL n h) = 9 ∧ (mi_rm (mLL n h)).cells = 601024 ∧ (mi_rm (mLL n h)).slots = 7293034 := ⟨rfl, rfl, rfl, rfl⟩
theorem ffk_1141 : cdc_1141 1141 = some bbL_law_1141 ∧ cdc_1141 1177 = some bbL_law_1177 ∧ cdc_1141 1193 = some bbL_law_1193 ∧ cdc_1141 2169 = none ∧ (mi_rm mL_pixelsOf).cells = 1 ∧ (mi_rm mL_pixelsOf).slots = 6 ∧ (mi_rm m10_pixelsOf).cells = 0 ∧ (mi_rm m10_pixelsOf).slots = 0 ∧ (mi_rm m10_thrown).cells = 0 ∧ (mi_rm m10_thrown).slots = 0 := ⟨rfl, rfl, rfl, rfl, rfl, rfl, rfl, rfl, rfl, rfl⟩
def bbL_law_1196 : List PI := [(1, .aload_n 1, 0, 0, 0, 0, kZ), (1, .aload_n 0, 0, 0, 0, 0, kZ), (2, .iload 4, 0, 0, 0, 0, kZ), (1, .iconst 1, 0, 0, 0, 0, kZ), (1, .iadd, 0, 0, 0, 0, kZ), (1, .iaload, 0, 0, 0, 0, kZ), (1, .aload_n 0, 0, 0, 0, 0, kZ), (2, .iload 4, 0, 0, 0, 0, kZ), (1, .iconst 2, 0, 0, 0, 0, kZ), (1, .iadd, 0, 0, 0, 0, kZ), (1, .iaload, 0, 0, 0, 0, kZ), (1, .aload_n 3, 0, 0, 0, 0, kZ), (3, .invokestatic 203, 4, 0, 2, 0, mL_isBlack), (2, .istore 5, 0, 0, 0, 0, kZ), (1, .aload_n 2, 0, 0, 0, 0, kZ), (1, .aload_n 0, 0, 0, 0, 0, kZ), (2, .iload 4, 0, 0, 0, 0, kZ), (1, .iconst 1, 0, 0, 0, 0, kZ), (1, .iadd, 0, 0, 0, 0, kZ), (1, .iaload, 0, 0, 0, 0, kZ), (1, .aload_n 0, 0, 0, 0, 0, kZ), (2, .iload 4, 0, 0, 0, 0, kZ), (1, .iconst 2, 0, 0, 0, 0, kZ), (1, .iadd, 0, 0, 0, 0, kZ), (1, .iaload, 0, 0, 0, 0, kZ), (3, .invokevirtual 205, 2, 10, 0, 0, m10_isBlack), (2, .istore 6, 0, 0, 0, 0, kZ), (1, .aload_n 2, 0, 0, 0, 0, kZ), (3, .invokevirtual 114, 0, 10, 0, 0, m10_thrown), (2, .iload 5, 0, 0, 0, 0, kZ), (3, .if_icmp .eq 5, 1244, 0, 0, 0, kZ), (1, .iconst 0, 0, 0, 0, 0, kZ), (1, .ireturn, 0, 0, 0, 0, kZ)]
set_option maxRecDepth 100000 in
theorem ooL_law_1196 (n : String) (h : List ((Nat × Nat × Nat × Nat) × String)) : okL (mLL n h) 1196 bbL_law_1196 := okL_of _ _ (show dB code 9 1196 bbL_law_1196 = true by decide +kernel) ⟨trivial, ⟨trivial, ⟨trivial, ⟨trivial, ⟨trivial, ⟨trivial, ⟨trivial, ⟨trivial, ⟨trivial, ⟨trivial, ⟨trivial, ⟨trivial, ⟨⟨mok_mL_isBlack, rmLL _ _ (by decide) (by decide), lc_L_203, by decide⟩, ⟨trivial, ⟨trivial, ⟨trivial, ⟨trivial, ⟨trivial, ⟨trivial, ⟨trivial, ⟨trivial, ⟨trivial, ⟨trivial, ⟨trivial, ⟨trivial, ⟨⟨mok_m10_isBlack, rmLL _ _ (by decide) (by decide), rfl, by decide, Or.inl lc_L_205⟩, ⟨trivial, ⟨trivial, ⟨⟨mok_m10_thrown, rmLL _ _ (by decide) (by decide), rfl, by decide, Or.inl lc_L_114⟩, ⟨trivial, ⟨rfl, ⟨trivial, ⟨trivial, trivial⟩⟩⟩⟩⟩⟩⟩⟩⟩⟩⟩⟩⟩⟩⟩⟩⟩⟩⟩⟩⟩⟩⟩⟩⟩⟩⟩⟩⟩⟩⟩⟩⟩
def bbL_law_1244 : List PI := [(2, .iload 5, 0, 0, 0, 0, kZ), (3, .ifCond .ne 22, 1268, 0, 0, 0, kZ), (1, .aload_n 3, 0, 0, 0, 0, kZ), (1, .iconst 0, 0, 0, 0, 0, kZ), (1, .laload, 0, 0, 0, 0, kZ), (2, .iload 6, 0, 0, 0, 0, kZ), (3, .ifCond .eq 7, 1261, 0, 0, 0, kZ), (1, .lconst 1, 0, 0, 0, 0, kZ), (3, .goto 4, 1262, 0, 0, 0, kZ)]
set_option maxRecDepth 100000 in
theorem ooL_law_1244 (n : String) (h : List ((Nat × Nat × Nat × Nat) × String)) : okL (mLL n h) 1244 bbL_law_1244 := okL_of _ _ (show dB code 9 1244 bbL_law_1244 = true by decide +kernel) ⟨trivial, ⟨rfl, ⟨trivial, ⟨trivial, ⟨trivial, ⟨trivial, ⟨rfl, ⟨trivial, ⟨rfl, trivial⟩⟩⟩⟩⟩⟩⟩⟩⟩
def bbL_law_1261 : List PI := [(1, .lconst 0, 0, 0, 0, 0, kZ)]
set_option maxRecDepth 100000 in
theorem ooL_law_1261 (n : String) (h : List ((Nat × Nat × Nat × Nat) × String)) : okL (mLL n h) 1261 bbL_law_1261 := okL_of _ _ (show dB code 9 1261 bbL_law_1261 = true by decide +kernel) ⟨trivial, trivial⟩
def bbL_law_1262 : List PI := [(1, .lcmp, 0, 0, 0, 0, kZ), (3, .ifCond .eq 5, 1268, 0, 0, 0, kZ), (1, .iconst 0, 0, 0, 0, 0, kZ), (1, .ireturn, 0, 0, 0, 0, kZ)]
set_option maxRecDepth 100000 in
theorem ooL_law_1262 (n : String) (h : List ((Nat × Nat × Nat × Nat) × String)) : okL (mLL n h) 1262 bbL_law_1262 := okL_of _ _ (show dB code 9 1262 bbL_law_1262 = true by decide +kernel) ⟨trivial, ⟨rfl, ⟨trivial, ⟨trivial, trivial⟩⟩⟩⟩
def bbL_law_1268 : List PI := [(3, .goto 901, 2169, 0, 0, 0, kZ)]
set_option maxRecDepth 100000 in
theorem ooL_law_1268 (n : String) (h : List ((Nat × Nat × Nat × Nat) × String)) : okL (mLL n h) 1268 bbL_law_1268 := okL_of _ _ (show dB code 9 1268 bbL_law_1268 = true by decide +kernel) ⟨rfl, trivial⟩
def cdc_1196 (t : Nat) : Option (List PI) := match t with
  | 1196 => some bbL_law_1196
  | 1244 => some bbL_law_1244
  | 1261 => some bbL_law_1261
  | 1262 => some bbL_law_1262
  | 1268 => some bbL_law_1268
  | _ => none
theorem kdc_1196 (n : String) (h : List ((Nat × Nat × Nat × Nat) × String)) : ∀ t is, cdc_1196 t = some is → okL (mLL n h) t is := by
  intro t is hh
  unfold cdc_1196 at hh
  split at hh <;> cases hh
  · exact ooL_law_1196 n h
  · exact ooL_law_1244 n h
  · exact ooL_law_1261 n h
  · exact ooL_law_1262 n h
  · exact ooL_law_1268 n h
theorem ffc_1196 (n : String) (h : List ((Nat × Nat × Nat × Nat) × String)) : mi_r (mLL n h) = some .boolean ∧ mi_l (mLL n h) = 9 ∧ (mi_rm (mLL n h)).cells = 601024 ∧ (mi_rm (mLL n h)).slots = 7293034 := ⟨rfl, rfl, rfl, rfl⟩
theorem ffk_1196 : cdc_1196 1196 = some bbL_law_1196 ∧ cdc_1196 1244 = some bbL_law_1244 ∧ cdc_1196 1261 = some bbL_law_1261 ∧ cdc_1196 1262 = some bbL_law_1262 ∧ cdc_1196 1268 = some bbL_law_1268 ∧ cdc_1196 2169 = none ∧ (mi_rm mL_isBlack).cells = 1 ∧ (mi_rm mL_isBlack).slots = 6 ∧ (mi_rm m10_isBlack).cells = 0 ∧ (mi_rm m10_isBlack).slots = 0 ∧ (mi_rm m10_thrown).cells = 0 ∧ (mi_rm m10_thrown).slots = 0 := ⟨rfl, rfl, rfl, rfl, rfl, rfl, rfl, rfl, rfl, rfl, rfl, rfl⟩
def bbL_law_1271 : List PI := [(1, .aload_n 1, 0, 0, 0, 0, kZ), (1, .aload_n 0, 0, 0, 0, 0, kZ), (2, .iload 4, 0, 0, 0, 0, kZ), (1, .iconst 1, 0, 0, 0, 0, kZ), (1, .iadd, 0, 0, 0, 0, kZ), (1, .iaload, 0, 0, 0, 0, kZ), (1, .aload_n 3, 0, 0, 0, 0, kZ), (3, .invokestatic 206, 3, 0, 2, 0, mL_runsOf), (2, .istore 5, 0, 0, 0, 0, kZ), (1, .aload_n 2, 0, 0, 0, 0, kZ), (1, .aload_n 0, 0, 0, 0, 0, kZ), (2, .iload 4, 0, 0, 0, 0, kZ), (1, .iconst 1, 0, 0, 0, 0, kZ), (1, .iadd, 0, 0, 0, 0, kZ), (1, .iaload, 0, 0, 0, 0, kZ), (3, .invokevirtual 208, 1, 10, 0, 0, m10_runsOf), (2, .istore 6, 0, 0, 0, 0, kZ), (1, .aload_n 2, 0, 0, 0, 0, kZ), (3, .invokevirtual 114, 0, 10, 0, 0, m10_thrown), (2, .iload 5, 0, 0, 0, 0, kZ), (3, .if_icmp .eq 5, 1307, 0, 0, 0, kZ), (1, .iconst 0, 0, 0, 0, 0, kZ), (1, .ireturn, 0, 0, 0, 0, kZ)]
set_option maxRecDepth 100000 in
theorem ooL_law_1271 (n : String) (h : List ((Nat × Nat × Nat × Nat) × String)) : okL (mLL n h) 1271 bbL_law_1271 := okL_of _ _ (show dB code 9 1271 bbL_law_1271 = true by decide +kernel) ⟨trivial, ⟨trivial, ⟨trivial, ⟨trivial, ⟨trivial, ⟨trivial, ⟨trivial, ⟨⟨mok_mL_runsOf, rmLL _ _ (by decide) (by decide), lc_L_206, by decide⟩, ⟨trivial, ⟨trivial, ⟨trivial, ⟨trivial, ⟨trivial, ⟨trivial, ⟨trivial, ⟨⟨mok_m10_runsOf, rmLL _ _ (by decide) (by decide), rfl, by decide, Or.inl lc_L_208⟩, ⟨trivial, ⟨trivial, ⟨⟨mok_m10_thrown, rmLL _ _ (by decide) (by decide), rfl, by decide, Or.inl lc_L_114⟩, ⟨trivial, ⟨rfl, ⟨trivial, ⟨trivial, trivial⟩⟩⟩⟩⟩⟩⟩⟩⟩⟩⟩⟩⟩⟩⟩⟩⟩⟩⟩⟩⟩⟩⟩
def bbL_law_1307 : List PI := [(2, .iload 5, 0, 0, 0, 0, kZ), (3, .ifCond .ne 15, 1324, 0, 0, 0, kZ), (1, .aload_n 3, 0, 0, 0, 0, kZ), (1, .iconst 0, 0, 0, 0, 0, kZ), (1, .laload, 0, 0, 0, 0, kZ), (2, .iload 6, 0, 0, 0, 0, kZ), (1, .i2l, 0, 0, 0, 0, kZ), (1, .lcmp, 0, 0, 0, 0, kZ), (3, .ifCond .eq 5, 1324, 0, 0, 0, kZ), (1, .iconst 0, 0, 0, 0, 0, kZ), (1, .ireturn, 0, 0, 0, 0, kZ)]
set_option maxRecDepth 100000 in
theorem ooL_law_1307 (n : String) (h : List ((Nat × Nat × Nat × Nat) × String)) : okL (mLL n h) 1307 bbL_law_1307 := okL_of _ _ (show dB code 9 1307 bbL_law_1307 = true by decide +kernel) ⟨trivial, ⟨rfl, ⟨trivial, ⟨trivial, ⟨trivial, ⟨trivial, ⟨trivial, ⟨trivial, ⟨rfl, ⟨trivial, ⟨trivial, trivial⟩⟩⟩⟩⟩⟩⟩⟩⟩⟩⟩
def bbL_law_1324 : List PI := [(3, .goto 845, 2169, 0, 0, 0, kZ)]
set_option maxRecDepth 100000 in
theorem ooL_law_1324 (n : String) (h : List ((Nat × Nat × Nat × Nat) × String)) : okL (mLL n h) 1324 bbL_law_1324 := okL_of _ _ (show dB code 9 1324 bbL_law_1324 = true by decide +kernel) ⟨rfl, trivial⟩
def cdc_1271 (t : Nat) : Option (List PI) := match t with
  | 1271 => some bbL_law_1271
  | 1307 => some bbL_law_1307
  | 1324 => some bbL_law_1324
  | _ => none
theorem kdc_1271 (n : String) (h : List ((Nat × Nat × Nat × Nat) × String)) : ∀ t is, cdc_1271 t = some is → okL (mLL n h) t is := by
  intro t is hh
  unfold cdc_1271 at hh
  split at hh <;> cases hh
  · exact ooL_law_1271 n h
  · exact ooL_law_1307 n h
  · exact ooL_law_1324 n h
theorem ffc_1271 (n : String) (h : List ((Nat × Nat × Nat × Nat) × String)) : mi_r (mLL n h) = some .boolean ∧ mi_l (mLL n h) = 9 ∧ (mi_rm (mLL n h)).cells = 601024 ∧ (mi_rm (mLL n h)).slots = 7293034 := ⟨rfl, rfl, rfl, rfl⟩
theorem ffk_1271 : cdc_1271 1271 = some bbL_law_1271 ∧ cdc_1271 1307 = some bbL_law_1307 ∧ cdc_1271 1324 = some bbL_law_1324 ∧ cdc_1271 2169 = none ∧ (mi_rm mL_runsOf).cells = 1 ∧ (mi_rm mL_runsOf).slots = 6 ∧ (mi_rm m10_runsOf).cells = 0 ∧ (mi_rm m10_runsOf).slots = 0 ∧ (mi_rm m10_thrown).cells = 0 ∧ (mi_rm m10_thrown).slots = 0 := ⟨rfl, rfl, rfl, rfl, rfl, rfl, rfl, rfl, rfl, rfl⟩
def bbL_law_1327 : List PI := [(1, .aload_n 1, 0, 0, 0, 0, kZ), (1, .aload_n 0, 0, 0, 0, 0, kZ), (2, .iload 4, 0, 0, 0, 0, kZ), (1, .iconst 1, 0, 0, 0, 0, kZ), (1, .iadd, 0, 0, 0, 0, kZ), (1, .iaload, 0, 0, 0, 0, kZ), (1, .aload_n 3, 0, 0, 0, 0, kZ), (3, .invokestatic 209, 3, 0, 2, 0, mL_longestRun), (2, .istore 5, 0, 0, 0, 0, kZ), (1, .aload_n 2, 0, 0, 0, 0, kZ), (1, .aload_n 0, 0, 0, 0, 0, kZ), (2, .iload 4, 0, 0, 0, 0, kZ), (1, .iconst 1, 0, 0, 0, 0, kZ), (1, .iadd, 0, 0, 0, 0, kZ), (1, .iaload, 0, 0, 0, 0, kZ), (3, .invokevirtual 211, 1, 10, 0, 0, m10_longestRun), (2, .istore 6, 0, 0, 0, 0, kZ), (1, .aload_n 2, 0, 0, 0, 0, kZ), (3, .invokevirtual 114, 0, 10, 0, 0, m10_thrown), (2, .iload 5, 0, 0, 0, 0, kZ), (3, .if_icmp .eq 5, 1363, 0, 0, 0, kZ), (1, .iconst 0, 0, 0, 0, 0, kZ), (1, .ireturn, 0, 0, 0, 0, kZ)]
set_option maxRecDepth 100000 in
theorem ooL_law_1327 (n : String) (h : List ((Nat × Nat × Nat × Nat) × String)) : okL (mLL n h) 1327 bbL_law_1327 := okL_of _ _ (show dB code 9 1327 bbL_law_1327 = true by decide +kernel) ⟨trivial, ⟨trivial, ⟨trivial, ⟨trivial, ⟨trivial, ⟨trivial, ⟨trivial, ⟨⟨mok_mL_longestRun, rmLL _ _ (by decide) (by decide), lc_L_209, by decide⟩, ⟨trivial, ⟨trivial, ⟨trivial, ⟨trivial, ⟨trivial, ⟨trivial, ⟨trivial, ⟨⟨mok_m10_longestRun, rmLL _ _ (by decide) (by decide), rfl, by decide, Or.inl lc_L_211⟩, ⟨trivial, ⟨trivial, ⟨⟨mok_m10_thrown, rmLL _ _ (by decide) (by decide), rfl, by decide, Or.inl lc_L_114⟩, ⟨trivial, ⟨rfl, ⟨trivial, ⟨trivial, trivial⟩⟩⟩⟩⟩⟩⟩⟩⟩⟩⟩⟩⟩⟩⟩⟩⟩⟩⟩⟩⟩⟩⟩
def bbL_law_1363 : List PI := [(2, .iload 5, 0, 0, 0, 0, kZ), (3, .ifCond .ne 15, 1380, 0, 0, 0, kZ), (1, .aload_n 3, 0, 0, 0, 0, kZ), (1, .iconst 0, 0, 0, 0, 0, kZ), (1, .laload, 0, 0, 0, 0, kZ), (2, .iload 6, 0, 0, 0, 0, kZ), (1, .i2l, 0, 0, 0, 0, kZ), (1, .lcmp, 0, 0, 0, 0, kZ), (3, .ifCond .eq 5, 1380, 0, 0, 0, kZ), (1, .iconst 0, 0, 0, 0, 0, kZ), (1, .ireturn, 0, 0, 0, 0, kZ)]
set_option maxRecDepth 100000 in
theorem ooL_law_1363 (n : String) (h : List ((Nat × Nat × Nat × Nat) × String)) : okL (mLL n h) 1363 bbL_law_1363 := okL_of _ _ (show dB code 9 1363 bbL_law_1363 = true by decide +kernel) ⟨trivial, ⟨rfl, ⟨trivial, ⟨trivial, ⟨trivial, ⟨trivial, ⟨trivial, ⟨trivial, ⟨rfl, ⟨trivial, ⟨trivial, trivial⟩⟩⟩⟩⟩⟩⟩⟩⟩⟩⟩
def bbL_law_1380 : List PI := [(3, .goto 789, 2169, 0, 0, 0, kZ)]
set_option maxRecDepth 100000 in
theorem ooL_law_1380 (n : String) (h : List ((Nat × Nat × Nat × Nat) × String)) : okL (mLL n h) 1380 bbL_law_1380 := okL_of _ _ (show dB code 9 1380 bbL_law_1380 = true by decide +kernel) ⟨rfl, trivial⟩
def cdc_1327 (t : Nat) : Option (List PI) := match t with
  | 1327 => some bbL_law_1327
  | 1363 => some bbL_law_1363
  | 1380 => some bbL_law_1380
  | _ => none
theorem kdc_1327 (n : String) (h : List ((Nat × Nat × Nat × Nat) × String)) : ∀ t is, cdc_1327 t = some is → okL (mLL n h) t is := by
  intro t is hh
  unfold cdc_1327 at hh
  split at hh <;> cases hh
  · exact ooL_law_1327 n h
  · exact ooL_law_1363 n h
  · exact ooL_law_1380 n h
theorem ffc_1327 (n : String) (h : List ((Nat × Nat × Nat × Nat) × String)) : mi_r (mLL n h) = some .boolean ∧ mi_l (mLL n h) = 9 ∧ (mi_rm (mLL n h)).cells = 601024 ∧ (mi_rm (mLL n h)).slots = 7293034 := ⟨rfl, rfl, rfl, rfl⟩
theorem ffk_1327 : cdc_1327 1327 = some bbL_law_1327 ∧ cdc_1327 1363 = some bbL_law_1363 ∧ cdc_1327 1380 = some bbL_law_1380 ∧ cdc_1327 2169 = none ∧ (mi_rm mL_longestRun).cells = 1 ∧ (mi_rm mL_longestRun).slots = 6 ∧ (mi_rm m10_longestRun).cells = 0 ∧ (mi_rm m10_longestRun).slots = 0 ∧ (mi_rm m10_thrown).cells = 0 ∧ (mi_rm m10_thrown).slots = 0 := ⟨rfl, rfl, rfl, rfl, rfl, rfl, rfl, rfl, rfl, rfl⟩
def bbL_law_1383 : List PI := [(1, .aload_n 1, 0, 0, 0, 0, kZ), (3, .invokevirtual 212, 0, 9, 0, 0, m9_blackPixels), (1, .aload_n 2, 0, 0, 0, 0, kZ), (3, .invokevirtual 215, 0, 10, 0, 0, m10_blackPixels), (3, .if_icmp .eq 778, 2169, 0, 0, 0, kZ), (1, .iconst 0, 0, 0, 0, 0, kZ), (1, .ireturn, 0, 0, 0, 0, kZ)]
set_option maxRecDepth 100000 in
theorem ooL_law_1383 (n : String) (h : List ((Nat × Nat × Nat × Nat) × String)) : okL (mLL n h) 1383 bbL_law_1383 := okL_of _ _ (show dB code 9 1383 bbL_law_1383 = true by decide +kernel) ⟨trivial, ⟨⟨mok_m9_blackPixels, rmLL _ _ (by decide) (by decide), rfl, by decide, Or.inl lc_L_212⟩, ⟨trivial, ⟨⟨mok_m10_blackPixels, rmLL _ _ (by decide) (by decide), rfl, by decide, Or.inl lc_L_215⟩, ⟨rfl, ⟨trivial, ⟨trivial, trivial⟩⟩⟩⟩⟩⟩⟩
def cdc_1383 (t : Nat) : Option (List PI) := match t with
  | 1383 => some bbL_law_1383
  | _ => none
theorem kdc_1383 (n : String) (h : List ((Nat × Nat × Nat × Nat) × String)) : ∀ t is, cdc_1383 t = some is → okL (mLL n h) t is := by
  intro t is hh
  unfold cdc_1383 at hh
  split at hh <;> cases hh
  · exact ooL_law_1383 n h
theorem ffc_1383 (n : String) (h : List ((Nat × Nat × Nat × Nat) × String)) : mi_r (mLL n h) = some .boolean ∧ mi_l (mLL n h) = 9 ∧ (mi_rm (mLL n h)).cells = 601024 ∧ (mi_rm (mLL n h)).slots = 7293034 := ⟨rfl, rfl, rfl, rfl⟩
theorem ffk_1383 : cdc_1383 1383 = some bbL_law_1383 ∧ cdc_1383 2169 = none ∧ (mi_rm m9_blackPixels).cells = 0 ∧ (mi_rm m9_blackPixels).slots = 0 ∧ (mi_rm m10_blackPixels).cells = 0 ∧ (mi_rm m10_blackPixels).slots = 0 := ⟨rfl, rfl, rfl, rfl, rfl, rfl⟩
def bbL_law_1396 : List PI := [(1, .aload_n 1, 0, 0, 0, 0, kZ), (1, .aload_n 0, 0, 0, 0, 0, kZ), (2, .iload 4, 0, 0, 0, 0, kZ), (1, .iconst 1, 0, 0, 0, 0, kZ), (1, .iadd, 0, 0, 0, 0, kZ), (1, .iaload, 0, 0, 0, 0, kZ), (1, .aload_n 0, 0, 0, 0, 0, kZ), (2, .iload 4, 0, 0, 0, 0, kZ), (1, .iconst 2, 0, 0, 0, 0, kZ), (1, .iadd, 0, 0, 0, 0, kZ), (1, .iaload, 0, 0, 0, 0, kZ), (1, .aload_n 3, 0, 0, 0, 0, kZ), (3, .invokestatic 216, 4, 0, 2, 0, mL_codeLength), (2, .istore 5, 0, 0, 0, 0, kZ), (1, .aload_n 2, 0, 0, 0, 0, kZ), (1, .aload_n 0, 0, 0, 0, 0, kZ), (2, .iload 4, 0, 0, 0, 0, kZ), (1, .iconst 1, 0, 0, 0, 0, kZ), (1, .iadd, 0, 0, 0, 0, kZ), (1, .iaload, 0, 0, 0, 0, kZ), (1, .aload_n 0, 0, 0, 0, 0, kZ), (2, .iload 4, 0, 0, 0, 0, kZ), (1, .iconst 2, 0, 0, 0, 0, kZ), (1, .iadd, 0, 0, 0, 0, kZ), (1, .iaload, 0, 0, 0, 0, kZ), (3, .invokevirtual 218, 2, 10, 0, 0, m10_codeLength), (2, .istore 6, 0, 0, 0, 0, kZ), (1, .aload_n 2, 0, 0, 0, 0, kZ), (3, .invokevirtual 114, 0, 10, 0, 0, m10_thrown), (2, .iload 5, 0, 0, 0, 0, kZ), (3, .if_icmp .eq 5, 1444, 0, 0, 0, kZ), (1, .iconst 0, 0, 0, 0, 0, kZ), (1, .ireturn, 0, 0, 0, 0, kZ)]
set_option maxRecDepth 100000 in
theorem ooL_law_1396 (n : String) (h : List ((Nat × Nat × Nat × Nat) × String)) : okL (mLL n h) 1396 bbL_law_1396 := okL_of _ _ (show dB code 9 1396 bbL_law_1396 = true by decide +kernel) ⟨trivial, ⟨trivial, ⟨trivial, ⟨trivial, ⟨trivial, ⟨trivial, ⟨trivial, ⟨trivial, ⟨trivial, ⟨trivial, ⟨trivial, ⟨trivial, ⟨⟨mok_mL_codeLength, rmLL _ _ (by decide) (by decide), lc_L_216, by decide⟩, ⟨trivial, ⟨trivial, ⟨trivial, ⟨trivial, ⟨trivial, ⟨trivial, ⟨trivial, ⟨trivial, ⟨trivial, ⟨trivial, ⟨trivial, ⟨trivial, ⟨⟨mok_m10_codeLength, rmLL _ _ (by decide) (by decide), rfl, by decide, Or.inl lc_L_218⟩, ⟨trivial, ⟨trivial, ⟨⟨mok_m10_thrown, rmLL _ _ (by decide) (by decide), rfl, by decide, Or.inl lc_L_114⟩, ⟨trivial, ⟨rfl, ⟨trivial, ⟨trivial, trivial⟩⟩⟩⟩⟩⟩⟩⟩⟩⟩⟩⟩⟩⟩⟩⟩⟩⟩⟩⟩⟩⟩⟩⟩⟩⟩⟩⟩⟩⟩⟩⟩⟩
def bbL_law_1444 : List PI := [(2, .iload 5, 0, 0, 0, 0, kZ), (3, .ifCond .ne 15, 1461, 0, 0, 0, kZ), (1, .aload_n 3, 0, 0, 0, 0, kZ), (1, .iconst 0, 0, 0, 0, 0, kZ), (1, .laload, 0, 0, 0, 0, kZ), (2, .iload 6, 0, 0, 0, 0, kZ), (1, .i2l, 0, 0, 0, 0, kZ), (1, .lcmp, 0, 0, 0, 0, kZ), (3, .ifCond .eq 5, 1461, 0, 0, 0, kZ), (1, .iconst 0, 0, 0, 0, 0, kZ), (1, .ireturn, 0, 0, 0, 0, kZ)]
set_option maxRecDepth 100000 in
theorem ooL_law_1444 (n : String) (h : List ((Nat × Nat × Nat × Nat) × String)) : okL (mLL n h) 1444 bbL_law_1444 := okL_of _ _ (show dB code 9 1444 bbL_law_1444 = true by decide +kernel) ⟨trivial, ⟨rfl, ⟨trivial, ⟨trivial, ⟨trivial, ⟨trivial, ⟨trivial, ⟨trivial, ⟨rfl, ⟨trivial, ⟨trivial, trivial⟩⟩⟩⟩⟩⟩⟩⟩⟩⟩⟩
def bbL_law_1461 : List PI := [(3, .goto 708, 2169, 0, 0, 0, kZ)]
set_option maxRecDepth 100000 in
theorem ooL_law_1461 (n : String) (h : List ((Nat × Nat × Nat × Nat) × String)) : okL (mLL n h) 1461 bbL_law_1461 := okL_of _ _ (show dB code 9 1461 bbL_law_1461 = true by decide +kernel) ⟨rfl, trivial⟩
def cdc_1396 (t : Nat) : Option (List PI) := match t with
  | 1396 => some bbL_law_1396
  | 1444 => some bbL_law_1444
  | 1461 => some bbL_law_1461
  | _ => none
theorem kdc_1396 (n : String) (h : List ((Nat × Nat × Nat × Nat) × String)) : ∀ t is, cdc_1396 t = some is → okL (mLL n h) t is := by
  intro t is hh
  unfold cdc_1396 at hh
  split at hh <;> cases hh
  · exact ooL_law_1396 n h
  · exact ooL_law_1444 n h
  · exact ooL_law_1461 n h
theorem ffc_1396 (n : String) (h : List ((Nat × Nat × Nat × Nat) × String)) : mi_r (mLL n h) = some .boolean ∧ mi_l (mLL n h) = 9 ∧ (mi_rm (mLL n h)).cells = 601024 ∧ (mi_rm (mLL n h)).slots = 7293034 := ⟨rfl, rfl, rfl, rfl⟩
theorem ffk_1396 : cdc_1396 1396 = some bbL_law_1396 ∧ cdc_1396 1444 = some bbL_law_1444 ∧ cdc_1396 1461 = some bbL_law_1461 ∧ cdc_1396 2169 = none ∧ (mi_rm mL_codeLength).cells = 2 ∧ (mi_rm mL_codeLength).slots = 12 ∧ (mi_rm m10_codeLength).cells = 0 ∧ (mi_rm m10_codeLength).slots = 0 ∧ (mi_rm m10_thrown).cells = 0 ∧ (mi_rm m10_thrown).slots = 0 := ⟨rfl, rfl, rfl, rfl, rfl, rfl, rfl, rfl, rfl, rfl⟩
def bbL_law_1464 : List PI := [(1, .aload_n 1, 0, 0, 0, 0, kZ), (1, .aload_n 0, 0, 0, 0, 0, kZ), (2, .iload 4, 0, 0, 0, 0, kZ), (1, .iconst 1, 0, 0, 0, 0, kZ), (1, .iadd, 0, 0, 0, 0, kZ), (1, .iaload, 0, 0, 0, 0, kZ), (1, .aload_n 0, 0, 0, 0, 0, kZ), (2, .iload 4, 0, 0, 0, 0, kZ), (1, .iconst 2, 0, 0, 0, 0, kZ), (1, .iadd, 0, 0, 0, 0, kZ), (1, .iaload, 0, 0, 0, 0, kZ), (1, .aload_n 3, 0, 0, 0, 0, kZ), (3, .invokestatic 219, 4, 0, 2, 0, mL_codeLengthByCounting), (2, .istore 5, 0, 0, 0, 0, kZ), (1, .aload_n 2, 0, 0, 0, 0, kZ), (1, .aload_n 0, 0, 0, 0, 0, kZ), (2, .iload 4, 0, 0, 0, 0, kZ), (1, .iconst 1, 0, 0, 0, 0, kZ), (1, .iadd, 0, 0, 0, 0, kZ), (1, .iaload, 0, 0, 0, 0, kZ), (1, .aload_n 0, 0, 0, 0, 0, kZ), (2, .iload 4, 0, 0, 0, 0, kZ), (1, .iconst 2, 0, 0, 0, 0, kZ), (1, .iadd, 0, 0, 0, 0, kZ), (1, .iaload, 0, 0, 0, 0, kZ), (3, .invokevirtual 221, 2, 10, 0, 0, m10_codeLengthByCounting), (2, .istore 6, 0, 0, 0, 0, kZ), (1, .aload_n 2, 0, 0, 0, 0, kZ), (3, .invokevirtual 114, 0, 10, 0, 0, m10_thrown), (2, .iload 5, 0, 0, 0, 0, kZ), (3, .if_icmp .eq 5, 1512, 0, 0, 0, kZ), (1, .iconst 0, 0, 0, 0, 0, kZ), (1, .ireturn, 0, 0, 0, 0, kZ)]
set_option maxRecDepth 100000 in
theorem ooL_law_1464 (n : String) (h : List ((Nat × Nat × Nat × Nat) × String)) : okL (mLL n h) 1464 bbL_law_1464 := okL_of _ _ (show dB code 9 1464 bbL_law_1464 = true by decide +kernel) ⟨trivial, ⟨trivial, ⟨trivial, ⟨trivial, ⟨trivial, ⟨trivial, ⟨trivial, ⟨trivial, ⟨trivial, ⟨trivial, ⟨trivial, ⟨trivial, ⟨⟨mok_mL_codeLengthByCounting, rmLL _ _ (by decide) (by decide), lc_L_219, by decide⟩, ⟨trivial, ⟨trivial, ⟨trivial, ⟨trivial, ⟨trivial, ⟨trivial, ⟨trivial, ⟨trivial, ⟨trivial, ⟨trivial, ⟨trivial, ⟨trivial, ⟨⟨mok_m10_codeLengthByCounting, rmLL _ _ (by decide) (by decide), rfl, by decide, Or.inl lc_L_221⟩, ⟨trivial, ⟨trivial, ⟨⟨mok_m10_thrown, rmLL _ _ (by decide) (by decide), rfl, by decide, Or.inl lc_L_114⟩, ⟨trivial, ⟨rfl, ⟨trivial, ⟨trivial, trivial⟩⟩⟩⟩⟩⟩⟩⟩⟩⟩⟩⟩⟩⟩⟩⟩⟩⟩⟩⟩⟩⟩⟩⟩⟩⟩⟩⟩⟩⟩⟩⟩⟩
def bbL_law_1512 : List PI := [(2, .iload 5, 0, 0, 0, 0, kZ), (3, .ifCond .ne 15, 1529, 0, 0, 0, kZ), (1, .aload_n 3, 0, 0, 0, 0, kZ), (1, .iconst 0, 0, 0, 0, 0, kZ), (1, .laload, 0, 0, 0, 0, kZ), (2, .iload 6, 0, 0, 0, 0, kZ), (1, .i2l, 0, 0, 0, 0, kZ), (1, .lcmp, 0, 0, 0, 0, kZ), (3, .ifCond .eq 5, 1529, 0, 0, 0, kZ), (1, .iconst 0, 0, 0, 0, 0, kZ), (1, .ireturn, 0, 0, 0, 0, kZ)]
set_option maxRecDepth 100000 in
theorem ooL_law_1512 (n : String) (h : List ((Nat × Nat × Nat × Nat) × String)) : okL (mLL n h) 1512 bbL_law_1512 := okL_of _ _ (show dB code 9 1512 bbL_law_1512 = true by decide +kernel) ⟨trivial, ⟨rfl, ⟨trivial, ⟨trivial, ⟨trivial, ⟨trivial, ⟨trivial, ⟨trivial, ⟨rfl, ⟨trivial, ⟨trivial, trivial⟩⟩⟩⟩⟩⟩⟩⟩⟩⟩⟩
def bbL_law_1529 : List PI := [(3, .goto 640, 2169, 0, 0, 0, kZ)]
set_option maxRecDepth 100000 in
theorem ooL_law_1529 (n : String) (h : List ((Nat × Nat × Nat × Nat) × String)) : okL (mLL n h) 1529 bbL_law_1529 := okL_of _ _ (show dB code 9 1529 bbL_law_1529 = true by decide +kernel) ⟨rfl, trivial⟩
def cdc_1464 (t : Nat) : Option (List PI) := match t with
  | 1464 => some bbL_law_1464
  | 1512 => some bbL_law_1512
  | 1529 => some bbL_law_1529
  | _ => none
theorem kdc_1464 (n : String) (h : List ((Nat × Nat × Nat × Nat) × String)) : ∀ t is, cdc_1464 t = some is → okL (mLL n h) t is := by
  intro t is hh
  unfold cdc_1464 at hh
  split at hh <;> cases hh
  · exact ooL_law_1464 n h
  · exact ooL_law_1512 n h
  · exact ooL_law_1529 n h
theorem ffc_1464 (n : String) (h : List ((Nat × Nat × Nat × Nat) × String)) : mi_r (mLL n h) = some .boolean ∧ mi_l (mLL n h) = 9 ∧ (mi_rm (mLL n h)).cells = 601024 ∧ (mi_rm (mLL n h)).slots = 7293034 := ⟨rfl, rfl, rfl, rfl⟩
theorem ffk_1464 : cdc_1464 1464 = some bbL_law_1464 ∧ cdc_1464 1512 = some bbL_law_1512 ∧ cdc_1464 1529 = some bbL_law_1529 ∧ cdc_1464 2169 = none ∧ (mi_rm mL_codeLengthByCounting).cells = 2 ∧ (mi_rm mL_codeLengthByCounting).slots = 12 ∧ (mi_rm m10_codeLengthByCounting).cells = 0 ∧ (mi_rm m10_codeLengthByCounting).slots = 0 ∧ (mi_rm m10_thrown).cells = 0 ∧ (mi_rm m10_thrown).slots = 0 := ⟨rfl, rfl, rfl, rfl, rfl, rfl, rfl, rfl, rfl, rfl⟩
def bbL_law_1532 : List PI := [(1, .aload_n 1, 0, 0, 0, 0, kZ), (1, .aload_n 0, 0, 0, 0, 0, kZ), (2, .iload 4, 0, 0, 0, 0, kZ), (1, .iconst 1, 0, 0, 0, 0, kZ), (1, .iadd, 0, 0, 0, 0, kZ), (1, .iaload, 0, 0, 0, 0, kZ), (1, .aload_n 3, 0, 0, 0, 0, kZ), (3, .invokestatic 222, 3, 0, 2, 0, mL_modeOf), (2, .istore 5, 0, 0, 0, 0, kZ), (1, .aload_n 2, 0, 0, 0, 0, kZ), (1, .aload_n 0, 0, 0, 0, 0, kZ), (2, .iload 4, 0, 0, 0, 0, kZ), (1, .iconst 1, 0, 0, 0, 0, kZ), (1, .iadd, 0, 0, 0, 0, kZ), (1, .iaload, 0, 0, 0, 0, kZ), (3, .invokevirtual 224, 1, 10, 0, 0, m10_modeOf), (2, .istore 6, 0, 0, 0, 0, kZ), (1, .aload_n 2, 0, 0, 0, 0, kZ), (3, .invokevirtual 114, 0, 10, 0, 0, m10_thrown), (2, .iload 5, 0, 0, 0, 0, kZ), (3, .if_icmp .eq 5, 1568, 0, 0, 0, kZ), (1, .iconst 0, 0, 0, 0, 0, kZ), (1, .ireturn, 0, 0, 0, 0, kZ)]
set_option maxRecDepth 100000 in
theorem ooL_law_1532 (n : String) (h : List ((Nat × Nat × Nat × Nat) × String)) : okL (mLL n h) 1532 bbL_law_1532 := okL_of _ _ (show dB code 9 1532 bbL_law_1532 = true by decide +kernel) ⟨trivial, ⟨trivial, ⟨trivial, ⟨trivial, ⟨trivial, ⟨trivial, ⟨trivial, ⟨⟨mok_mL_modeOf, rmLL _ _ (by decide) (by decide), lc_L_222, by decide⟩, ⟨trivial, ⟨trivial, ⟨trivial, ⟨trivial, ⟨trivial, ⟨trivial, ⟨trivial, ⟨⟨mok_m10_modeOf, rmLL _ _ (by decide) (by decide), rfl, by decide, Or.inl lc_L_224⟩, ⟨trivial, ⟨trivial, ⟨⟨mok_m10_thrown, rmLL _ _ (by decide) (by decide), rfl, by decide, Or.inl lc_L_114⟩, ⟨trivial, ⟨rfl, ⟨trivial, ⟨trivial, trivial⟩⟩⟩⟩⟩⟩⟩⟩⟩⟩⟩⟩⟩⟩⟩⟩⟩⟩⟩⟩⟩⟩⟩
def bbL_law_1568 : List PI := [(2, .iload 5, 0, 0, 0, 0, kZ), (3, .ifCond .ne 15, 1585, 0, 0, 0, kZ), (1, .aload_n 3, 0, 0, 0, 0, kZ), (1, .iconst 0, 0, 0, 0, 0, kZ), (1, .laload, 0, 0, 0, 0, kZ), (2, .iload 6, 0, 0, 0, 0, kZ), (1, .i2l, 0, 0, 0, 0, kZ), (1, .lcmp, 0, 0, 0, 0, kZ), (3, .ifCond .eq 5, 1585, 0, 0, 0, kZ), (1, .iconst 0, 0, 0, 0, 0, kZ), (1, .ireturn, 0, 0, 0, 0, kZ)]
set_option maxRecDepth 100000 in
theorem ooL_law_1568 (n : String) (h : List ((Nat × Nat × Nat × Nat) × String)) : okL (mLL n h) 1568 bbL_law_1568 := okL_of _ _ (show dB code 9 1568 bbL_law_1568 = true by decide +kernel) ⟨trivial, ⟨rfl, ⟨trivial, ⟨trivial, ⟨trivial, ⟨trivial, ⟨trivial, ⟨trivial, ⟨rfl, ⟨trivial, ⟨trivial, trivial⟩⟩⟩⟩⟩⟩⟩⟩⟩⟩⟩
def bbL_law_1585 : List PI := [(3, .goto 584, 2169, 0, 0, 0, kZ)]
set_option maxRecDepth 100000 in
theorem ooL_law_1585 (n : String) (h : List ((Nat × Nat × Nat × Nat) × String)) : okL (mLL n h) 1585 bbL_law_1585 := okL_of _ _ (show dB code 9 1585 bbL_law_1585 = true by decide +kernel) ⟨rfl, trivial⟩
def cdc_1532 (t : Nat) : Option (List PI) := match t with
  | 1532 => some bbL_law_1532
  | 1568 => some bbL_law_1568
  | 1585 => some bbL_law_1585
  | _ => none
theorem kdc_1532 (n : String) (h : List ((Nat × Nat × Nat × Nat) × String)) : ∀ t is, cdc_1532 t = some is → okL (mLL n h) t is := by
  intro t is hh
  unfold cdc_1532 at hh
  split at hh <;> cases hh
  · exact ooL_law_1532 n h
  · exact ooL_law_1568 n h
  · exact ooL_law_1585 n h
theorem ffc_1532 (n : String) (h : List ((Nat × Nat × Nat × Nat) × String)) : mi_r (mLL n h) = some .boolean ∧ mi_l (mLL n h) = 9 ∧ (mi_rm (mLL n h)).cells = 601024 ∧ (mi_rm (mLL n h)).slots = 7293034 := ⟨rfl, rfl, rfl, rfl⟩
theorem ffk_1532 : cdc_1532 1532 = some bbL_law_1532 ∧ cdc_1532 1568 = some bbL_law_1568 ∧ cdc_1532 1585 = some bbL_law_1585 ∧ cdc_1532 2169 = none ∧ (mi_rm mL_modeOf).cells = 1 ∧ (mi_rm mL_modeOf).slots = 6 ∧ (mi_rm m10_modeOf).cells = 0 ∧ (mi_rm m10_modeOf).slots = 0 ∧ (mi_rm m10_thrown).cells = 0 ∧ (mi_rm m10_thrown).slots = 0 := ⟨rfl, rfl, rfl, rfl, rfl, rfl, rfl, rfl, rfl, rfl⟩
def bbL_law_1588 : List PI := [(1, .aload_n 1, 0, 0, 0, 0, kZ), (1, .aload_n 0, 0, 0, 0, 0, kZ), (2, .iload 4, 0, 0, 0, 0, kZ), (1, .iconst 1, 0, 0, 0, 0, kZ), (1, .iadd, 0, 0, 0, 0, kZ), (1, .iaload, 0, 0, 0, 0, kZ), (1, .aload_n 0, 0, 0, 0, 0, kZ), (2, .iload 4, 0, 0, 0, 0, kZ), (1, .iconst 2, 0, 0, 0, 0, kZ), (1, .iadd, 0, 0, 0, 0, kZ), (1, .iaload, 0, 0, 0, 0, kZ), (1, .aload_n 3, 0, 0, 0, 0, kZ), (3, .invokestatic 225, 4, 0, 2, 0, mL_checkOf), (2, .istore 5, 0, 0, 0, 0, kZ), (1, .aload_n 2, 0, 0, 0, 0, kZ), (1, .aload_n 0, 0, 0, 0, 0, kZ), (2, .iload 4, 0, 0, 0, 0, kZ), (1, .iconst 1, 0, 0, 0, 0, kZ), (1, .iadd, 0, 0, 0, 0, kZ), (1, .iaload, 0, 0, 0, 0, kZ), (1, .aload_n 0, 0, 0, 0, 0, kZ), (2, .iload 4, 0, 0, 0, 0, kZ), (1, .iconst 2, 0, 0, 0, 0, kZ), (1, .iadd, 0, 0, 0, 0, kZ), (1, .iaload, 0, 0, 0, 0, kZ), (3, .invokevirtual 227, 2, 10, 0, 0, m10_checkOf), (2, .istore 6, 0, 0, 0, 0, kZ), (1, .aload_n 2, 0, 0, 0, 0, kZ), (3, .invokevirtual 114, 0, 10, 0, 0, m10_thrown), (2, .iload 5, 0, 0, 0, 0, kZ), (3, .if_icmp .eq 5, 1636, 0, 0, 0, kZ), (1, .iconst 0, 0, 0, 0, 0, kZ), (1, .ireturn, 0, 0, 0, 0, kZ)]
set_option maxRecDepth 100000 in
theorem ooL_law_1588 (n : String) (h : List ((Nat × Nat × Nat × Nat) × String)) : okL (mLL n h) 1588 bbL_law_1588 := okL_of _ _ (show dB code 9 1588 bbL_law_1588 = true by decide +kernel) ⟨trivial, ⟨trivial, ⟨trivial, ⟨trivial, ⟨trivial, ⟨trivial, ⟨trivial, ⟨trivial, ⟨trivial, ⟨trivial, ⟨trivial, ⟨trivial, ⟨⟨mok_mL_checkOf, rmLL _ _ (by decide) (by decide), lc_L_225, by decide⟩, ⟨trivial, ⟨trivial, ⟨trivial, ⟨trivial, ⟨trivial, ⟨trivial, ⟨trivial, ⟨trivial, ⟨trivial, ⟨trivial, ⟨trivial, ⟨trivial, ⟨⟨mok_m10_checkOf, rmLL _ _ (by decide) (by decide), rfl, by decide, Or.inl lc_L_227⟩, ⟨trivial, ⟨trivial, ⟨⟨mok_m10_thrown, rmLL _ _ (by decide) (by decide), rfl, by decide, Or.inl lc_L_114⟩, ⟨trivial, ⟨rfl, ⟨trivial, ⟨trivial, trivial⟩⟩⟩⟩⟩⟩⟩⟩⟩⟩⟩⟩⟩⟩⟩⟩⟩⟩⟩⟩⟩⟩⟩⟩⟩⟩⟩⟩⟩⟩⟩⟩⟩
def bbL_law_1636 : List PI := [(2, .iload 5, 0, 0, 0, 0, kZ), (3, .ifCond .ne 15, 1653, 0, 0, 0, kZ), (1, .aload_n 3, 0, 0, 0, 0, kZ), (1, .iconst 0, 0, 0, 0, 0, kZ), (1, .laload, 0, 0, 0, 0, kZ), (2, .iload 6, 0, 0, 0, 0, kZ), (1, .i2l, 0, 0, 0, 0, kZ), (1, .lcmp, 0, 0, 0, 0, kZ), (3, .ifCond .eq 5, 1653, 0, 0, 0, kZ), (1, .iconst 0, 0, 0, 0, 0, kZ), (1, .ireturn, 0, 0, 0, 0, kZ)]
set_option maxRecDepth 100000 in
theorem ooL_law_1636 (n : String) (h : List ((Nat × Nat × Nat × Nat) × String)) : okL (mLL n h) 1636 bbL_law_1636 := okL_of _ _ (show dB code 9 1636 bbL_law_1636 = true by decide +kernel) ⟨trivial, ⟨rfl, ⟨trivial, ⟨trivial, ⟨trivial, ⟨trivial, ⟨trivial, ⟨trivial, ⟨rfl, ⟨trivial, ⟨trivial, trivial⟩⟩⟩⟩⟩⟩⟩⟩⟩⟩⟩
def bbL_law_1653 : List PI := [(3, .goto 516, 2169, 0, 0, 0, kZ)]
set_option maxRecDepth 100000 in
theorem ooL_law_1653 (n : String) (h : List ((Nat × Nat × Nat × Nat) × String)) : okL (mLL n h) 1653 bbL_law_1653 := okL_of _ _ (show dB code 9 1653 bbL_law_1653 = true by decide +kernel) ⟨rfl, trivial⟩
def cdc_1588 (t : Nat) : Option (List PI) := match t with
  | 1588 => some bbL_law_1588
  | 1636 => some bbL_law_1636
  | 1653 => some bbL_law_1653
  | _ => none
theorem kdc_1588 (n : String) (h : List ((Nat × Nat × Nat × Nat) × String)) : ∀ t is, cdc_1588 t = some is → okL (mLL n h) t is := by
  intro t is hh
  unfold cdc_1588 at hh
  split at hh <;> cases hh
  · exact ooL_law_1588 n h
  · exact ooL_law_1636 n h
  · exact ooL_law_1653 n h
theorem ffc_1588 (n : String) (h : List ((Nat × Nat × Nat × Nat) × String)) : mi_r (mLL n h) = some .boolean ∧ mi_l (mLL n h) = 9 ∧ (mi_rm (mLL n h)).cells = 601024 ∧ (mi_rm (mLL n h)).slots = 7293034 := ⟨rfl, rfl, rfl, rfl⟩
theorem ffk_1588 : cdc_1588 1588 = some bbL_law_1588 ∧ cdc_1588 1636 = some bbL_law_1636 ∧ cdc_1588 1653 = some bbL_law_1653 ∧ cdc_1588 2169 = none ∧ (mi_rm mL_checkOf).cells = 2 ∧ (mi_rm mL_checkOf).slots = 12 ∧ (mi_rm m10_checkOf).cells = 0 ∧ (mi_rm m10_checkOf).slots = 0 ∧ (mi_rm m10_thrown).cells = 0 ∧ (mi_rm m10_thrown).slots = 0 := ⟨rfl, rfl, rfl, rfl, rfl, rfl, rfl, rfl, rfl, rfl⟩
def bbL_law_1656 : List PI := [(1, .aload_n 1, 0, 0, 0, 0, kZ), (3, .invokevirtual 228, 0, 9, 0, 0, m9_wouldSend), (1, .aload_n 2, 0, 0, 0, 0, kZ), (3, .invokevirtual 231, 0, 10, 0, 0, m10_wouldSend), (3, .if_icmp .eq 505, 2169, 0, 0, 0, kZ), (1, .iconst 0, 0, 0, 0, 0, kZ), (1, .ireturn, 0, 0, 0, 0, kZ)]
set_option maxRecDepth 100000 in
theorem ooL_law_1656 (n : String) (h : List ((Nat × Nat × Nat × Nat) × String)) : okL (mLL n h) 1656 bbL_law_1656 := okL_of _ _ (show dB code 9 1656 bbL_law_1656 = true by decide +kernel) ⟨trivial, ⟨⟨mok_m9_wouldSend, rmLL _ _ (by decide) (by decide), rfl, by decide, Or.inl lc_L_228⟩, ⟨trivial, ⟨⟨mok_m10_wouldSend, rmLL _ _ (by decide) (by decide), rfl, by decide, Or.inl lc_L_231⟩, ⟨rfl, ⟨trivial, ⟨trivial, trivial⟩⟩⟩⟩⟩⟩⟩
def cdc_1656 (t : Nat) : Option (List PI) := match t with
  | 1656 => some bbL_law_1656
  | _ => none
theorem kdc_1656 (n : String) (h : List ((Nat × Nat × Nat × Nat) × String)) : ∀ t is, cdc_1656 t = some is → okL (mLL n h) t is := by
  intro t is hh
  unfold cdc_1656 at hh
  split at hh <;> cases hh
  · exact ooL_law_1656 n h
theorem ffc_1656 (n : String) (h : List ((Nat × Nat × Nat × Nat) × String)) : mi_r (mLL n h) = some .boolean ∧ mi_l (mLL n h) = 9 ∧ (mi_rm (mLL n h)).cells = 601024 ∧ (mi_rm (mLL n h)).slots = 7293034 := ⟨rfl, rfl, rfl, rfl⟩
theorem ffk_1656 : cdc_1656 1656 = some bbL_law_1656 ∧ cdc_1656 2169 = none ∧ (mi_rm m9_wouldSend).cells = 0 ∧ (mi_rm m9_wouldSend).slots = 0 ∧ (mi_rm m10_wouldSend).cells = 0 ∧ (mi_rm m10_wouldSend).slots = 0 := ⟨rfl, rfl, rfl, rfl, rfl, rfl⟩
def bbL_law_1669 : List PI := [(1, .aload_n 1, 0, 0, 0, 0, kZ), (3, .invokevirtual 232, 0, 9, 0, 0, m9_streamLength), (1, .aload_n 2, 0, 0, 0, 0, kZ), (3, .invokevirtual 235, 0, 10, 0, 0, m10_streamLength), (3, .if_icmp .eq 492, 2169, 0, 0, 0, kZ), (1, .iconst 0, 0, 0, 0, 0, kZ), (1, .ireturn, 0, 0, 0, 0, kZ)]
set_option maxRecDepth 100000 in
theorem ooL_law_1669 (n : String) (h : List ((Nat × Nat × Nat × Nat) × String)) : okL (mLL n h) 1669 bbL_law_1669 := okL_of _ _ (show dB code 9 1669 bbL_law_1669 = true by decide +kernel) ⟨trivial, ⟨⟨mok_m9_streamLength, rmLL _ _ (by decide) (by decide), rfl, by decide, Or.inl lc_L_232⟩, ⟨trivial, ⟨⟨mok_m10_streamLength, rmLL _ _ (by decide) (by decide), rfl, by decide, Or.inl lc_L_235⟩, ⟨rfl, ⟨trivial, ⟨trivial, trivial⟩⟩⟩⟩⟩⟩⟩
def cdc_1669 (t : Nat) : Option (List PI) := match t with
  | 1669 => some bbL_law_1669
  | _ => none
theorem kdc_1669 (n : String) (h : List ((Nat × Nat × Nat × Nat) × String)) : ∀ t is, cdc_1669 t = some is → okL (mLL n h) t is := by
  intro t is hh
  unfold cdc_1669 at hh
  split at hh <;> cases hh
  · exact ooL_law_1669 n h
theorem ffc_1669 (n : String) (h : List ((Nat × Nat × Nat × Nat) × String)) : mi_r (mLL n h) = some .boolean ∧ mi_l (mLL n h) = 9 ∧ (mi_rm (mLL n h)).cells = 601024 ∧ (mi_rm (mLL n h)).slots = 7293034 := ⟨rfl, rfl, rfl, rfl⟩
theorem ffk_1669 : cdc_1669 1669 = some bbL_law_1669 ∧ cdc_1669 2169 = none ∧ (mi_rm m9_streamLength).cells = 0 ∧ (mi_rm m9_streamLength).slots = 0 ∧ (mi_rm m10_streamLength).cells = 0 ∧ (mi_rm m10_streamLength).slots = 0 := ⟨rfl, rfl, rfl, rfl, rfl, rfl⟩
def bbL_law_1682 : List PI := [(1, .aload_n 1, 0, 0, 0, 0, kZ), (1, .aload_n 0, 0, 0, 0, 0, kZ), (2, .iload 4, 0, 0, 0, 0, kZ), (1, .iconst 1, 0, 0, 0, 0, kZ), (1, .iadd, 0, 0, 0, 0, kZ), (1, .iaload, 0, 0, 0, 0, kZ), (1, .aload_n 3, 0, 0, 0, 0, kZ), (3, .invokestatic 236, 3, 0, 2, 0, mL_numberAt), (2, .istore 5, 0, 0, 0, 0, kZ), (1, .aload_n 2, 0, 0, 0, 0, kZ), (1, .aload_n 0, 0, 0, 0, 0, kZ), (2, .iload 4, 0, 0, 0, 0, kZ), (1, .iconst 1, 0, 0, 0, 0, kZ), (1, .iadd, 0, 0, 0, 0, kZ), (1, .iaload, 0, 0, 0, 0, kZ), (3, .invokevirtual 238, 1, 10, 0, 0, m10_numberAt), (2, .istore 6, 0, 0, 0, 0, kZ), (1, .aload_n 2, 0, 0, 0, 0, kZ), (3, .invokevirtual 114, 0, 10, 0, 0, m10_thrown), (2, .iload 5, 0, 0, 0, 0, kZ), (3, .if_icmp .eq 5, 1718, 0, 0, 0, kZ), (1, .iconst 0, 0, 0, 0, 0, kZ), (1, .ireturn, 0, 0, 0, 0, kZ)]
set_option maxRecDepth 100000 in
theorem ooL_law_1682 (n : String) (h : List ((Nat × Nat × Nat × Nat) × String)) : okL (mLL n h) 1682 bbL_law_1682 := okL_of _ _ (show dB code 9 1682 bbL_law_1682 = true by decide +kernel) ⟨trivial, ⟨trivial, ⟨trivial, ⟨trivial, ⟨trivial, ⟨trivial, ⟨trivial, ⟨⟨mok_mL_numberAt, rmLL _ _ (by decide) (by decide), lc_L_236, by decide⟩, ⟨trivial, ⟨trivial, ⟨trivial, ⟨trivial, ⟨trivial, ⟨trivial, ⟨trivial, ⟨⟨mok_m10_numberAt, rmLL _ _ (by decide) (by decide), rfl, by decide, Or.inl lc_L_238⟩, ⟨trivial, ⟨trivial, ⟨⟨mok_m10_thrown, rmLL _ _ (by decide) (by decide), rfl, by decide, Or.inl lc_L_114⟩, ⟨trivial, ⟨rfl, ⟨trivial, ⟨trivial, trivial⟩⟩⟩⟩⟩⟩⟩⟩⟩⟩⟩⟩⟩⟩⟩⟩⟩⟩⟩⟩⟩⟩⟩
def bbL_law_1718 : List PI := [(2, .iload 5, 0, 0, 0, 0, kZ), (3, .ifCond .ne 15, 1735, 0, 0, 0, kZ), (1, .aload_n 3, 0, 0, 0, 0, kZ), (1, .iconst 0, 0, 0, 0, 0, kZ), (1, .laload, 0, 0, 0, 0, kZ), (2, .iload 6, 0, 0, 0, 0, kZ), (1, .i2l, 0, 0, 0, 0, kZ), (1, .lcmp, 0, 0, 0, 0, kZ), (3, .ifCond .eq 5, 1735, 0, 0, 0, kZ), (1, .iconst 0, 0, 0, 0, 0, kZ), (1, .ireturn, 0, 0, 0, 0, kZ)]
set_option maxRecDepth 100000 in
theorem ooL_law_1718 (n : String) (h : List ((Nat × Nat × Nat × Nat) × String)) : okL (mLL n h) 1718 bbL_law_1718 := okL_of _ _ (show dB code 9 1718 bbL_law_1718 = true by decide +kernel) ⟨trivial, ⟨rfl, ⟨trivial, ⟨trivial, ⟨trivial, ⟨trivial, ⟨trivial, ⟨trivial, ⟨rfl, ⟨trivial, ⟨trivial, trivial⟩⟩⟩⟩⟩⟩⟩⟩⟩⟩⟩
def bbL_law_1735 : List PI := [(3, .goto 434, 2169, 0, 0, 0, kZ)]
set_option maxRecDepth 100000 in
theorem ooL_law_1735 (n : String) (h : List ((Nat × Nat × Nat × Nat) × String)) : okL (mLL n h) 1735 bbL_law_1735 := okL_of _ _ (show dB code 9 1735 bbL_law_1735 = true by decide +kernel) ⟨rfl, trivial⟩
def cdc_1682 (t : Nat) : Option (List PI) := match t with
  | 1682 => some bbL_law_1682
  | 1718 => some bbL_law_1718
  | 1735 => some bbL_law_1735
  | _ => none
theorem kdc_1682 (n : String) (h : List ((Nat × Nat × Nat × Nat) × String)) : ∀ t is, cdc_1682 t = some is → okL (mLL n h) t is := by
  intro t is hh
  unfold cdc_1682 at hh
  split at hh <;> cases hh
  · exact ooL_law_1682 n h
  · exact ooL_law_1718 n h
  · exact ooL_law_1735 n h
theorem ffc_1682 (n : String) (h : List ((Nat × Nat × Nat × Nat) × String)) : mi_r (mLL n h) = some .boolean ∧ mi_l (mLL n h) = 9 ∧ (mi_rm (mLL n h)).cells = 601024 ∧ (mi_rm (mLL n h)).slots = 7293034 := ⟨rfl, rfl, rfl, rfl⟩
theorem ffk_1682 : cdc_1682 1682 = some bbL_law_1682 ∧ cdc_1682 1718 = some bbL_law_1718 ∧ cdc_1682 1735 = some bbL_law_1735 ∧ cdc_1682 2169 = none ∧ (mi_rm mL_numberAt).cells = 1 ∧ (mi_rm mL_numberAt).slots = 6 ∧ (mi_rm m10_numberAt).cells = 0 ∧ (mi_rm m10_numberAt).slots = 0 ∧ (mi_rm m10_thrown).cells = 0 ∧ (mi_rm m10_thrown).slots = 0 := ⟨rfl, rfl, rfl, rfl, rfl, rfl, rfl, rfl, rfl, rfl⟩
def bbL_law_1738 : List PI := [(1, .aload_n 1, 0, 0, 0, 0, kZ), (3, .invokevirtual 239, 0, 9, 0, 0, m9_markers), (1, .aload_n 2, 0, 0, 0, 0, kZ), (3, .invokevirtual 242, 0, 10, 0, 0, m10_markers), (3, .if_icmp .eq 423, 2169, 0, 0, 0, kZ), (1, .iconst 0, 0, 0, 0, 0, kZ), (1, .ireturn, 0, 0, 0, 0, kZ)]
set_option maxRecDepth 100000 in
theorem ooL_law_1738 (n : String) (h : List ((Nat × Nat × Nat × Nat) × String)) : okL (mLL n h) 1738 bbL_law_1738 := okL_of _ _ (show dB code 9 1738 bbL_law_1738 = true by decide +kernel) ⟨trivial, ⟨⟨mok_m9_markers, rmLL _ _ (by decide) (by decide), rfl, by decide, Or.inl lc_L_239⟩, ⟨trivial, ⟨⟨mok_m10_markers, rmLL _ _ (by decide) (by decide), rfl, by decide, Or.inl lc_L_242⟩, ⟨rfl, ⟨trivial, ⟨trivial, trivial⟩⟩⟩⟩⟩⟩⟩
def cdc_1738 (t : Nat) : Option (List PI) := match t with
  | 1738 => some bbL_law_1738
  | _ => none
theorem kdc_1738 (n : String) (h : List ((Nat × Nat × Nat × Nat) × String)) : ∀ t is, cdc_1738 t = some is → okL (mLL n h) t is := by
  intro t is hh
  unfold cdc_1738 at hh
  split at hh <;> cases hh
  · exact ooL_law_1738 n h
theorem ffc_1738 (n : String) (h : List ((Nat × Nat × Nat × Nat) × String)) : mi_r (mLL n h) = some .boolean ∧ mi_l (mLL n h) = 9 ∧ (mi_rm (mLL n h)).cells = 601024 ∧ (mi_rm (mLL n h)).slots = 7293034 := ⟨rfl, rfl, rfl, rfl⟩
theorem ffk_1738 : cdc_1738 1738 = some bbL_law_1738 ∧ cdc_1738 2169 = none ∧ (mi_rm m9_markers).cells = 0 ∧ (mi_rm m9_markers).slots = 0 ∧ (mi_rm m10_markers).cells = 0 ∧ (mi_rm m10_markers).slots = 0 := ⟨rfl, rfl, rfl, rfl, rfl, rfl⟩
def bbL_law_1751 : List PI := [(1, .aload_n 1, 0, 0, 0, 0, kZ), (1, .aload_n 0, 0, 0, 0, 0, kZ), (2, .iload 4, 0, 0, 0, 0, kZ), (1, .iconst 1, 0, 0, 0, 0, kZ), (1, .iadd, 0, 0, 0, 0, kZ), (1, .iaload, 0, 0, 0, 0, kZ), (1, .aload_n 3, 0, 0, 0, 0, kZ), (3, .invokestatic 243, 3, 0, 2, 0, mL_isReceived), (2, .istore 5, 0, 0, 0, 0, kZ), (1, .aload_n 2, 0, 0, 0, 0, kZ), (1, .aload_n 0, 0, 0, 0, 0, kZ), (2, .iload 4, 0, 0, 0, 0, kZ), (1, .iconst 1, 0, 0, 0, 0, kZ), (1, .iadd, 0, 0, 0, 0, kZ), (1, .iaload, 0, 0, 0, 0, kZ), (3, .invokevirtual 245, 1, 10, 0, 0, m10_isReceived), (2, .istore 6, 0, 0, 0, 0, kZ), (1, .aload_n 2, 0, 0, 0, 0, kZ), (3, .invokevirtual 114, 0, 10, 0, 0, m10_thrown), (2, .iload 5, 0, 0, 0, 0, kZ), (3, .if_icmp .eq 5, 1787, 0, 0, 0, kZ), (1, .iconst 0, 0, 0, 0, 0, kZ), (1, .ireturn, 0, 0, 0, 0, kZ)]
set_option maxRecDepth 100000 in
theorem ooL_law_1751 (n : String) (h : List ((Nat × Nat × Nat × Nat) × String)) : okL (mLL n h) 1751 bbL_law_1751 := okL_of _ _ (show dB code 9 1751 bbL_law_1751 = true by decide +kernel) ⟨trivial, ⟨trivial, ⟨trivial, ⟨trivial, ⟨trivial, ⟨trivial, ⟨trivial, ⟨⟨mok_mL_isReceived, rmLL _ _ (by decide) (by decide), lc_L_243, by decide⟩, ⟨trivial, ⟨trivial, ⟨trivial, ⟨trivial, ⟨trivial, ⟨trivial, ⟨trivial, ⟨⟨mok_m10_isReceived, rmLL _ _ (by decide) (by decide), rfl, by decide, Or.inl lc_L_245⟩, ⟨trivial, ⟨trivial, ⟨⟨mok_m10_thrown, rmLL _ _ (by decide) (by decide), rfl, by decide, Or.inl lc_L_114⟩, ⟨trivial, ⟨rfl, ⟨trivial, ⟨trivial, trivial⟩⟩⟩⟩⟩⟩⟩⟩⟩⟩⟩⟩⟩⟩⟩⟩⟩⟩⟩⟩⟩⟩⟩
def bbL_law_1787 : List PI := [(2, .iload 5, 0, 0, 0, 0, kZ), (3, .ifCond .ne 22, 1811, 0, 0, 0, kZ), (1, .aload_n 3, 0, 0, 0, 0, kZ), (1, .iconst 0, 0, 0, 0, 0, kZ), (1, .laload, 0, 0, 0, 0, kZ), (2, .iload 6, 0, 0, 0, 0, kZ), (3, .ifCond .eq 7, 1804, 0, 0, 0, kZ), (1, .lconst 1, 0, 0, 0, 0, kZ), (3, .goto 4, 1805, 0, 0, 0, kZ)]
set_option maxRecDepth 100000 in
theorem ooL_law_1787 (n : String) (h : List ((Nat × Nat × Nat × Nat) × String)) : okL (mLL n h) 1787 bbL_law_1787 := okL_of _ _ (show dB code 9 1787 bbL_law_1787 = true by decide +kernel) ⟨trivial, ⟨rfl, ⟨trivial, ⟨trivial, ⟨trivial, ⟨trivial, ⟨rfl, ⟨trivial, ⟨rfl, trivial⟩⟩⟩⟩⟩⟩⟩⟩⟩
def bbL_law_1804 : List PI := [(1, .lconst 0, 0, 0, 0, 0, kZ)]
set_option maxRecDepth 100000 in
theorem ooL_law_1804 (n : String) (h : List ((Nat × Nat × Nat × Nat) × String)) : okL (mLL n h) 1804 bbL_law_1804 := okL_of _ _ (show dB code 9 1804 bbL_law_1804 = true by decide +kernel) ⟨trivial, trivial⟩
def bbL_law_1805 : List PI := [(1, .lcmp, 0, 0, 0, 0, kZ), (3, .ifCond .eq 5, 1811, 0, 0, 0, kZ), (1, .iconst 0, 0, 0, 0, 0, kZ), (1, .ireturn, 0, 0, 0, 0, kZ)]
set_option maxRecDepth 100000 in
theorem ooL_law_1805 (n : String) (h : List ((Nat × Nat × Nat × Nat) × String)) : okL (mLL n h) 1805 bbL_law_1805 := okL_of _ _ (show dB code 9 1805 bbL_law_1805 = true by decide +kernel) ⟨trivial, ⟨rfl, ⟨trivial, ⟨trivial, trivial⟩⟩⟩⟩
def bbL_law_1811 : List PI := [(3, .goto 358, 2169, 0, 0, 0, kZ)]
set_option maxRecDepth 100000 in
theorem ooL_law_1811 (n : String) (h : List ((Nat × Nat × Nat × Nat) × String)) : okL (mLL n h) 1811 bbL_law_1811 := okL_of _ _ (show dB code 9 1811 bbL_law_1811 = true by decide +kernel) ⟨rfl, trivial⟩
def cdc_1751 (t : Nat) : Option (List PI) := match t with
  | 1751 => some bbL_law_1751
  | 1787 => some bbL_law_1787
  | 1804 => some bbL_law_1804
  | 1805 => some bbL_law_1805
  | 1811 => some bbL_law_1811
  | _ => none
theorem kdc_1751 (n : String) (h : List ((Nat × Nat × Nat × Nat) × String)) : ∀ t is, cdc_1751 t = some is → okL (mLL n h) t is := by
  intro t is hh
  unfold cdc_1751 at hh
  split at hh <;> cases hh
  · exact ooL_law_1751 n h
  · exact ooL_law_1787 n h
  · exact ooL_law_1804 n h
  · exact ooL_law_1805 n h
  · exact ooL_law_1811 n h
theorem ffc_1751 (n : String) (h : List ((Nat × Nat × Nat × Nat) × String)) : mi_r (mLL n h) = some .boolean ∧ mi_l (mLL n h) = 9 ∧ (mi_rm (mLL n h)).cells = 601024 ∧ (mi_rm (mLL n h)).slots = 7293034 := ⟨rfl, rfl, rfl, rfl⟩
theorem ffk_1751 : cdc_1751 1751 = some bbL_law_1751 ∧ cdc_1751 1787 = some bbL_law_1787 ∧ cdc_1751 1804 = some bbL_law_1804 ∧ cdc_1751 1805 = some bbL_law_1805 ∧ cdc_1751 1811 = some bbL_law_1811 ∧ cdc_1751 2169 = none ∧ (mi_rm mL_isReceived).cells = 1 ∧ (mi_rm mL_isReceived).slots = 6 ∧ (mi_rm m10_isReceived).cells = 0 ∧ (mi_rm m10_isReceived).slots = 0 ∧ (mi_rm m10_thrown).cells = 0 ∧ (mi_rm m10_thrown).slots = 0 := ⟨rfl, rfl, rfl, rfl, rfl, rfl, rfl, rfl, rfl, rfl, rfl, rfl⟩
def bbL_law_1814 : List PI := [(1, .aload_n 1, 0, 0, 0, 0, kZ), (1, .aload_n 0, 0, 0, 0, 0, kZ), (2, .iload 4, 0, 0, 0, 0, kZ), (1, .iconst 1, 0, 0, 0, 0, kZ), (1, .iadd, 0, 0, 0, 0, kZ), (1, .iaload, 0, 0, 0, 0, kZ), (1, .aload_n 3, 0, 0, 0, 0, kZ), (3, .invokestatic 246, 3, 0, 2, 0, mL_receivedPixels), (2, .istore 5, 0, 0, 0, 0, kZ), (1, .aload_n 2, 0, 0, 0, 0, kZ), (1, .aload_n 0, 0, 0, 0, 0, kZ), (2, .iload 4, 0, 0, 0, 0, kZ), (1, .iconst 1, 0, 0, 0, 0, kZ), (1, .iadd, 0, 0, 0, 0, kZ), (1, .iaload, 0, 0, 0, 0, kZ), (3, .invokevirtual 248, 1, 10, 0, 0, m10_receivedPixels), (2, .lstore 6, 0, 0, 0, 0, kZ), (1, .aload_n 2, 0, 0, 0, 0, kZ), (3, .invokevirtual 114, 0, 10, 0, 0, m10_thrown), (2, .iload 5, 0, 0, 0, 0, kZ), (3, .if_icmp .eq 5, 1850, 0, 0, 0, kZ), (1, .iconst 0, 0, 0, 0, 0, kZ), (1, .ireturn, 0, 0, 0, 0, kZ)]
set_option maxRecDepth 100000 in
theorem ooL_law_1814 (n : String) (h : List ((Nat × Nat × Nat × Nat) × String)) : okL (mLL n h) 1814 bbL_law_1814 := okL_of _ _ (show dB code 9 1814 bbL_law_1814 = true by decide +kernel) ⟨trivial, ⟨trivial, ⟨trivial, ⟨trivial, ⟨trivial, ⟨trivial, ⟨trivial, ⟨⟨mok_mL_receivedPixels, rmLL _ _ (by decide) (by decide), lc_L_246, by decide⟩, ⟨trivial, ⟨trivial, ⟨trivial, ⟨trivial, ⟨trivial, ⟨trivial, ⟨trivial, ⟨⟨mok_m10_receivedPixels, rmLL _ _ (by decide) (by decide), rfl, by decide, Or.inl lc_L_248⟩, ⟨trivial, ⟨trivial, ⟨⟨mok_m10_thrown, rmLL _ _ (by decide) (by decide), rfl, by decide, Or.inl lc_L_114⟩, ⟨trivial, ⟨rfl, ⟨trivial, ⟨trivial, trivial⟩⟩⟩⟩⟩⟩⟩⟩⟩⟩⟩⟩⟩⟩⟩⟩⟩⟩⟩⟩⟩⟩⟩
def bbL_law_1850 : List PI := [(2, .iload 5, 0, 0, 0, 0, kZ), (3, .ifCond .ne 14, 1866, 0, 0, 0, kZ), (1, .aload_n 3, 0, 0, 0, 0, kZ), (1, .iconst 0, 0, 0, 0, 0, kZ), (1, .laload, 0, 0, 0, 0, kZ), (2, .lload 6, 0, 0, 0, 0, kZ), (1, .lcmp, 0, 0, 0, 0, kZ), (3, .ifCond .eq 5, 1866, 0, 0, 0, kZ), (1, .iconst 0, 0, 0, 0, 0, kZ), (1, .ireturn, 0, 0, 0, 0, kZ)]
set_option maxRecDepth 100000 in
theorem ooL_law_1850 (n : String) (h : List ((Nat × Nat × Nat × Nat) × String)) : okL (mLL n h) 1850 bbL_law_1850 := okL_of _ _ (show dB code 9 1850 bbL_law_1850 = true by decide +kernel) ⟨trivial, ⟨rfl, ⟨trivial, ⟨trivial, ⟨trivial, ⟨trivial, ⟨trivial, ⟨rfl, ⟨trivial, ⟨trivial, trivial⟩⟩⟩⟩⟩⟩⟩⟩⟩⟩
def bbL_law_1866 : List PI := [(3, .goto 303, 2169, 0, 0, 0, kZ)]
set_option maxRecDepth 100000 in
theorem ooL_law_1866 (n : String) (h : List ((Nat × Nat × Nat × Nat) × String)) : okL (mLL n h) 1866 bbL_law_1866 := okL_of _ _ (show dB code 9 1866 bbL_law_1866 = true by decide +kernel) ⟨rfl, trivial⟩
def cdc_1814 (t : Nat) : Option (List PI) := match t with
  | 1814 => some bbL_law_1814
  | 1850 => some bbL_law_1850
  | 1866 => some bbL_law_1866
  | _ => none
theorem kdc_1814 (n : String) (h : List ((Nat × Nat × Nat × Nat) × String)) : ∀ t is, cdc_1814 t = some is → okL (mLL n h) t is := by
  intro t is hh
  unfold cdc_1814 at hh
  split at hh <;> cases hh
  · exact ooL_law_1814 n h
  · exact ooL_law_1850 n h
  · exact ooL_law_1866 n h
theorem ffc_1814 (n : String) (h : List ((Nat × Nat × Nat × Nat) × String)) : mi_r (mLL n h) = some .boolean ∧ mi_l (mLL n h) = 9 ∧ (mi_rm (mLL n h)).cells = 601024 ∧ (mi_rm (mLL n h)).slots = 7293034 := ⟨rfl, rfl, rfl, rfl⟩
theorem ffk_1814 : cdc_1814 1814 = some bbL_law_1814 ∧ cdc_1814 1850 = some bbL_law_1850 ∧ cdc_1814 1866 = some bbL_law_1866 ∧ cdc_1814 2169 = none ∧ (mi_rm mL_receivedPixels).cells = 2 ∧ (mi_rm mL_receivedPixels).slots = 12 ∧ (mi_rm m10_receivedPixels).cells = 0 ∧ (mi_rm m10_receivedPixels).slots = 0 ∧ (mi_rm m10_thrown).cells = 0 ∧ (mi_rm m10_thrown).slots = 0 := ⟨rfl, rfl, rfl, rfl, rfl, rfl, rfl, rfl, rfl, rfl⟩
def bbL_law_1869 : List PI := [(1, .aload_n 1, 0, 0, 0, 0, kZ), (3, .invokevirtual 249, 0, 9, 0, 0, m9_received), (1, .aload_n 2, 0, 0, 0, 0, kZ), (3, .invokevirtual 252, 0, 10, 0, 0, m10_received), (3, .if_icmp .eq 292, 2169, 0, 0, 0, kZ), (1, .iconst 0, 0, 0, 0, 0, kZ), (1, .ireturn, 0, 0, 0, 0, kZ)]
set_option maxRecDepth 100000 in
theorem ooL_law_1869 (n : String) (h : List ((Nat × Nat × Nat × Nat) × String)) : okL (mLL n h) 1869 bbL_law_1869 := okL_of _ _ (show dB code 9 1869 bbL_law_1869 = true by decide +kernel) ⟨trivial, ⟨⟨mok_m9_received, rmLL _ _ (by decide) (by decide), rfl, by decide, Or.inl lc_L_249⟩, ⟨trivial, ⟨⟨mok_m10_received, rmLL _ _ (by decide) (by decide), rfl, by decide, Or.inl lc_L_252⟩, ⟨rfl, ⟨trivial, ⟨trivial, trivial⟩⟩⟩⟩⟩⟩⟩
def cdc_1869 (t : Nat) : Option (List PI) := match t with
  | 1869 => some bbL_law_1869
  | _ => none
theorem kdc_1869 (n : String) (h : List ((Nat × Nat × Nat × Nat) × String)) : ∀ t is, cdc_1869 t = some is → okL (mLL n h) t is := by
  intro t is hh
  unfold cdc_1869 at hh
  split at hh <;> cases hh
  · exact ooL_law_1869 n h
theorem ffc_1869 (n : String) (h : List ((Nat × Nat × Nat × Nat) × String)) : mi_r (mLL n h) = some .boolean ∧ mi_l (mLL n h) = 9 ∧ (mi_rm (mLL n h)).cells = 601024 ∧ (mi_rm (mLL n h)).slots = 7293034 := ⟨rfl, rfl, rfl, rfl⟩
theorem ffk_1869 : cdc_1869 1869 = some bbL_law_1869 ∧ cdc_1869 2169 = none ∧ (mi_rm m9_received).cells = 0 ∧ (mi_rm m9_received).slots = 0 ∧ (mi_rm m10_received).cells = 0 ∧ (mi_rm m10_received).slots = 0 := ⟨rfl, rfl, rfl, rfl, rfl, rfl⟩
def bbL_law_1882 : List PI := [(1, .aload_n 1, 0, 0, 0, 0, kZ), (3, .invokevirtual 253, 0, 9, 0, 0, m9_right), (1, .aload_n 2, 0, 0, 0, 0, kZ), (3, .invokevirtual 256, 0, 10, 0, 0, m10_right), (3, .if_icmp .eq 279, 2169, 0, 0, 0, kZ), (1, .iconst 0, 0, 0, 0, 0, kZ), (1, .ireturn, 0, 0, 0, 0, kZ)]
set_option maxRecDepth 100000 in
theorem ooL_law_1882 (n : String) (h : List ((Nat × Nat × Nat × Nat) × String)) : okL (mLL n h) 1882 bbL_law_1882 := okL_of _ _ (show dB code 9 1882 bbL_law_1882 = true by decide +kernel) ⟨trivial, ⟨⟨mok_m9_right, rmLL _ _ (by decide) (by decide), rfl, by decide, Or.inl lc_L_253⟩, ⟨trivial, ⟨⟨mok_m10_right, rmLL _ _ (by decide) (by decide), rfl, by decide, Or.inl lc_L_256⟩, ⟨rfl, ⟨trivial, ⟨trivial, trivial⟩⟩⟩⟩⟩⟩⟩
def cdc_1882 (t : Nat) : Option (List PI) := match t with
  | 1882 => some bbL_law_1882
  | _ => none
theorem kdc_1882 (n : String) (h : List ((Nat × Nat × Nat × Nat) × String)) : ∀ t is, cdc_1882 t = some is → okL (mLL n h) t is := by
  intro t is hh
  unfold cdc_1882 at hh
  split at hh <;> cases hh
  · exact ooL_law_1882 n h
theorem ffc_1882 (n : String) (h : List ((Nat × Nat × Nat × Nat) × String)) : mi_r (mLL n h) = some .boolean ∧ mi_l (mLL n h) = 9 ∧ (mi_rm (mLL n h)).cells = 601024 ∧ (mi_rm (mLL n h)).slots = 7293034 := ⟨rfl, rfl, rfl, rfl⟩
theorem ffk_1882 : cdc_1882 1882 = some bbL_law_1882 ∧ cdc_1882 2169 = none ∧ (mi_rm m9_right).cells = 0 ∧ (mi_rm m9_right).slots = 0 ∧ (mi_rm m10_right).cells = 0 ∧ (mi_rm m10_right).slots = 0 := ⟨rfl, rfl, rfl, rfl, rfl, rfl⟩
def bbL_law_1895 : List PI := [(1, .aload_n 1, 0, 0, 0, 0, kZ), (3, .invokevirtual 257, 0, 9, 0, 0, m9_errors), (1, .aload_n 2, 0, 0, 0, 0, kZ), (3, .invokevirtual 260, 0, 10, 0, 0, m10_errors), (3, .if_icmp .eq 266, 2169, 0, 0, 0, kZ), (1, .iconst 0, 0, 0, 0, 0, kZ), (1, .ireturn, 0, 0, 0, 0, kZ)]
set_option maxRecDepth 100000 in
theorem ooL_law_1895 (n : String) (h : List ((Nat × Nat × Nat × Nat) × String)) : okL (mLL n h) 1895 bbL_law_1895 := okL_of _ _ (show dB code 9 1895 bbL_law_1895 = true by decide +kernel) ⟨trivial, ⟨⟨mok_m9_errors, rmLL _ _ (by decide) (by decide), rfl, by decide, Or.inl lc_L_257⟩, ⟨trivial, ⟨⟨mok_m10_errors, rmLL _ _ (by decide) (by decide), rfl, by decide, Or.inl lc_L_260⟩, ⟨rfl, ⟨trivial, ⟨trivial, trivial⟩⟩⟩⟩⟩⟩⟩
def cdc_1895 (t : Nat) : Option (List PI) := match t with
  | 1895 => some bbL_law_1895
  | _ => none
theorem kdc_1895 (n : String) (h : List ((Nat × Nat × Nat × Nat) × String)) : ∀ t is, cdc_1895 t = some is → okL (mLL n h) t is := by
  intro t is hh
  unfold cdc_1895 at hh
  split at hh <;> cases hh
  · exact ooL_law_1895 n h
theorem ffc_1895 (n : String) (h : List ((Nat × Nat × Nat × Nat) × String)) : mi_r (mLL n h) = some .boolean ∧ mi_l (mLL n h) = 9 ∧ (mi_rm (mLL n h)).cells = 601024 ∧ (mi_rm (mLL n h)).slots = 7293034 := ⟨rfl, rfl, rfl, rfl⟩
theorem ffk_1895 : cdc_1895 1895 = some bbL_law_1895 ∧ cdc_1895 2169 = none ∧ (mi_rm m9_errors).cells = 0 ∧ (mi_rm m9_errors).slots = 0 ∧ (mi_rm m10_errors).cells = 0 ∧ (mi_rm m10_errors).slots = 0 := ⟨rfl, rfl, rfl, rfl, rfl, rfl⟩
def bbL_law_1908 : List PI := [(1, .aload_n 1, 0, 0, 0, 0, kZ), (1, .aload_n 0, 0, 0, 0, 0, kZ), (2, .iload 4, 0, 0, 0, 0, kZ), (1, .iconst 1, 0, 0, 0, 0, kZ), (1, .iadd, 0, 0, 0, 0, kZ), (1, .iaload, 0, 0, 0, 0, kZ), (1, .aload_n 3, 0, 0, 0, 0, kZ), (3, .invokestatic 261, 3, 0, 2, 0, mL_errorPlace), (2, .istore 5, 0, 0, 0, 0, kZ), (1, .aload_n 2, 0, 0, 0, 0, kZ), (1, .aload_n 0, 0, 0, 0, 0, kZ), (2, .iload 4, 0, 0, 0, 0, kZ), (1, .iconst 1, 0, 0, 0, 0, kZ), (1, .iadd, 0, 0, 0, 0, kZ), (1, .iaload, 0, 0, 0, 0, kZ), (3, .invokevirtual 263, 1, 10, 0, 0, m10_errorPlace), (2, .istore 6, 0, 0, 0, 0, kZ), (1, .aload_n 2, 0, 0, 0, 0, kZ), (3, .invokevirtual 114, 0, 10, 0, 0, m10_thrown), (2, .iload 5, 0, 0, 0, 0, kZ), (3, .if_icmp .eq 5, 1944, 0, 0, 0, kZ), (1, .iconst 0, 0, 0, 0, 0, kZ), (1, .ireturn, 0, 0, 0, 0, kZ)]
set_option maxRecDepth 100000 in
theorem ooL_law_1908 (n : String) (h : List ((Nat × Nat × Nat × Nat) × String)) : okL (mLL n h) 1908 bbL_law_1908 := okL_of _ _ (show dB code 9 1908 bbL_law_1908 = true by decide +kernel) ⟨trivial, ⟨trivial, ⟨trivial, ⟨trivial, ⟨trivial, ⟨trivial, ⟨trivial, ⟨⟨mok_mL_errorPlace, rmLL _ _ (by decide) (by decide), lc_L_261, by decide⟩, ⟨trivial, ⟨trivial, ⟨trivial, ⟨trivial, ⟨trivial, ⟨trivial, ⟨trivial, ⟨⟨mok_m10_errorPlace, rmLL _ _ (by decide) (by decide), rfl, by decide, Or.inl lc_L_263⟩, ⟨trivial, ⟨trivial, ⟨⟨mok_m10_thrown, rmLL _ _ (by decide) (by decide), rfl, by decide, Or.inl lc_L_114⟩, ⟨trivial, ⟨rfl, ⟨trivial, ⟨trivial, trivial⟩⟩⟩⟩⟩⟩⟩⟩⟩⟩⟩⟩⟩⟩⟩⟩⟩⟩⟩⟩⟩⟩⟩
def bbL_law_1944 : List PI := [(2, .iload 5, 0, 0, 0, 0, kZ), (3, .ifCond .ne 15, 1961, 0, 0, 0, kZ), (1, .aload_n 3, 0, 0, 0, 0, kZ), (1, .iconst 0, 0, 0, 0, 0, kZ), (1, .laload, 0, 0, 0, 0, kZ), (2, .iload 6, 0, 0, 0, 0, kZ), (1, .i2l, 0, 0, 0, 0, kZ), (1, .lcmp, 0, 0, 0, 0, kZ), (3, .ifCond .eq 5, 1961, 0, 0, 0, kZ), (1, .iconst 0, 0, 0, 0, 0, kZ), (1, .ireturn, 0, 0, 0, 0, kZ)]
set_option maxRecDepth 100000 in
theorem ooL_law_1944 (n : String) (h : List ((Nat × Nat × Nat × Nat) × String)) : okL (mLL n h) 1944 bbL_law_1944 := okL_of _ _ (show dB code 9 1944 bbL_law_1944 = true by decide +kernel) ⟨trivial, ⟨rfl, ⟨trivial, ⟨trivial, ⟨trivial, ⟨trivial, ⟨trivial, ⟨trivial, ⟨rfl, ⟨trivial, ⟨trivial, trivial⟩⟩⟩⟩⟩⟩⟩⟩⟩⟩⟩
def bbL_law_1961 : List PI := [(3, .goto 208, 2169, 0, 0, 0, kZ)]
set_option maxRecDepth 100000 in
theorem ooL_law_1961 (n : String) (h : List ((Nat × Nat × Nat × Nat) × String)) : okL (mLL n h) 1961 bbL_law_1961 := okL_of _ _ (show dB code 9 1961 bbL_law_1961 = true by decide +kernel) ⟨rfl, trivial⟩
def cdc_1908 (t : Nat) : Option (List PI) := match t with
  | 1908 => some bbL_law_1908
  | 1944 => some bbL_law_1944
  | 1961 => some bbL_law_1961
  | _ => none
theorem kdc_1908 (n : String) (h : List ((Nat × Nat × Nat × Nat) × String)) : ∀ t is, cdc_1908 t = some is → okL (mLL n h) t is := by
  intro t is hh
  unfold cdc_1908 at hh
  split at hh <;> cases hh
  · exact ooL_law_1908 n h
  · exact ooL_law_1944 n h
  · exact ooL_law_1961 n h
theorem ffc_1908 (n : String) (h : List ((Nat × Nat × Nat × Nat) × String)) : mi_r (mLL n h) = some .boolean ∧ mi_l (mLL n h) = 9 ∧ (mi_rm (mLL n h)).cells = 601024 ∧ (mi_rm (mLL n h)).slots = 7293034 := ⟨rfl, rfl, rfl, rfl⟩
theorem ffk_1908 : cdc_1908 1908 = some bbL_law_1908 ∧ cdc_1908 1944 = some bbL_law_1944 ∧ cdc_1908 1961 = some bbL_law_1961 ∧ cdc_1908 2169 = none ∧ (mi_rm mL_errorPlace).cells = 1 ∧ (mi_rm mL_errorPlace).slots = 6 ∧ (mi_rm m10_errorPlace).cells = 0 ∧ (mi_rm m10_errorPlace).slots = 0 ∧ (mi_rm m10_thrown).cells = 0 ∧ (mi_rm m10_thrown).slots = 0 := ⟨rfl, rfl, rfl, rfl, rfl, rfl, rfl, rfl, rfl, rfl⟩
def bbL_law_1964 : List PI := [(1, .aload_n 1, 0, 0, 0, 0, kZ), (1, .aload_n 0, 0, 0, 0, 0, kZ), (2, .iload 4, 0, 0, 0, 0, kZ), (1, .iconst 1, 0, 0, 0, 0, kZ), (1, .iadd, 0, 0, 0, 0, kZ), (1, .iaload, 0, 0, 0, 0, kZ), (1, .aload_n 3, 0, 0, 0, 0, kZ), (3, .invokestatic 264, 3, 0, 2, 0, mL_errorReason), (2, .istore 5, 0, 0, 0, 0, kZ), (1, .aload_n 2, 0, 0, 0, 0, kZ), (1, .aload_n 0, 0, 0, 0, 0, kZ), (2, .iload 4, 0, 0, 0, 0, kZ), (1, .iconst 1, 0, 0, 0, 0, kZ), (1, .iadd, 0, 0, 0, 0, kZ), (1, .iaload, 0, 0, 0, 0, kZ), (3, .invokevirtual 266, 1, 10, 0, 0, m10_errorReason), (2, .istore 6, 0, 0, 0, 0, kZ), (1, .aload_n 2, 0, 0, 0, 0, kZ), (3, .invokevirtual 114, 0, 10, 0, 0, m10_thrown), (2, .iload 5, 0, 0, 0, 0, kZ), (3, .if_icmp .eq 5, 2000, 0, 0, 0, kZ), (1, .iconst 0, 0, 0, 0, 0, kZ), (1, .ireturn, 0, 0, 0, 0, kZ)]
set_option maxRecDepth 100000 in
theorem ooL_law_1964 (n : String) (h : List ((Nat × Nat × Nat × Nat) × String)) : okL (mLL n h) 1964 bbL_law_1964 := okL_of _ _ (show dB code 9 1964 bbL_law_1964 = true by decide +kernel) ⟨trivial, ⟨trivial, ⟨trivial, ⟨trivial, ⟨trivial, ⟨trivial, ⟨trivial, ⟨⟨mok_mL_errorReason, rmLL _ _ (by decide) (by decide), lc_L_264, by decide⟩, ⟨trivial, ⟨trivial, ⟨trivial, ⟨trivial, ⟨trivial, ⟨trivial, ⟨trivial, ⟨⟨mok_m10_errorReason, rmLL _ _ (by decide) (by decide), rfl, by decide, Or.inl lc_L_266⟩, ⟨trivial, ⟨trivial, ⟨⟨mok_m10_thrown, rmLL _ _ (by decide) (by decide), rfl, by decide, Or.inl lc_L_114⟩, ⟨trivial, ⟨rfl, ⟨trivial, ⟨trivial, trivial⟩⟩⟩⟩⟩⟩⟩⟩⟩⟩⟩⟩⟩⟩⟩⟩⟩⟩⟩⟩⟩⟩⟩
def bbL_law_2000 : List PI := [(2, .iload 5, 0, 0, 0, 0, kZ), (3, .ifCond .ne 15, 2017, 0, 0, 0, kZ), (1, .aload_n 3, 0, 0, 0, 0, kZ), (1, .iconst 0, 0, 0, 0, 0, kZ), (1, .laload, 0, 0, 0, 0, kZ), (2, .iload 6, 0, 0, 0, 0, kZ), (1, .i2l, 0, 0, 0, 0, kZ), (1, .lcmp, 0, 0, 0, 0, kZ), (3, .ifCond .eq 5, 2017, 0, 0, 0, kZ), (1, .iconst 0, 0, 0, 0, 0, kZ), (1, .ireturn, 0, 0, 0, 0, kZ)]
set_option maxRecDepth 100000 in
theorem ooL_law_2000 (n : String) (h : List ((Nat × Nat × Nat × Nat) × String)) : okL (mLL n h) 2000 bbL_law_2000 := okL_of _ _ (show dB code 9 2000 bbL_law_2000 = true by decide +kernel) ⟨trivial, ⟨rfl, ⟨trivial, ⟨trivial, ⟨trivial, ⟨trivial, ⟨trivial, ⟨trivial, ⟨rfl, ⟨trivial, ⟨trivial, trivial⟩⟩⟩⟩⟩⟩⟩⟩⟩⟩⟩
def bbL_law_2017 : List PI := [(3, .goto 152, 2169, 0, 0, 0, kZ)]
set_option maxRecDepth 100000 in
theorem ooL_law_2017 (n : String) (h : List ((Nat × Nat × Nat × Nat) × String)) : okL (mLL n h) 2017 bbL_law_2017 := okL_of _ _ (show dB code 9 2017 bbL_law_2017 = true by decide +kernel) ⟨rfl, trivial⟩
def cdc_1964 (t : Nat) : Option (List PI) := match t with
  | 1964 => some bbL_law_1964
  | 2000 => some bbL_law_2000
  | 2017 => some bbL_law_2017
  | _ => none
theorem kdc_1964 (n : String) (h : List ((Nat × Nat × Nat × Nat) × String)) : ∀ t is, cdc_1964 t = some is → okL (mLL n h) t is := by
  intro t is hh
  unfold cdc_1964 at hh
  split at hh <;> cases hh
  · exact ooL_law_1964 n h
  · exact ooL_law_2000 n h
  · exact ooL_law_2017 n h
theorem ffc_1964 (n : String) (h : List ((Nat × Nat × Nat × Nat) × String)) : mi_r (mLL n h) = some .boolean ∧ mi_l (mLL n h) = 9 ∧ (mi_rm (mLL n h)).cells = 601024 ∧ (mi_rm (mLL n h)).slots = 7293034 := ⟨rfl, rfl, rfl, rfl⟩
theorem ffk_1964 : cdc_1964 1964 = some bbL_law_1964 ∧ cdc_1964 2000 = some bbL_law_2000 ∧ cdc_1964 2017 = some bbL_law_2017 ∧ cdc_1964 2169 = none ∧ (mi_rm mL_errorReason).cells = 1 ∧ (mi_rm mL_errorReason).slots = 6 ∧ (mi_rm m10_errorReason).cells = 0 ∧ (mi_rm m10_errorReason).slots = 0 ∧ (mi_rm m10_thrown).cells = 0 ∧ (mi_rm m10_thrown).slots = 0 := ⟨rfl, rfl, rfl, rfl, rfl, rfl, rfl, rfl, rfl, rfl⟩
def bbL_law_2020 : List PI := [(1, .aload_n 1, 0, 0, 0, 0, kZ), (3, .invokevirtual 267, 0, 9, 0, 0, m9_wouldReceive), (1, .aload_n 2, 0, 0, 0, 0, kZ), (3, .invokevirtual 270, 0, 10, 0, 0, m10_wouldReceive), (3, .if_icmp .eq 141, 2169, 0, 0, 0, kZ), (1, .iconst 0, 0, 0, 0, 0, kZ), (1, .ireturn, 0, 0, 0, 0, kZ)]
set_option maxRecDepth 100000 in
theorem ooL_law_2020 (n : String) (h : List ((Nat × Nat × Nat × Nat) × String)) : okL (mLL n h) 2020 bbL_law_2020 := okL_of _ _ (show dB code 9 2020 bbL_law_2020 = true by decide +kernel) ⟨trivial, ⟨⟨mok_m9_wouldReceive, rmLL _ _ (by decide) (by decide), rfl, by decide, Or.inl lc_L_267⟩, ⟨trivial, ⟨⟨mok_m10_wouldReceive, rmLL _ _ (by decide) (by decide), rfl, by decide, Or.inl lc_L_270⟩, ⟨rfl, ⟨trivial, ⟨trivial, trivial⟩⟩⟩⟩⟩⟩⟩
def cdc_2020 (t : Nat) : Option (List PI) := match t with
  | 2020 => some bbL_law_2020
  | _ => none
theorem kdc_2020 (n : String) (h : List ((Nat × Nat × Nat × Nat) × String)) : ∀ t is, cdc_2020 t = some is → okL (mLL n h) t is := by
  intro t is hh
  unfold cdc_2020 at hh
  split at hh <;> cases hh
  · exact ooL_law_2020 n h
theorem ffc_2020 (n : String) (h : List ((Nat × Nat × Nat × Nat) × String)) : mi_r (mLL n h) = some .boolean ∧ mi_l (mLL n h) = 9 ∧ (mi_rm (mLL n h)).cells = 601024 ∧ (mi_rm (mLL n h)).slots = 7293034 := ⟨rfl, rfl, rfl, rfl⟩
theorem ffk_2020 : cdc_2020 2020 = some bbL_law_2020 ∧ cdc_2020 2169 = none ∧ (mi_rm m9_wouldReceive).cells = 0 ∧ (mi_rm m9_wouldReceive).slots = 0 ∧ (mi_rm m10_wouldReceive).cells = 0 ∧ (mi_rm m10_wouldReceive).slots = 0 := ⟨rfl, rfl, rfl, rfl, rfl, rfl⟩
def bbL_law_2033 : List PI := [(1, .aload_n 1, 0, 0, 0, 0, kZ), (3, .invokevirtual 271, 0, 9, 0, 0, m9_wouldBeRight), (1, .aload_n 2, 0, 0, 0, 0, kZ), (3, .invokevirtual 274, 0, 10, 0, 0, m10_wouldBeRight), (3, .if_icmp .eq 128, 2169, 0, 0, 0, kZ), (1, .iconst 0, 0, 0, 0, 0, kZ), (1, .ireturn, 0, 0, 0, 0, kZ)]
set_option maxRecDepth 100000 in
theorem ooL_law_2033 (n : String) (h : List ((Nat × Nat × Nat × Nat) × String)) : okL (mLL n h) 2033 bbL_law_2033 := okL_of _ _ (show dB code 9 2033 bbL_law_2033 = true by decide +kernel) ⟨trivial, ⟨⟨mok_m9_wouldBeRight, rmLL _ _ (by decide) (by decide), rfl, by decide, Or.inl lc_L_271⟩, ⟨trivial, ⟨⟨mok_m10_wouldBeRight, rmLL _ _ (by decide) (by decide), rfl, by decide, Or.inl lc_L_274⟩, ⟨rfl, ⟨trivial, ⟨trivial, trivial⟩⟩⟩⟩⟩⟩⟩
def cdc_2033 (t : Nat) : Option (List PI) := match t with
  | 2033 => some bbL_law_2033
  | _ => none
theorem kdc_2033 (n : String) (h : List ((Nat × Nat × Nat × Nat) × String)) : ∀ t is, cdc_2033 t = some is → okL (mLL n h) t is := by
  intro t is hh
  unfold cdc_2033 at hh
  split at hh <;> cases hh
  · exact ooL_law_2033 n h
theorem ffc_2033 (n : String) (h : List ((Nat × Nat × Nat × Nat) × String)) : mi_r (mLL n h) = some .boolean ∧ mi_l (mLL n h) = 9 ∧ (mi_rm (mLL n h)).cells = 601024 ∧ (mi_rm (mLL n h)).slots = 7293034 := ⟨rfl, rfl, rfl, rfl⟩
theorem ffk_2033 : cdc_2033 2033 = some bbL_law_2033 ∧ cdc_2033 2169 = none ∧ (mi_rm m9_wouldBeRight).cells = 0 ∧ (mi_rm m9_wouldBeRight).slots = 0 ∧ (mi_rm m10_wouldBeRight).cells = 0 ∧ (mi_rm m10_wouldBeRight).slots = 0 := ⟨rfl, rfl, rfl, rfl, rfl, rfl⟩
def bbL_law_2046 : List PI := [(1, .aload_n 1, 0, 0, 0, 0, kZ), (1, .aload_n 0, 0, 0, 0, 0, kZ), (2, .iload 4, 0, 0, 0, 0, kZ), (1, .iconst 1, 0, 0, 0, 0, kZ), (1, .iadd, 0, 0, 0, 0, kZ), (1, .iaload, 0, 0, 0, 0, kZ), (1, .aload_n 0, 0, 0, 0, 0, kZ), (2, .iload 4, 0, 0, 0, 0, kZ), (1, .iconst 2, 0, 0, 0, 0, kZ), (1, .iadd, 0, 0, 0, 0, kZ), (1, .iaload, 0, 0, 0, 0, kZ), (1, .aload_n 3, 0, 0, 0, 0, kZ), (3, .invokestatic 275, 4, 0, 2, 0, mL_rightIfReplaced), (2, .istore 5, 0, 0, 0, 0, kZ), (1, .aload_n 2, 0, 0, 0, 0, kZ), (1, .aload_n 0, 0, 0, 0, 0, kZ), (2, .iload 4, 0, 0, 0, 0, kZ), (1, .iconst 1, 0, 0, 0, 0, kZ), (1, .iadd, 0, 0, 0, 0, kZ), (1, .iaload, 0, 0, 0, 0, kZ), (1, .aload_n 0, 0, 0, 0, 0, kZ), (2, .iload 4, 0, 0, 0, 0, kZ), (1, .iconst 2, 0, 0, 0, 0, kZ), (1, .iadd, 0, 0, 0, 0, kZ), (1, .iaload, 0, 0, 0, 0, kZ), (3, .invokevirtual 277, 2, 10, 0, 0, m10_rightIfReplaced), (2, .istore 6, 0, 0, 0, 0, kZ), (1, .aload_n 2, 0, 0, 0, 0, kZ), (3, .invokevirtual 114, 0, 10, 0, 0, m10_thrown), (2, .iload 5, 0, 0, 0, 0, kZ), (3, .if_icmp .eq 5, 2094, 0, 0, 0, kZ), (1, .iconst 0, 0, 0, 0, 0, kZ), (1, .ireturn, 0, 0, 0, 0, kZ)]
set_option maxRecDepth 100000 in
theorem ooL_law_2046 (n : String) (h : List ((Nat × Nat × Nat × Nat) × String)) : okL (mLL n h) 2046 bbL_law_2046 := okL_of _ _ (show dB code 9 2046 bbL_law_2046 = true by decide +kernel) ⟨trivial, ⟨trivial, ⟨trivial, ⟨trivial, ⟨trivial, ⟨trivial, ⟨trivial, ⟨trivial, ⟨trivial, ⟨trivial, ⟨trivial, ⟨trivial, ⟨⟨mok_mL_rightIfReplaced, rmLL _ _ (by decide) (by decide), lc_L_275, by decide⟩, ⟨trivial, ⟨trivial, ⟨trivial, ⟨trivial, ⟨trivial, ⟨trivial, ⟨trivial, ⟨trivial, ⟨trivial, ⟨trivial, ⟨trivial, ⟨trivial, ⟨⟨mok_m10_rightIfReplaced, rmLL _ _ (by decide) (by decide), rfl, by decide, Or.inl lc_L_277⟩, ⟨trivial, ⟨trivial, ⟨⟨mok_m10_thrown, rmLL _ _ (by decide) (by decide), rfl, by decide, Or.inl lc_L_114⟩, ⟨trivial, ⟨rfl, ⟨trivial, ⟨trivial, trivial⟩⟩⟩⟩⟩⟩⟩⟩⟩⟩⟩⟩⟩⟩⟩⟩⟩⟩⟩⟩⟩⟩⟩⟩⟩⟩⟩⟩⟩⟩⟩⟩⟩
def bbL_law_2094 : List PI := [(2, .iload 5, 0, 0, 0, 0, kZ), (3, .ifCond .ne 15, 2111, 0, 0, 0, kZ), (1, .aload_n 3, 0, 0, 0, 0, kZ), (1, .iconst 0, 0, 0, 0, 0, kZ), (1, .laload, 0, 0, 0, 0, kZ), (2, .iload 6, 0, 0, 0, 0, kZ), (1, .i2l, 0, 0, 0, 0, kZ), (1, .lcmp, 0, 0, 0, 0, kZ), (3, .ifCond .eq 5, 2111, 0, 0, 0, kZ), (1, .iconst 0, 0, 0, 0, 0, kZ), (1, .ireturn, 0, 0, 0, 0, kZ)]
set_option maxRecDepth 100000 in
theorem ooL_law_2094 (n : String) (h : List ((Nat × Nat × Nat × Nat) × String)) : okL (mLL n h) 2094 bbL_law_2094 := okL_of _ _ (show dB code 9 2094 bbL_law_2094 = true by decide +kernel) ⟨trivial, ⟨rfl, ⟨trivial, ⟨trivial, ⟨trivial, ⟨trivial, ⟨trivial, ⟨trivial, ⟨rfl, ⟨trivial, ⟨trivial, trivial⟩⟩⟩⟩⟩⟩⟩⟩⟩⟩⟩
def bbL_law_2111 : List PI := [(3, .goto 58, 2169, 0, 0, 0, kZ)]
set_option maxRecDepth 100000 in
theorem ooL_law_2111 (n : String) (h : List ((Nat × Nat × Nat × Nat) × String)) : okL (mLL n h) 2111 bbL_law_2111 := okL_of _ _ (show dB code 9 2111 bbL_law_2111 = true by decide +kernel) ⟨rfl, trivial⟩
def cdc_2046 (t : Nat) : Option (List PI) := match t with
  | 2046 => some bbL_law_2046
  | 2094 => some bbL_law_2094
  | 2111 => some bbL_law_2111
  | _ => none
theorem kdc_2046 (n : String) (h : List ((Nat × Nat × Nat × Nat) × String)) : ∀ t is, cdc_2046 t = some is → okL (mLL n h) t is := by
  intro t is hh
  unfold cdc_2046 at hh
  split at hh <;> cases hh
  · exact ooL_law_2046 n h
  · exact ooL_law_2094 n h
  · exact ooL_law_2111 n h
theorem ffc_2046 (n : String) (h : List ((Nat × Nat × Nat × Nat) × String)) : mi_r (mLL n h) = some .boolean ∧ mi_l (mLL n h) = 9 ∧ (mi_rm (mLL n h)).cells = 601024 ∧ (mi_rm (mLL n h)).slots = 7293034 := ⟨rfl, rfl, rfl, rfl⟩
theorem ffk_2046 : cdc_2046 2046 = some bbL_law_2046 ∧ cdc_2046 2094 = some bbL_law_2094 ∧ cdc_2046 2111 = some bbL_law_2111 ∧ cdc_2046 2169 = none ∧ (mi_rm mL_rightIfReplaced).cells = 2 ∧ (mi_rm mL_rightIfReplaced).slots = 12 ∧ (mi_rm m10_rightIfReplaced).cells = 0 ∧ (mi_rm m10_rightIfReplaced).slots = 0 ∧ (mi_rm m10_thrown).cells = 0 ∧ (mi_rm m10_thrown).slots = 0 := ⟨rfl, rfl, rfl, rfl, rfl, rfl, rfl, rfl, rfl, rfl⟩

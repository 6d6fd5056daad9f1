/-! THE LAW'S CODE -/
def mLL (n : String) (h : List ((Nat × Nat × Nat × Nat) × String)) : MI := (⟨"RunFaxesLaw", n, "([I)Z"⟩, code, 12, some .boolean, room_1, h)
theorem rmLL {k : MI} (n : String) (h : List ((Nat × Nat × Nat × Nat) × String)) (h1 : (mi_rm k).frames + 1 ≤ room_1.frames) (h2 : 8 + (mi_l k + 11) + (mi_rm k).locals ≤ room_1.locals) : RMok (mLL n h) k := ⟨h1, h2⟩
set_option maxRecDepth 100000 in
theorem ln_L_13 : LkN "RunFaxesLaw" 13 9 := ⟨_, _, _, rfl, (wt_1 21 (by decide +kernel) rfl), (wt_1 22 (by decide +kernel) rfl), (wt_1 1 (by decide +kernel) rfl)⟩
set_option maxRecDepth 100000 in
theorem lc_L_152 : LkI "RunFaxesLaw" 152 m9_init := ⟨(wt_1 23 (by decide +kernel) rfl), (wt_1 24 (by decide +kernel) rfl), rfl, rfl⟩
set_option maxRecDepth 100000 in
theorem lc_L_153 : LkV "RunFaxesLaw" 153 m9_savedStates := ⟨(wt_2 125 (by decide +kernel) rfl), (wt_2 126 (by decide +kernel) rfl), (wt_2 127 (by decide +kernel) rfl)⟩
set_option maxRecDepth 100000 in
theorem lc_L_160 : LkS "RunFaxesLaw" 160 mL_act := ⟨(wt_3 70 (by decide +kernel) rfl), (wt_3 71 (by decide +kernel) rfl)⟩
set_option maxRecDepth 100000 in
theorem lc_L_164 : LkS "RunFaxesLaw" 164 mL_holds := ⟨(wt_4 41 (by decide +kernel) rfl), (wt_4 42 (by decide +kernel) rfl)⟩
set_option maxRecDepth 100000 in
theorem lc_L_168 : LkS "RunFaxesLaw" 168 mL_isBack := ⟨(wt_4 120 (by decide +kernel) rfl), (wt_4 121 (by decide +kernel) rfl)⟩
set_option maxRecDepth 100000 in
theorem lc_L_156 : LkS "RunFaxesLaw" 156 mL_cell := ⟨(wt_2 185 (by decide +kernel) rfl), (wt_2 186 (by decide +kernel) rfl)⟩
def bbL_law_0 : List PI := [(3, .new 13, 9, 0, 0, 0, kZ), (1, .dup, 0, 0, 0, 0, kZ), (3, .invokespecial 152, 0, 9, 0, 0, m9_init)]
set_option maxRecDepth 100000 in
theorem ooL_law_0 (n : String) (h : List ((Nat × Nat × Nat × Nat) × String)) : okL (mLL n h) 0 bbL_law_0 := okL_of _ _ (show dB code 12 0 bbL_law_0 = true by decide +kernel) ⟨ln_L_13, ⟨trivial, ⟨⟨mok_m9_init, rmLL _ _ (by decide) (by decide), rfl, Or.inl lc_L_152⟩, trivial⟩⟩⟩
def bbL_law_7 : List PI := [(1, .astore_n 1, 0, 0, 0, 0, kZ), (1, .aload_n 1, 0, 0, 0, 0, kZ), (3, .invokevirtual 153, 0, 9, 0, 0, m9_savedStates), (3, .ifCond .ne 50, 62, 0, 0, 0, kZ), (1, .aload_n 1, 0, 0, 0, 0, kZ), (3, .invokevirtual 12, 0, 9, 0, 0, m9_width), (2, .bipush 24, 0, 0, 0, 0, kZ), (3, .if_icmp .ne 41, 62, 0, 0, 0, kZ), (1, .aload_n 1, 0, 0, 0, 0, kZ), (3, .invokevirtual 21, 0, 9, 0, 0, m9_style), (1, .iconst 3, 0, 0, 0, 0, kZ), (3, .if_icmp .ne 33, 62, 0, 0, 0, kZ), (1, .aload_n 1, 0, 0, 0, 0, kZ), (3, .invokevirtual 18, 0, 9, 0, 0, m9_lines), (3, .ifCond .ne 26, 62, 0, 0, 0, kZ), (1, .aload_n 1, 0, 0, 0, 0, kZ), (3, .invokevirtual 24, 0, 9, 0, 0, m9_streamLength), (3, .ifCond .ne 19, 62, 0, 0, 0, kZ), (1, .aload_n 1, 0, 0, 0, 0, kZ), (3, .invokevirtual 54, 0, 9, 0, 0, m9_hasStopped), (3, .ifCond .ne 12, 62, 0, 0, 0, kZ), (1, .aload_n 1, 0, 0, 0, 0, kZ), (3, .invokevirtual 138, 0, 9, 0, 0, m9_codedShare), (1, .dconst 0, 0, 0, 0, 0, kZ), (1, .dcmp .l, 0, 0, 0, 0, kZ), (3, .ifCond .eq 5, 64, 0, 0, 0, kZ)]
set_option maxRecDepth 100000 in
theorem ooL_law_7 (n : String) (h : List ((Nat × Nat × Nat × Nat) × String)) : okL (mLL n h) 7 bbL_law_7 := okL_of _ _ (show dB code 12 7 bbL_law_7 = true by decide +kernel) ⟨trivial, ⟨trivial, ⟨⟨mok_m9_savedStates, rmLL _ _ (by decide) (by decide), rfl, by decide, Or.inl lc_L_153⟩, ⟨rfl, ⟨trivial, ⟨⟨mok_m9_width, rmLL _ _ (by decide) (by decide), rfl, by decide, Or.inl lc_L_12⟩, ⟨trivial, ⟨rfl, ⟨trivial, ⟨⟨mok_m9_style, rmLL _ _ (by decide) (by decide), rfl, by decide, Or.inl lc_L_21⟩, ⟨trivial, ⟨rfl, ⟨trivial, ⟨⟨mok_m9_lines, rmLL _ _ (by decide) (by decide), rfl, by decide, Or.inl lc_L_18⟩, ⟨rfl, ⟨trivial, ⟨⟨mok_m9_streamLength, rmLL _ _ (by decide) (by decide), rfl, by decide, Or.inl lc_L_24⟩, ⟨rfl, ⟨trivial, ⟨⟨mok_m9_hasStopped, rmLL _ _ (by decide) (by decide), rfl, by decide, Or.inl lc_L_54⟩, ⟨rfl, ⟨trivial, ⟨⟨mok_m9_codedShare, rmLL _ _ (by decide) (by decide), rfl, by decide, Or.inl lc_L_138⟩, ⟨(show (0 : Nat) < 2 by decide), ⟨trivial, ⟨rfl, trivial⟩⟩⟩⟩⟩⟩⟩⟩⟩⟩⟩⟩⟩⟩⟩⟩⟩⟩⟩⟩⟩⟩⟩⟩⟩⟩
def bbL_law_62 : List PI := [(1, .iconst 0, 0, 0, 0, 0, kZ), (1, .ireturn, 0, 0, 0, 0, kZ)]
set_option maxRecDepth 100000 in
theorem ooL_law_62 (n : String) (h : List ((Nat × Nat × Nat × Nat) × String)) : okL (mLL n h) 62 bbL_law_62 := okL_of _ _ (show dB code 12 62 bbL_law_62 = true by decide +kernel) ⟨trivial, ⟨trivial, trivial⟩⟩
def bbL_law_64 : List PI := [(1, .iconst 0, 0, 0, 0, 0, kZ), (1, .istore_n 2, 0, 0, 0, 0, kZ)]
set_option maxRecDepth 100000 in
theorem ooL_law_64 (n : String) (h : List ((Nat × Nat × Nat × Nat) × String)) : okL (mLL n h) 64 bbL_law_64 := okL_of _ _ (show dB code 12 64 bbL_law_64 = true by decide +kernel) ⟨trivial, ⟨trivial, trivial⟩⟩
def bbL_law_66 : List PI := [(1, .iload_n 2, 0, 0, 0, 0, kZ), (2, .bipush 32, 0, 0, 0, 0, kZ), (3, .if_icmp .ge 211, 280, 0, 0, 0, kZ), (1, .aload_n 0, 0, 0, 0, 0, kZ), (1, .iconst 2, 0, 0, 0, 0, kZ), (1, .iload_n 2, 0, 0, 0, 0, kZ), (1, .imul, 0, 0, 0, 0, kZ)]
set_option maxRecDepth 100000 in
theorem ooL_law_66 (n : String) (h : List ((Nat × Nat × Nat × Nat) × String)) : okL (mLL n h) 66 bbL_law_66 := okL_of _ _ (show dB code 12 66 bbL_law_66 = true by decide +kernel) ⟨trivial, ⟨trivial, ⟨rfl, ⟨trivial, ⟨trivial, ⟨trivial, ⟨trivial, trivial⟩⟩⟩⟩⟩⟩⟩
def bbL_law_79 : List PI := [(1, .istore_n 3, 0, 0, 0, 0, kZ), (1, .iload_n 2, 0, 0, 0, 0, kZ), (1, .iconst 3, 0, 0, 0, 0, kZ), (3, .if_icmp .ge 10, 92, 0, 0, 0, kZ), (1, .iload_n 3, 0, 0, 0, 0, kZ), (2, .bipush (-16), 0, 0, 0, 0, kZ), (1, .iand, 0, 0, 0, 0, kZ), (3, .goto 19, 108, 0, 0, 0, kZ)]
set_option maxRecDepth 100000 in
theorem ooL_law_79 (n : String) (h : List ((Nat × Nat × Nat × Nat) × String)) : okL (mLL n h) 79 bbL_law_79 := okL_of _ _ (show dB code 12 79 bbL_law_79 = true by decide +kernel) ⟨trivial, ⟨trivial, ⟨trivial, ⟨rfl, ⟨trivial, ⟨trivial, ⟨trivial, ⟨rfl, trivial⟩⟩⟩⟩⟩⟩⟩⟩
def bbL_law_92 : List PI := [(1, .iload_n 2, 0, 0, 0, 0, kZ), (1, .iconst 3, 0, 0, 0, 0, kZ), (3, .if_icmp .ne 13, 107, 0, 0, 0, kZ), (1, .iload_n 3, 0, 0, 0, 0, kZ), (2, .bipush (-16), 0, 0, 0, 0, kZ), (1, .iand, 0, 0, 0, 0, kZ), (2, .bipush 8, 0, 0, 0, 0, kZ), (1, .ior, 0, 0, 0, 0, kZ), (3, .goto 4, 108, 0, 0, 0, kZ)]
set_option maxRecDepth 100000 in
theorem ooL_law_92 (n : String) (h : List ((Nat × Nat × Nat × Nat) × String)) : okL (mLL n h) 92 bbL_law_92 := okL_of _ _ (show dB code 12 92 bbL_law_92 = true by decide +kernel) ⟨trivial, ⟨trivial, ⟨rfl, ⟨trivial, ⟨trivial, ⟨trivial, ⟨trivial, ⟨trivial, ⟨rfl, trivial⟩⟩⟩⟩⟩⟩⟩⟩⟩
def bbL_law_107 : List PI := [(1, .iload_n 3, 0, 0, 0, 0, kZ)]
set_option maxRecDepth 100000 in
theorem ooL_law_107 (n : String) (h : List ((Nat × Nat × Nat × Nat) × String)) : okL (mLL n h) 107 bbL_law_107 := okL_of _ _ (show dB code 12 107 bbL_law_107 = true by decide +kernel) ⟨trivial, trivial⟩
def bbL_law_108 : List PI := [(1, .istore_n 3, 0, 0, 0, 0, kZ), (1, .aload_n 0, 0, 0, 0, 0, kZ), (1, .iconst 2, 0, 0, 0, 0, kZ), (1, .iload_n 2, 0, 0, 0, 0, kZ), (1, .imul, 0, 0, 0, 0, kZ), (1, .iconst 1, 0, 0, 0, 0, kZ), (1, .iadd, 0, 0, 0, 0, kZ)]
set_option maxRecDepth 100000 in
theorem ooL_law_108 (n : String) (h : List ((Nat × Nat × Nat × Nat) × String)) : okL (mLL n h) 108 bbL_law_108 := okL_of _ _ (show dB code 12 108 bbL_law_108 = true by decide +kernel) ⟨trivial, ⟨trivial, ⟨trivial, ⟨trivial, ⟨trivial, ⟨trivial, ⟨trivial, trivial⟩⟩⟩⟩⟩⟩⟩
def bbL_law_118 : List PI := [(2, .istore 4, 0, 0, 0, 0, kZ), (1, .aload_n 1, 0, 0, 0, 0, kZ), (3, .invokestatic 145, 1, 0, 0, 0, mL_told), (2, .lstore 5, 0, 0, 0, 0, kZ), (1, .aload_n 1, 0, 0, 0, 0, kZ), (3, .invokevirtual 153, 0, 9, 0, 0, m9_savedStates), (2, .istore 7, 0, 0, 0, 0, kZ), (1, .aload_n 1, 0, 0, 0, 0, kZ), (1, .iload_n 3, 0, 0, 0, 0, kZ), (2, .iload 4, 0, 0, 0, 0, kZ), (3, .invokestatic 160, 3, 0, 0, 0, mL_act), (2, .istore 8, 0, 0, 0, 0, kZ), (1, .aload_n 1, 0, 0, 0, 0, kZ), (3, .invokestatic 145, 1, 0, 0, 0, mL_told), (2, .lstore 9, 0, 0, 0, 0, kZ), (2, .iload 8, 0, 0, 0, 0, kZ), (3, .ifCond .ne 23, 172, 0, 0, 0, kZ), (2, .lload 9, 0, 0, 0, 0, kZ), (2, .lload 5, 0, 0, 0, 0, kZ), (1, .lcmp, 0, 0, 0, 0, kZ), (3, .ifCond .ne 36, 193, 0, 0, 0, kZ), (1, .aload_n 1, 0, 0, 0, 0, kZ), (3, .invokevirtual 153, 0, 9, 0, 0, m9_savedStates), (2, .iload 7, 0, 0, 0, 0, kZ), (3, .if_icmp .eq 29, 195, 0, 0, 0, kZ), (3, .goto 24, 193, 0, 0, 0, kZ)]
set_option maxRecDepth 100000 in
theorem ooL_law_118 (n : String) (h : List ((Nat × Nat × Nat × Nat) × String)) : okL (mLL n h) 118 bbL_law_118 := okL_of _ _ (show dB code 12 118 bbL_law_118 = true by decide +kernel) ⟨trivial, ⟨trivial, ⟨⟨mok_mL_told, rmLL _ _ (by decide) (by decide), rfl, Or.inl lc_L_145⟩, ⟨trivial, ⟨trivial, ⟨⟨mok_m9_savedStates, rmLL _ _ (by decide) (by decide), rfl, by decide, Or.inl lc_L_153⟩, ⟨trivial, ⟨trivial, ⟨trivial, ⟨trivial, ⟨⟨mok_mL_act, rmLL _ _ (by decide) (by decide), rfl, Or.inl lc_L_160⟩, ⟨trivial, ⟨trivial, ⟨⟨mok_mL_told, rmLL _ _ (by decide) (by decide), rfl, Or.inl lc_L_145⟩, ⟨trivial, ⟨trivial, ⟨rfl, ⟨trivial, ⟨trivial, ⟨trivial, ⟨rfl, ⟨trivial, ⟨⟨mok_m9_savedStates, rmLL _ _ (by decide) (by decide), rfl, by decide, Or.inl lc_L_153⟩, ⟨trivial, ⟨rfl, ⟨rfl, trivial⟩⟩⟩⟩⟩⟩⟩⟩⟩⟩⟩⟩⟩⟩⟩⟩⟩⟩⟩⟩⟩⟩⟩⟩⟩⟩
def bbL_law_172 : List PI := [(1, .aload_n 1, 0, 0, 0, 0, kZ), (3, .invokevirtual 153, 0, 9, 0, 0, m9_savedStates), (2, .iload 7, 0, 0, 0, 0, kZ), (1, .iconst 5, 0, 0, 0, 0, kZ), (3, .if_icmp .ge 10, 189, 0, 0, 0, kZ), (2, .iload 7, 0, 0, 0, 0, kZ), (1, .iconst 1, 0, 0, 0, 0, kZ), (1, .iadd, 0, 0, 0, 0, kZ), (3, .goto 4, 190, 0, 0, 0, kZ)]
set_option maxRecDepth 100000 in
theorem ooL_law_172 (n : String) (h : List ((Nat × Nat × Nat × Nat) × String)) : okL (mLL n h) 172 bbL_law_172 := okL_of _ _ (show dB code 12 172 bbL_law_172 = true by decide +kernel) ⟨trivial, ⟨⟨mok_m9_savedStates, rmLL _ _ (by decide) (by decide), rfl, by decide, Or.inl lc_L_153⟩, ⟨trivial, ⟨trivial, ⟨rfl, ⟨trivial, ⟨trivial, ⟨trivial, ⟨rfl, trivial⟩⟩⟩⟩⟩⟩⟩⟩⟩
def bbL_law_189 : List PI := [(1, .iconst 5, 0, 0, 0, 0, kZ)]
set_option maxRecDepth 100000 in
theorem ooL_law_189 (n : String) (h : List ((Nat × Nat × Nat × Nat) × String)) : okL (mLL n h) 189 bbL_law_189 := okL_of _ _ (show dB code 12 189 bbL_law_189 = true by decide +kernel) ⟨trivial, trivial⟩
def bbL_law_190 : List PI := [(3, .if_icmp .eq 5, 195, 0, 0, 0, kZ)]
set_option maxRecDepth 100000 in
theorem ooL_law_190 (n : String) (h : List ((Nat × Nat × Nat × Nat) × String)) : okL (mLL n h) 190 bbL_law_190 := okL_of _ _ (show dB code 12 190 bbL_law_190 = true by decide +kernel) ⟨rfl, trivial⟩
def bbL_law_193 : List PI := [(1, .iconst 0, 0, 0, 0, 0, kZ), (1, .ireturn, 0, 0, 0, 0, kZ)]
set_option maxRecDepth 100000 in
theorem ooL_law_193 (n : String) (h : List ((Nat × Nat × Nat × Nat) × String)) : okL (mLL n h) 193 bbL_law_193 := okL_of _ _ (show dB code 12 193 bbL_law_193 = true by decide +kernel) ⟨trivial, ⟨trivial, trivial⟩⟩
def bbL_law_195 : List PI := [(2, .iload 8, 0, 0, 0, 0, kZ), (3, .ifCond .eq 61, 258, 0, 0, 0, kZ), (1, .iload_n 3, 0, 0, 0, 0, kZ), (2, .bipush 20, 0, 0, 0, 0, kZ), (1, .ishr, 0, 0, 0, 0, kZ), (1, .iconst 1, 0, 0, 0, 0, kZ), (1, .iand, 0, 0, 0, 0, kZ), (3, .ifCond .ne 52, 258, 0, 0, 0, kZ), (1, .aload_n 1, 0, 0, 0, 0, kZ), (3, .invokevirtual 153, 0, 9, 0, 0, m9_savedStates), (1, .iconst 1, 0, 0, 0, 0, kZ), (1, .isub, 0, 0, 0, 0, kZ), (2, .istore 11, 0, 0, 0, 0, kZ), (1, .aload_n 1, 0, 0, 0, 0, kZ), (3, .invokevirtual 149, 0, 9, 0, 0, m9_undo), (2, .iload 11, 0, 0, 0, 0, kZ), (3, .if_icmp .ne 33, 256, 0, 0, 0, kZ), (1, .aload_n 1, 0, 0, 0, 0, kZ), (3, .invokestatic 145, 1, 0, 0, 0, mL_told), (2, .lload 5, 0, 0, 0, 0, kZ), (1, .lcmp, 0, 0, 0, 0, kZ), (3, .ifCond .ne 23, 256, 0, 0, 0, kZ), (1, .aload_n 1, 0, 0, 0, 0, kZ), (1, .iload_n 3, 0, 0, 0, 0, kZ), (2, .iload 4, 0, 0, 0, 0, kZ), (3, .invokestatic 160, 3, 0, 0, 0, mL_act), (3, .ifCond .eq 13, 256, 0, 0, 0, kZ), (1, .aload_n 1, 0, 0, 0, 0, kZ), (3, .invokestatic 145, 1, 0, 0, 0, mL_told), (2, .lload 9, 0, 0, 0, 0, kZ), (1, .lcmp, 0, 0, 0, 0, kZ), (3, .ifCond .eq 5, 258, 0, 0, 0, kZ)]
set_option maxRecDepth 100000 in
theorem ooL_law_195 (n : String) (h : List ((Nat × Nat × Nat × Nat) × String)) : okL (mLL n h) 195 bbL_law_195 := okL_of _ _ (show dB code 12 195 bbL_law_195 = true by decide +kernel) ⟨trivial, ⟨rfl, ⟨trivial, ⟨trivial, ⟨trivial, ⟨trivial, ⟨trivial, ⟨rfl, ⟨trivial, ⟨⟨mok_m9_savedStates, rmLL _ _ (by decide) (by decide), rfl, by decide, Or.inl lc_L_153⟩, ⟨trivial, ⟨trivial, ⟨trivial, ⟨trivial, ⟨⟨mok_m9_undo, rmLL _ _ (by decide) (by decide), rfl, by decide, Or.inl lc_L_149⟩, ⟨trivial, ⟨rfl, ⟨trivial, ⟨⟨mok_mL_told, rmLL _ _ (by decide) (by decide), rfl, Or.inl lc_L_145⟩, ⟨trivial, ⟨trivial, ⟨rfl, ⟨trivial, ⟨trivial, ⟨trivial, ⟨⟨mok_mL_act, rmLL _ _ (by decide) (by decide), rfl, Or.inl lc_L_160⟩, ⟨rfl, ⟨trivial, ⟨⟨mok_mL_told, rmLL _ _ (by decide) (by decide), rfl, Or.inl lc_L_145⟩, ⟨trivial, ⟨trivial, ⟨rfl, trivial⟩⟩⟩⟩⟩⟩⟩⟩⟩⟩⟩⟩⟩⟩⟩⟩⟩⟩⟩⟩⟩⟩⟩⟩⟩⟩⟩⟩⟩⟩⟩⟩
def bbL_law_256 : List PI := [(1, .iconst 0, 0, 0, 0, 0, kZ), (1, .ireturn, 0, 0, 0, 0, kZ)]
set_option maxRecDepth 100000 in
theorem ooL_law_256 (n : String) (h : List ((Nat × Nat × Nat × Nat) × String)) : okL (mLL n h) 256 bbL_law_256 := okL_of _ _ (show dB code 12 256 bbL_law_256 = true by decide +kernel) ⟨trivial, ⟨trivial, trivial⟩⟩
def bbL_law_258 : List PI := [(1, .aload_n 1, 0, 0, 0, 0, kZ), (3, .invokestatic 164, 1, 0, 0, 0, mL_holds), (3, .ifCond .eq 10, 272, 0, 0, 0, kZ), (1, .aload_n 1, 0, 0, 0, 0, kZ), (3, .invokestatic 168, 1, 0, 0, 0, mL_isBack), (3, .ifCond .ne 5, 274, 0, 0, 0, kZ)]
set_option maxRecDepth 100000 in
theorem ooL_law_258 (n : String) (h : List ((Nat × Nat × Nat × Nat) × String)) : okL (mLL n h) 258 bbL_law_258 := okL_of _ _ (show dB code 12 258 bbL_law_258 = true by decide +kernel) ⟨trivial, ⟨⟨mok_mL_holds, rmLL _ _ (by decide) (by decide), rfl, Or.inl lc_L_164⟩, ⟨rfl, ⟨trivial, ⟨⟨mok_mL_isBack, rmLL _ _ (by decide) (by decide), rfl, Or.inl lc_L_168⟩, ⟨rfl, trivial⟩⟩⟩⟩⟩⟩
def bbL_law_272 : List PI := [(1, .iconst 0, 0, 0, 0, 0, kZ), (1, .ireturn, 0, 0, 0, 0, kZ)]
set_option maxRecDepth 100000 in
theorem ooL_law_272 (n : String) (h : List ((Nat × Nat × Nat × Nat) × String)) : okL (mLL n h) 272 bbL_law_272 := okL_of _ _ (show dB code 12 272 bbL_law_272 = true by decide +kernel) ⟨trivial, ⟨trivial, trivial⟩⟩
def bbL_law_274 : List PI := [(3, .iinc 2 1, 0, 0, 0, 0, kZ), (3, .goto (-211), 66, 0, 0, 0, kZ)]
set_option maxRecDepth 100000 in
theorem ooL_law_274 (n : String) (h : List ((Nat × Nat × Nat × Nat) × String)) : okL (mLL n h) 274 bbL_law_274 := okL_of _ _ (show dB code 12 274 bbL_law_274 = true by decide +kernel) ⟨trivial, ⟨rfl, trivial⟩⟩
def bbL_law_280 : List PI := [(1, .iconst 1, 0, 0, 0, 0, kZ), (1, .ireturn, 0, 0, 0, 0, kZ)]
set_option maxRecDepth 100000 in
theorem ooL_law_280 (n : String) (h : List ((Nat × Nat × Nat × Nat) × String)) : okL (mLL n h) 280 bbL_law_280 := okL_of _ _ (show dB code 12 280 bbL_law_280 = true by decide +kernel) ⟨trivial, ⟨trivial, trivial⟩⟩
def cdc_0 (t : Nat) : Option (List PI) := match t with
  | 0 => some bbL_law_0
  | _ => none
theorem kdc_0 (n : String) (h : List ((Nat × Nat × Nat × Nat) × String)) : ∀ t is, cdc_0 t = some is → okL (mLL n h) t is := by
  intro t is hh
  unfold cdc_0 at hh
  split at hh <;> cases hh
  · exact ooL_law_0 n h
theorem ffc_0 (n : String) (h : List ((Nat × Nat × Nat × Nat) × String)) : mi_r (mLL n h) = some .boolean ∧ mi_l (mLL n h) = 12 ∧ (mi_rm (mLL n h)).cells = 600130 ∧ (mi_rm (mLL n h)).slots = 7301080 := ⟨rfl, rfl, rfl, rfl⟩
theorem ffk_0 : cdc_0 0 = some bbL_law_0 ∧ cdc_0 7 = none ∧ (mi_rm m9_init).cells = 76 ∧ (mi_rm m9_init).slots = 4277 := ⟨rfl, rfl, rfl, rfl⟩
def cdc_7 (t : Nat) : Option (List PI) := match t with
  | 7 => some bbL_law_7
  | 62 => some bbL_law_62
  | 64 => some bbL_law_64
  | _ => none
theorem kdc_7 (n : String) (h : List ((Nat × Nat × Nat × Nat) × String)) : ∀ t is, cdc_7 t = some is → okL (mLL n h) t is := by
  intro t is hh
  unfold cdc_7 at hh
  split at hh <;> cases hh
  · exact ooL_law_7 n h
  · exact ooL_law_62 n h
  · exact ooL_law_64 n h
theorem ffc_7 (n : String) (h : List ((Nat × Nat × Nat × Nat) × String)) : mi_r (mLL n h) = some .boolean ∧ mi_l (mLL n h) = 12 ∧ (mi_rm (mLL n h)).cells = 600130 ∧ (mi_rm (mLL n h)).slots = 7301080 := ⟨rfl, rfl, rfl, rfl⟩
theorem ffk_7 : cdc_7 7 = some bbL_law_7 ∧ cdc_7 62 = some bbL_law_62 ∧ cdc_7 64 = some bbL_law_64 ∧ cdc_7 66 = none ∧ (mi_rm m9_savedStates).cells = 0 ∧ (mi_rm m9_savedStates).slots = 0 ∧ (mi_rm m9_width).cells = 0 ∧ (mi_rm m9_width).slots = 0 ∧ (mi_rm m9_style).cells = 0 ∧ (mi_rm m9_style).slots = 0 ∧ (mi_rm m9_lines).cells = 0 ∧ (mi_rm m9_lines).slots = 0 ∧ (mi_rm m9_streamLength).cells = 0 ∧ (mi_rm m9_streamLength).slots = 0 ∧ (mi_rm m9_hasStopped).cells = 0 ∧ (mi_rm m9_hasStopped).slots = 0 ∧ (mi_rm m9_codedShare).cells = 0 ∧ (mi_rm m9_codedShare).slots = 0 := ⟨rfl, rfl, rfl, rfl, rfl, rfl, rfl, rfl, rfl, rfl, rfl, rfl, rfl, rfl, rfl, rfl, rfl, rfl⟩
def cdc_66 (t : Nat) : Option (List PI) := match t with
  | 66 => some bbL_law_66
  | 280 => some bbL_law_280
  | _ => none
theorem kdc_66 (n : String) (h : List ((Nat × Nat × Nat × Nat) × String)) : ∀ t is, cdc_66 t = some is → okL (mLL n h) t is := by
  intro t is hh
  unfold cdc_66 at hh
  split at hh <;> cases hh
  · exact ooL_law_66 n h
  · exact ooL_law_280 n h
theorem ffc_66 (n : String) (h : List ((Nat × Nat × Nat × Nat) × String)) : mi_r (mLL n h) = some .boolean ∧ mi_l (mLL n h) = 12 ∧ (mi_rm (mLL n h)).cells = 600130 ∧ (mi_rm (mLL n h)).slots = 7301080 := ⟨rfl, rfl, rfl, rfl⟩
theorem ffk_66 : cdc_66 66 = some bbL_law_66 ∧ cdc_66 76 = none ∧ cdc_66 280 = some bbL_law_280 ∧ cdc_66 282 = none := ⟨rfl, rfl, rfl, rfl⟩
def cdc_79 (t : Nat) : Option (List PI) := match t with
  | 79 => some bbL_law_79
  | 92 => some bbL_law_92
  | 107 => some bbL_law_107
  | _ => none
theorem kdc_79 (n : String) (h : List ((Nat × Nat × Nat × Nat) × String)) : ∀ t is, cdc_79 t = some is → okL (mLL n h) t is := by
  intro t is hh
  unfold cdc_79 at hh
  split at hh <;> cases hh
  · exact ooL_law_79 n h
  · exact ooL_law_92 n h
  · exact ooL_law_107 n h
theorem ffc_79 (n : String) (h : List ((Nat × Nat × Nat × Nat) × String)) : mi_r (mLL n h) = some .boolean ∧ mi_l (mLL n h) = 12 ∧ (mi_rm (mLL n h)).cells = 600130 ∧ (mi_rm (mLL n h)).slots = 7301080 := ⟨rfl, rfl, rfl, rfl⟩
theorem ffk_79 : cdc_79 79 = some bbL_law_79 ∧ cdc_79 92 = some bbL_law_92 ∧ cdc_79 107 = some bbL_law_107 ∧ cdc_79 108 = none := ⟨rfl, rfl, rfl, rfl⟩
def cdc_108 (t : Nat) : Option (List PI) := match t with
  | 108 => some bbL_law_108
  | _ => none
theorem kdc_108 (n : String) (h : List ((Nat × Nat × Nat × Nat) × String)) : ∀ t is, cdc_108 t = some is → okL (mLL n h) t is := by
  intro t is hh
  unfold cdc_108 at hh
  split at hh <;> cases hh
  · exact ooL_law_108 n h
theorem ffc_108 (n : String) (h : List ((Nat × Nat × Nat × Nat) × String)) : mi_r (mLL n h) = some .boolean ∧ mi_l (mLL n h) = 12 ∧ (mi_rm (mLL n h)).cells = 600130 ∧ (mi_rm (mLL n h)).slots = 7301080 := ⟨rfl, rfl, rfl, rfl⟩
theorem ffk_108 : cdc_108 108 = some bbL_law_108 ∧ cdc_108 115 = none := ⟨rfl, rfl⟩
def cdc_118 (t : Nat) : Option (List PI) := match t with
  | 118 => some bbL_law_118
  | 172 => some bbL_law_172
  | 189 => some bbL_law_189
  | 190 => some bbL_law_190
  | 193 => some bbL_law_193
  | 195 => some bbL_law_195
  | 256 => some bbL_law_256
  | _ => none
theorem kdc_118 (n : String) (h : List ((Nat × Nat × Nat × Nat) × String)) : ∀ t is, cdc_118 t = some is → okL (mLL n h) t is := by
  intro t is hh
  unfold cdc_118 at hh
  split at hh <;> cases hh
  · exact ooL_law_118 n h
  · exact ooL_law_172 n h
  · exact ooL_law_189 n h
  · exact ooL_law_190 n h
  · exact ooL_law_193 n h
  · exact ooL_law_195 n h
  · exact ooL_law_256 n h
theorem ffc_118 (n : String) (h : List ((Nat × Nat × Nat × Nat) × String)) : mi_r (mLL n h) = some .boolean ∧ mi_l (mLL n h) = 12 ∧ (mi_rm (mLL n h)).cells = 600130 ∧ (mi_rm (mLL n h)).slots = 7301080 := ⟨rfl, rfl, rfl, rfl⟩
theorem ffk_118 : cdc_118 118 = some bbL_law_118 ∧ cdc_118 172 = some bbL_law_172 ∧ cdc_118 189 = some bbL_law_189 ∧ cdc_118 190 = some bbL_law_190 ∧ cdc_118 193 = some bbL_law_193 ∧ cdc_118 195 = some bbL_law_195 ∧ cdc_118 256 = some bbL_law_256 ∧ cdc_118 258 = none ∧ (mi_rm mL_told).cells = 700 ∧ (mi_rm mL_told).slots = 4200 ∧ (mi_rm m9_savedStates).cells = 0 ∧ (mi_rm m9_savedStates).slots = 0 ∧ (mi_rm mL_act).cells = 20 ∧ (mi_rm mL_act).slots = 120 ∧ (mi_rm m9_undo).cells = 1 ∧ (mi_rm m9_undo).slots = 6 := ⟨rfl, rfl, rfl, rfl, rfl, rfl, rfl, rfl, rfl, rfl, rfl, rfl, rfl, rfl, rfl, rfl⟩
def cdc_258 (t : Nat) : Option (List PI) := match t with
  | 258 => some bbL_law_258
  | 272 => some bbL_law_272
  | 274 => some bbL_law_274
  | _ => none
theorem kdc_258 (n : String) (h : List ((Nat × Nat × Nat × Nat) × String)) : ∀ t is, cdc_258 t = some is → okL (mLL n h) t is := by
  intro t is hh
  unfold cdc_258 at hh
  split at hh <;> cases hh
  · exact ooL_law_258 n h
  · exact ooL_law_272 n h
  · exact ooL_law_274 n h
theorem ffc_258 (n : String) (h : List ((Nat × Nat × Nat × Nat) × String)) : mi_r (mLL n h) = some .boolean ∧ mi_l (mLL n h) = 12 ∧ (mi_rm (mLL n h)).cells = 600130 ∧ (mi_rm (mLL n h)).slots = 7301080 := ⟨rfl, rfl, rfl, rfl⟩
theorem ffk_258 : cdc_258 66 = none ∧ cdc_258 258 = some bbL_law_258 ∧ cdc_258 272 = some bbL_law_272 ∧ cdc_258 274 = some bbL_law_274 ∧ cdc_258 280 = none ∧ (mi_rm mL_holds).cells = 2000 ∧ (mi_rm mL_holds).slots = 12000 ∧ (mi_rm mL_isBack).cells = 1600 ∧ (mi_rm mL_isBack).slots = 9600 := ⟨rfl, rfl, rfl, rfl, rfl, rfl, rfl, rfl, rfl⟩

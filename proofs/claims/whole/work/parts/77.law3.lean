/-! THE LAW'S CODE, 3 -/
def bbL_law_2114 : List PI := [(1, .aload_n 1, 0, 0, 0, 0, kZ), (3, .invokevirtual 278, 0, 9, 0, 0, m9_codedShare), (2, .dstore 5, 0, 0, 0, 0, kZ), (1, .aload_n 2, 0, 0, 0, 0, kZ), (3, .invokevirtual 282, 0, 10, 0, 0, m10_codedShare), (2, .dstore 7, 0, 0, 0, 0, kZ), (2, .dload 5, 0, 0, 0, 0, kZ), (2, .dload 7, 0, 0, 0, 0, kZ), (1, .dcmp .l, 0, 0, 0, 0, kZ), (3, .ifCond .eq 21, 2152, 0, 0, 0, kZ), (2, .dload 5, 0, 0, 0, 0, kZ), (2, .dload 5, 0, 0, 0, 0, kZ), (1, .dcmp .l, 0, 0, 0, 0, kZ), (3, .ifCond .eq 11, 2150, 0, 0, 0, kZ), (2, .dload 7, 0, 0, 0, 0, kZ), (2, .dload 7, 0, 0, 0, 0, kZ), (1, .dcmp .l, 0, 0, 0, 0, kZ), (3, .ifCond .ne 5, 2152, 0, 0, 0, kZ)]
set_option maxRecDepth 100000 in
theorem ooL_law_2114 (n : String) (h : List ((Nat × Nat × Nat × Nat) × String)) : okL (mLL n h) 2114 bbL_law_2114 := okL_of _ _ (show dB code 9 2114 bbL_law_2114 = true by decide +kernel) ⟨trivial, ⟨⟨mok_m9_codedShare, rmLL _ _ (by decide) (by decide), rfl, by decide, Or.inl lc_L_278⟩, ⟨trivial, ⟨trivial, ⟨⟨mok_m10_codedShare, rmLL _ _ (by decide) (by decide), rfl, by decide, Or.inl lc_L_282⟩, ⟨trivial, ⟨trivial, ⟨trivial, ⟨trivial, ⟨rfl, ⟨trivial, ⟨trivial, ⟨trivial, ⟨rfl, ⟨trivial, ⟨trivial, ⟨trivial, ⟨rfl, trivial⟩⟩⟩⟩⟩⟩⟩⟩⟩⟩⟩⟩⟩⟩⟩⟩⟩⟩
def bbL_law_2150 : List PI := [(1, .iconst 0, 0, 0, 0, 0, kZ), (1, .ireturn, 0, 0, 0, 0, kZ)]
set_option maxRecDepth 100000 in
theorem ooL_law_2150 (n : String) (h : List ((Nat × Nat × Nat × Nat) × String)) : okL (mLL n h) 2150 bbL_law_2150 := okL_of _ _ (show dB code 9 2150 bbL_law_2150 = true by decide +kernel) ⟨trivial, ⟨trivial, trivial⟩⟩
def bbL_law_2152 : List PI := [(3, .goto 17, 2169, 0, 0, 0, kZ)]
set_option maxRecDepth 100000 in
theorem ooL_law_2152 (n : String) (h : List ((Nat × Nat × Nat × Nat) × String)) : okL (mLL n h) 2152 bbL_law_2152 := okL_of _ _ (show dB code 9 2152 bbL_law_2152 = true by decide +kernel) ⟨rfl, trivial⟩
def cdc_2114 (t : Nat) : Option (List PI) := match t with
  | 2114 => some bbL_law_2114
  | 2150 => some bbL_law_2150
  | 2152 => some bbL_law_2152
  | _ => none
theorem kdc_2114 (n : String) (h : List ((Nat × Nat × Nat × Nat) × String)) : ∀ t is, cdc_2114 t = some is → okL (mLL n h) t is := by
  intro t is hh
  unfold cdc_2114 at hh
  split at hh <;> cases hh
  · exact ooL_law_2114 n h
  · exact ooL_law_2150 n h
  · exact ooL_law_2152 n h
theorem ffc_2114 (n : String) (h : List ((Nat × Nat × Nat × Nat) × String)) : mi_r (mLL n h) = some .boolean ∧ mi_l (mLL n h) = 9 ∧ (mi_rm (mLL n h)).cells = 601024 ∧ (mi_rm (mLL n h)).slots = 7293034 := ⟨rfl, rfl, rfl, rfl⟩
theorem ffk_2114 : cdc_2114 2114 = some bbL_law_2114 ∧ cdc_2114 2150 = some bbL_law_2150 ∧ cdc_2114 2152 = some bbL_law_2152 ∧ cdc_2114 2169 = none ∧ (mi_rm m9_codedShare).cells = 0 ∧ (mi_rm m9_codedShare).slots = 0 ∧ (mi_rm m10_codedShare).cells = 0 ∧ (mi_rm m10_codedShare).slots = 0 := ⟨rfl, rfl, rfl, rfl, rfl, rfl, rfl, rfl⟩
def bbL_law_2155 : List PI := [(1, .aload_n 1, 0, 0, 0, 0, kZ), (3, .invokevirtual 283, 0, 9, 0, 0, m9_digest), (1, .aload_n 2, 0, 0, 0, 0, kZ), (3, .invokevirtual 287, 0, 10, 0, 0, m10_digest), (1, .lcmp, 0, 0, 0, 0, kZ), (3, .ifCond .eq 5, 2169, 0, 0, 0, kZ), (1, .iconst 0, 0, 0, 0, 0, kZ), (1, .ireturn, 0, 0, 0, 0, kZ)]
set_option maxRecDepth 100000 in
theorem ooL_law_2155 (n : String) (h : List ((Nat × Nat × Nat × Nat) × String)) : okL (mLL n h) 2155 bbL_law_2155 := okL_of _ _ (show dB code 9 2155 bbL_law_2155 = true by decide +kernel) ⟨trivial, ⟨⟨mok_m9_digest, rmLL _ _ (by decide) (by decide), rfl, by decide, Or.inl lc_L_283⟩, ⟨trivial, ⟨⟨mok_m10_digest, rmLL _ _ (by decide) (by decide), rfl, by decide, Or.inl lc_L_287⟩, ⟨trivial, ⟨rfl, ⟨trivial, ⟨trivial, trivial⟩⟩⟩⟩⟩⟩⟩⟩
def cdc_2155 (t : Nat) : Option (List PI) := match t with
  | 2155 => some bbL_law_2155
  | _ => none
theorem kdc_2155 (n : String) (h : List ((Nat × Nat × Nat × Nat) × String)) : ∀ t is, cdc_2155 t = some is → okL (mLL n h) t is := by
  intro t is hh
  unfold cdc_2155 at hh
  split at hh <;> cases hh
  · exact ooL_law_2155 n h
theorem ffc_2155 (n : String) (h : List ((Nat × Nat × Nat × Nat) × String)) : mi_r (mLL n h) = some .boolean ∧ mi_l (mLL n h) = 9 ∧ (mi_rm (mLL n h)).cells = 601024 ∧ (mi_rm (mLL n h)).slots = 7293034 := ⟨rfl, rfl, rfl, rfl⟩
theorem ffk_2155 : cdc_2155 2155 = some bbL_law_2155 ∧ cdc_2155 2169 = none ∧ (mi_rm m9_digest).cells = 0 ∧ (mi_rm m9_digest).slots = 0 ∧ (mi_rm m10_digest).cells = 0 ∧ (mi_rm m10_digest).slots = 0 := ⟨rfl, rfl, rfl, rfl, rfl, rfl⟩

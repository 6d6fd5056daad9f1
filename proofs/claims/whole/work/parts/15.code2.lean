def bb10_clearBuffer_0 : List PI := [(1, .aload_n 0, 0, 0, 0, 0, kZ), (1, .iconst 0, 0, 0, 0, 0, kZ), (3, .putfield 34, 10, 0, 0, 0, kZ), (1, .aload_n 0, 0, 0, 0, 0, kZ), (3, .getfield 160, 10, 8, 0, 0, kZ), (1, .istore_n 1, 0, 0, 0, 0, kZ), (1, .aload_n 0, 0, 0, 0, 0, kZ), (1, .iconst 0, 0, 0, 0, 0, kZ), (3, .putfield 160, 10, 8, 0, 0, kZ), (1, .iload_n 1, 0, 0, 0, 0, kZ), (1, .ireturn, 0, 0, 0, 0, kZ)]
set_option maxRecDepth 100000 in
theorem oo10_clearBuffer_0 : okL m10_clearBuffer 0 bb10_clearBuffer_0 := okL_of _ _ (by decide +kernel) ⟨trivial, ⟨trivial, ⟨lp_10_34 _, ⟨trivial, ⟨lf_10_160, ⟨trivial, ⟨trivial, ⟨trivial, ⟨lp_10_160 _, ⟨trivial, ⟨trivial, trivial⟩⟩⟩⟩⟩⟩⟩⟩⟩⟩⟩
def cd10_clearBuffer (t : Nat) : Option (List PI) := match t with
  | 0 => some bb10_clearBuffer_0
  | _ => none
theorem kd10_clearBuffer : ∀ t is, cd10_clearBuffer t = some is → okL m10_clearBuffer t is := by
  intro t is h
  unfold cd10_clearBuffer at h
  split at h <;> cases h
  · exact oo10_clearBuffer_0
theorem ff10_clearBuffer : mi_r m10_clearBuffer = (some .int) ∧ mi_l m10_clearBuffer = 2 ∧ mi_h m10_clearBuffer = [] ∧ (mi_rm m10_clearBuffer).cells = 0 ∧ (mi_rm m10_clearBuffer).slots = 0 ∧ (mi_rm m10_clearBuffer).locals = 32 ∧ cd10_clearBuffer 0 = some bb10_clearBuffer_0 := ⟨rfl, rfl, rfl, rfl, rfl, rfl, rfl⟩
def bb10_sign_0 : List PI := [(1, .aload_n 0, 0, 0, 0, 0, kZ), (3, .getfield 163, 10, 9, 0, 0, kZ), (1, .aload_n 0, 0, 0, 0, 0, kZ), (3, .getfield 160, 10, 8, 0, 0, kZ), (3, .if_icmp .ge 15, 23, 0, 0, 0, kZ), (1, .aload_n 0, 0, 0, 0, 0, kZ), (3, .getfield 22, 10, 7, 0, 0, kZ), (1, .aload_n 0, 0, 0, 0, 0, kZ), (3, .getfield 163, 10, 9, 0, 0, kZ), (1, .iaload, 0, 0, 0, 0, kZ), (3, .goto 4, 24, 0, 0, 0, kZ)]
set_option maxRecDepth 100000 in
theorem oo10_sign_0 : okL m10_sign 0 bb10_sign_0 := okL_of _ _ (by decide +kernel) ⟨trivial, ⟨lf_10_163, ⟨trivial, ⟨lf_10_160, ⟨rfl, ⟨trivial, ⟨lf_10_22, ⟨trivial, ⟨lf_10_163, ⟨trivial, ⟨rfl, trivial⟩⟩⟩⟩⟩⟩⟩⟩⟩⟩⟩
def bb10_sign_23 : List PI := [(1, .iconst 0, 0, 0, 0, 0, kZ)]
set_option maxRecDepth 100000 in
theorem oo10_sign_23 : okL m10_sign 23 bb10_sign_23 := okL_of _ _ (by decide +kernel) ⟨trivial, trivial⟩
def bb10_sign_24 : List PI := [(1, .ireturn, 0, 0, 0, 0, kZ)]
set_option maxRecDepth 100000 in
theorem oo10_sign_24 : okL m10_sign 24 bb10_sign_24 := okL_of _ _ (by decide +kernel) ⟨trivial, trivial⟩
def cd10_sign (t : Nat) : Option (List PI) := match t with
  | 0 => some bb10_sign_0
  | 23 => some bb10_sign_23
  | 24 => some bb10_sign_24
  | _ => none
theorem kd10_sign : ∀ t is, cd10_sign t = some is → okL m10_sign t is := by
  intro t is h
  unfold cd10_sign at h
  split at h <;> cases h
  · exact oo10_sign_0
  · exact oo10_sign_23
  · exact oo10_sign_24
theorem ff10_sign : mi_r m10_sign = (some .int) ∧ mi_l m10_sign = 1 ∧ mi_h m10_sign = [] ∧ (mi_rm m10_sign).cells = 0 ∧ (mi_rm m10_sign).slots = 0 ∧ (mi_rm m10_sign).locals = 32 ∧ cd10_sign 0 = some bb10_sign_0 ∧ cd10_sign 23 = some bb10_sign_23 ∧ cd10_sign 24 = some bb10_sign_24 := ⟨rfl, rfl, rfl, rfl, rfl, rfl, rfl, rfl, rfl⟩
def bb10_reads_0 : List PI := [(1, .aload_n 0, 0, 0, 0, 0, kZ), (1, .aload_n 0, 0, 0, 0, 0, kZ), (3, .getfield 166, 10, 10, 0, 0, kZ), (3, .ifCond .eq 19, 24, 0, 0, 0, kZ), (1, .aload_n 0, 0, 0, 0, 0, kZ), (3, .invokevirtual 170, 0, 10, 0, 0, m10_sign), (1, .iload_n 1, 0, 0, 0, 0, kZ), (1, .iload_n 2, 0, 0, 0, 0, kZ), (3, .invokestatic 38, 3, 10, 0, 0, m10_in), (3, .ifCond .eq 7, 24, 0, 0, 0, kZ), (1, .iconst 1, 0, 0, 0, 0, kZ), (3, .goto 4, 25, 0, 0, 0, kZ)]
set_option maxRecDepth 100000 in
theorem oo10_reads_0 : okL m10_reads 0 bb10_reads_0 := okL_of _ _ (by decide +kernel) ⟨trivial, ⟨trivial, ⟨lf_10_166, ⟨rfl, ⟨trivial, ⟨⟨mok_m10_sign, ⟨by decide, by decide⟩, rfl, by decide, Or.inl lc_10_170⟩, ⟨trivial, ⟨trivial, ⟨⟨mok_m10_in, ⟨by decide, by decide⟩, rfl, Or.inl lc_10_38⟩, ⟨rfl, ⟨trivial, ⟨rfl, trivial⟩⟩⟩⟩⟩⟩⟩⟩⟩⟩⟩⟩
def bb10_reads_24 : List PI := [(1, .iconst 0, 0, 0, 0, 0, kZ)]
set_option maxRecDepth 100000 in
theorem oo10_reads_24 : okL m10_reads 24 bb10_reads_24 := okL_of _ _ (by decide +kernel) ⟨trivial, trivial⟩
def bb10_reads_25 : List PI := [(3, .putfield 166, 10, 10, 0, 0, kZ), (1, .aload_n 0, 0, 0, 0, 0, kZ), (3, .invokevirtual 170, 0, 10, 0, 0, m10_sign), (2, .bipush 48, 0, 0, 0, 0, kZ), (1, .isub, 0, 0, 0, 0, kZ), (1, .istore_n 3, 0, 0, 0, 0, kZ), (1, .aload_n 0, 0, 0, 0, 0, kZ), (1, .dup, 0, 0, 0, 0, kZ), (3, .getfield 163, 10, 9, 0, 0, kZ), (1, .aload_n 0, 0, 0, 0, 0, kZ), (3, .getfield 166, 10, 10, 0, 0, kZ), (3, .ifCond .eq 7, 52, 0, 0, 0, kZ), (1, .iconst 1, 0, 0, 0, 0, kZ), (3, .goto 4, 53, 0, 0, 0, kZ)]
set_option maxRecDepth 100000 in
theorem oo10_reads_25 : okL m10_reads 25 bb10_reads_25 := okL_of _ _ (by decide +kernel) ⟨lp_10_166 _, ⟨trivial, ⟨⟨mok_m10_sign, ⟨by decide, by decide⟩, rfl, by decide, Or.inl lc_10_170⟩, ⟨trivial, ⟨trivial, ⟨trivial, ⟨trivial, ⟨trivial, ⟨lf_10_163, ⟨trivial, ⟨lf_10_166, ⟨rfl, ⟨trivial, ⟨rfl, trivial⟩⟩⟩⟩⟩⟩⟩⟩⟩⟩⟩⟩⟩⟩
def bb10_reads_52 : List PI := [(1, .iconst 0, 0, 0, 0, 0, kZ)]
set_option maxRecDepth 100000 in
theorem oo10_reads_52 : okL m10_reads 52 bb10_reads_52 := okL_of _ _ (by decide +kernel) ⟨trivial, trivial⟩
def bb10_reads_53 : List PI := [(1, .iadd, 0, 0, 0, 0, kZ), (3, .putfield 163, 10, 9, 0, 0, kZ), (1, .iload_n 3, 0, 0, 0, 0, kZ), (1, .ireturn, 0, 0, 0, 0, kZ)]
set_option maxRecDepth 100000 in
theorem oo10_reads_53 : okL m10_reads 53 bb10_reads_53 := okL_of _ _ (by decide +kernel) ⟨trivial, ⟨lp_10_163 _, ⟨trivial, ⟨trivial, trivial⟩⟩⟩⟩
def cd10_reads (t : Nat) : Option (List PI) := match t with
  | 0 => some bb10_reads_0
  | 24 => some bb10_reads_24
  | 25 => some bb10_reads_25
  | 52 => some bb10_reads_52
  | 53 => some bb10_reads_53
  | _ => none
theorem kd10_reads : ∀ t is, cd10_reads t = some is → okL m10_reads t is := by
  intro t is h
  unfold cd10_reads at h
  split at h <;> cases h
  · exact oo10_reads_0
  · exact oo10_reads_24
  · exact oo10_reads_25
  · exact oo10_reads_52
  · exact oo10_reads_53
theorem ff10_reads : mi_r m10_reads = (some .int) ∧ mi_l m10_reads = 4 ∧ mi_h m10_reads = [] ∧ (mi_rm m10_reads).cells = 0 ∧ (mi_rm m10_reads).slots = 0 ∧ (mi_rm m10_reads).locals = 54 ∧ cd10_reads 0 = some bb10_reads_0 ∧ cd10_reads 24 = some bb10_reads_24 ∧ cd10_reads 25 = some bb10_reads_25 ∧ cd10_reads 52 = some bb10_reads_52 ∧ cd10_reads 53 = some bb10_reads_53 ∧ (mi_rm m10_in).cells = 0 ∧ (mi_rm m10_in).slots = 0 ∧ (mi_rm m10_sign).cells = 0 ∧ (mi_rm m10_sign).slots = 0 := ⟨rfl, rfl, rfl, rfl, rfl, rfl, rfl, rfl, rfl, rfl, rfl, rfl, rfl, rfl, rfl⟩
def bb10_number_0 : List PI := [(1, .aload_n 0, 0, 0, 0, 0, kZ), (2, .bipush 48, 0, 0, 0, 0, kZ), (2, .bipush 57, 0, 0, 0, 0, kZ), (3, .invokevirtual 173, 2, 10, 0, 0, m10_reads), (1, .istore_n 2, 0, 0, 0, 0, kZ)]
set_option maxRecDepth 100000 in
theorem oo10_number_0 : okL m10_number 0 bb10_number_0 := okL_of _ _ (by decide +kernel) ⟨trivial, ⟨trivial, ⟨trivial, ⟨⟨mok_m10_reads, ⟨by decide, by decide⟩, rfl, by decide, Or.inl lc_10_173⟩, ⟨trivial, trivial⟩⟩⟩⟩⟩
def bb10_number_9 : List PI := [(1, .aload_n 0, 0, 0, 0, 0, kZ), (3, .getfield 166, 10, 10, 0, 0, kZ), (3, .ifCond .eq 63, 76, 0, 0, 0, kZ), (1, .iload_n 2, 0, 0, 0, 0, kZ), (3, .ifCond .le 59, 76, 0, 0, 0, kZ), (1, .aload_n 0, 0, 0, 0, 0, kZ), (3, .invokevirtual 170, 0, 10, 0, 0, m10_sign), (2, .bipush 48, 0, 0, 0, 0, kZ), (2, .bipush 57, 0, 0, 0, 0, kZ), (3, .invokestatic 38, 3, 10, 0, 0, m10_in), (3, .ifCond .eq 45, 76, 0, 0, 0, kZ), (2, .bipush 10, 0, 0, 0, 0, kZ), (1, .iload_n 2, 0, 0, 0, 0, kZ), (1, .imul, 0, 0, 0, 0, kZ), (1, .aload_n 0, 0, 0, 0, 0, kZ), (3, .invokevirtual 170, 0, 10, 0, 0, m10_sign), (1, .iadd, 0, 0, 0, 0, kZ), (2, .bipush 48, 0, 0, 0, 0, kZ), (1, .isub, 0, 0, 0, 0, kZ), (1, .iload_n 1, 0, 0, 0, 0, kZ), (3, .if_icmp .gt 29, 76, 0, 0, 0, kZ), (2, .bipush 10, 0, 0, 0, 0, kZ), (1, .iload_n 2, 0, 0, 0, 0, kZ), (1, .imul, 0, 0, 0, 0, kZ), (1, .aload_n 0, 0, 0, 0, 0, kZ), (3, .invokevirtual 170, 0, 10, 0, 0, m10_sign), (1, .iadd, 0, 0, 0, 0, kZ), (2, .bipush 48, 0, 0, 0, 0, kZ), (1, .isub, 0, 0, 0, 0, kZ), (1, .istore_n 2, 0, 0, 0, 0, kZ), (1, .aload_n 0, 0, 0, 0, 0, kZ), (1, .dup, 0, 0, 0, 0, kZ), (3, .getfield 163, 10, 9, 0, 0, kZ), (1, .iconst 1, 0, 0, 0, 0, kZ), (1, .iadd, 0, 0, 0, 0, kZ), (3, .putfield 163, 10, 9, 0, 0, kZ), (3, .goto (-64), 9, 0, 0, 0, kZ)]
set_option maxRecDepth 100000 in
theorem oo10_number_9 : okL m10_number 9 bb10_number_9 := okL_of _ _ (by decide +kernel) ⟨trivial, ⟨lf_10_166, ⟨rfl, ⟨trivial, ⟨rfl, ⟨trivial, ⟨⟨mok_m10_sign, ⟨by decide, by decide⟩, rfl, by decide, Or.inl lc_10_170⟩, ⟨trivial, ⟨trivial, ⟨⟨mok_m10_in, ⟨by decide, by decide⟩, rfl, Or.inl lc_10_38⟩, ⟨rfl, ⟨trivial, ⟨trivial, ⟨trivial, ⟨trivial, ⟨⟨mok_m10_sign, ⟨by decide, by decide⟩, rfl, by decide, Or.inl lc_10_170⟩, ⟨trivial, ⟨trivial, ⟨trivial, ⟨trivial, ⟨rfl, ⟨trivial, ⟨trivial, ⟨trivial, ⟨trivial, ⟨⟨mok_m10_sign, ⟨by decide, by decide⟩, rfl, by decide, Or.inl lc_10_170⟩, ⟨trivial, ⟨trivial, ⟨trivial, ⟨trivial, ⟨trivial, ⟨trivial, ⟨lf_10_163, ⟨trivial, ⟨trivial, ⟨lp_10_163 _, ⟨rfl, trivial⟩⟩⟩⟩⟩⟩⟩⟩⟩⟩⟩⟩⟩⟩⟩⟩⟩⟩⟩⟩⟩⟩⟩⟩⟩⟩⟩⟩⟩⟩⟩⟩⟩⟩⟩⟩⟩
def bb10_number_76 : List PI := [(1, .iload_n 2, 0, 0, 0, 0, kZ), (1, .ireturn, 0, 0, 0, 0, kZ)]
set_option maxRecDepth 100000 in
theorem oo10_number_76 : okL m10_number 76 bb10_number_76 := okL_of _ _ (by decide +kernel) ⟨trivial, ⟨trivial, trivial⟩⟩
def cd10_number (t : Nat) : Option (List PI) := match t with
  | 0 => some bb10_number_0
  | 76 => some bb10_number_76
  | _ => none
theorem kd10_number : ∀ t is, cd10_number t = some is → okL m10_number t is := by
  intro t is h
  unfold cd10_number at h
  split at h <;> cases h
  · exact oo10_number_0
  · exact oo10_number_76
theorem ff10_number : mi_r m10_number = (some .int) ∧ mi_l m10_number = 3 ∧ mi_h m10_number = [] ∧ (mi_rm m10_number).cells = 0 ∧ (mi_rm m10_number).slots = 0 ∧ (mi_rm m10_number).locals = 77 ∧ cd10_number 0 = some bb10_number_0 ∧ cd10_number 9 = none ∧ cd10_number 76 = some bb10_number_76 ∧ (mi_rm m10_in).cells = 0 ∧ (mi_rm m10_in).slots = 0 ∧ (mi_rm m10_reads).cells = 0 ∧ (mi_rm m10_reads).slots = 0 ∧ (mi_rm m10_sign).cells = 0 ∧ (mi_rm m10_sign).slots = 0 := ⟨rfl, rfl, rfl, rfl, rfl, rfl, rfl, rfl, rfl, rfl, rfl, rfl, rfl, rfl, rfl⟩
def bb10_readsPixels_0 : List PI := [(1, .iconst 0, 0, 0, 0, 0, kZ), (1, .istore_n 2, 0, 0, 0, 0, kZ), (1, .iconst 0, 0, 0, 0, 0, kZ), (1, .istore_n 3, 0, 0, 0, 0, kZ)]
set_option maxRecDepth 100000 in
theorem oo10_readsPixels_0 : okL m10_readsPixels 0 bb10_readsPixels_0 := okL_of _ _ (by decide +kernel) ⟨trivial, ⟨trivial, ⟨trivial, ⟨trivial, trivial⟩⟩⟩⟩
def bb10_readsPixels_4 : List PI := [(1, .iload_n 2, 0, 0, 0, 0, kZ), (2, .bipush 32, 0, 0, 0, 0, kZ), (3, .if_icmp .ge 56, 63, 0, 0, 0, kZ), (1, .aload_n 0, 0, 0, 0, 0, kZ), (3, .invokevirtual 170, 0, 10, 0, 0, m10_sign), (2, .bipush 46, 0, 0, 0, 0, kZ), (3, .if_icmp .eq 12, 28, 0, 0, 0, kZ), (1, .aload_n 0, 0, 0, 0, 0, kZ), (3, .invokevirtual 170, 0, 10, 0, 0, m10_sign), (2, .bipush 35, 0, 0, 0, 0, kZ), (3, .if_icmp .ne 38, 63, 0, 0, 0, kZ)]
set_option maxRecDepth 100000 in
theorem oo10_readsPixels_4 : okL m10_readsPixels 4 bb10_readsPixels_4 := okL_of _ _ (by decide +kernel) ⟨trivial, ⟨trivial, ⟨rfl, ⟨trivial, ⟨⟨mok_m10_sign, ⟨by decide, by decide⟩, rfl, by decide, Or.inl lc_10_170⟩, ⟨trivial, ⟨rfl, ⟨trivial, ⟨⟨mok_m10_sign, ⟨by decide, by decide⟩, rfl, by decide, Or.inl lc_10_170⟩, ⟨trivial, ⟨rfl, trivial⟩⟩⟩⟩⟩⟩⟩⟩⟩⟩⟩
def bb10_readsPixels_28 : List PI := [(1, .iload_n 3, 0, 0, 0, 0, kZ), (1, .aload_n 0, 0, 0, 0, 0, kZ), (3, .invokevirtual 170, 0, 10, 0, 0, m10_sign), (2, .bipush 35, 0, 0, 0, 0, kZ), (3, .if_icmp .ne 9, 44, 0, 0, 0, kZ), (1, .iconst 1, 0, 0, 0, 0, kZ), (1, .iload_n 2, 0, 0, 0, 0, kZ), (1, .ishl, 0, 0, 0, 0, kZ), (3, .goto 4, 45, 0, 0, 0, kZ)]
set_option maxRecDepth 100000 in
theorem oo10_readsPixels_28 : okL m10_readsPixels 28 bb10_readsPixels_28 := okL_of _ _ (by decide +kernel) ⟨trivial, ⟨trivial, ⟨⟨mok_m10_sign, ⟨by decide, by decide⟩, rfl, by decide, Or.inl lc_10_170⟩, ⟨trivial, ⟨rfl, ⟨trivial, ⟨trivial, ⟨trivial, ⟨rfl, trivial⟩⟩⟩⟩⟩⟩⟩⟩⟩
def bb10_readsPixels_44 : List PI := [(1, .iconst 0, 0, 0, 0, 0, kZ)]
set_option maxRecDepth 100000 in
theorem oo10_readsPixels_44 : okL m10_readsPixels 44 bb10_readsPixels_44 := okL_of _ _ (by decide +kernel) ⟨trivial, trivial⟩
def bb10_readsPixels_45 : List PI := [(1, .ior, 0, 0, 0, 0, kZ), (1, .istore_n 3, 0, 0, 0, 0, kZ), (3, .iinc 2 1, 0, 0, 0, 0, kZ), (1, .aload_n 0, 0, 0, 0, 0, kZ), (1, .dup, 0, 0, 0, 0, kZ), (3, .getfield 163, 10, 9, 0, 0, kZ), (1, .iconst 1, 0, 0, 0, 0, kZ), (1, .iadd, 0, 0, 0, 0, kZ), (3, .putfield 163, 10, 9, 0, 0, kZ), (3, .goto (-56), 4, 0, 0, 0, kZ)]
set_option maxRecDepth 100000 in
theorem oo10_readsPixels_45 : okL m10_readsPixels 45 bb10_readsPixels_45 := okL_of _ _ (by decide +kernel) ⟨trivial, ⟨trivial, ⟨trivial, ⟨trivial, ⟨trivial, ⟨lf_10_163, ⟨trivial, ⟨trivial, ⟨lp_10_163 _, ⟨rfl, trivial⟩⟩⟩⟩⟩⟩⟩⟩⟩⟩
def bb10_readsPixels_63 : List PI := [(1, .aload_n 0, 0, 0, 0, 0, kZ), (1, .iload_n 2, 0, 0, 0, 0, kZ), (3, .ifCond .le 7, 72, 0, 0, 0, kZ), (1, .iconst 1, 0, 0, 0, 0, kZ), (3, .goto 4, 73, 0, 0, 0, kZ)]
set_option maxRecDepth 100000 in
theorem oo10_readsPixels_63 : okL m10_readsPixels 63 bb10_readsPixels_63 := okL_of _ _ (by decide +kernel) ⟨trivial, ⟨trivial, ⟨rfl, ⟨trivial, ⟨rfl, trivial⟩⟩⟩⟩⟩
def bb10_readsPixels_72 : List PI := [(1, .iconst 0, 0, 0, 0, 0, kZ)]
set_option maxRecDepth 100000 in
theorem oo10_readsPixels_72 : okL m10_readsPixels 72 bb10_readsPixels_72 := okL_of _ _ (by decide +kernel) ⟨trivial, trivial⟩
def bb10_readsPixels_73 : List PI := [(3, .putfield 166, 10, 10, 0, 0, kZ), (1, .aload_n 0, 0, 0, 0, 0, kZ), (3, .getfield 25, 10, 11, 0, 0, kZ), (1, .iload_n 1, 0, 0, 0, 0, kZ), (1, .iconst 1, 0, 0, 0, 0, kZ), (1, .iadd, 0, 0, 0, 0, kZ), (1, .iload_n 3, 0, 0, 0, 0, kZ), (1, .iastore, 0, 0, 0, 0, kZ), (1, .aload_n 0, 0, 0, 0, 0, kZ), (3, .getfield 25, 10, 11, 0, 0, kZ), (1, .iload_n 1, 0, 0, 0, 0, kZ), (1, .iconst 2, 0, 0, 0, 0, kZ), (1, .iadd, 0, 0, 0, 0, kZ), (1, .iload_n 2, 0, 0, 0, 0, kZ), (1, .iastore, 0, 0, 0, 0, kZ), (1, .return_, 0, 0, 0, 0, kZ)]
set_option maxRecDepth 100000 in
theorem oo10_readsPixels_73 : okL m10_readsPixels 73 bb10_readsPixels_73 := okL_of _ _ (by decide +kernel) ⟨lp_10_166 _, ⟨trivial, ⟨lf_10_25, ⟨trivial, ⟨trivial, ⟨trivial, ⟨trivial, ⟨trivial, ⟨trivial, ⟨lf_10_25, ⟨trivial, ⟨trivial, ⟨trivial, ⟨trivial, ⟨trivial, ⟨rfl, trivial⟩⟩⟩⟩⟩⟩⟩⟩⟩⟩⟩⟩⟩⟩⟩⟩
def cd10_readsPixels (t : Nat) : Option (List PI) := match t with
  | 0 => some bb10_readsPixels_0
  | 28 => some bb10_readsPixels_28
  | 44 => some bb10_readsPixels_44
  | 45 => some bb10_readsPixels_45
  | 63 => some bb10_readsPixels_63
  | 72 => some bb10_readsPixels_72
  | 73 => some bb10_readsPixels_73
  | _ => none
theorem kd10_readsPixels : ∀ t is, cd10_readsPixels t = some is → okL m10_readsPixels t is := by
  intro t is h
  unfold cd10_readsPixels at h
  split at h <;> cases h
  · exact oo10_readsPixels_0
  · exact oo10_readsPixels_28
  · exact oo10_readsPixels_44
  · exact oo10_readsPixels_45
  · exact oo10_readsPixels_63
  · exact oo10_readsPixels_72
  · exact oo10_readsPixels_73
theorem ff10_readsPixels : mi_r m10_readsPixels = none ∧ mi_l m10_readsPixels = 4 ∧ mi_h m10_readsPixels = [] ∧ (mi_rm m10_readsPixels).cells = 0 ∧ (mi_rm m10_readsPixels).slots = 0 ∧ (mi_rm m10_readsPixels).locals = 52 ∧ cd10_readsPixels 0 = some bb10_readsPixels_0 ∧ cd10_readsPixels 4 = none ∧ cd10_readsPixels 28 = some bb10_readsPixels_28 ∧ cd10_readsPixels 44 = some bb10_readsPixels_44 ∧ cd10_readsPixels 45 = some bb10_readsPixels_45 ∧ cd10_readsPixels 63 = some bb10_readsPixels_63 ∧ cd10_readsPixels 72 = some bb10_readsPixels_72 ∧ cd10_readsPixels 73 = some bb10_readsPixels_73 ∧ (mi_rm m10_sign).cells = 0 ∧ (mi_rm m10_sign).slots = 0 := ⟨rfl, rfl, rfl, rfl, rfl, rfl, rfl, rfl, rfl, rfl, rfl, rfl, rfl, rfl, rfl, rfl⟩
def bb10_readsPart_0 : List PI := [(1, .iconst 3, 0, 0, 0, 0, kZ), (1, .aload_n 0, 0, 0, 0, 0, kZ), (3, .getfield 176, 10, 12, 0, 0, kZ), (1, .imul, 0, 0, 0, 0, kZ), (1, .istore_n 1, 0, 0, 0, 0, kZ), (1, .aload_n 0, 0, 0, 0, 0, kZ), (3, .invokevirtual 170, 0, 10, 0, 0, m10_sign), (1, .istore_n 2, 0, 0, 0, 0, kZ), (1, .aload_n 0, 0, 0, 0, 0, kZ), (1, .iload_n 2, 0, 0, 0, 0, kZ), (2, .bipush 43, 0, 0, 0, 0, kZ), (3, .if_icmp .eq 27, 43, 0, 0, 0, kZ), (1, .iload_n 2, 0, 0, 0, 0, kZ), (2, .bipush 45, 0, 0, 0, 0, kZ), (3, .if_icmp .eq 21, 43, 0, 0, 0, kZ), (1, .iload_n 2, 0, 0, 0, 0, kZ), (2, .bipush 115, 0, 0, 0, 0, kZ), (3, .if_icmp .eq 15, 43, 0, 0, 0, kZ), (1, .iload_n 2, 0, 0, 0, 0, kZ), (2, .bipush 114, 0, 0, 0, 0, kZ), (3, .if_icmp .eq 9, 43, 0, 0, 0, kZ), (1, .iload_n 2, 0, 0, 0, 0, kZ), (2, .bipush 120, 0, 0, 0, 0, kZ), (3, .if_icmp .ne 7, 47, 0, 0, 0, kZ)]
set_option maxRecDepth 100000 in
theorem oo10_readsPart_0 : okL m10_readsPart 0 bb10_readsPart_0 := okL_of _ _ (by decide +kernel) ⟨trivial, ⟨trivial, ⟨lf_10_176, ⟨trivial, ⟨trivial, ⟨trivial, ⟨⟨mok_m10_sign, ⟨by decide, by decide⟩, rfl, by decide, Or.inl lc_10_170⟩, ⟨trivial, ⟨trivial, ⟨trivial, ⟨trivial, ⟨rfl, ⟨trivial, ⟨trivial, ⟨rfl, ⟨trivial, ⟨trivial, ⟨rfl, ⟨trivial, ⟨trivial, ⟨rfl, ⟨trivial, ⟨trivial, ⟨rfl, trivial⟩⟩⟩⟩⟩⟩⟩⟩⟩⟩⟩⟩⟩⟩⟩⟩⟩⟩⟩⟩⟩⟩⟩⟩
def bb10_readsPart_43 : List PI := [(1, .iconst 1, 0, 0, 0, 0, kZ), (3, .goto 4, 48, 0, 0, 0, kZ)]
set_option maxRecDepth 100000 in
theorem oo10_readsPart_43 : okL m10_readsPart 43 bb10_readsPart_43 := okL_of _ _ (by decide +kernel) ⟨trivial, ⟨rfl, trivial⟩⟩
def bb10_readsPart_47 : List PI := [(1, .iconst 0, 0, 0, 0, 0, kZ)]
set_option maxRecDepth 100000 in
theorem oo10_readsPart_47 : okL m10_readsPart 47 bb10_readsPart_47 := okL_of _ _ (by decide +kernel) ⟨trivial, trivial⟩
def bb10_readsPart_48 : List PI := [(3, .putfield 166, 10, 10, 0, 0, kZ), (1, .aload_n 0, 0, 0, 0, 0, kZ), (1, .dup, 0, 0, 0, 0, kZ), (3, .getfield 163, 10, 9, 0, 0, kZ), (1, .aload_n 0, 0, 0, 0, 0, kZ), (3, .getfield 166, 10, 10, 0, 0, kZ), (3, .ifCond .eq 7, 67, 0, 0, 0, kZ), (1, .iconst 1, 0, 0, 0, 0, kZ), (3, .goto 4, 68, 0, 0, 0, kZ)]
set_option maxRecDepth 100000 in
theorem oo10_readsPart_48 : okL m10_readsPart 48 bb10_readsPart_48 := okL_of _ _ (by decide +kernel) ⟨lp_10_166 _, ⟨trivial, ⟨trivial, ⟨lf_10_163, ⟨trivial, ⟨lf_10_166, ⟨rfl, ⟨trivial, ⟨rfl, trivial⟩⟩⟩⟩⟩⟩⟩⟩⟩
def bb10_readsPart_67 : List PI := [(1, .iconst 0, 0, 0, 0, 0, kZ)]
set_option maxRecDepth 100000 in
theorem oo10_readsPart_67 : okL m10_readsPart 67 bb10_readsPart_67 := okL_of _ _ (by decide +kernel) ⟨trivial, trivial⟩
def bb10_readsPart_68 : List PI := [(1, .iadd, 0, 0, 0, 0, kZ), (3, .putfield 163, 10, 9, 0, 0, kZ), (1, .aload_n 0, 0, 0, 0, 0, kZ), (3, .getfield 25, 10, 11, 0, 0, kZ), (1, .iload_n 1, 0, 0, 0, 0, kZ), (1, .iload_n 2, 0, 0, 0, 0, kZ), (1, .iastore, 0, 0, 0, 0, kZ), (1, .iload_n 2, 0, 0, 0, 0, kZ), (2, .bipush 43, 0, 0, 0, 0, kZ), (3, .if_icmp .ne 11, 93, 0, 0, 0, kZ), (1, .aload_n 0, 0, 0, 0, 0, kZ), (1, .iload_n 1, 0, 0, 0, 0, kZ), (3, .invokevirtual 179, 1, 10, 0, 0, m10_readsPixels), (3, .goto 58, 148, 0, 0, 0, kZ)]
set_option maxRecDepth 100000 in
theorem oo10_readsPart_68 : okL m10_readsPart 68 bb10_readsPart_68 := okL_of _ _ (by decide +kernel) ⟨trivial, ⟨lp_10_163 _, ⟨trivial, ⟨lf_10_25, ⟨trivial, ⟨trivial, ⟨trivial, ⟨trivial, ⟨trivial, ⟨rfl, ⟨trivial, ⟨trivial, ⟨⟨mok_m10_readsPixels, ⟨by decide, by decide⟩, rfl, by decide, Or.inl lc_10_179⟩, ⟨rfl, trivial⟩⟩⟩⟩⟩⟩⟩⟩⟩⟩⟩⟩⟩⟩
def bb10_readsPart_93 : List PI := [(1, .iload_n 2, 0, 0, 0, 0, kZ), (2, .bipush 120, 0, 0, 0, 0, kZ), (3, .if_icmp .ne 52, 148, 0, 0, 0, kZ), (1, .aload_n 0, 0, 0, 0, 0, kZ), (3, .getfield 25, 10, 11, 0, 0, kZ), (1, .iload_n 1, 0, 0, 0, 0, kZ), (1, .iconst 1, 0, 0, 0, 0, kZ), (1, .iadd, 0, 0, 0, 0, kZ), (1, .aload_n 0, 0, 0, 0, 0, kZ), (3, .sipush 499, 0, 0, 0, 0, kZ), (3, .invokevirtual 182, 1, 10, 0, 0, m10_number), (1, .iastore, 0, 0, 0, 0, kZ), (1, .aload_n 0, 0, 0, 0, 0, kZ), (2, .bipush 61, 0, 0, 0, 0, kZ), (2, .bipush 61, 0, 0, 0, 0, kZ), (3, .invokevirtual 173, 2, 10, 0, 0, m10_reads), (1, .pop, 0, 0, 0, 0, kZ), (1, .aload_n 0, 0, 0, 0, 0, kZ), (3, .getfield 25, 10, 11, 0, 0, kZ), (1, .iload_n 1, 0, 0, 0, 0, kZ), (1, .iconst 2, 0, 0, 0, 0, kZ), (1, .iadd, 0, 0, 0, 0, kZ), (1, .aload_n 0, 0, 0, 0, 0, kZ), (3, .getfield 166, 10, 10, 0, 0, kZ), (3, .ifCond .eq 12, 146, 0, 0, 0, kZ), (1, .aload_n 0, 0, 0, 0, 0, kZ), (2, .bipush 15, 0, 0, 0, 0, kZ), (3, .invokevirtual 182, 1, 10, 0, 0, m10_number), (3, .goto 4, 147, 0, 0, 0, kZ)]
set_option maxRecDepth 100000 in
theorem oo10_readsPart_93 : okL m10_readsPart 93 bb10_readsPart_93 := okL_of _ _ (by decide +kernel) ⟨trivial, ⟨trivial, ⟨rfl, ⟨trivial, ⟨lf_10_25, ⟨trivial, ⟨trivial, ⟨trivial, ⟨trivial, ⟨trivial, ⟨⟨mok_m10_number, ⟨by decide, by decide⟩, rfl, by decide, Or.inl lc_10_182⟩, ⟨trivial, ⟨trivial, ⟨trivial, ⟨trivial, ⟨⟨mok_m10_reads, ⟨by decide, by decide⟩, rfl, by decide, Or.inl lc_10_173⟩, ⟨trivial, ⟨trivial, ⟨lf_10_25, ⟨trivial, ⟨trivial, ⟨trivial, ⟨trivial, ⟨lf_10_166, ⟨rfl, ⟨trivial, ⟨trivial, ⟨⟨mok_m10_number, ⟨by decide, by decide⟩, rfl, by decide, Or.inl lc_10_182⟩, ⟨rfl, trivial⟩⟩⟩⟩⟩⟩⟩⟩⟩⟩⟩⟩⟩⟩⟩⟩⟩⟩⟩⟩⟩⟩⟩⟩⟩⟩⟩⟩⟩
def bb10_readsPart_146 : List PI := [(1, .iconst 0, 0, 0, 0, 0, kZ)]
set_option maxRecDepth 100000 in
theorem oo10_readsPart_146 : okL m10_readsPart 146 bb10_readsPart_146 := okL_of _ _ (by decide +kernel) ⟨trivial, trivial⟩
def bb10_readsPart_147 : List PI := [(1, .iastore, 0, 0, 0, 0, kZ)]
set_option maxRecDepth 100000 in
theorem oo10_readsPart_147 : okL m10_readsPart 147 bb10_readsPart_147 := okL_of _ _ (by decide +kernel) ⟨trivial, trivial⟩
def bb10_readsPart_148 : List PI := [(1, .aload_n 0, 0, 0, 0, 0, kZ), (1, .dup, 0, 0, 0, 0, kZ), (3, .getfield 176, 10, 12, 0, 0, kZ), (1, .aload_n 0, 0, 0, 0, 0, kZ), (3, .getfield 166, 10, 10, 0, 0, kZ), (3, .ifCond .eq 7, 164, 0, 0, 0, kZ), (1, .iconst 1, 0, 0, 0, 0, kZ), (3, .goto 4, 165, 0, 0, 0, kZ)]
set_option maxRecDepth 100000 in
theorem oo10_readsPart_148 : okL m10_readsPart 148 bb10_readsPart_148 := okL_of _ _ (by decide +kernel) ⟨trivial, ⟨trivial, ⟨lf_10_176, ⟨trivial, ⟨lf_10_166, ⟨rfl, ⟨trivial, ⟨rfl, trivial⟩⟩⟩⟩⟩⟩⟩⟩
def bb10_readsPart_164 : List PI := [(1, .iconst 0, 0, 0, 0, 0, kZ)]
set_option maxRecDepth 100000 in
theorem oo10_readsPart_164 : okL m10_readsPart 164 bb10_readsPart_164 := okL_of _ _ (by decide +kernel) ⟨trivial, trivial⟩
def bb10_readsPart_165 : List PI := [(1, .iadd, 0, 0, 0, 0, kZ), (3, .putfield 176, 10, 12, 0, 0, kZ), (1, .return_, 0, 0, 0, 0, kZ)]
set_option maxRecDepth 100000 in
theorem oo10_readsPart_165 : okL m10_readsPart 165 bb10_readsPart_165 := okL_of _ _ (by decide +kernel) ⟨trivial, ⟨lp_10_176 _, ⟨rfl, trivial⟩⟩⟩
def cd10_readsPart (t : Nat) : Option (List PI) := match t with
  | 0 => some bb10_readsPart_0
  | 43 => some bb10_readsPart_43
  | 47 => some bb10_readsPart_47
  | 48 => some bb10_readsPart_48
  | 67 => some bb10_readsPart_67
  | 68 => some bb10_readsPart_68
  | 93 => some bb10_readsPart_93
  | 146 => some bb10_readsPart_146
  | 147 => some bb10_readsPart_147
  | 148 => some bb10_readsPart_148
  | 164 => some bb10_readsPart_164
  | 165 => some bb10_readsPart_165
  | _ => none
theorem kd10_readsPart : ∀ t is, cd10_readsPart t = some is → okL m10_readsPart t is := by
  intro t is h
  unfold cd10_readsPart at h
  split at h <;> cases h
  · exact oo10_readsPart_0
  · exact oo10_readsPart_43
  · exact oo10_readsPart_47
  · exact oo10_readsPart_48
  · exact oo10_readsPart_67
  · exact oo10_readsPart_68
  · exact oo10_readsPart_93
  · exact oo10_readsPart_146
  · exact oo10_readsPart_147
  · exact oo10_readsPart_148
  · exact oo10_readsPart_164
  · exact oo10_readsPart_165
theorem ff10_readsPart : mi_r m10_readsPart = none ∧ mi_l m10_readsPart = 3 ∧ mi_h m10_readsPart = [] ∧ (mi_rm m10_readsPart).cells = 0 ∧ (mi_rm m10_readsPart).slots = 0 ∧ (mi_rm m10_readsPart).locals = 99 ∧ cd10_readsPart 0 = some bb10_readsPart_0 ∧ cd10_readsPart 43 = some bb10_readsPart_43 ∧ cd10_readsPart 47 = some bb10_readsPart_47 ∧ cd10_readsPart 48 = some bb10_readsPart_48 ∧ cd10_readsPart 67 = some bb10_readsPart_67 ∧ cd10_readsPart 68 = some bb10_readsPart_68 ∧ cd10_readsPart 93 = some bb10_readsPart_93 ∧ cd10_readsPart 146 = some bb10_readsPart_146 ∧ cd10_readsPart 147 = some bb10_readsPart_147 ∧ cd10_readsPart 148 = some bb10_readsPart_148 ∧ cd10_readsPart 164 = some bb10_readsPart_164 ∧ cd10_readsPart 165 = some bb10_readsPart_165 ∧ (mi_rm m10_number).cells = 0 ∧ (mi_rm m10_number).slots = 0 ∧ (mi_rm m10_reads).cells = 0 ∧ (mi_rm m10_reads).slots = 0 ∧ (mi_rm m10_readsPixels).cells = 0 ∧ (mi_rm m10_readsPixels).slots = 0 ∧ (mi_rm m10_sign).cells = 0 ∧ (mi_rm m10_sign).slots = 0 := ⟨rfl, rfl, rfl, rfl, rfl, rfl, rfl, rfl, rfl, rfl, rfl, rfl, rfl, rfl, rfl, rfl, rfl, rfl, rfl, rfl, rfl, rfl, rfl, rfl, rfl, rfl⟩
def bb10_readsPage_0 : List PI := [(1, .aload_n 0, 0, 0, 0, 0, kZ), (1, .iconst 0, 0, 0, 0, 0, kZ), (3, .putfield 163, 10, 9, 0, 0, kZ), (1, .aload_n 0, 0, 0, 0, 0, kZ), (1, .iconst 0, 0, 0, 0, 0, kZ), (3, .putfield 176, 10, 12, 0, 0, kZ), (1, .aload_n 0, 0, 0, 0, 0, kZ), (3, .invokevirtual 185, 0, 10, 0, 0, m10_readsPart)]
set_option maxRecDepth 100000 in
theorem oo10_readsPage_0 : okL m10_readsPage 0 bb10_readsPage_0 := okL_of _ _ (by decide +kernel) ⟨trivial, ⟨trivial, ⟨lp_10_163 _, ⟨trivial, ⟨trivial, ⟨lp_10_176 _, ⟨trivial, ⟨⟨mok_m10_readsPart, ⟨by decide, by decide⟩, rfl, by decide, Or.inl lc_10_185⟩, trivial⟩⟩⟩⟩⟩⟩⟩⟩
def bb10_readsPage_14 : List PI := [(1, .aload_n 0, 0, 0, 0, 0, kZ), (3, .getfield 166, 10, 10, 0, 0, kZ), (3, .ifCond .eq 37, 55, 0, 0, 0, kZ), (1, .aload_n 0, 0, 0, 0, 0, kZ), (3, .getfield 163, 10, 9, 0, 0, kZ), (1, .aload_n 0, 0, 0, 0, 0, kZ), (3, .getfield 160, 10, 8, 0, 0, kZ), (3, .if_icmp .ge 26, 55, 0, 0, 0, kZ), (1, .aload_n 0, 0, 0, 0, 0, kZ), (2, .bipush 59, 0, 0, 0, 0, kZ), (2, .bipush 59, 0, 0, 0, 0, kZ), (3, .invokevirtual 173, 2, 10, 0, 0, m10_reads), (1, .pop, 0, 0, 0, 0, kZ), (1, .aload_n 0, 0, 0, 0, 0, kZ), (3, .getfield 166, 10, 10, 0, 0, kZ), (3, .ifCond .eq (-31), 14, 0, 0, 0, kZ), (1, .aload_n 0, 0, 0, 0, 0, kZ), (3, .invokevirtual 185, 0, 10, 0, 0, m10_readsPart), (3, .goto (-38), 14, 0, 0, 0, kZ)]
set_option maxRecDepth 100000 in
theorem oo10_readsPage_14 : okL m10_readsPage 14 bb10_readsPage_14 := okL_of _ _ (by decide +kernel) ⟨trivial, ⟨lf_10_166, ⟨rfl, ⟨trivial, ⟨lf_10_163, ⟨trivial, ⟨lf_10_160, ⟨rfl, ⟨trivial, ⟨trivial, ⟨trivial, ⟨⟨mok_m10_reads, ⟨by decide, by decide⟩, rfl, by decide, Or.inl lc_10_173⟩, ⟨trivial, ⟨trivial, ⟨lf_10_166, ⟨rfl, ⟨trivial, ⟨⟨mok_m10_readsPart, ⟨by decide, by decide⟩, rfl, by decide, Or.inl lc_10_185⟩, ⟨rfl, trivial⟩⟩⟩⟩⟩⟩⟩⟩⟩⟩⟩⟩⟩⟩⟩⟩⟩⟩⟩
def bb10_readsPage_55 : List PI := [(1, .aload_n 0, 0, 0, 0, 0, kZ), (3, .getfield 166, 10, 10, 0, 0, kZ), (1, .ireturn, 0, 0, 0, 0, kZ)]
set_option maxRecDepth 100000 in
theorem oo10_readsPage_55 : okL m10_readsPage 55 bb10_readsPage_55 := okL_of _ _ (by decide +kernel) ⟨trivial, ⟨lf_10_166, ⟨trivial, trivial⟩⟩⟩
def cd10_readsPage (t : Nat) : Option (List PI) := match t with
  | 0 => some bb10_readsPage_0
  | 55 => some bb10_readsPage_55
  | _ => none
theorem kd10_readsPage : ∀ t is, cd10_readsPage t = some is → okL m10_readsPage t is := by
  intro t is h
  unfold cd10_readsPage at h
  split at h <;> cases h
  · exact oo10_readsPage_0
  · exact oo10_readsPage_55
theorem ff10_readsPage : mi_r m10_readsPage = (some .boolean) ∧ mi_l m10_readsPage = 1 ∧ mi_h m10_readsPage = [] ∧ (mi_rm m10_readsPage).cells = 0 ∧ (mi_rm m10_readsPage).slots = 0 ∧ (mi_rm m10_readsPage).locals = 121 ∧ cd10_readsPage 0 = some bb10_readsPage_0 ∧ cd10_readsPage 14 = none ∧ cd10_readsPage 55 = some bb10_readsPage_55 ∧ (mi_rm m10_reads).cells = 0 ∧ (mi_rm m10_reads).slots = 0 ∧ (mi_rm m10_readsPart).cells = 0 ∧ (mi_rm m10_readsPart).slots = 0 := ⟨rfl, rfl, rfl, rfl, rfl, rfl, rfl, rfl, rfl, rfl, rfl, rfl, rfl⟩
def bb10_firstError_0 : List PI := [(1, .aload_n 0, 0, 0, 0, 0, kZ), (1, .iconst 0, 0, 0, 0, 0, kZ), (3, .putfield 34, 10, 0, 0, 0, kZ), (1, .aload_n 0, 0, 0, 0, 0, kZ), (3, .invokevirtual 188, 0, 10, 0, 0, m10_readsPage), (3, .ifCond .eq 10, 19, 0, 0, 0, kZ), (1, .aload_n 0, 0, 0, 0, 0, kZ), (3, .getfield 160, 10, 8, 0, 0, kZ), (3, .goto 7, 23, 0, 0, 0, kZ)]
set_option maxRecDepth 100000 in
theorem oo10_firstError_0 : okL m10_firstError 0 bb10_firstError_0 := okL_of _ _ (by decide +kernel) ⟨trivial, ⟨trivial, ⟨lp_10_34 _, ⟨trivial, ⟨⟨mok_m10_readsPage, ⟨by decide, by decide⟩, rfl, by decide, Or.inl lc_10_188⟩, ⟨rfl, ⟨trivial, ⟨lf_10_160, ⟨rfl, trivial⟩⟩⟩⟩⟩⟩⟩⟩⟩
def bb10_firstError_19 : List PI := [(1, .aload_n 0, 0, 0, 0, 0, kZ), (3, .getfield 163, 10, 9, 0, 0, kZ)]
set_option maxRecDepth 100000 in
theorem oo10_firstError_19 : okL m10_firstError 19 bb10_firstError_19 := okL_of _ _ (by decide +kernel) ⟨trivial, ⟨lf_10_163, trivial⟩⟩
def bb10_firstError_23 : List PI := [(1, .ireturn, 0, 0, 0, 0, kZ)]
set_option maxRecDepth 100000 in
theorem oo10_firstError_23 : okL m10_firstError 23 bb10_firstError_23 := okL_of _ _ (by decide +kernel) ⟨trivial, trivial⟩
def cd10_firstError (t : Nat) : Option (List PI) := match t with
  | 0 => some bb10_firstError_0
  | 19 => some bb10_firstError_19
  | 23 => some bb10_firstError_23
  | _ => none
theorem kd10_firstError : ∀ t is, cd10_firstError t = some is → okL m10_firstError t is := by
  intro t is h
  unfold cd10_firstError at h
  split at h <;> cases h
  · exact oo10_firstError_0
  · exact oo10_firstError_19
  · exact oo10_firstError_23
theorem ff10_firstError : mi_r m10_firstError = (some .int) ∧ mi_l m10_firstError = 1 ∧ mi_h m10_firstError = [] ∧ (mi_rm m10_firstError).cells = 0 ∧ (mi_rm m10_firstError).slots = 0 ∧ (mi_rm m10_firstError).locals = 141 ∧ cd10_firstError 0 = some bb10_firstError_0 ∧ cd10_firstError 19 = some bb10_firstError_19 ∧ cd10_firstError 23 = some bb10_firstError_23 ∧ (mi_rm m10_readsPage).cells = 0 ∧ (mi_rm m10_readsPage).slots = 0 := ⟨rfl, rfl, rfl, rfl, rfl, rfl, rfl, rfl, rfl, rfl, rfl⟩
def bb10_does_0 : List PI := [(1, .iconst 1, 0, 0, 0, 0, kZ), (1, .istore_n 2, 0, 0, 0, 0, kZ), (1, .aload_n 0, 0, 0, 0, 0, kZ), (3, .getfield 25, 10, 11, 0, 0, kZ), (1, .iload_n 1, 0, 0, 0, 0, kZ), (1, .iaload, 0, 0, 0, 0, kZ), (44, .lookupswitch 150 #[(43, 44), (45, 98), (114, 142), (115, 134)], 158, 0, 0, 0, kZ)]
set_option maxRecDepth 100000 in
theorem oo10_does_0 : okL m10_does 0 bb10_does_0 := okL_of _ _ (by decide +kernel) ⟨trivial, ⟨trivial, ⟨trivial, ⟨lf_10_25, ⟨trivial, ⟨trivial, ⟨⟨by decide, by decide, by decide⟩, trivial⟩⟩⟩⟩⟩⟩⟩
def bb10_does_52 : List PI := [(1, .aload_n 0, 0, 0, 0, 0, kZ), (3, .getfield 25, 10, 11, 0, 0, kZ), (1, .iload_n 1, 0, 0, 0, 0, kZ), (1, .iconst 2, 0, 0, 0, 0, kZ), (1, .iadd, 0, 0, 0, 0, kZ), (1, .iaload, 0, 0, 0, 0, kZ), (1, .aload_n 0, 0, 0, 0, 0, kZ), (3, .getfield 7, 10, 1, 0, 0, kZ), (1, .iconst 0, 0, 0, 0, 0, kZ), (1, .iaload, 0, 0, 0, 0, kZ), (3, .if_icmp .gt 18, 84, 0, 0, 0, kZ), (1, .aload_n 0, 0, 0, 0, 0, kZ), (3, .getfield 7, 10, 1, 0, 0, kZ), (1, .iconst 2, 0, 0, 0, 0, kZ), (1, .iaload, 0, 0, 0, 0, kZ), (2, .bipush 10, 0, 0, 0, 0, kZ), (3, .if_icmp .ge 7, 84, 0, 0, 0, kZ), (1, .iconst 1, 0, 0, 0, 0, kZ), (3, .goto 4, 85, 0, 0, 0, kZ)]
set_option maxRecDepth 100000 in
theorem oo10_does_52 : okL m10_does 52 bb10_does_52 := okL_of _ _ (by decide +kernel) ⟨trivial, ⟨lf_10_25, ⟨trivial, ⟨trivial, ⟨trivial, ⟨trivial, ⟨trivial, ⟨lf_10_7, ⟨trivial, ⟨trivial, ⟨rfl, ⟨trivial, ⟨lf_10_7, ⟨trivial, ⟨trivial, ⟨trivial, ⟨rfl, ⟨trivial, ⟨rfl, trivial⟩⟩⟩⟩⟩⟩⟩⟩⟩⟩⟩⟩⟩⟩⟩⟩⟩⟩⟩
def bb10_does_84 : List PI := [(1, .iconst 0, 0, 0, 0, 0, kZ)]
set_option maxRecDepth 100000 in
theorem oo10_does_84 : okL m10_does 84 bb10_does_84 := okL_of _ _ (by decide +kernel) ⟨trivial, trivial⟩
def bb10_does_85 : List PI := [(1, .istore_n 2, 0, 0, 0, 0, kZ), (1, .iload_n 2, 0, 0, 0, 0, kZ), (3, .ifCond .eq 109, 196, 0, 0, 0, kZ), (1, .aload_n 0, 0, 0, 0, 0, kZ), (1, .aload_n 0, 0, 0, 0, 0, kZ), (3, .getfield 25, 10, 11, 0, 0, kZ), (1, .iload_n 1, 0, 0, 0, 0, kZ), (1, .iconst 1, 0, 0, 0, 0, kZ), (1, .iadd, 0, 0, 0, 0, kZ), (1, .iaload, 0, 0, 0, 0, kZ), (3, .invokevirtual 135, 1, 10, 0, 0, m10_addsLine), (1, .pop, 0, 0, 0, 0, kZ), (3, .goto 93, 196, 0, 0, 0, kZ)]
set_option maxRecDepth 100000 in
theorem oo10_does_85 : okL m10_does 85 bb10_does_85 := okL_of _ _ (by decide +kernel) ⟨trivial, ⟨trivial, ⟨rfl, ⟨trivial, ⟨trivial, ⟨lf_10_25, ⟨trivial, ⟨trivial, ⟨trivial, ⟨trivial, ⟨⟨mok_m10_addsLine, ⟨by decide, by decide⟩, rfl, by decide, Or.inl lc_10_135⟩, ⟨trivial, ⟨rfl, trivial⟩⟩⟩⟩⟩⟩⟩⟩⟩⟩⟩⟩⟩
def bb10_does_106 : List PI := [(1, .aload_n 0, 0, 0, 0, 0, kZ), (3, .getfield 7, 10, 1, 0, 0, kZ), (1, .iconst 2, 0, 0, 0, 0, kZ), (1, .iaload, 0, 0, 0, 0, kZ), (3, .ifCond .le 7, 119, 0, 0, 0, kZ), (1, .iconst 1, 0, 0, 0, 0, kZ), (3, .goto 4, 120, 0, 0, 0, kZ)]
set_option maxRecDepth 100000 in
theorem oo10_does_106 : okL m10_does 106 bb10_does_106 := okL_of _ _ (by decide +kernel) ⟨trivial, ⟨lf_10_7, ⟨trivial, ⟨trivial, ⟨rfl, ⟨trivial, ⟨rfl, trivial⟩⟩⟩⟩⟩⟩⟩
def bb10_does_119 : List PI := [(1, .iconst 0, 0, 0, 0, 0, kZ)]
set_option maxRecDepth 100000 in
theorem oo10_does_119 : okL m10_does 119 bb10_does_119 := okL_of _ _ (by decide +kernel) ⟨trivial, trivial⟩
def bb10_does_120 : List PI := [(1, .istore_n 2, 0, 0, 0, 0, kZ), (1, .aload_n 0, 0, 0, 0, 0, kZ), (3, .getfield 7, 10, 1, 0, 0, kZ), (1, .iconst 2, 0, 0, 0, 0, kZ), (1, .dup2, 0, 0, 0, 0, kZ), (1, .iaload, 0, 0, 0, 0, kZ), (1, .iload_n 2, 0, 0, 0, 0, kZ), (3, .ifCond .eq 7, 136, 0, 0, 0, kZ), (1, .iconst 1, 0, 0, 0, 0, kZ), (3, .goto 4, 137, 0, 0, 0, kZ)]
set_option maxRecDepth 100000 in
theorem oo10_does_120 : okL m10_does 120 bb10_does_120 := okL_of _ _ (by decide +kernel) ⟨trivial, ⟨trivial, ⟨lf_10_7, ⟨trivial, ⟨trivial, ⟨trivial, ⟨trivial, ⟨rfl, ⟨trivial, ⟨rfl, trivial⟩⟩⟩⟩⟩⟩⟩⟩⟩⟩
def bb10_does_136 : List PI := [(1, .iconst 0, 0, 0, 0, 0, kZ)]
set_option maxRecDepth 100000 in
theorem oo10_does_136 : okL m10_does 136 bb10_does_136 := okL_of _ _ (by decide +kernel) ⟨trivial, trivial⟩
def bb10_does_137 : List PI := [(1, .isub, 0, 0, 0, 0, kZ), (1, .iastore, 0, 0, 0, 0, kZ), (3, .goto 57, 196, 0, 0, 0, kZ)]
set_option maxRecDepth 100000 in
theorem oo10_does_137 : okL m10_does 137 bb10_does_137 := okL_of _ _ (by decide +kernel) ⟨trivial, ⟨trivial, ⟨rfl, trivial⟩⟩⟩
def bb10_does_142 : List PI := [(1, .aload_n 0, 0, 0, 0, 0, kZ), (3, .invokevirtual 145, 0, 10, 0, 0, m10_sends), (1, .pop, 0, 0, 0, 0, kZ), (3, .goto 49, 196, 0, 0, 0, kZ)]
set_option maxRecDepth 100000 in
theorem oo10_does_142 : okL m10_does 142 bb10_does_142 := okL_of _ _ (by decide +kernel) ⟨trivial, ⟨⟨mok_m10_sends, ⟨by decide, by decide⟩, rfl, by decide, Or.inl lc_10_145⟩, ⟨trivial, ⟨rfl, trivial⟩⟩⟩⟩
def bb10_does_150 : List PI := [(1, .aload_n 0, 0, 0, 0, 0, kZ), (3, .invokevirtual 157, 0, 10, 0, 0, m10_readsStream), (1, .pop, 0, 0, 0, 0, kZ), (3, .goto 41, 196, 0, 0, 0, kZ)]
set_option maxRecDepth 100000 in
theorem oo10_does_150 : okL m10_does 150 bb10_does_150 := okL_of _ _ (by decide +kernel) ⟨trivial, ⟨⟨mok_m10_readsStream, ⟨by decide, by decide⟩, rfl, by decide, Or.inl lc_10_157⟩, ⟨trivial, ⟨rfl, trivial⟩⟩⟩⟩
def bb10_does_158 : List PI := [(1, .aload_n 0, 0, 0, 0, 0, kZ), (1, .aload_n 0, 0, 0, 0, 0, kZ), (3, .getfield 25, 10, 11, 0, 0, kZ), (1, .iload_n 1, 0, 0, 0, 0, kZ), (1, .iconst 1, 0, 0, 0, 0, kZ), (1, .iadd, 0, 0, 0, 0, kZ), (1, .iaload, 0, 0, 0, 0, kZ), (3, .invokevirtual 148, 1, 10, 0, 0, m10_isPlace), (1, .istore_n 2, 0, 0, 0, 0, kZ), (1, .iload_n 2, 0, 0, 0, 0, kZ), (3, .ifCond .eq 24, 196, 0, 0, 0, kZ), (1, .aload_n 0, 0, 0, 0, 0, kZ), (1, .aload_n 0, 0, 0, 0, 0, kZ), (3, .getfield 25, 10, 11, 0, 0, kZ), (1, .iload_n 1, 0, 0, 0, 0, kZ), (1, .iconst 1, 0, 0, 0, 0, kZ), (1, .iadd, 0, 0, 0, 0, kZ), (1, .iaload, 0, 0, 0, 0, kZ), (1, .aload_n 0, 0, 0, 0, 0, kZ), (3, .getfield 25, 10, 11, 0, 0, kZ), (1, .iload_n 1, 0, 0, 0, 0, kZ), (1, .iconst 2, 0, 0, 0, 0, kZ), (1, .iadd, 0, 0, 0, 0, kZ), (1, .iaload, 0, 0, 0, 0, kZ), (3, .invokevirtual 154, 2, 10, 0, 0, m10_replaces), (1, .pop, 0, 0, 0, 0, kZ)]
set_option maxRecDepth 100000 in
theorem oo10_does_158 : okL m10_does 158 bb10_does_158 := okL_of _ _ (by decide +kernel) ⟨trivial, ⟨trivial, ⟨lf_10_25, ⟨trivial, ⟨trivial, ⟨trivial, ⟨trivial, ⟨⟨mok_m10_isPlace, ⟨by decide, by decide⟩, rfl, by decide, Or.inl lc_10_148⟩, ⟨trivial, ⟨trivial, ⟨rfl, ⟨trivial, ⟨trivial, ⟨lf_10_25, ⟨trivial, ⟨trivial, ⟨trivial, ⟨trivial, ⟨trivial, ⟨lf_10_25, ⟨trivial, ⟨trivial, ⟨trivial, ⟨trivial, ⟨⟨mok_m10_replaces, ⟨by decide, by decide⟩, rfl, by decide, Or.inl lc_10_154⟩, ⟨trivial, trivial⟩⟩⟩⟩⟩⟩⟩⟩⟩⟩⟩⟩⟩⟩⟩⟩⟩⟩⟩⟩⟩⟩⟩⟩⟩⟩
def bb10_does_196 : List PI := [(1, .iload_n 2, 0, 0, 0, 0, kZ), (1, .ireturn, 0, 0, 0, 0, kZ)]
set_option maxRecDepth 100000 in
theorem oo10_does_196 : okL m10_does 196 bb10_does_196 := okL_of _ _ (by decide +kernel) ⟨trivial, ⟨trivial, trivial⟩⟩
def cd10_does (t : Nat) : Option (List PI) := match t with
  | 0 => some bb10_does_0
  | 52 => some bb10_does_52
  | 84 => some bb10_does_84
  | 85 => some bb10_does_85
  | 106 => some bb10_does_106
  | 119 => some bb10_does_119
  | 120 => some bb10_does_120
  | 136 => some bb10_does_136
  | 137 => some bb10_does_137
  | 142 => some bb10_does_142
  | 150 => some bb10_does_150
  | 158 => some bb10_does_158
  | 196 => some bb10_does_196
  | _ => none
theorem kd10_does : ∀ t is, cd10_does t = some is → okL m10_does t is := by
  intro t is h
  unfold cd10_does at h
  split at h <;> cases h
  · exact oo10_does_0
  · exact oo10_does_52
  · exact oo10_does_84
  · exact oo10_does_85
  · exact oo10_does_106
  · exact oo10_does_119
  · exact oo10_does_120
  · exact oo10_does_136
  · exact oo10_does_137
  · exact oo10_does_142
  · exact oo10_does_150
  · exact oo10_does_158
  · exact oo10_does_196
theorem ff10_does : mi_r m10_does = (some .boolean) ∧ mi_l m10_does = 3 ∧ mi_h m10_does = [] ∧ (mi_rm m10_does).cells = 0 ∧ (mi_rm m10_does).slots = 0 ∧ (mi_rm m10_does).locals = 190 ∧ cd10_does 0 = some bb10_does_0 ∧ cd10_does 52 = some bb10_does_52 ∧ cd10_does 84 = some bb10_does_84 ∧ cd10_does 85 = some bb10_does_85 ∧ cd10_does 106 = some bb10_does_106 ∧ cd10_does 119 = some bb10_does_119 ∧ cd10_does 120 = some bb10_does_120 ∧ cd10_does 136 = some bb10_does_136 ∧ cd10_does 137 = some bb10_does_137 ∧ cd10_does 142 = some bb10_does_142 ∧ cd10_does 150 = some bb10_does_150 ∧ cd10_does 158 = some bb10_does_158 ∧ cd10_does 196 = some bb10_does_196 ∧ (mi_rm m10_addsLine).cells = 0 ∧ (mi_rm m10_addsLine).slots = 0 ∧ (mi_rm m10_isPlace).cells = 0 ∧ (mi_rm m10_isPlace).slots = 0 ∧ (mi_rm m10_readsStream).cells = 0 ∧ (mi_rm m10_readsStream).slots = 0 ∧ (mi_rm m10_replaces).cells = 0 ∧ (mi_rm m10_replaces).slots = 0 ∧ (mi_rm m10_sends).cells = 0 ∧ (mi_rm m10_sends).slots = 0 := ⟨rfl, rfl, rfl, rfl, rfl, rfl, rfl, rfl, rfl, rfl, rfl, rfl, rfl, rfl, rfl, rfl, rfl, rfl, rfl, rfl, rfl, rfl, rfl, rfl, rfl, rfl, rfl, rfl, rfl⟩
def bb10_play_0 : List PI := [(1, .aload_n 0, 0, 0, 0, 0, kZ), (1, .iconst 0, 0, 0, 0, 0, kZ), (3, .putfield 34, 10, 0, 0, 0, kZ), (1, .aload_n 0, 0, 0, 0, 0, kZ), (3, .invokevirtual 188, 0, 10, 0, 0, m10_readsPage), (3, .ifCond .ne 9, 18, 0, 0, 0, kZ), (1, .aload_n 0, 0, 0, 0, 0, kZ), (1, .iconst 1, 0, 0, 0, 0, kZ), (3, .invokevirtual 125, 1, 10, 0, 0, m10_fails), (1, .ireturn, 0, 0, 0, 0, kZ)]
set_option maxRecDepth 100000 in
theorem oo10_play_0 : okL m10_play 0 bb10_play_0 := okL_of _ _ (by decide +kernel) ⟨trivial, ⟨trivial, ⟨lp_10_34 _, ⟨trivial, ⟨⟨mok_m10_readsPage, ⟨by decide, by decide⟩, rfl, by decide, Or.inl lc_10_188⟩, ⟨rfl, ⟨trivial, ⟨trivial, ⟨⟨mok_m10_fails, ⟨by decide, by decide⟩, rfl, by decide, Or.inl lc_10_125⟩, ⟨trivial, trivial⟩⟩⟩⟩⟩⟩⟩⟩⟩⟩
def bb10_play_18 : List PI := [(1, .aload_n 0, 0, 0, 0, 0, kZ), (3, .invokevirtual 128, 0, 10, 0, 0, m10_records), (1, .aload_n 0, 0, 0, 0, 0, kZ), (1, .iconst 0, 0, 0, 0, 0, kZ), (3, .putfield 160, 10, 8, 0, 0, kZ), (1, .iconst 0, 0, 0, 0, 0, kZ), (1, .istore_n 1, 0, 0, 0, 0, kZ)]
set_option maxRecDepth 100000 in
theorem oo10_play_18 : okL m10_play 18 bb10_play_18 := okL_of _ _ (by decide +kernel) ⟨trivial, ⟨⟨mok_m10_records, ⟨by decide, by decide⟩, rfl, by decide, Or.inl lc_10_128⟩, ⟨trivial, ⟨trivial, ⟨lp_10_160 _, ⟨trivial, ⟨trivial, trivial⟩⟩⟩⟩⟩⟩⟩
def bb10_play_29 : List PI := [(1, .iload_n 1, 0, 0, 0, 0, kZ), (1, .aload_n 0, 0, 0, 0, 0, kZ), (3, .getfield 176, 10, 12, 0, 0, kZ), (3, .if_icmp .ge 19, 53, 0, 0, 0, kZ), (1, .aload_n 0, 0, 0, 0, 0, kZ), (1, .iconst 3, 0, 0, 0, 0, kZ), (1, .iload_n 1, 0, 0, 0, 0, kZ), (1, .imul, 0, 0, 0, 0, kZ), (3, .invokevirtual 192, 1, 10, 0, 0, m10_does), (3, .ifCond .eq 9, 53, 0, 0, 0, kZ), (3, .iinc 1 1, 0, 0, 0, 0, kZ), (3, .goto (-21), 29, 0, 0, 0, kZ)]
set_option maxRecDepth 100000 in
theorem oo10_play_29 : okL m10_play 29 bb10_play_29 := okL_of _ _ (by decide +kernel) ⟨trivial, ⟨trivial, ⟨lf_10_176, ⟨rfl, ⟨trivial, ⟨trivial, ⟨trivial, ⟨trivial, ⟨⟨mok_m10_does, ⟨by decide, by decide⟩, rfl, by decide, Or.inl lc_10_192⟩, ⟨rfl, ⟨trivial, ⟨rfl, trivial⟩⟩⟩⟩⟩⟩⟩⟩⟩⟩⟩⟩
def bb10_play_53 : List PI := [(1, .aload_n 0, 0, 0, 0, 0, kZ), (3, .getfield 7, 10, 1, 0, 0, kZ), (2, .bipush 6, 0, 0, 0, 0, kZ), (1, .iload_n 1, 0, 0, 0, 0, kZ), (1, .aload_n 0, 0, 0, 0, 0, kZ), (3, .getfield 176, 10, 12, 0, 0, kZ), (3, .if_icmp .ge 7, 71, 0, 0, 0, kZ), (1, .iload_n 1, 0, 0, 0, 0, kZ), (3, .goto 4, 72, 0, 0, 0, kZ)]
set_option maxRecDepth 100000 in
theorem oo10_play_53 : okL m10_play 53 bb10_play_53 := okL_of _ _ (by decide +kernel) ⟨trivial, ⟨lf_10_7, ⟨trivial, ⟨trivial, ⟨trivial, ⟨lf_10_176, ⟨rfl, ⟨trivial, ⟨rfl, trivial⟩⟩⟩⟩⟩⟩⟩⟩⟩
def bb10_play_71 : List PI := [(1, .iconst (-1), 0, 0, 0, 0, kZ)]
set_option maxRecDepth 100000 in
theorem oo10_play_71 : okL m10_play 71 bb10_play_71 := okL_of _ _ (by decide +kernel) ⟨trivial, trivial⟩
def bb10_play_72 : List PI := [(1, .iastore, 0, 0, 0, 0, kZ), (1, .iload_n 1, 0, 0, 0, 0, kZ), (1, .ireturn, 0, 0, 0, 0, kZ)]
set_option maxRecDepth 100000 in
theorem oo10_play_72 : okL m10_play 72 bb10_play_72 := okL_of _ _ (by decide +kernel) ⟨trivial, ⟨trivial, ⟨trivial, trivial⟩⟩⟩
def cd10_play (t : Nat) : Option (List PI) := match t with
  | 0 => some bb10_play_0
  | 18 => some bb10_play_18
  | 53 => some bb10_play_53
  | 71 => some bb10_play_71
  | 72 => some bb10_play_72
  | _ => none
theorem kd10_play : ∀ t is, cd10_play t = some is → okL m10_play t is := by
  intro t is h
  unfold cd10_play at h
  split at h <;> cases h
  · exact oo10_play_0
  · exact oo10_play_18
  · exact oo10_play_53
  · exact oo10_play_71
  · exact oo10_play_72
theorem ff10_play : mi_r m10_play = (some .int) ∧ mi_l m10_play = 2 ∧ mi_h m10_play = [] ∧ (mi_rm m10_play).cells = 0 ∧ (mi_rm m10_play).slots = 0 ∧ (mi_rm m10_play).locals = 212 ∧ cd10_play 0 = some bb10_play_0 ∧ cd10_play 18 = some bb10_play_18 ∧ cd10_play 29 = none ∧ cd10_play 53 = some bb10_play_53 ∧ cd10_play 71 = some bb10_play_71 ∧ cd10_play 72 = some bb10_play_72 ∧ (mi_rm m10_does).cells = 0 ∧ (mi_rm m10_does).slots = 0 ∧ (mi_rm m10_fails).cells = 0 ∧ (mi_rm m10_fails).slots = 0 ∧ (mi_rm m10_readsPage).cells = 0 ∧ (mi_rm m10_readsPage).slots = 0 ∧ (mi_rm m10_records).cells = 0 ∧ (mi_rm m10_records).slots = 0 := ⟨rfl, rfl, rfl, rfl, rfl, rfl, rfl, rfl, rfl, rfl, rfl, rfl, rfl, rfl, rfl, rfl, rfl, rfl, rfl, rfl⟩
def bb10_hasStopped_0 : List PI := [(1, .aload_n 0, 0, 0, 0, 0, kZ), (1, .iconst 0, 0, 0, 0, 0, kZ), (3, .putfield 34, 10, 0, 0, 0, kZ), (1, .aload_n 0, 0, 0, 0, 0, kZ), (3, .getfield 7, 10, 1, 0, 0, kZ), (2, .bipush 6, 0, 0, 0, 0, kZ), (1, .iaload, 0, 0, 0, 0, kZ), (1, .iconst (-1), 0, 0, 0, 0, kZ), (3, .if_icmp .eq 7, 20, 0, 0, 0, kZ), (1, .iconst 1, 0, 0, 0, 0, kZ), (3, .goto 4, 21, 0, 0, 0, kZ)]
set_option maxRecDepth 100000 in
theorem oo10_hasStopped_0 : okL m10_hasStopped 0 bb10_hasStopped_0 := okL_of _ _ (by decide +kernel) ⟨trivial, ⟨trivial, ⟨lp_10_34 _, ⟨trivial, ⟨lf_10_7, ⟨trivial, ⟨trivial, ⟨trivial, ⟨rfl, ⟨trivial, ⟨rfl, trivial⟩⟩⟩⟩⟩⟩⟩⟩⟩⟩⟩
def bb10_hasStopped_20 : List PI := [(1, .iconst 0, 0, 0, 0, 0, kZ)]
set_option maxRecDepth 100000 in
theorem oo10_hasStopped_20 : okL m10_hasStopped 20 bb10_hasStopped_20 := okL_of _ _ (by decide +kernel) ⟨trivial, trivial⟩
def bb10_hasStopped_21 : List PI := [(1, .ireturn, 0, 0, 0, 0, kZ)]
set_option maxRecDepth 100000 in
theorem oo10_hasStopped_21 : okL m10_hasStopped 21 bb10_hasStopped_21 := okL_of _ _ (by decide +kernel) ⟨trivial, trivial⟩
def cd10_hasStopped (t : Nat) : Option (List PI) := match t with
  | 0 => some bb10_hasStopped_0
  | 20 => some bb10_hasStopped_20
  | 21 => some bb10_hasStopped_21
  | _ => none
theorem kd10_hasStopped : ∀ t is, cd10_hasStopped t = some is → okL m10_hasStopped t is := by
  intro t is h
  unfold cd10_hasStopped at h
  split at h <;> cases h
  · exact oo10_hasStopped_0
  · exact oo10_hasStopped_20
  · exact oo10_hasStopped_21
theorem ff10_hasStopped : mi_r m10_hasStopped = (some .boolean) ∧ mi_l m10_hasStopped = 1 ∧ mi_h m10_hasStopped = [] ∧ (mi_rm m10_hasStopped).cells = 0 ∧ (mi_rm m10_hasStopped).slots = 0 ∧ (mi_rm m10_hasStopped).locals = 32 ∧ cd10_hasStopped 0 = some bb10_hasStopped_0 ∧ cd10_hasStopped 20 = some bb10_hasStopped_20 ∧ cd10_hasStopped 21 = some bb10_hasStopped_21 := ⟨rfl, rfl, rfl, rfl, rfl, rfl, rfl, rfl, rfl⟩
def bb10_stoppedPart_0 : List PI := [(1, .aload_n 0, 0, 0, 0, 0, kZ), (1, .iconst 0, 0, 0, 0, 0, kZ), (3, .putfield 34, 10, 0, 0, 0, kZ), (1, .aload_n 0, 0, 0, 0, 0, kZ), (3, .getfield 7, 10, 1, 0, 0, kZ), (2, .bipush 6, 0, 0, 0, 0, kZ), (1, .iaload, 0, 0, 0, 0, kZ), (1, .iconst (-1), 0, 0, 0, 0, kZ), (3, .if_icmp .ne 11, 24, 0, 0, 0, kZ), (1, .aload_n 0, 0, 0, 0, 0, kZ), (1, .iconst 1, 0, 0, 0, 0, kZ), (3, .invokevirtual 125, 1, 10, 0, 0, m10_fails), (3, .goto 10, 31, 0, 0, 0, kZ)]
set_option maxRecDepth 100000 in
theorem oo10_stoppedPart_0 : okL m10_stoppedPart 0 bb10_stoppedPart_0 := okL_of _ _ (by decide +kernel) ⟨trivial, ⟨trivial, ⟨lp_10_34 _, ⟨trivial, ⟨lf_10_7, ⟨trivial, ⟨trivial, ⟨trivial, ⟨rfl, ⟨trivial, ⟨trivial, ⟨⟨mok_m10_fails, ⟨by decide, by decide⟩, rfl, by decide, Or.inl lc_10_125⟩, ⟨rfl, trivial⟩⟩⟩⟩⟩⟩⟩⟩⟩⟩⟩⟩⟩
def bb10_stoppedPart_24 : List PI := [(1, .aload_n 0, 0, 0, 0, 0, kZ), (3, .getfield 7, 10, 1, 0, 0, kZ), (2, .bipush 6, 0, 0, 0, 0, kZ), (1, .iaload, 0, 0, 0, 0, kZ)]
set_option maxRecDepth 100000 in
theorem oo10_stoppedPart_24 : okL m10_stoppedPart 24 bb10_stoppedPart_24 := okL_of _ _ (by decide +kernel) ⟨trivial, ⟨lf_10_7, ⟨trivial, ⟨trivial, trivial⟩⟩⟩⟩
def bb10_stoppedPart_31 : List PI := [(1, .ireturn, 0, 0, 0, 0, kZ)]
set_option maxRecDepth 100000 in
theorem oo10_stoppedPart_31 : okL m10_stoppedPart 31 bb10_stoppedPart_31 := okL_of _ _ (by decide +kernel) ⟨trivial, trivial⟩
def cd10_stoppedPart (t : Nat) : Option (List PI) := match t with
  | 0 => some bb10_stoppedPart_0
  | 24 => some bb10_stoppedPart_24
  | 31 => some bb10_stoppedPart_31
  | _ => none
theorem kd10_stoppedPart : ∀ t is, cd10_stoppedPart t = some is → okL m10_stoppedPart t is := by
  intro t is h
  unfold cd10_stoppedPart at h
  split at h <;> cases h
  · exact oo10_stoppedPart_0
  · exact oo10_stoppedPart_24
  · exact oo10_stoppedPart_31
theorem ff10_stoppedPart : mi_r m10_stoppedPart = (some .int) ∧ mi_l m10_stoppedPart = 1 ∧ mi_h m10_stoppedPart = [] ∧ (mi_rm m10_stoppedPart).cells = 0 ∧ (mi_rm m10_stoppedPart).slots = 0 ∧ (mi_rm m10_stoppedPart).locals = 53 ∧ cd10_stoppedPart 0 = some bb10_stoppedPart_0 ∧ cd10_stoppedPart 24 = some bb10_stoppedPart_24 ∧ cd10_stoppedPart 31 = some bb10_stoppedPart_31 ∧ (mi_rm m10_fails).cells = 0 ∧ (mi_rm m10_fails).slots = 0 := ⟨rfl, rfl, rfl, rfl, rfl, rfl, rfl, rfl, rfl, rfl, rfl⟩
def bb10_undo_0 : List PI := [(1, .aload_n 0, 0, 0, 0, 0, kZ), (1, .iconst 0, 0, 0, 0, 0, kZ), (3, .putfield 34, 10, 0, 0, 0, kZ), (1, .aload_n 0, 0, 0, 0, 0, kZ), (3, .getfield 44, 10, 4, 0, 0, kZ), (3, .ifCond .ne 9, 18, 0, 0, 0, kZ), (1, .aload_n 0, 0, 0, 0, 0, kZ), (1, .iconst 1, 0, 0, 0, 0, kZ), (3, .invokevirtual 125, 1, 10, 0, 0, m10_fails), (1, .ireturn, 0, 0, 0, 0, kZ)]
set_option maxRecDepth 100000 in
theorem oo10_undo_0 : okL m10_undo 0 bb10_undo_0 := okL_of _ _ (by decide +kernel) ⟨trivial, ⟨trivial, ⟨lp_10_34 _, ⟨trivial, ⟨lf_10_44, ⟨rfl, ⟨trivial, ⟨trivial, ⟨⟨mok_m10_fails, ⟨by decide, by decide⟩, rfl, by decide, Or.inl lc_10_125⟩, ⟨trivial, trivial⟩⟩⟩⟩⟩⟩⟩⟩⟩⟩
def bb10_undo_18 : List PI := [(1, .aload_n 0, 0, 0, 0, 0, kZ), (1, .dup, 0, 0, 0, 0, kZ), (3, .getfield 44, 10, 4, 0, 0, kZ), (1, .iconst 1, 0, 0, 0, 0, kZ), (1, .isub, 0, 0, 0, 0, kZ), (3, .putfield 44, 10, 4, 0, 0, kZ), (1, .iconst 0, 0, 0, 0, 0, kZ), (1, .istore_n 1, 0, 0, 0, 0, kZ)]
set_option maxRecDepth 100000 in
theorem oo10_undo_18 : okL m10_undo 18 bb10_undo_18 := okL_of _ _ (by decide +kernel) ⟨trivial, ⟨trivial, ⟨lf_10_44, ⟨trivial, ⟨trivial, ⟨lp_10_44 _, ⟨trivial, ⟨trivial, trivial⟩⟩⟩⟩⟩⟩⟩⟩
def bb10_undo_30 : List PI := [(1, .iload_n 1, 0, 0, 0, 0, kZ), (3, .sipush 568, 0, 0, 0, 0, kZ), (3, .if_icmp .ge 30, 64, 0, 0, 0, kZ), (1, .aload_n 0, 0, 0, 0, 0, kZ), (3, .getfield 7, 10, 1, 0, 0, kZ), (1, .iload_n 1, 0, 0, 0, 0, kZ), (1, .aload_n 0, 0, 0, 0, 0, kZ), (3, .getfield 16, 10, 3, 0, 0, kZ), (3, .sipush 568, 0, 0, 0, 0, kZ), (1, .aload_n 0, 0, 0, 0, 0, kZ), (3, .getfield 44, 10, 4, 0, 0, kZ), (1, .imul, 0, 0, 0, 0, kZ), (1, .iload_n 1, 0, 0, 0, 0, kZ), (1, .iadd, 0, 0, 0, 0, kZ), (1, .iaload, 0, 0, 0, 0, kZ), (1, .iastore, 0, 0, 0, 0, kZ), (3, .iinc 1 1, 0, 0, 0, 0, kZ), (3, .goto (-31), 30, 0, 0, 0, kZ)]
set_option maxRecDepth 100000 in
theorem oo10_undo_30 : okL m10_undo 30 bb10_undo_30 := okL_of _ _ (by decide +kernel) ⟨trivial, ⟨trivial, ⟨rfl, ⟨trivial, ⟨lf_10_7, ⟨trivial, ⟨trivial, ⟨lf_10_16, ⟨trivial, ⟨trivial, ⟨lf_10_44, ⟨trivial, ⟨trivial, ⟨trivial, ⟨trivial, ⟨trivial, ⟨trivial, ⟨rfl, trivial⟩⟩⟩⟩⟩⟩⟩⟩⟩⟩⟩⟩⟩⟩⟩⟩⟩⟩
def bb10_undo_64 : List PI := [(1, .aload_n 0, 0, 0, 0, 0, kZ), (3, .getfield 44, 10, 4, 0, 0, kZ), (1, .ireturn, 0, 0, 0, 0, kZ)]
set_option maxRecDepth 100000 in
theorem oo10_undo_64 : okL m10_undo 64 bb10_undo_64 := okL_of _ _ (by decide +kernel) ⟨trivial, ⟨lf_10_44, ⟨trivial, trivial⟩⟩⟩
def cd10_undo (t : Nat) : Option (List PI) := match t with
  | 0 => some bb10_undo_0
  | 18 => some bb10_undo_18
  | 64 => some bb10_undo_64
  | _ => none
theorem kd10_undo : ∀ t is, cd10_undo t = some is → okL m10_undo t is := by
  intro t is h
  unfold cd10_undo at h
  split at h <;> cases h
  · exact oo10_undo_0
  · exact oo10_undo_18
  · exact oo10_undo_64
theorem ff10_undo : mi_r m10_undo = (some .int) ∧ mi_l m10_undo = 2 ∧ mi_h m10_undo = [] ∧ (mi_rm m10_undo).cells = 0 ∧ (mi_rm m10_undo).slots = 0 ∧ (mi_rm m10_undo).locals = 53 ∧ cd10_undo 0 = some bb10_undo_0 ∧ cd10_undo 18 = some bb10_undo_18 ∧ cd10_undo 30 = none ∧ cd10_undo 64 = some bb10_undo_64 ∧ (mi_rm m10_fails).cells = 0 ∧ (mi_rm m10_fails).slots = 0 := ⟨rfl, rfl, rfl, rfl, rfl, rfl, rfl, rfl, rfl, rfl, rfl, rfl⟩
def bb10_keep_0 : List PI := [(1, .aload_n 0, 0, 0, 0, 0, kZ), (1, .iconst 0, 0, 0, 0, 0, kZ), (3, .putfield 34, 10, 0, 0, 0, kZ), (1, .iconst 0, 0, 0, 0, 0, kZ), (1, .istore_n 1, 0, 0, 0, 0, kZ)]
set_option maxRecDepth 100000 in
theorem oo10_keep_0 : okL m10_keep 0 bb10_keep_0 := okL_of _ _ (by decide +kernel) ⟨trivial, ⟨trivial, ⟨lp_10_34 _, ⟨trivial, ⟨trivial, trivial⟩⟩⟩⟩⟩
def bb10_keep_7 : List PI := [(1, .iload_n 1, 0, 0, 0, 0, kZ), (3, .sipush 568, 0, 0, 0, 0, kZ), (3, .if_icmp .ge 21, 32, 0, 0, 0, kZ), (1, .aload_n 0, 0, 0, 0, 0, kZ), (3, .getfield 19, 10, 5, 0, 0, kZ), (1, .iload_n 1, 0, 0, 0, 0, kZ), (1, .aload_n 0, 0, 0, 0, 0, kZ), (3, .getfield 7, 10, 1, 0, 0, kZ), (1, .iload_n 1, 0, 0, 0, 0, kZ), (1, .iaload, 0, 0, 0, 0, kZ), (1, .iastore, 0, 0, 0, 0, kZ), (3, .iinc 1 1, 0, 0, 0, 0, kZ), (3, .goto (-22), 7, 0, 0, 0, kZ)]
set_option maxRecDepth 100000 in
theorem oo10_keep_7 : okL m10_keep 7 bb10_keep_7 := okL_of _ _ (by decide +kernel) ⟨trivial, ⟨trivial, ⟨rfl, ⟨trivial, ⟨lf_10_19, ⟨trivial, ⟨trivial, ⟨lf_10_7, ⟨trivial, ⟨trivial, ⟨trivial, ⟨trivial, ⟨rfl, trivial⟩⟩⟩⟩⟩⟩⟩⟩⟩⟩⟩⟩⟩
def bb10_keep_32 : List PI := [(1, .aload_n 0, 0, 0, 0, 0, kZ), (1, .iconst 1, 0, 0, 0, 0, kZ), (3, .putfield 195, 10, 6, 0, 0, kZ), (1, .aload_n 0, 0, 0, 0, 0, kZ), (3, .getfield 7, 10, 1, 0, 0, kZ), (1, .iconst 2, 0, 0, 0, 0, kZ), (1, .iaload, 0, 0, 0, 0, kZ), (1, .ireturn, 0, 0, 0, 0, kZ)]
set_option maxRecDepth 100000 in
theorem oo10_keep_32 : okL m10_keep 32 bb10_keep_32 := okL_of _ _ (by decide +kernel) ⟨trivial, ⟨trivial, ⟨lp_10_195 _, ⟨trivial, ⟨lf_10_7, ⟨trivial, ⟨trivial, ⟨trivial, trivial⟩⟩⟩⟩⟩⟩⟩⟩
def cd10_keep (t : Nat) : Option (List PI) := match t with
  | 0 => some bb10_keep_0
  | 32 => some bb10_keep_32
  | _ => none
theorem kd10_keep : ∀ t is, cd10_keep t = some is → okL m10_keep t is := by
  intro t is h
  unfold cd10_keep at h
  split at h <;> cases h
  · exact oo10_keep_0
  · exact oo10_keep_32
theorem ff10_keep : mi_r m10_keep = (some .int) ∧ mi_l m10_keep = 2 ∧ mi_h m10_keep = [] ∧ (mi_rm m10_keep).cells = 0 ∧ (mi_rm m10_keep).slots = 0 ∧ (mi_rm m10_keep).locals = 32 ∧ cd10_keep 0 = some bb10_keep_0 ∧ cd10_keep 7 = none ∧ cd10_keep 32 = some bb10_keep_32 := ⟨rfl, rfl, rfl, rfl, rfl, rfl, rfl, rfl, rfl⟩
def bb10_restore_0 : List PI := [(1, .aload_n 0, 0, 0, 0, 0, kZ), (1, .iconst 0, 0, 0, 0, 0, kZ), (3, .putfield 34, 10, 0, 0, 0, kZ), (1, .aload_n 0, 0, 0, 0, 0, kZ), (3, .getfield 195, 10, 6, 0, 0, kZ), (3, .ifCond .ne 9, 18, 0, 0, 0, kZ), (1, .aload_n 0, 0, 0, 0, 0, kZ), (1, .iconst 1, 0, 0, 0, 0, kZ), (3, .invokevirtual 125, 1, 10, 0, 0, m10_fails), (1, .ireturn, 0, 0, 0, 0, kZ)]
set_option maxRecDepth 100000 in
theorem oo10_restore_0 : okL m10_restore 0 bb10_restore_0 := okL_of _ _ (by decide +kernel) ⟨trivial, ⟨trivial, ⟨lp_10_34 _, ⟨trivial, ⟨lf_10_195, ⟨rfl, ⟨trivial, ⟨trivial, ⟨⟨mok_m10_fails, ⟨by decide, by decide⟩, rfl, by decide, Or.inl lc_10_125⟩, ⟨trivial, trivial⟩⟩⟩⟩⟩⟩⟩⟩⟩⟩
def bb10_restore_18 : List PI := [(1, .aload_n 0, 0, 0, 0, 0, kZ), (3, .invokevirtual 128, 0, 10, 0, 0, m10_records), (1, .iconst 0, 0, 0, 0, 0, kZ), (1, .istore_n 1, 0, 0, 0, 0, kZ)]
set_option maxRecDepth 100000 in
theorem oo10_restore_18 : okL m10_restore 18 bb10_restore_18 := okL_of _ _ (by decide +kernel) ⟨trivial, ⟨⟨mok_m10_records, ⟨by decide, by decide⟩, rfl, by decide, Or.inl lc_10_128⟩, ⟨trivial, ⟨trivial, trivial⟩⟩⟩⟩
def bb10_restore_24 : List PI := [(1, .iload_n 1, 0, 0, 0, 0, kZ), (3, .sipush 568, 0, 0, 0, 0, kZ), (3, .if_icmp .ge 21, 49, 0, 0, 0, kZ), (1, .aload_n 0, 0, 0, 0, 0, kZ), (3, .getfield 7, 10, 1, 0, 0, kZ), (1, .iload_n 1, 0, 0, 0, 0, kZ), (1, .aload_n 0, 0, 0, 0, 0, kZ), (3, .getfield 19, 10, 5, 0, 0, kZ), (1, .iload_n 1, 0, 0, 0, 0, kZ), (1, .iaload, 0, 0, 0, 0, kZ), (1, .iastore, 0, 0, 0, 0, kZ), (3, .iinc 1 1, 0, 0, 0, 0, kZ), (3, .goto (-22), 24, 0, 0, 0, kZ)]
set_option maxRecDepth 100000 in
theorem oo10_restore_24 : okL m10_restore 24 bb10_restore_24 := okL_of _ _ (by decide +kernel) ⟨trivial, ⟨trivial, ⟨rfl, ⟨trivial, ⟨lf_10_7, ⟨trivial, ⟨trivial, ⟨lf_10_19, ⟨trivial, ⟨trivial, ⟨trivial, ⟨trivial, ⟨rfl, trivial⟩⟩⟩⟩⟩⟩⟩⟩⟩⟩⟩⟩⟩
def bb10_restore_49 : List PI := [(1, .aload_n 0, 0, 0, 0, 0, kZ), (3, .getfield 7, 10, 1, 0, 0, kZ), (1, .iconst 2, 0, 0, 0, 0, kZ), (1, .iaload, 0, 0, 0, 0, kZ), (1, .ireturn, 0, 0, 0, 0, kZ)]
set_option maxRecDepth 100000 in
theorem oo10_restore_49 : okL m10_restore 49 bb10_restore_49 := okL_of _ _ (by decide +kernel) ⟨trivial, ⟨lf_10_7, ⟨trivial, ⟨trivial, ⟨trivial, trivial⟩⟩⟩⟩⟩
def cd10_restore (t : Nat) : Option (List PI) := match t with
  | 0 => some bb10_restore_0
  | 18 => some bb10_restore_18
  | 49 => some bb10_restore_49
  | _ => none
theorem kd10_restore : ∀ t is, cd10_restore t = some is → okL m10_restore t is := by
  intro t is h
  unfold cd10_restore at h
  split at h <;> cases h
  · exact oo10_restore_0
  · exact oo10_restore_18
  · exact oo10_restore_49
theorem ff10_restore : mi_r m10_restore = (some .int) ∧ mi_l m10_restore = 2 ∧ mi_h m10_restore = [] ∧ (mi_rm m10_restore).cells = 0 ∧ (mi_rm m10_restore).slots = 0 ∧ (mi_rm m10_restore).locals = 53 ∧ cd10_restore 0 = some bb10_restore_0 ∧ cd10_restore 18 = some bb10_restore_18 ∧ cd10_restore 24 = none ∧ cd10_restore 49 = some bb10_restore_49 ∧ (mi_rm m10_fails).cells = 0 ∧ (mi_rm m10_fails).slots = 0 ∧ (mi_rm m10_records).cells = 0 ∧ (mi_rm m10_records).slots = 0 := ⟨rfl, rfl, rfl, rfl, rfl, rfl, rfl, rfl, rfl, rfl, rfl, rfl, rfl, rfl⟩
def bb10_savedStates_0 : List PI := [(1, .aload_n 0, 0, 0, 0, 0, kZ), (1, .iconst 0, 0, 0, 0, 0, kZ), (3, .putfield 34, 10, 0, 0, 0, kZ), (1, .aload_n 0, 0, 0, 0, 0, kZ), (3, .getfield 44, 10, 4, 0, 0, kZ), (1, .ireturn, 0, 0, 0, 0, kZ)]
set_option maxRecDepth 100000 in
theorem oo10_savedStates_0 : okL m10_savedStates 0 bb10_savedStates_0 := okL_of _ _ (by decide +kernel) ⟨trivial, ⟨trivial, ⟨lp_10_34 _, ⟨trivial, ⟨lf_10_44, ⟨trivial, trivial⟩⟩⟩⟩⟩⟩
def cd10_savedStates (t : Nat) : Option (List PI) := match t with
  | 0 => some bb10_savedStates_0
  | _ => none
theorem kd10_savedStates : ∀ t is, cd10_savedStates t = some is → okL m10_savedStates t is := by
  intro t is h
  unfold cd10_savedStates at h
  split at h <;> cases h
  · exact oo10_savedStates_0
theorem ff10_savedStates : mi_r m10_savedStates = (some .int) ∧ mi_l m10_savedStates = 1 ∧ mi_h m10_savedStates = [] ∧ (mi_rm m10_savedStates).cells = 0 ∧ (mi_rm m10_savedStates).slots = 0 ∧ (mi_rm m10_savedStates).locals = 32 ∧ cd10_savedStates 0 = some bb10_savedStates_0 := ⟨rfl, rfl, rfl, rfl, rfl, rfl, rfl⟩
def bb10_width_0 : List PI := [(1, .aload_n 0, 0, 0, 0, 0, kZ), (1, .iconst 0, 0, 0, 0, 0, kZ), (3, .putfield 34, 10, 0, 0, 0, kZ), (1, .aload_n 0, 0, 0, 0, 0, kZ), (3, .getfield 7, 10, 1, 0, 0, kZ), (1, .iconst 0, 0, 0, 0, 0, kZ), (1, .iaload, 0, 0, 0, 0, kZ), (1, .ireturn, 0, 0, 0, 0, kZ)]
set_option maxRecDepth 100000 in
theorem oo10_width_0 : okL m10_width 0 bb10_width_0 := okL_of _ _ (by decide +kernel) ⟨trivial, ⟨trivial, ⟨lp_10_34 _, ⟨trivial, ⟨lf_10_7, ⟨trivial, ⟨trivial, ⟨trivial, trivial⟩⟩⟩⟩⟩⟩⟩⟩
def cd10_width (t : Nat) : Option (List PI) := match t with
  | 0 => some bb10_width_0
  | _ => none
theorem kd10_width : ∀ t is, cd10_width t = some is → okL m10_width t is := by
  intro t is h
  unfold cd10_width at h
  split at h <;> cases h
  · exact oo10_width_0
theorem ff10_width : mi_r m10_width = (some .int) ∧ mi_l m10_width = 1 ∧ mi_h m10_width = [] ∧ (mi_rm m10_width).cells = 0 ∧ (mi_rm m10_width).slots = 0 ∧ (mi_rm m10_width).locals = 32 ∧ cd10_width 0 = some bb10_width_0 := ⟨rfl, rfl, rfl, rfl, rfl, rfl, rfl⟩
def bb10_lines_0 : List PI := [(1, .aload_n 0, 0, 0, 0, 0, kZ), (1, .iconst 0, 0, 0, 0, 0, kZ), (3, .putfield 34, 10, 0, 0, 0, kZ), (1, .aload_n 0, 0, 0, 0, 0, kZ), (3, .getfield 7, 10, 1, 0, 0, kZ), (1, .iconst 2, 0, 0, 0, 0, kZ), (1, .iaload, 0, 0, 0, 0, kZ), (1, .ireturn, 0, 0, 0, 0, kZ)]
set_option maxRecDepth 100000 in
theorem oo10_lines_0 : okL m10_lines 0 bb10_lines_0 := okL_of _ _ (by decide +kernel) ⟨trivial, ⟨trivial, ⟨lp_10_34 _, ⟨trivial, ⟨lf_10_7, ⟨trivial, ⟨trivial, ⟨trivial, trivial⟩⟩⟩⟩⟩⟩⟩⟩
def cd10_lines (t : Nat) : Option (List PI) := match t with
  | 0 => some bb10_lines_0
  | _ => none
theorem kd10_lines : ∀ t is, cd10_lines t = some is → okL m10_lines t is := by
  intro t is h
  unfold cd10_lines at h
  split at h <;> cases h
  · exact oo10_lines_0
theorem ff10_lines : mi_r m10_lines = (some .int) ∧ mi_l m10_lines = 1 ∧ mi_h m10_lines = [] ∧ (mi_rm m10_lines).cells = 0 ∧ (mi_rm m10_lines).slots = 0 ∧ (mi_rm m10_lines).locals = 32 ∧ cd10_lines 0 = some bb10_lines_0 := ⟨rfl, rfl, rfl, rfl, rfl, rfl, rfl⟩
def bb10_style_0 : List PI := [(1, .aload_n 0, 0, 0, 0, 0, kZ), (1, .iconst 0, 0, 0, 0, 0, kZ), (3, .putfield 34, 10, 0, 0, 0, kZ), (1, .aload_n 0, 0, 0, 0, 0, kZ), (3, .getfield 7, 10, 1, 0, 0, kZ), (1, .iconst 1, 0, 0, 0, 0, kZ), (1, .iaload, 0, 0, 0, 0, kZ), (1, .ireturn, 0, 0, 0, 0, kZ)]
set_option maxRecDepth 100000 in
theorem oo10_style_0 : okL m10_style 0 bb10_style_0 := okL_of _ _ (by decide +kernel) ⟨trivial, ⟨trivial, ⟨lp_10_34 _, ⟨trivial, ⟨lf_10_7, ⟨trivial, ⟨trivial, ⟨trivial, trivial⟩⟩⟩⟩⟩⟩⟩⟩
def cd10_style (t : Nat) : Option (List PI) := match t with
  | 0 => some bb10_style_0
  | _ => none
theorem kd10_style : ∀ t is, cd10_style t = some is → okL m10_style t is := by
  intro t is h
  unfold cd10_style at h
  split at h <;> cases h
  · exact oo10_style_0
theorem ff10_style : mi_r m10_style = (some .int) ∧ mi_l m10_style = 1 ∧ mi_h m10_style = [] ∧ (mi_rm m10_style).cells = 0 ∧ (mi_rm m10_style).slots = 0 ∧ (mi_rm m10_style).locals = 32 ∧ cd10_style 0 = some bb10_style_0 := ⟨rfl, rfl, rfl, rfl, rfl, rfl, rfl⟩
def bb10_pixelsOf_0 : List PI := [(1, .aload_n 0, 0, 0, 0, 0, kZ), (1, .iconst 0, 0, 0, 0, 0, kZ), (3, .putfield 34, 10, 0, 0, 0, kZ), (1, .aload_n 0, 0, 0, 0, 0, kZ), (1, .iload_n 1, 0, 0, 0, 0, kZ), (3, .invokevirtual 138, 1, 10, 0, 0, m10_isLine), (3, .ifCond .eq 18, 28, 0, 0, 0, kZ), (1, .aload_n 0, 0, 0, 0, 0, kZ), (3, .getfield 7, 10, 1, 0, 0, kZ), (2, .bipush 8, 0, 0, 0, 0, kZ), (1, .iload_n 1, 0, 0, 0, 0, kZ), (1, .iadd, 0, 0, 0, 0, kZ), (1, .iaload, 0, 0, 0, 0, kZ), (3, .invokestatic 141, 1, 10, 0, 0, m10_asLong), (3, .goto 9, 34, 0, 0, 0, kZ)]
set_option maxRecDepth 100000 in
theorem oo10_pixelsOf_0 : okL m10_pixelsOf 0 bb10_pixelsOf_0 := okL_of _ _ (by decide +kernel) ⟨trivial, ⟨trivial, ⟨lp_10_34 _, ⟨trivial, ⟨trivial, ⟨⟨mok_m10_isLine, ⟨by decide, by decide⟩, rfl, by decide, Or.inl lc_10_138⟩, ⟨rfl, ⟨trivial, ⟨lf_10_7, ⟨trivial, ⟨trivial, ⟨trivial, ⟨trivial, ⟨⟨mok_m10_asLong, ⟨by decide, by decide⟩, rfl, Or.inl lc_10_141⟩, ⟨rfl, trivial⟩⟩⟩⟩⟩⟩⟩⟩⟩⟩⟩⟩⟩⟩⟩
def bb10_pixelsOf_28 : List PI := [(1, .aload_n 0, 0, 0, 0, 0, kZ), (1, .iconst 1, 0, 0, 0, 0, kZ), (3, .invokevirtual 125, 1, 10, 0, 0, m10_fails), (1, .i2l, 0, 0, 0, 0, kZ)]
set_option maxRecDepth 100000 in
theorem oo10_pixelsOf_28 : okL m10_pixelsOf 28 bb10_pixelsOf_28 := okL_of _ _ (by decide +kernel) ⟨trivial, ⟨trivial, ⟨⟨mok_m10_fails, ⟨by decide, by decide⟩, rfl, by decide, Or.inl lc_10_125⟩, ⟨trivial, trivial⟩⟩⟩⟩
def bb10_pixelsOf_34 : List PI := [(1, .lreturn, 0, 0, 0, 0, kZ)]
set_option maxRecDepth 100000 in
theorem oo10_pixelsOf_34 : okL m10_pixelsOf 34 bb10_pixelsOf_34 := okL_of _ _ (by decide +kernel) ⟨rfl, trivial⟩
def cd10_pixelsOf (t : Nat) : Option (List PI) := match t with
  | 0 => some bb10_pixelsOf_0
  | 28 => some bb10_pixelsOf_28
  | 34 => some bb10_pixelsOf_34
  | _ => none
theorem kd10_pixelsOf : ∀ t is, cd10_pixelsOf t = some is → okL m10_pixelsOf t is := by
  intro t is h
  unfold cd10_pixelsOf at h
  split at h <;> cases h
  · exact oo10_pixelsOf_0
  · exact oo10_pixelsOf_28
  · exact oo10_pixelsOf_34
theorem ff10_pixelsOf : mi_r m10_pixelsOf = (some .long) ∧ mi_l m10_pixelsOf = 2 ∧ mi_h m10_pixelsOf = [] ∧ (mi_rm m10_pixelsOf).cells = 0 ∧ (mi_rm m10_pixelsOf).slots = 0 ∧ (mi_rm m10_pixelsOf).locals = 75 ∧ cd10_pixelsOf 0 = some bb10_pixelsOf_0 ∧ cd10_pixelsOf 28 = some bb10_pixelsOf_28 ∧ cd10_pixelsOf 34 = some bb10_pixelsOf_34 ∧ (mi_rm m10_asLong).cells = 0 ∧ (mi_rm m10_asLong).slots = 0 ∧ (mi_rm m10_fails).cells = 0 ∧ (mi_rm m10_fails).slots = 0 ∧ (mi_rm m10_isLine).cells = 0 ∧ (mi_rm m10_isLine).slots = 0 := ⟨rfl, rfl, rfl, rfl, rfl, rfl, rfl, rfl, rfl, rfl, rfl, rfl, rfl, rfl, rfl⟩
def bb10_isBlack_0 : List PI := [(1, .aload_n 0, 0, 0, 0, 0, kZ), (1, .iconst 0, 0, 0, 0, 0, kZ), (3, .putfield 34, 10, 0, 0, 0, kZ), (1, .aload_n 0, 0, 0, 0, 0, kZ), (1, .iload_n 1, 0, 0, 0, 0, kZ), (3, .invokevirtual 138, 1, 10, 0, 0, m10_isLine), (3, .ifCond .eq 44, 54, 0, 0, 0, kZ), (1, .iload_n 2, 0, 0, 0, 0, kZ), (1, .iconst 0, 0, 0, 0, 0, kZ), (1, .aload_n 0, 0, 0, 0, 0, kZ), (3, .getfield 7, 10, 1, 0, 0, kZ), (1, .iconst 0, 0, 0, 0, 0, kZ), (1, .iaload, 0, 0, 0, 0, kZ), (1, .iconst 1, 0, 0, 0, 0, kZ), (1, .isub, 0, 0, 0, 0, kZ), (3, .invokestatic 38, 3, 10, 0, 0, m10_in), (3, .ifCond .eq 28, 54, 0, 0, 0, kZ), (1, .aload_n 0, 0, 0, 0, 0, kZ), (3, .getfield 7, 10, 1, 0, 0, kZ), (2, .bipush 8, 0, 0, 0, 0, kZ), (1, .iload_n 1, 0, 0, 0, 0, kZ), (1, .iadd, 0, 0, 0, 0, kZ), (1, .iaload, 0, 0, 0, 0, kZ), (1, .iload_n 2, 0, 0, 0, 0, kZ), (1, .iushr, 0, 0, 0, 0, kZ), (1, .iconst 1, 0, 0, 0, 0, kZ), (1, .iand, 0, 0, 0, 0, kZ), (1, .iconst 1, 0, 0, 0, 0, kZ), (3, .if_icmp .ne 7, 50, 0, 0, 0, kZ), (1, .iconst 1, 0, 0, 0, 0, kZ), (3, .goto 20, 67, 0, 0, 0, kZ)]
set_option maxRecDepth 100000 in
theorem oo10_isBlack_0 : okL m10_isBlack 0 bb10_isBlack_0 := okL_of _ _ (by decide +kernel) ⟨trivial, ⟨trivial, ⟨lp_10_34 _, ⟨trivial, ⟨trivial, ⟨⟨mok_m10_isLine, ⟨by decide, by decide⟩, rfl, by decide, Or.inl lc_10_138⟩, ⟨rfl, ⟨trivial, ⟨trivial, ⟨trivial, ⟨lf_10_7, ⟨trivial, ⟨trivial, ⟨trivial, ⟨trivial, ⟨⟨mok_m10_in, ⟨by decide, by decide⟩, rfl, Or.inl lc_10_38⟩, ⟨rfl, ⟨trivial, ⟨lf_10_7, ⟨trivial, ⟨trivial, ⟨trivial, ⟨trivial, ⟨trivial, ⟨trivial, ⟨trivial, ⟨trivial, ⟨trivial, ⟨rfl, ⟨trivial, ⟨rfl, trivial⟩⟩⟩⟩⟩⟩⟩⟩⟩⟩⟩⟩⟩⟩⟩⟩⟩⟩⟩⟩⟩⟩⟩⟩⟩⟩⟩⟩⟩⟩⟩
def bb10_isBlack_50 : List PI := [(1, .iconst 0, 0, 0, 0, 0, kZ), (3, .goto 16, 67, 0, 0, 0, kZ)]
set_option maxRecDepth 100000 in
theorem oo10_isBlack_50 : okL m10_isBlack 50 bb10_isBlack_50 := okL_of _ _ (by decide +kernel) ⟨trivial, ⟨rfl, trivial⟩⟩
def bb10_isBlack_54 : List PI := [(1, .aload_n 0, 0, 0, 0, 0, kZ), (1, .iconst 1, 0, 0, 0, 0, kZ), (3, .invokevirtual 125, 1, 10, 0, 0, m10_fails), (3, .ifCond .le 7, 66, 0, 0, 0, kZ), (1, .iconst 1, 0, 0, 0, 0, kZ), (3, .goto 4, 67, 0, 0, 0, kZ)]
set_option maxRecDepth 100000 in
theorem oo10_isBlack_54 : okL m10_isBlack 54 bb10_isBlack_54 := okL_of _ _ (by decide +kernel) ⟨trivial, ⟨trivial, ⟨⟨mok_m10_fails, ⟨by decide, by decide⟩, rfl, by decide, Or.inl lc_10_125⟩, ⟨rfl, ⟨trivial, ⟨rfl, trivial⟩⟩⟩⟩⟩⟩
def bb10_isBlack_66 : List PI := [(1, .iconst 0, 0, 0, 0, 0, kZ)]
set_option maxRecDepth 100000 in
theorem oo10_isBlack_66 : okL m10_isBlack 66 bb10_isBlack_66 := okL_of _ _ (by decide +kernel) ⟨trivial, trivial⟩
def bb10_isBlack_67 : List PI := [(1, .ireturn, 0, 0, 0, 0, kZ)]
set_option maxRecDepth 100000 in
theorem oo10_isBlack_67 : okL m10_isBlack 67 bb10_isBlack_67 := okL_of _ _ (by decide +kernel) ⟨trivial, trivial⟩
def cd10_isBlack (t : Nat) : Option (List PI) := match t with
  | 0 => some bb10_isBlack_0
  | 50 => some bb10_isBlack_50
  | 54 => some bb10_isBlack_54
  | 66 => some bb10_isBlack_66
  | 67 => some bb10_isBlack_67
  | _ => none
theorem kd10_isBlack : ∀ t is, cd10_isBlack t = some is → okL m10_isBlack t is := by
  intro t is h
  unfold cd10_isBlack at h
  split at h <;> cases h
  · exact oo10_isBlack_0
  · exact oo10_isBlack_50
  · exact oo10_isBlack_54
  · exact oo10_isBlack_66
  · exact oo10_isBlack_67
theorem ff10_isBlack : mi_r m10_isBlack = (some .boolean) ∧ mi_l m10_isBlack = 3 ∧ mi_h m10_isBlack = [] ∧ (mi_rm m10_isBlack).cells = 0 ∧ (mi_rm m10_isBlack).slots = 0 ∧ (mi_rm m10_isBlack).locals = 75 ∧ cd10_isBlack 0 = some bb10_isBlack_0 ∧ cd10_isBlack 50 = some bb10_isBlack_50 ∧ cd10_isBlack 54 = some bb10_isBlack_54 ∧ cd10_isBlack 66 = some bb10_isBlack_66 ∧ cd10_isBlack 67 = some bb10_isBlack_67 ∧ (mi_rm m10_fails).cells = 0 ∧ (mi_rm m10_fails).slots = 0 ∧ (mi_rm m10_in).cells = 0 ∧ (mi_rm m10_in).slots = 0 ∧ (mi_rm m10_isLine).cells = 0 ∧ (mi_rm m10_isLine).slots = 0 := ⟨rfl, rfl, rfl, rfl, rfl, rfl, rfl, rfl, rfl, rfl, rfl, rfl, rfl, rfl, rfl, rfl, rfl⟩
def bb10_manyRuns_0 : List PI := [(1, .aload_n 0, 0, 0, 0, 0, kZ), (1, .aload_n 0, 0, 0, 0, 0, kZ), (3, .getfield 7, 10, 1, 0, 0, kZ), (2, .bipush 8, 0, 0, 0, 0, kZ), (1, .iload_n 1, 0, 0, 0, 0, kZ), (1, .iadd, 0, 0, 0, 0, kZ), (1, .iaload, 0, 0, 0, 0, kZ), (3, .invokevirtual 56, 1, 10, 0, 0, m10_findsRuns), (1, .aload_n 0, 0, 0, 0, 0, kZ), (3, .getfield 47, 10, 14, 0, 0, kZ), (1, .ireturn, 0, 0, 0, 0, kZ)]
set_option maxRecDepth 100000 in
theorem oo10_manyRuns_0 : okL m10_manyRuns 0 bb10_manyRuns_0 := okL_of _ _ (by decide +kernel) ⟨trivial, ⟨trivial, ⟨lf_10_7, ⟨trivial, ⟨trivial, ⟨trivial, ⟨trivial, ⟨⟨mok_m10_findsRuns, ⟨by decide, by decide⟩, rfl, by decide, Or.inl lc_10_56⟩, ⟨trivial, ⟨lf_10_47, ⟨trivial, trivial⟩⟩⟩⟩⟩⟩⟩⟩⟩⟩⟩
def cd10_manyRuns (t : Nat) : Option (List PI) := match t with
  | 0 => some bb10_manyRuns_0
  | _ => none
theorem kd10_manyRuns : ∀ t is, cd10_manyRuns t = some is → okL m10_manyRuns t is := by
  intro t is h
  unfold cd10_manyRuns at h
  split at h <;> cases h
  · exact oo10_manyRuns_0
theorem ff10_manyRuns : mi_r m10_manyRuns = (some .int) ∧ mi_l m10_manyRuns = 2 ∧ mi_h m10_manyRuns = [] ∧ (mi_rm m10_manyRuns).cells = 0 ∧ (mi_rm m10_manyRuns).slots = 0 ∧ (mi_rm m10_manyRuns).locals = 55 ∧ cd10_manyRuns 0 = some bb10_manyRuns_0 ∧ (mi_rm m10_findsRuns).cells = 0 ∧ (mi_rm m10_findsRuns).slots = 0 := ⟨rfl, rfl, rfl, rfl, rfl, rfl, rfl, rfl, rfl⟩
def bb10_runsOf_0 : List PI := [(1, .aload_n 0, 0, 0, 0, 0, kZ), (1, .iconst 0, 0, 0, 0, 0, kZ), (3, .putfield 34, 10, 0, 0, 0, kZ), (1, .aload_n 0, 0, 0, 0, 0, kZ), (1, .iload_n 1, 0, 0, 0, 0, kZ), (3, .invokevirtual 138, 1, 10, 0, 0, m10_isLine), (3, .ifCond .eq 11, 21, 0, 0, 0, kZ), (1, .aload_n 0, 0, 0, 0, 0, kZ), (1, .iload_n 1, 0, 0, 0, 0, kZ), (3, .invokevirtual 198, 1, 10, 0, 0, m10_manyRuns), (3, .goto 8, 26, 0, 0, 0, kZ)]
set_option maxRecDepth 100000 in
theorem oo10_runsOf_0 : okL m10_runsOf 0 bb10_runsOf_0 := okL_of _ _ (by decide +kernel) ⟨trivial, ⟨trivial, ⟨lp_10_34 _, ⟨trivial, ⟨trivial, ⟨⟨mok_m10_isLine, ⟨by decide, by decide⟩, rfl, by decide, Or.inl lc_10_138⟩, ⟨rfl, ⟨trivial, ⟨trivial, ⟨⟨mok_m10_manyRuns, ⟨by decide, by decide⟩, rfl, by decide, Or.inl lc_10_198⟩, ⟨rfl, trivial⟩⟩⟩⟩⟩⟩⟩⟩⟩⟩⟩
def bb10_runsOf_21 : List PI := [(1, .aload_n 0, 0, 0, 0, 0, kZ), (1, .iconst 1, 0, 0, 0, 0, kZ), (3, .invokevirtual 125, 1, 10, 0, 0, m10_fails)]
set_option maxRecDepth 100000 in
theorem oo10_runsOf_21 : okL m10_runsOf 21 bb10_runsOf_21 := okL_of _ _ (by decide +kernel) ⟨trivial, ⟨trivial, ⟨⟨mok_m10_fails, ⟨by decide, by decide⟩, rfl, by decide, Or.inl lc_10_125⟩, trivial⟩⟩⟩
def bb10_runsOf_26 : List PI := [(1, .ireturn, 0, 0, 0, 0, kZ)]
set_option maxRecDepth 100000 in
theorem oo10_runsOf_26 : okL m10_runsOf 26 bb10_runsOf_26 := okL_of _ _ (by decide +kernel) ⟨trivial, trivial⟩
def cd10_runsOf (t : Nat) : Option (List PI) := match t with
  | 0 => some bb10_runsOf_0
  | 21 => some bb10_runsOf_21
  | 26 => some bb10_runsOf_26
  | _ => none
theorem kd10_runsOf : ∀ t is, cd10_runsOf t = some is → okL m10_runsOf t is := by
  intro t is h
  unfold cd10_runsOf at h
  split at h <;> cases h
  · exact oo10_runsOf_0
  · exact oo10_runsOf_21
  · exact oo10_runsOf_26
theorem ff10_runsOf : mi_r m10_runsOf = (some .int) ∧ mi_l m10_runsOf = 2 ∧ mi_h m10_runsOf = [] ∧ (mi_rm m10_runsOf).cells = 0 ∧ (mi_rm m10_runsOf).slots = 0 ∧ (mi_rm m10_runsOf).locals = 76 ∧ cd10_runsOf 0 = some bb10_runsOf_0 ∧ cd10_runsOf 21 = some bb10_runsOf_21 ∧ cd10_runsOf 26 = some bb10_runsOf_26 ∧ (mi_rm m10_fails).cells = 0 ∧ (mi_rm m10_fails).slots = 0 ∧ (mi_rm m10_isLine).cells = 0 ∧ (mi_rm m10_isLine).slots = 0 ∧ (mi_rm m10_manyRuns).cells = 0 ∧ (mi_rm m10_manyRuns).slots = 0 := ⟨rfl, rfl, rfl, rfl, rfl, rfl, rfl, rfl, rfl, rfl, rfl, rfl, rfl, rfl, rfl⟩
def bb10_longest_0 : List PI := [(1, .aload_n 0, 0, 0, 0, 0, kZ), (1, .aload_n 0, 0, 0, 0, 0, kZ), (3, .getfield 7, 10, 1, 0, 0, kZ), (2, .bipush 8, 0, 0, 0, 0, kZ), (1, .iload_n 1, 0, 0, 0, 0, kZ), (1, .iadd, 0, 0, 0, 0, kZ), (1, .iaload, 0, 0, 0, 0, kZ), (3, .invokevirtual 56, 1, 10, 0, 0, m10_findsRuns), (1, .iconst 0, 0, 0, 0, 0, kZ), (1, .istore_n 2, 0, 0, 0, 0, kZ), (1, .iconst 0, 0, 0, 0, 0, kZ), (1, .istore_n 3, 0, 0, 0, 0, kZ)]
set_option maxRecDepth 100000 in
theorem oo10_longest_0 : okL m10_longest 0 bb10_longest_0 := okL_of _ _ (by decide +kernel) ⟨trivial, ⟨trivial, ⟨lf_10_7, ⟨trivial, ⟨trivial, ⟨trivial, ⟨trivial, ⟨⟨mok_m10_findsRuns, ⟨by decide, by decide⟩, rfl, by decide, Or.inl lc_10_56⟩, ⟨trivial, ⟨trivial, ⟨trivial, ⟨trivial, trivial⟩⟩⟩⟩⟩⟩⟩⟩⟩⟩⟩⟩
def bb10_longest_17 : List PI := [(1, .iload_n 3, 0, 0, 0, 0, kZ), (1, .aload_n 0, 0, 0, 0, 0, kZ), (3, .getfield 47, 10, 14, 0, 0, kZ), (3, .if_icmp .ge 30, 52, 0, 0, 0, kZ), (1, .aload_n 0, 0, 0, 0, 0, kZ), (3, .getfield 28, 10, 13, 0, 0, kZ), (1, .iload_n 3, 0, 0, 0, 0, kZ), (1, .iaload, 0, 0, 0, 0, kZ), (1, .iload_n 2, 0, 0, 0, 0, kZ), (3, .if_icmp .le 12, 44, 0, 0, 0, kZ), (1, .aload_n 0, 0, 0, 0, 0, kZ), (3, .getfield 28, 10, 13, 0, 0, kZ), (1, .iload_n 3, 0, 0, 0, 0, kZ), (1, .iaload, 0, 0, 0, 0, kZ), (3, .goto 4, 45, 0, 0, 0, kZ)]
set_option maxRecDepth 100000 in
theorem oo10_longest_17 : okL m10_longest 17 bb10_longest_17 := okL_of _ _ (by decide +kernel) ⟨trivial, ⟨trivial, ⟨lf_10_47, ⟨rfl, ⟨trivial, ⟨lf_10_28, ⟨trivial, ⟨trivial, ⟨trivial, ⟨rfl, ⟨trivial, ⟨lf_10_28, ⟨trivial, ⟨trivial, ⟨rfl, trivial⟩⟩⟩⟩⟩⟩⟩⟩⟩⟩⟩⟩⟩⟩⟩
def bb10_longest_44 : List PI := [(1, .iload_n 2, 0, 0, 0, 0, kZ)]
set_option maxRecDepth 100000 in
theorem oo10_longest_44 : okL m10_longest 44 bb10_longest_44 := okL_of _ _ (by decide +kernel) ⟨trivial, trivial⟩
def bb10_longest_45 : List PI := [(1, .istore_n 2, 0, 0, 0, 0, kZ), (3, .iinc 3 1, 0, 0, 0, 0, kZ), (3, .goto (-32), 17, 0, 0, 0, kZ)]
set_option maxRecDepth 100000 in
theorem oo10_longest_45 : okL m10_longest 45 bb10_longest_45 := okL_of _ _ (by decide +kernel) ⟨trivial, ⟨trivial, ⟨rfl, trivial⟩⟩⟩
def bb10_longest_52 : List PI := [(1, .iload_n 2, 0, 0, 0, 0, kZ), (1, .ireturn, 0, 0, 0, 0, kZ)]
set_option maxRecDepth 100000 in
theorem oo10_longest_52 : okL m10_longest 52 bb10_longest_52 := okL_of _ _ (by decide +kernel) ⟨trivial, ⟨trivial, trivial⟩⟩
def cd10_longest (t : Nat) : Option (List PI) := match t with
  | 0 => some bb10_longest_0
  | 44 => some bb10_longest_44
  | 45 => some bb10_longest_45
  | 52 => some bb10_longest_52
  | _ => none
theorem kd10_longest : ∀ t is, cd10_longest t = some is → okL m10_longest t is := by
  intro t is h
  unfold cd10_longest at h
  split at h <;> cases h
  · exact oo10_longest_0
  · exact oo10_longest_44
  · exact oo10_longest_45
  · exact oo10_longest_52
theorem ff10_longest : mi_r m10_longest = (some .int) ∧ mi_l m10_longest = 4 ∧ mi_h m10_longest = [] ∧ (mi_rm m10_longest).cells = 0 ∧ (mi_rm m10_longest).slots = 0 ∧ (mi_rm m10_longest).locals = 55 ∧ cd10_longest 0 = some bb10_longest_0 ∧ cd10_longest 17 = none ∧ cd10_longest 44 = some bb10_longest_44 ∧ cd10_longest 45 = some bb10_longest_45 ∧ cd10_longest 52 = some bb10_longest_52 ∧ (mi_rm m10_findsRuns).cells = 0 ∧ (mi_rm m10_findsRuns).slots = 0 := ⟨rfl, rfl, rfl, rfl, rfl, rfl, rfl, rfl, rfl, rfl, rfl, rfl, rfl⟩
def bb10_longestRun_0 : List PI := [(1, .aload_n 0, 0, 0, 0, 0, kZ), (1, .iconst 0, 0, 0, 0, 0, kZ), (3, .putfield 34, 10, 0, 0, 0, kZ), (1, .aload_n 0, 0, 0, 0, 0, kZ), (1, .iload_n 1, 0, 0, 0, 0, kZ), (3, .invokevirtual 138, 1, 10, 0, 0, m10_isLine), (3, .ifCond .eq 11, 21, 0, 0, 0, kZ), (1, .aload_n 0, 0, 0, 0, 0, kZ), (1, .iload_n 1, 0, 0, 0, 0, kZ), (3, .invokevirtual 201, 1, 10, 0, 0, m10_longest), (3, .goto 8, 26, 0, 0, 0, kZ)]
set_option maxRecDepth 100000 in
theorem oo10_longestRun_0 : okL m10_longestRun 0 bb10_longestRun_0 := okL_of _ _ (by decide +kernel) ⟨trivial, ⟨trivial, ⟨lp_10_34 _, ⟨trivial, ⟨trivial, ⟨⟨mok_m10_isLine, ⟨by decide, by decide⟩, rfl, by decide, Or.inl lc_10_138⟩, ⟨rfl, ⟨trivial, ⟨trivial, ⟨⟨mok_m10_longest, ⟨by decide, by decide⟩, rfl, by decide, Or.inl lc_10_201⟩, ⟨rfl, trivial⟩⟩⟩⟩⟩⟩⟩⟩⟩⟩⟩
def bb10_longestRun_21 : List PI := [(1, .aload_n 0, 0, 0, 0, 0, kZ), (1, .iconst 1, 0, 0, 0, 0, kZ), (3, .invokevirtual 125, 1, 10, 0, 0, m10_fails)]
set_option maxRecDepth 100000 in
theorem oo10_longestRun_21 : okL m10_longestRun 21 bb10_longestRun_21 := okL_of _ _ (by decide +kernel) ⟨trivial, ⟨trivial, ⟨⟨mok_m10_fails, ⟨by decide, by decide⟩, rfl, by decide, Or.inl lc_10_125⟩, trivial⟩⟩⟩
def bb10_longestRun_26 : List PI := [(1, .ireturn, 0, 0, 0, 0, kZ)]
set_option maxRecDepth 100000 in
theorem oo10_longestRun_26 : okL m10_longestRun 26 bb10_longestRun_26 := okL_of _ _ (by decide +kernel) ⟨trivial, trivial⟩
def cd10_longestRun (t : Nat) : Option (List PI) := match t with
  | 0 => some bb10_longestRun_0
  | 21 => some bb10_longestRun_21
  | 26 => some bb10_longestRun_26
  | _ => none
theorem kd10_longestRun : ∀ t is, cd10_longestRun t = some is → okL m10_longestRun t is := by
  intro t is h
  unfold cd10_longestRun at h
  split at h <;> cases h
  · exact oo10_longestRun_0
  · exact oo10_longestRun_21
  · exact oo10_longestRun_26
theorem ff10_longestRun : mi_r m10_longestRun = (some .int) ∧ mi_l m10_longestRun = 2 ∧ mi_h m10_longestRun = [] ∧ (mi_rm m10_longestRun).cells = 0 ∧ (mi_rm m10_longestRun).slots = 0 ∧ (mi_rm m10_longestRun).locals = 78 ∧ cd10_longestRun 0 = some bb10_longestRun_0 ∧ cd10_longestRun 21 = some bb10_longestRun_21 ∧ cd10_longestRun 26 = some bb10_longestRun_26 ∧ (mi_rm m10_fails).cells = 0 ∧ (mi_rm m10_fails).slots = 0 ∧ (mi_rm m10_isLine).cells = 0 ∧ (mi_rm m10_isLine).slots = 0 ∧ (mi_rm m10_longest).cells = 0 ∧ (mi_rm m10_longest).slots = 0 := ⟨rfl, rfl, rfl, rfl, rfl, rfl, rfl, rfl, rfl, rfl, rfl, rfl, rfl, rfl, rfl⟩
def bb10_black_0 : List PI := [(1, .iconst 0, 0, 0, 0, 0, kZ), (1, .istore_n 1, 0, 0, 0, 0, kZ), (1, .iconst 0, 0, 0, 0, 0, kZ), (1, .istore_n 2, 0, 0, 0, 0, kZ)]
set_option maxRecDepth 100000 in
theorem oo10_black_0 : okL m10_black 0 bb10_black_0 := okL_of _ _ (by decide +kernel) ⟨trivial, ⟨trivial, ⟨trivial, ⟨trivial, trivial⟩⟩⟩⟩
def bb10_black_4 : List PI := [(1, .iload_n 2, 0, 0, 0, 0, kZ), (1, .aload_n 0, 0, 0, 0, 0, kZ), (3, .getfield 7, 10, 1, 0, 0, kZ), (1, .iconst 2, 0, 0, 0, 0, kZ), (1, .iaload, 0, 0, 0, 0, kZ), (3, .if_icmp .ge 24, 35, 0, 0, 0, kZ), (1, .iload_n 1, 0, 0, 0, 0, kZ), (1, .aload_n 0, 0, 0, 0, 0, kZ), (3, .getfield 7, 10, 1, 0, 0, kZ), (2, .bipush 8, 0, 0, 0, 0, kZ), (1, .iload_n 2, 0, 0, 0, 0, kZ), (1, .iadd, 0, 0, 0, 0, kZ), (1, .iaload, 0, 0, 0, 0, kZ), (3, .invokestatic 105, 1, 10, 0, 0, m10_bits), (1, .iadd, 0, 0, 0, 0, kZ), (1, .istore_n 1, 0, 0, 0, 0, kZ), (3, .iinc 2 1, 0, 0, 0, 0, kZ), (3, .goto (-28), 4, 0, 0, 0, kZ)]
set_option maxRecDepth 100000 in
theorem oo10_black_4 : okL m10_black 4 bb10_black_4 := okL_of _ _ (by decide +kernel) ⟨trivial, ⟨trivial, ⟨lf_10_7, ⟨trivial, ⟨trivial, ⟨rfl, ⟨trivial, ⟨trivial, ⟨lf_10_7, ⟨trivial, ⟨trivial, ⟨trivial, ⟨trivial, ⟨⟨mok_m10_bits, ⟨by decide, by decide⟩, rfl, Or.inl lc_10_105⟩, ⟨trivial, ⟨trivial, ⟨trivial, ⟨rfl, trivial⟩⟩⟩⟩⟩⟩⟩⟩⟩⟩⟩⟩⟩⟩⟩⟩⟩⟩
def bb10_black_35 : List PI := [(1, .iload_n 1, 0, 0, 0, 0, kZ), (1, .ireturn, 0, 0, 0, 0, kZ)]
set_option maxRecDepth 100000 in
theorem oo10_black_35 : okL m10_black 35 bb10_black_35 := okL_of _ _ (by decide +kernel) ⟨trivial, ⟨trivial, trivial⟩⟩
def cd10_black (t : Nat) : Option (List PI) := match t with
  | 0 => some bb10_black_0
  | 35 => some bb10_black_35
  | _ => none
theorem kd10_black : ∀ t is, cd10_black t = some is → okL m10_black t is := by
  intro t is h
  unfold cd10_black at h
  split at h <;> cases h
  · exact oo10_black_0
  · exact oo10_black_35
theorem ff10_black : mi_r m10_black = (some .int) ∧ mi_l m10_black = 3 ∧ mi_h m10_black = [] ∧ (mi_rm m10_black).cells = 0 ∧ (mi_rm m10_black).slots = 0 ∧ (mi_rm m10_black).locals = 54 ∧ cd10_black 0 = some bb10_black_0 ∧ cd10_black 4 = none ∧ cd10_black 35 = some bb10_black_35 ∧ (mi_rm m10_bits).cells = 0 ∧ (mi_rm m10_bits).slots = 0 := ⟨rfl, rfl, rfl, rfl, rfl, rfl, rfl, rfl, rfl, rfl, rfl⟩
def bb10_blackPixels_0 : List PI := [(1, .aload_n 0, 0, 0, 0, 0, kZ), (1, .iconst 0, 0, 0, 0, 0, kZ), (3, .putfield 34, 10, 0, 0, 0, kZ), (1, .aload_n 0, 0, 0, 0, 0, kZ), (3, .invokevirtual 204, 0, 10, 0, 0, m10_black), (1, .ireturn, 0, 0, 0, 0, kZ)]
set_option maxRecDepth 100000 in
theorem oo10_blackPixels_0 : okL m10_blackPixels 0 bb10_blackPixels_0 := okL_of _ _ (by decide +kernel) ⟨trivial, ⟨trivial, ⟨lp_10_34 _, ⟨trivial, ⟨⟨mok_m10_black, ⟨by decide, by decide⟩, rfl, by decide, Or.inl lc_10_204⟩, ⟨trivial, trivial⟩⟩⟩⟩⟩⟩
def cd10_blackPixels (t : Nat) : Option (List PI) := match t with
  | 0 => some bb10_blackPixels_0
  | _ => none
theorem kd10_blackPixels : ∀ t is, cd10_blackPixels t = some is → okL m10_blackPixels t is := by
  intro t is h
  unfold cd10_blackPixels at h
  split at h <;> cases h
  · exact oo10_blackPixels_0
theorem ff10_blackPixels : mi_r m10_blackPixels = (some .int) ∧ mi_l m10_blackPixels = 1 ∧ mi_h m10_blackPixels = [] ∧ (mi_rm m10_blackPixels).cells = 0 ∧ (mi_rm m10_blackPixels).slots = 0 ∧ (mi_rm m10_blackPixels).locals = 76 ∧ cd10_blackPixels 0 = some bb10_blackPixels_0 ∧ (mi_rm m10_black).cells = 0 ∧ (mi_rm m10_black).slots = 0 := ⟨rfl, rfl, rfl, rfl, rfl, rfl, rfl, rfl, rfl⟩
def bb10_tellsLength_0 : List PI := [(1, .aload_n 0, 0, 0, 0, 0, kZ), (1, .iconst 0, 0, 0, 0, 0, kZ), (3, .putfield 34, 10, 0, 0, 0, kZ), (1, .aload_n 0, 0, 0, 0, 0, kZ), (1, .iload_n 1, 0, 0, 0, 0, kZ), (3, .invokevirtual 138, 1, 10, 0, 0, m10_isLine), (3, .ifCond .ne 9, 19, 0, 0, 0, kZ), (1, .aload_n 0, 0, 0, 0, 0, kZ), (1, .iconst 1, 0, 0, 0, 0, kZ), (3, .invokevirtual 125, 1, 10, 0, 0, m10_fails), (1, .ireturn, 0, 0, 0, 0, kZ)]
set_option maxRecDepth 100000 in
theorem oo10_tellsLength_0 : okL m10_tellsLength 0 bb10_tellsLength_0 := okL_of _ _ (by decide +kernel) ⟨trivial, ⟨trivial, ⟨lp_10_34 _, ⟨trivial, ⟨trivial, ⟨⟨mok_m10_isLine, ⟨by decide, by decide⟩, rfl, by decide, Or.inl lc_10_138⟩, ⟨rfl, ⟨trivial, ⟨trivial, ⟨⟨mok_m10_fails, ⟨by decide, by decide⟩, rfl, by decide, Or.inl lc_10_125⟩, ⟨trivial, trivial⟩⟩⟩⟩⟩⟩⟩⟩⟩⟩⟩
def bb10_tellsLength_19 : List PI := [(1, .iload_n 2, 0, 0, 0, 0, kZ), (3, .invokestatic 207, 1, 10, 0, 0, m10_isMode), (3, .ifCond .eq 12, 35, 0, 0, 0, kZ), (1, .aload_n 0, 0, 0, 0, 0, kZ), (1, .iload_n 1, 0, 0, 0, 0, kZ), (1, .iload_n 2, 0, 0, 0, 0, kZ), (3, .invokevirtual 69, 2, 10, 0, 0, m10_codes), (3, .goto 8, 40, 0, 0, 0, kZ)]
set_option maxRecDepth 100000 in
theorem oo10_tellsLength_19 : okL m10_tellsLength 19 bb10_tellsLength_19 := okL_of _ _ (by decide +kernel) ⟨trivial, ⟨⟨mok_m10_isMode, ⟨by decide, by decide⟩, rfl, Or.inl lc_10_207⟩, ⟨rfl, ⟨trivial, ⟨trivial, ⟨trivial, ⟨⟨mok_m10_codes, ⟨by decide, by decide⟩, rfl, by decide, Or.inl lc_10_69⟩, ⟨rfl, trivial⟩⟩⟩⟩⟩⟩⟩⟩
def bb10_tellsLength_35 : List PI := [(1, .aload_n 0, 0, 0, 0, 0, kZ), (1, .iconst 2, 0, 0, 0, 0, kZ), (3, .invokevirtual 125, 1, 10, 0, 0, m10_fails)]
set_option maxRecDepth 100000 in
theorem oo10_tellsLength_35 : okL m10_tellsLength 35 bb10_tellsLength_35 := okL_of _ _ (by decide +kernel) ⟨trivial, ⟨trivial, ⟨⟨mok_m10_fails, ⟨by decide, by decide⟩, rfl, by decide, Or.inl lc_10_125⟩, trivial⟩⟩⟩
def bb10_tellsLength_40 : List PI := [(1, .ireturn, 0, 0, 0, 0, kZ)]
set_option maxRecDepth 100000 in
theorem oo10_tellsLength_40 : okL m10_tellsLength 40 bb10_tellsLength_40 := okL_of _ _ (by decide +kernel) ⟨trivial, trivial⟩
def cd10_tellsLength (t : Nat) : Option (List PI) := match t with
  | 0 => some bb10_tellsLength_0
  | 19 => some bb10_tellsLength_19
  | 35 => some bb10_tellsLength_35
  | 40 => some bb10_tellsLength_40
  | _ => none
theorem kd10_tellsLength : ∀ t is, cd10_tellsLength t = some is → okL m10_tellsLength t is := by
  intro t is h
  unfold cd10_tellsLength at h
  split at h <;> cases h
  · exact oo10_tellsLength_0
  · exact oo10_tellsLength_19
  · exact oo10_tellsLength_35
  · exact oo10_tellsLength_40
theorem ff10_tellsLength : mi_r m10_tellsLength = (some .int) ∧ mi_l m10_tellsLength = 3 ∧ mi_h m10_tellsLength = [] ∧ (mi_rm m10_tellsLength).cells = 0 ∧ (mi_rm m10_tellsLength).slots = 0 ∧ (mi_rm m10_tellsLength).locals = 100 ∧ cd10_tellsLength 0 = some bb10_tellsLength_0 ∧ cd10_tellsLength 19 = some bb10_tellsLength_19 ∧ cd10_tellsLength 35 = some bb10_tellsLength_35 ∧ cd10_tellsLength 40 = some bb10_tellsLength_40 ∧ (mi_rm m10_codes).cells = 0 ∧ (mi_rm m10_codes).slots = 0 ∧ (mi_rm m10_fails).cells = 0 ∧ (mi_rm m10_fails).slots = 0 ∧ (mi_rm m10_isLine).cells = 0 ∧ (mi_rm m10_isLine).slots = 0 ∧ (mi_rm m10_isMode).cells = 0 ∧ (mi_rm m10_isMode).slots = 0 := ⟨rfl, rfl, rfl, rfl, rfl, rfl, rfl, rfl, rfl, rfl, rfl, rfl, rfl, rfl, rfl, rfl, rfl, rfl⟩
def bb10_codeLength_0 : List PI := [(1, .aload_n 0, 0, 0, 0, 0, kZ), (1, .iload_n 1, 0, 0, 0, 0, kZ), (1, .iload_n 2, 0, 0, 0, 0, kZ), (3, .invokevirtual 210, 2, 10, 0, 0, m10_tellsLength), (1, .ireturn, 0, 0, 0, 0, kZ)]
set_option maxRecDepth 100000 in
theorem oo10_codeLength_0 : okL m10_codeLength 0 bb10_codeLength_0 := okL_of _ _ (by decide +kernel) ⟨trivial, ⟨trivial, ⟨trivial, ⟨⟨mok_m10_tellsLength, ⟨by decide, by decide⟩, rfl, by decide, Or.inl lc_10_210⟩, ⟨trivial, trivial⟩⟩⟩⟩⟩
def cd10_codeLength (t : Nat) : Option (List PI) := match t with
  | 0 => some bb10_codeLength_0
  | _ => none
theorem kd10_codeLength : ∀ t is, cd10_codeLength t = some is → okL m10_codeLength t is := by
  intro t is h
  unfold cd10_codeLength at h
  split at h <;> cases h
  · exact oo10_codeLength_0
theorem ff10_codeLength : mi_r m10_codeLength = (some .int) ∧ mi_l m10_codeLength = 3 ∧ mi_h m10_codeLength = [] ∧ (mi_rm m10_codeLength).cells = 0 ∧ (mi_rm m10_codeLength).slots = 0 ∧ (mi_rm m10_codeLength).locals = 122 ∧ cd10_codeLength 0 = some bb10_codeLength_0 ∧ (mi_rm m10_tellsLength).cells = 0 ∧ (mi_rm m10_tellsLength).slots = 0 := ⟨rfl, rfl, rfl, rfl, rfl, rfl, rfl, rfl, rfl⟩
def bb10_codeLengthByCounting_0 : List PI := [(1, .aload_n 0, 0, 0, 0, 0, kZ), (1, .iload_n 1, 0, 0, 0, 0, kZ), (1, .iload_n 2, 0, 0, 0, 0, kZ), (3, .invokevirtual 210, 2, 10, 0, 0, m10_tellsLength), (1, .ireturn, 0, 0, 0, 0, kZ)]
set_option maxRecDepth 100000 in
theorem oo10_codeLengthByCounting_0 : okL m10_codeLengthByCounting 0 bb10_codeLengthByCounting_0 := okL_of _ _ (by decide +kernel) ⟨trivial, ⟨trivial, ⟨trivial, ⟨⟨mok_m10_tellsLength, ⟨by decide, by decide⟩, rfl, by decide, Or.inl lc_10_210⟩, ⟨trivial, trivial⟩⟩⟩⟩⟩
def cd10_codeLengthByCounting (t : Nat) : Option (List PI) := match t with
  | 0 => some bb10_codeLengthByCounting_0
  | _ => none
theorem kd10_codeLengthByCounting : ∀ t is, cd10_codeLengthByCounting t = some is → okL m10_codeLengthByCounting t is := by
  intro t is h
  unfold cd10_codeLengthByCounting at h
  split at h <;> cases h
  · exact oo10_codeLengthByCounting_0
theorem ff10_codeLengthByCounting : mi_r m10_codeLengthByCounting = (some .int) ∧ mi_l m10_codeLengthByCounting = 3 ∧ mi_h m10_codeLengthByCounting = [] ∧ (mi_rm m10_codeLengthByCounting).cells = 0 ∧ (mi_rm m10_codeLengthByCounting).slots = 0 ∧ (mi_rm m10_codeLengthByCounting).locals = 122 ∧ cd10_codeLengthByCounting 0 = some bb10_codeLengthByCounting_0 ∧ (mi_rm m10_tellsLength).cells = 0 ∧ (mi_rm m10_tellsLength).slots = 0 := ⟨rfl, rfl, rfl, rfl, rfl, rfl, rfl, rfl, rfl⟩
def bb10_modeOf_0 : List PI := [(1, .aload_n 0, 0, 0, 0, 0, kZ), (1, .iconst 0, 0, 0, 0, 0, kZ), (3, .putfield 34, 10, 0, 0, 0, kZ), (1, .aload_n 0, 0, 0, 0, 0, kZ), (1, .iload_n 1, 0, 0, 0, 0, kZ), (3, .invokevirtual 138, 1, 10, 0, 0, m10_isLine), (3, .ifCond .eq 11, 21, 0, 0, 0, kZ), (1, .aload_n 0, 0, 0, 0, 0, kZ), (1, .iload_n 1, 0, 0, 0, 0, kZ), (3, .invokevirtual 73, 1, 10, 0, 0, m10_bestMode), (3, .goto 8, 26, 0, 0, 0, kZ)]
set_option maxRecDepth 100000 in
theorem oo10_modeOf_0 : okL m10_modeOf 0 bb10_modeOf_0 := okL_of _ _ (by decide +kernel) ⟨trivial, ⟨trivial, ⟨lp_10_34 _, ⟨trivial, ⟨trivial, ⟨⟨mok_m10_isLine, ⟨by decide, by decide⟩, rfl, by decide, Or.inl lc_10_138⟩, ⟨rfl, ⟨trivial, ⟨trivial, ⟨⟨mok_m10_bestMode, ⟨by decide, by decide⟩, rfl, by decide, Or.inl lc_10_73⟩, ⟨rfl, trivial⟩⟩⟩⟩⟩⟩⟩⟩⟩⟩⟩
def bb10_modeOf_21 : List PI := [(1, .aload_n 0, 0, 0, 0, 0, kZ), (1, .iconst 1, 0, 0, 0, 0, kZ), (3, .invokevirtual 125, 1, 10, 0, 0, m10_fails)]
set_option maxRecDepth 100000 in
theorem oo10_modeOf_21 : okL m10_modeOf 21 bb10_modeOf_21 := okL_of _ _ (by decide +kernel) ⟨trivial, ⟨trivial, ⟨⟨mok_m10_fails, ⟨by decide, by decide⟩, rfl, by decide, Or.inl lc_10_125⟩, trivial⟩⟩⟩
def bb10_modeOf_26 : List PI := [(1, .ireturn, 0, 0, 0, 0, kZ)]
set_option maxRecDepth 100000 in
theorem oo10_modeOf_26 : okL m10_modeOf 26 bb10_modeOf_26 := okL_of _ _ (by decide +kernel) ⟨trivial, trivial⟩
def cd10_modeOf (t : Nat) : Option (List PI) := match t with
  | 0 => some bb10_modeOf_0
  | 21 => some bb10_modeOf_21
  | 26 => some bb10_modeOf_26
  | _ => none
theorem kd10_modeOf : ∀ t is, cd10_modeOf t = some is → okL m10_modeOf t is := by
  intro t is h
  unfold cd10_modeOf at h
  split at h <;> cases h
  · exact oo10_modeOf_0
  · exact oo10_modeOf_21
  · exact oo10_modeOf_26
theorem ff10_modeOf : mi_r m10_modeOf = (some .int) ∧ mi_l m10_modeOf = 2 ∧ mi_h m10_modeOf = [] ∧ (mi_rm m10_modeOf).cells = 0 ∧ (mi_rm m10_modeOf).slots = 0 ∧ (mi_rm m10_modeOf).locals = 123 ∧ cd10_modeOf 0 = some bb10_modeOf_0 ∧ cd10_modeOf 21 = some bb10_modeOf_21 ∧ cd10_modeOf 26 = some bb10_modeOf_26 ∧ (mi_rm m10_bestMode).cells = 0 ∧ (mi_rm m10_bestMode).slots = 0 ∧ (mi_rm m10_fails).cells = 0 ∧ (mi_rm m10_fails).slots = 0 ∧ (mi_rm m10_isLine).cells = 0 ∧ (mi_rm m10_isLine).slots = 0 := ⟨rfl, rfl, rfl, rfl, rfl, rfl, rfl, rfl, rfl, rfl, rfl, rfl, rfl, rfl, rfl⟩
def bb10_checkOf_0 : List PI := [(1, .aload_n 0, 0, 0, 0, 0, kZ), (1, .iconst 0, 0, 0, 0, 0, kZ), (3, .putfield 34, 10, 0, 0, 0, kZ), (1, .aload_n 0, 0, 0, 0, 0, kZ), (1, .iload_n 1, 0, 0, 0, 0, kZ), (3, .invokevirtual 138, 1, 10, 0, 0, m10_isLine), (3, .ifCond .ne 9, 19, 0, 0, 0, kZ), (1, .aload_n 0, 0, 0, 0, 0, kZ), (1, .iconst 1, 0, 0, 0, 0, kZ), (3, .invokevirtual 125, 1, 10, 0, 0, m10_fails), (1, .ireturn, 0, 0, 0, 0, kZ)]
set_option maxRecDepth 100000 in
theorem oo10_checkOf_0 : okL m10_checkOf 0 bb10_checkOf_0 := okL_of _ _ (by decide +kernel) ⟨trivial, ⟨trivial, ⟨lp_10_34 _, ⟨trivial, ⟨trivial, ⟨⟨mok_m10_isLine, ⟨by decide, by decide⟩, rfl, by decide, Or.inl lc_10_138⟩, ⟨rfl, ⟨trivial, ⟨trivial, ⟨⟨mok_m10_fails, ⟨by decide, by decide⟩, rfl, by decide, Or.inl lc_10_125⟩, ⟨trivial, trivial⟩⟩⟩⟩⟩⟩⟩⟩⟩⟩⟩
def bb10_checkOf_19 : List PI := [(1, .iload_n 2, 0, 0, 0, 0, kZ), (3, .invokestatic 207, 1, 10, 0, 0, m10_isMode), (3, .ifCond .eq 12, 35, 0, 0, 0, kZ), (1, .aload_n 0, 0, 0, 0, 0, kZ), (1, .iload_n 1, 0, 0, 0, 0, kZ), (1, .iload_n 2, 0, 0, 0, 0, kZ), (3, .invokevirtual 213, 2, 10, 0, 0, m10_check), (3, .goto 8, 40, 0, 0, 0, kZ)]
set_option maxRecDepth 100000 in
theorem oo10_checkOf_19 : okL m10_checkOf 19 bb10_checkOf_19 := okL_of _ _ (by decide +kernel) ⟨trivial, ⟨⟨mok_m10_isMode, ⟨by decide, by decide⟩, rfl, Or.inl lc_10_207⟩, ⟨rfl, ⟨trivial, ⟨trivial, ⟨trivial, ⟨⟨mok_m10_check, ⟨by decide, by decide⟩, rfl, by decide, Or.inl lc_10_213⟩, ⟨rfl, trivial⟩⟩⟩⟩⟩⟩⟩⟩
def bb10_checkOf_35 : List PI := [(1, .aload_n 0, 0, 0, 0, 0, kZ), (1, .iconst 2, 0, 0, 0, 0, kZ), (3, .invokevirtual 125, 1, 10, 0, 0, m10_fails)]
set_option maxRecDepth 100000 in
theorem oo10_checkOf_35 : okL m10_checkOf 35 bb10_checkOf_35 := okL_of _ _ (by decide +kernel) ⟨trivial, ⟨trivial, ⟨⟨mok_m10_fails, ⟨by decide, by decide⟩, rfl, by decide, Or.inl lc_10_125⟩, trivial⟩⟩⟩
def bb10_checkOf_40 : List PI := [(1, .ireturn, 0, 0, 0, 0, kZ)]
set_option maxRecDepth 100000 in
theorem oo10_checkOf_40 : okL m10_checkOf 40 bb10_checkOf_40 := okL_of _ _ (by decide +kernel) ⟨trivial, trivial⟩
def cd10_checkOf (t : Nat) : Option (List PI) := match t with
  | 0 => some bb10_checkOf_0
  | 19 => some bb10_checkOf_19
  | 35 => some bb10_checkOf_35
  | 40 => some bb10_checkOf_40
  | _ => none
theorem kd10_checkOf : ∀ t is, cd10_checkOf t = some is → okL m10_checkOf t is := by
  intro t is h
  unfold cd10_checkOf at h
  split at h <;> cases h
  · exact oo10_checkOf_0
  · exact oo10_checkOf_19
  · exact oo10_checkOf_35
  · exact oo10_checkOf_40
theorem ff10_checkOf : mi_r m10_checkOf = (some .int) ∧ mi_l m10_checkOf = 3 ∧ mi_h m10_checkOf = [] ∧ (mi_rm m10_checkOf).cells = 0 ∧ (mi_rm m10_checkOf).slots = 0 ∧ (mi_rm m10_checkOf).locals = 122 ∧ cd10_checkOf 0 = some bb10_checkOf_0 ∧ cd10_checkOf 19 = some bb10_checkOf_19 ∧ cd10_checkOf 35 = some bb10_checkOf_35 ∧ cd10_checkOf 40 = some bb10_checkOf_40 ∧ (mi_rm m10_check).cells = 0 ∧ (mi_rm m10_check).slots = 0 ∧ (mi_rm m10_fails).cells = 0 ∧ (mi_rm m10_fails).slots = 0 ∧ (mi_rm m10_isLine).cells = 0 ∧ (mi_rm m10_isLine).slots = 0 ∧ (mi_rm m10_isMode).cells = 0 ∧ (mi_rm m10_isMode).slots = 0 := ⟨rfl, rfl, rfl, rfl, rfl, rfl, rfl, rfl, rfl, rfl, rfl, rfl, rfl, rfl, rfl, rfl, rfl, rfl⟩
def bb10_wouldSend_0 : List PI := [(1, .aload_n 0, 0, 0, 0, 0, kZ), (1, .iconst 0, 0, 0, 0, 0, kZ), (3, .putfield 34, 10, 0, 0, 0, kZ), (1, .aload_n 0, 0, 0, 0, 0, kZ), (3, .invokevirtual 216, 0, 10, 0, 0, m10_sendsMany), (1, .ireturn, 0, 0, 0, 0, kZ)]
set_option maxRecDepth 100000 in
theorem oo10_wouldSend_0 : okL m10_wouldSend 0 bb10_wouldSend_0 := okL_of _ _ (by decide +kernel) ⟨trivial, ⟨trivial, ⟨lp_10_34 _, ⟨trivial, ⟨⟨mok_m10_sendsMany, ⟨by decide, by decide⟩, rfl, by decide, Or.inl lc_10_216⟩, ⟨trivial, trivial⟩⟩⟩⟩⟩⟩
def cd10_wouldSend (t : Nat) : Option (List PI) := match t with
  | 0 => some bb10_wouldSend_0
  | _ => none
theorem kd10_wouldSend : ∀ t is, cd10_wouldSend t = some is → okL m10_wouldSend t is := by
  intro t is h
  unfold cd10_wouldSend at h
  split at h <;> cases h
  · exact oo10_wouldSend_0
theorem ff10_wouldSend : mi_r m10_wouldSend = (some .int) ∧ mi_l m10_wouldSend = 1 ∧ mi_h m10_wouldSend = [] ∧ (mi_rm m10_wouldSend).cells = 0 ∧ (mi_rm m10_wouldSend).slots = 0 ∧ (mi_rm m10_wouldSend).locals = 145 ∧ cd10_wouldSend 0 = some bb10_wouldSend_0 ∧ (mi_rm m10_sendsMany).cells = 0 ∧ (mi_rm m10_sendsMany).slots = 0 := ⟨rfl, rfl, rfl, rfl, rfl, rfl, rfl, rfl, rfl⟩
def bb10_streamLength_0 : List PI := [(1, .aload_n 0, 0, 0, 0, 0, kZ), (1, .iconst 0, 0, 0, 0, 0, kZ), (3, .putfield 34, 10, 0, 0, 0, kZ), (1, .aload_n 0, 0, 0, 0, 0, kZ), (3, .getfield 7, 10, 1, 0, 0, kZ), (1, .iconst 3, 0, 0, 0, 0, kZ), (1, .iaload, 0, 0, 0, 0, kZ), (1, .ireturn, 0, 0, 0, 0, kZ)]
set_option maxRecDepth 100000 in
theorem oo10_streamLength_0 : okL m10_streamLength 0 bb10_streamLength_0 := okL_of _ _ (by decide +kernel) ⟨trivial, ⟨trivial, ⟨lp_10_34 _, ⟨trivial, ⟨lf_10_7, ⟨trivial, ⟨trivial, ⟨trivial, trivial⟩⟩⟩⟩⟩⟩⟩⟩
def cd10_streamLength (t : Nat) : Option (List PI) := match t with
  | 0 => some bb10_streamLength_0
  | _ => none
theorem kd10_streamLength : ∀ t is, cd10_streamLength t = some is → okL m10_streamLength t is := by
  intro t is h
  unfold cd10_streamLength at h
  split at h <;> cases h
  · exact oo10_streamLength_0
theorem ff10_streamLength : mi_r m10_streamLength = (some .int) ∧ mi_l m10_streamLength = 1 ∧ mi_h m10_streamLength = [] ∧ (mi_rm m10_streamLength).cells = 0 ∧ (mi_rm m10_streamLength).slots = 0 ∧ (mi_rm m10_streamLength).locals = 32 ∧ cd10_streamLength 0 = some bb10_streamLength_0 := ⟨rfl, rfl, rfl, rfl, rfl, rfl, rfl⟩
def bb10_numberAt_0 : List PI := [(1, .aload_n 0, 0, 0, 0, 0, kZ), (1, .iconst 0, 0, 0, 0, 0, kZ), (3, .putfield 34, 10, 0, 0, 0, kZ), (1, .aload_n 0, 0, 0, 0, 0, kZ), (1, .iload_n 1, 0, 0, 0, 0, kZ), (3, .invokevirtual 148, 1, 10, 0, 0, m10_isPlace), (3, .ifCond .eq 15, 25, 0, 0, 0, kZ), (1, .aload_n 0, 0, 0, 0, 0, kZ), (3, .getfield 7, 10, 1, 0, 0, kZ), (2, .bipush 68, 0, 0, 0, 0, kZ), (1, .iload_n 1, 0, 0, 0, 0, kZ), (1, .iadd, 0, 0, 0, 0, kZ), (1, .iaload, 0, 0, 0, 0, kZ), (3, .goto 8, 30, 0, 0, 0, kZ)]
set_option maxRecDepth 100000 in
theorem oo10_numberAt_0 : okL m10_numberAt 0 bb10_numberAt_0 := okL_of _ _ (by decide +kernel) ⟨trivial, ⟨trivial, ⟨lp_10_34 _, ⟨trivial, ⟨trivial, ⟨⟨mok_m10_isPlace, ⟨by decide, by decide⟩, rfl, by decide, Or.inl lc_10_148⟩, ⟨rfl, ⟨trivial, ⟨lf_10_7, ⟨trivial, ⟨trivial, ⟨trivial, ⟨trivial, ⟨rfl, trivial⟩⟩⟩⟩⟩⟩⟩⟩⟩⟩⟩⟩⟩⟩
def bb10_numberAt_25 : List PI := [(1, .aload_n 0, 0, 0, 0, 0, kZ), (1, .iconst 1, 0, 0, 0, 0, kZ), (3, .invokevirtual 125, 1, 10, 0, 0, m10_fails)]
set_option maxRecDepth 100000 in
theorem oo10_numberAt_25 : okL m10_numberAt 25 bb10_numberAt_25 := okL_of _ _ (by decide +kernel) ⟨trivial, ⟨trivial, ⟨⟨mok_m10_fails, ⟨by decide, by decide⟩, rfl, by decide, Or.inl lc_10_125⟩, trivial⟩⟩⟩
def bb10_numberAt_30 : List PI := [(1, .ireturn, 0, 0, 0, 0, kZ)]
set_option maxRecDepth 100000 in
theorem oo10_numberAt_30 : okL m10_numberAt 30 bb10_numberAt_30 := okL_of _ _ (by decide +kernel) ⟨trivial, trivial⟩
def cd10_numberAt (t : Nat) : Option (List PI) := match t with
  | 0 => some bb10_numberAt_0
  | 25 => some bb10_numberAt_25
  | 30 => some bb10_numberAt_30
  | _ => none
theorem kd10_numberAt : ∀ t is, cd10_numberAt t = some is → okL m10_numberAt t is := by
  intro t is h
  unfold cd10_numberAt at h
  split at h <;> cases h
  · exact oo10_numberAt_0
  · exact oo10_numberAt_25
  · exact oo10_numberAt_30
theorem ff10_numberAt : mi_r m10_numberAt = (some .int) ∧ mi_l m10_numberAt = 2 ∧ mi_h m10_numberAt = [] ∧ (mi_rm m10_numberAt).cells = 0 ∧ (mi_rm m10_numberAt).slots = 0 ∧ (mi_rm m10_numberAt).locals = 75 ∧ cd10_numberAt 0 = some bb10_numberAt_0 ∧ cd10_numberAt 25 = some bb10_numberAt_25 ∧ cd10_numberAt 30 = some bb10_numberAt_30 ∧ (mi_rm m10_fails).cells = 0 ∧ (mi_rm m10_fails).slots = 0 ∧ (mi_rm m10_isPlace).cells = 0 ∧ (mi_rm m10_isPlace).slots = 0 := ⟨rfl, rfl, rfl, rfl, rfl, rfl, rfl, rfl, rfl, rfl, rfl, rfl, rfl⟩
def bb10_markerMany_0 : List PI := [(1, .iconst 0, 0, 0, 0, 0, kZ), (1, .istore_n 1, 0, 0, 0, 0, kZ), (1, .iconst 0, 0, 0, 0, 0, kZ), (1, .istore_n 2, 0, 0, 0, 0, kZ)]
set_option maxRecDepth 100000 in
theorem oo10_markerMany_0 : okL m10_markerMany 0 bb10_markerMany_0 := okL_of _ _ (by decide +kernel) ⟨trivial, ⟨trivial, ⟨trivial, ⟨trivial, trivial⟩⟩⟩⟩
def bb10_markerMany_4 : List PI := [(1, .iload_n 2, 0, 0, 0, 0, kZ), (1, .aload_n 0, 0, 0, 0, 0, kZ), (3, .getfield 7, 10, 1, 0, 0, kZ), (1, .iconst 3, 0, 0, 0, 0, kZ), (1, .iaload, 0, 0, 0, 0, kZ), (3, .if_icmp .ge 25, 36, 0, 0, 0, kZ), (1, .iload_n 1, 0, 0, 0, 0, kZ), (1, .aload_n 0, 0, 0, 0, 0, kZ), (1, .iload_n 2, 0, 0, 0, 0, kZ), (3, .invokevirtual 111, 1, 10, 0, 0, m10_isMarker), (3, .ifCond .eq 7, 27, 0, 0, 0, kZ), (1, .iconst 1, 0, 0, 0, 0, kZ), (3, .goto 4, 28, 0, 0, 0, kZ)]
set_option maxRecDepth 100000 in
theorem oo10_markerMany_4 : okL m10_markerMany 4 bb10_markerMany_4 := okL_of _ _ (by decide +kernel) ⟨trivial, ⟨trivial, ⟨lf_10_7, ⟨trivial, ⟨trivial, ⟨rfl, ⟨trivial, ⟨trivial, ⟨trivial, ⟨⟨mok_m10_isMarker, ⟨by decide, by decide⟩, rfl, by decide, Or.inl lc_10_111⟩, ⟨rfl, ⟨trivial, ⟨rfl, trivial⟩⟩⟩⟩⟩⟩⟩⟩⟩⟩⟩⟩⟩
def bb10_markerMany_27 : List PI := [(1, .iconst 0, 0, 0, 0, 0, kZ)]
set_option maxRecDepth 100000 in
theorem oo10_markerMany_27 : okL m10_markerMany 27 bb10_markerMany_27 := okL_of _ _ (by decide +kernel) ⟨trivial, trivial⟩
def bb10_markerMany_28 : List PI := [(1, .iadd, 0, 0, 0, 0, kZ), (1, .istore_n 1, 0, 0, 0, 0, kZ), (3, .iinc 2 1, 0, 0, 0, 0, kZ), (3, .goto (-29), 4, 0, 0, 0, kZ)]
set_option maxRecDepth 100000 in
theorem oo10_markerMany_28 : okL m10_markerMany 28 bb10_markerMany_28 := okL_of _ _ (by decide +kernel) ⟨trivial, ⟨trivial, ⟨trivial, ⟨rfl, trivial⟩⟩⟩⟩
def bb10_markerMany_36 : List PI := [(1, .iload_n 1, 0, 0, 0, 0, kZ), (1, .ireturn, 0, 0, 0, 0, kZ)]
set_option maxRecDepth 100000 in
theorem oo10_markerMany_36 : okL m10_markerMany 36 bb10_markerMany_36 := okL_of _ _ (by decide +kernel) ⟨trivial, ⟨trivial, trivial⟩⟩
def cd10_markerMany (t : Nat) : Option (List PI) := match t with
  | 0 => some bb10_markerMany_0
  | 27 => some bb10_markerMany_27
  | 28 => some bb10_markerMany_28
  | 36 => some bb10_markerMany_36
  | _ => none
theorem kd10_markerMany : ∀ t is, cd10_markerMany t = some is → okL m10_markerMany t is := by
  intro t is h
  unfold cd10_markerMany at h
  split at h <;> cases h
  · exact oo10_markerMany_0
  · exact oo10_markerMany_27
  · exact oo10_markerMany_28
  · exact oo10_markerMany_36
theorem ff10_markerMany : mi_r m10_markerMany = (some .int) ∧ mi_l m10_markerMany = 3 ∧ mi_h m10_markerMany = [] ∧ (mi_rm m10_markerMany).cells = 0 ∧ (mi_rm m10_markerMany).slots = 0 ∧ (mi_rm m10_markerMany).locals = 74 ∧ cd10_markerMany 0 = some bb10_markerMany_0 ∧ cd10_markerMany 4 = none ∧ cd10_markerMany 27 = some bb10_markerMany_27 ∧ cd10_markerMany 28 = some bb10_markerMany_28 ∧ cd10_markerMany 36 = some bb10_markerMany_36 ∧ (mi_rm m10_isMarker).cells = 0 ∧ (mi_rm m10_isMarker).slots = 0 := ⟨rfl, rfl, rfl, rfl, rfl, rfl, rfl, rfl, rfl, rfl, rfl, rfl, rfl⟩
def bb10_markers_0 : List PI := [(1, .aload_n 0, 0, 0, 0, 0, kZ), (1, .iconst 0, 0, 0, 0, 0, kZ), (3, .putfield 34, 10, 0, 0, 0, kZ), (1, .aload_n 0, 0, 0, 0, 0, kZ), (3, .invokevirtual 219, 0, 10, 0, 0, m10_markerMany), (1, .ireturn, 0, 0, 0, 0, kZ)]
set_option maxRecDepth 100000 in
theorem oo10_markers_0 : okL m10_markers 0 bb10_markers_0 := okL_of _ _ (by decide +kernel) ⟨trivial, ⟨trivial, ⟨lp_10_34 _, ⟨trivial, ⟨⟨mok_m10_markerMany, ⟨by decide, by decide⟩, rfl, by decide, Or.inl lc_10_219⟩, ⟨trivial, trivial⟩⟩⟩⟩⟩⟩
def cd10_markers (t : Nat) : Option (List PI) := match t with
  | 0 => some bb10_markers_0
  | _ => none
theorem kd10_markers : ∀ t is, cd10_markers t = some is → okL m10_markers t is := by
  intro t is h
  unfold cd10_markers at h
  split at h <;> cases h
  · exact oo10_markers_0
theorem ff10_markers : mi_r m10_markers = (some .int) ∧ mi_l m10_markers = 1 ∧ mi_h m10_markers = [] ∧ (mi_rm m10_markers).cells = 0 ∧ (mi_rm m10_markers).slots = 0 ∧ (mi_rm m10_markers).locals = 96 ∧ cd10_markers 0 = some bb10_markers_0 ∧ (mi_rm m10_markerMany).cells = 0 ∧ (mi_rm m10_markerMany).slots = 0 := ⟨rfl, rfl, rfl, rfl, rfl, rfl, rfl, rfl, rfl⟩
def bb10_isAnyLine_0 : List PI := [(1, .iload_n 0, 0, 0, 0, 0, kZ), (1, .iconst 0, 0, 0, 0, 0, kZ), (2, .bipush 9, 0, 0, 0, 0, kZ), (3, .invokestatic 38, 3, 10, 0, 0, m10_in), (1, .ireturn, 0, 0, 0, 0, kZ)]
set_option maxRecDepth 100000 in
theorem oo10_isAnyLine_0 : okL m10_isAnyLine 0 bb10_isAnyLine_0 := okL_of _ _ (by decide +kernel) ⟨trivial, ⟨trivial, ⟨trivial, ⟨⟨mok_m10_in, ⟨by decide, by decide⟩, rfl, Or.inl lc_10_38⟩, ⟨trivial, trivial⟩⟩⟩⟩⟩
def cd10_isAnyLine (t : Nat) : Option (List PI) := match t with
  | 0 => some bb10_isAnyLine_0
  | _ => none
theorem kd10_isAnyLine : ∀ t is, cd10_isAnyLine t = some is → okL m10_isAnyLine t is := by
  intro t is h
  unfold cd10_isAnyLine at h
  split at h <;> cases h
  · exact oo10_isAnyLine_0
theorem ff10_isAnyLine : mi_r m10_isAnyLine = (some .boolean) ∧ mi_l m10_isAnyLine = 1 ∧ mi_h m10_isAnyLine = [] ∧ (mi_rm m10_isAnyLine).cells = 0 ∧ (mi_rm m10_isAnyLine).slots = 0 ∧ (mi_rm m10_isAnyLine).locals = 54 ∧ cd10_isAnyLine 0 = some bb10_isAnyLine_0 ∧ (mi_rm m10_in).cells = 0 ∧ (mi_rm m10_in).slots = 0 := ⟨rfl, rfl, rfl, rfl, rfl, rfl, rfl, rfl, rfl⟩
def bb10_isGot_0 : List PI := [(1, .aload_n 0, 0, 0, 0, 0, kZ), (3, .getfield 7, 10, 1, 0, 0, kZ), (1, .iconst 4, 0, 0, 0, 0, kZ), (1, .iaload, 0, 0, 0, 0, kZ), (1, .iload_n 1, 0, 0, 0, 0, kZ), (1, .ishr, 0, 0, 0, 0, kZ), (1, .iconst 1, 0, 0, 0, 0, kZ), (1, .iand, 0, 0, 0, 0, kZ), (1, .iconst 1, 0, 0, 0, 0, kZ), (3, .if_icmp .ne 7, 18, 0, 0, 0, kZ), (1, .iconst 1, 0, 0, 0, 0, kZ), (3, .goto 4, 19, 0, 0, 0, kZ)]
set_option maxRecDepth 100000 in
theorem oo10_isGot_0 : okL m10_isGot 0 bb10_isGot_0 := okL_of _ _ (by decide +kernel) ⟨trivial, ⟨lf_10_7, ⟨trivial, ⟨trivial, ⟨trivial, ⟨trivial, ⟨trivial, ⟨trivial, ⟨trivial, ⟨rfl, ⟨trivial, ⟨rfl, trivial⟩⟩⟩⟩⟩⟩⟩⟩⟩⟩⟩⟩
def bb10_isGot_18 : List PI := [(1, .iconst 0, 0, 0, 0, 0, kZ)]
set_option maxRecDepth 100000 in
theorem oo10_isGot_18 : okL m10_isGot 18 bb10_isGot_18 := okL_of _ _ (by decide +kernel) ⟨trivial, trivial⟩
def bb10_isGot_19 : List PI := [(1, .ireturn, 0, 0, 0, 0, kZ)]
set_option maxRecDepth 100000 in
theorem oo10_isGot_19 : okL m10_isGot 19 bb10_isGot_19 := okL_of _ _ (by decide +kernel) ⟨trivial, trivial⟩
def cd10_isGot (t : Nat) : Option (List PI) := match t with
  | 0 => some bb10_isGot_0
  | 18 => some bb10_isGot_18
  | 19 => some bb10_isGot_19
  | _ => none
theorem kd10_isGot : ∀ t is, cd10_isGot t = some is → okL m10_isGot t is := by
  intro t is h
  unfold cd10_isGot at h
  split at h <;> cases h
  · exact oo10_isGot_0
  · exact oo10_isGot_18
  · exact oo10_isGot_19
theorem ff10_isGot : mi_r m10_isGot = (some .boolean) ∧ mi_l m10_isGot = 2 ∧ mi_h m10_isGot = [] ∧ (mi_rm m10_isGot).cells = 0 ∧ (mi_rm m10_isGot).slots = 0 ∧ (mi_rm m10_isGot).locals = 32 ∧ cd10_isGot 0 = some bb10_isGot_0 ∧ cd10_isGot 18 = some bb10_isGot_18 ∧ cd10_isGot 19 = some bb10_isGot_19 := ⟨rfl, rfl, rfl, rfl, rfl, rfl, rfl, rfl, rfl⟩
def bb10_isReceived_0 : List PI := [(1, .aload_n 0, 0, 0, 0, 0, kZ), (1, .iconst 0, 0, 0, 0, 0, kZ), (3, .putfield 34, 10, 0, 0, 0, kZ), (1, .iload_n 1, 0, 0, 0, 0, kZ), (3, .invokestatic 222, 1, 10, 0, 0, m10_isAnyLine), (3, .ifCond .eq 11, 20, 0, 0, 0, kZ), (1, .aload_n 0, 0, 0, 0, 0, kZ), (1, .iload_n 1, 0, 0, 0, 0, kZ), (3, .invokevirtual 225, 1, 10, 0, 0, m10_isGot), (3, .goto 16, 33, 0, 0, 0, kZ)]
set_option maxRecDepth 100000 in
theorem oo10_isReceived_0 : okL m10_isReceived 0 bb10_isReceived_0 := okL_of _ _ (by decide +kernel) ⟨trivial, ⟨trivial, ⟨lp_10_34 _, ⟨trivial, ⟨⟨mok_m10_isAnyLine, ⟨by decide, by decide⟩, rfl, Or.inl lc_10_222⟩, ⟨rfl, ⟨trivial, ⟨trivial, ⟨⟨mok_m10_isGot, ⟨by decide, by decide⟩, rfl, by decide, Or.inl lc_10_225⟩, ⟨rfl, trivial⟩⟩⟩⟩⟩⟩⟩⟩⟩⟩
def bb10_isReceived_20 : List PI := [(1, .aload_n 0, 0, 0, 0, 0, kZ), (1, .iconst 1, 0, 0, 0, 0, kZ), (3, .invokevirtual 125, 1, 10, 0, 0, m10_fails), (3, .ifCond .le 7, 32, 0, 0, 0, kZ), (1, .iconst 1, 0, 0, 0, 0, kZ), (3, .goto 4, 33, 0, 0, 0, kZ)]
set_option maxRecDepth 100000 in
theorem oo10_isReceived_20 : okL m10_isReceived 20 bb10_isReceived_20 := okL_of _ _ (by decide +kernel) ⟨trivial, ⟨trivial, ⟨⟨mok_m10_fails, ⟨by decide, by decide⟩, rfl, by decide, Or.inl lc_10_125⟩, ⟨rfl, ⟨trivial, ⟨rfl, trivial⟩⟩⟩⟩⟩⟩
def bb10_isReceived_32 : List PI := [(1, .iconst 0, 0, 0, 0, 0, kZ)]
set_option maxRecDepth 100000 in
theorem oo10_isReceived_32 : okL m10_isReceived 32 bb10_isReceived_32 := okL_of _ _ (by decide +kernel) ⟨trivial, trivial⟩
def bb10_isReceived_33 : List PI := [(1, .ireturn, 0, 0, 0, 0, kZ)]
set_option maxRecDepth 100000 in
theorem oo10_isReceived_33 : okL m10_isReceived 33 bb10_isReceived_33 := okL_of _ _ (by decide +kernel) ⟨trivial, trivial⟩
def cd10_isReceived (t : Nat) : Option (List PI) := match t with
  | 0 => some bb10_isReceived_0
  | 20 => some bb10_isReceived_20
  | 32 => some bb10_isReceived_32
  | 33 => some bb10_isReceived_33
  | _ => none
theorem kd10_isReceived : ∀ t is, cd10_isReceived t = some is → okL m10_isReceived t is := by
  intro t is h
  unfold cd10_isReceived at h
  split at h <;> cases h
  · exact oo10_isReceived_0
  · exact oo10_isReceived_20
  · exact oo10_isReceived_32
  · exact oo10_isReceived_33
theorem ff10_isReceived : mi_r m10_isReceived = (some .boolean) ∧ mi_l m10_isReceived = 2 ∧ mi_h m10_isReceived = [] ∧ (mi_rm m10_isReceived).cells = 0 ∧ (mi_rm m10_isReceived).slots = 0 ∧ (mi_rm m10_isReceived).locals = 74 ∧ cd10_isReceived 0 = some bb10_isReceived_0 ∧ cd10_isReceived 20 = some bb10_isReceived_20 ∧ cd10_isReceived 32 = some bb10_isReceived_32 ∧ cd10_isReceived 33 = some bb10_isReceived_33 ∧ (mi_rm m10_fails).cells = 0 ∧ (mi_rm m10_fails).slots = 0 ∧ (mi_rm m10_isAnyLine).cells = 0 ∧ (mi_rm m10_isAnyLine).slots = 0 ∧ (mi_rm m10_isGot).cells = 0 ∧ (mi_rm m10_isGot).slots = 0 := ⟨rfl, rfl, rfl, rfl, rfl, rfl, rfl, rfl, rfl, rfl, rfl, rfl, rfl, rfl, rfl, rfl⟩
def bb10_receivedPixels_0 : List PI := [(1, .aload_n 0, 0, 0, 0, 0, kZ), (1, .iconst 0, 0, 0, 0, 0, kZ), (3, .putfield 34, 10, 0, 0, 0, kZ), (1, .iload_n 1, 0, 0, 0, 0, kZ), (3, .invokestatic 222, 1, 10, 0, 0, m10_isAnyLine), (3, .ifCond .ne 10, 19, 0, 0, 0, kZ), (1, .aload_n 0, 0, 0, 0, 0, kZ), (1, .iconst 1, 0, 0, 0, 0, kZ), (3, .invokevirtual 125, 1, 10, 0, 0, m10_fails), (1, .i2l, 0, 0, 0, 0, kZ), (1, .lreturn, 0, 0, 0, 0, kZ)]
set_option maxRecDepth 100000 in
theorem oo10_receivedPixels_0 : okL m10_receivedPixels 0 bb10_receivedPixels_0 := okL_of _ _ (by decide +kernel) ⟨trivial, ⟨trivial, ⟨lp_10_34 _, ⟨trivial, ⟨⟨mok_m10_isAnyLine, ⟨by decide, by decide⟩, rfl, Or.inl lc_10_222⟩, ⟨rfl, ⟨trivial, ⟨trivial, ⟨⟨mok_m10_fails, ⟨by decide, by decide⟩, rfl, by decide, Or.inl lc_10_125⟩, ⟨trivial, ⟨rfl, trivial⟩⟩⟩⟩⟩⟩⟩⟩⟩⟩⟩
def bb10_receivedPixels_19 : List PI := [(1, .aload_n 0, 0, 0, 0, 0, kZ), (1, .iload_n 1, 0, 0, 0, 0, kZ), (3, .invokevirtual 225, 1, 10, 0, 0, m10_isGot), (3, .ifCond .eq 18, 42, 0, 0, 0, kZ), (1, .aload_n 0, 0, 0, 0, 0, kZ), (3, .getfield 7, 10, 1, 0, 0, kZ), (2, .bipush 18, 0, 0, 0, 0, kZ), (1, .iload_n 1, 0, 0, 0, 0, kZ), (1, .iadd, 0, 0, 0, 0, kZ), (1, .iaload, 0, 0, 0, 0, kZ), (3, .invokestatic 141, 1, 10, 0, 0, m10_asLong), (3, .goto 9, 48, 0, 0, 0, kZ)]
set_option maxRecDepth 100000 in
theorem oo10_receivedPixels_19 : okL m10_receivedPixels 19 bb10_receivedPixels_19 := okL_of _ _ (by decide +kernel) ⟨trivial, ⟨trivial, ⟨⟨mok_m10_isGot, ⟨by decide, by decide⟩, rfl, by decide, Or.inl lc_10_225⟩, ⟨rfl, ⟨trivial, ⟨lf_10_7, ⟨trivial, ⟨trivial, ⟨trivial, ⟨trivial, ⟨⟨mok_m10_asLong, ⟨by decide, by decide⟩, rfl, Or.inl lc_10_141⟩, ⟨rfl, trivial⟩⟩⟩⟩⟩⟩⟩⟩⟩⟩⟩⟩
def bb10_receivedPixels_42 : List PI := [(1, .aload_n 0, 0, 0, 0, 0, kZ), (1, .iconst 2, 0, 0, 0, 0, kZ), (3, .invokevirtual 125, 1, 10, 0, 0, m10_fails), (1, .i2l, 0, 0, 0, 0, kZ)]
set_option maxRecDepth 100000 in
theorem oo10_receivedPixels_42 : okL m10_receivedPixels 42 bb10_receivedPixels_42 := okL_of _ _ (by decide +kernel) ⟨trivial, ⟨trivial, ⟨⟨mok_m10_fails, ⟨by decide, by decide⟩, rfl, by decide, Or.inl lc_10_125⟩, ⟨trivial, trivial⟩⟩⟩⟩
def bb10_receivedPixels_48 : List PI := [(1, .lreturn, 0, 0, 0, 0, kZ)]
set_option maxRecDepth 100000 in
theorem oo10_receivedPixels_48 : okL m10_receivedPixels 48 bb10_receivedPixels_48 := okL_of _ _ (by decide +kernel) ⟨rfl, trivial⟩
def cd10_receivedPixels (t : Nat) : Option (List PI) := match t with
  | 0 => some bb10_receivedPixels_0
  | 19 => some bb10_receivedPixels_19
  | 42 => some bb10_receivedPixels_42
  | 48 => some bb10_receivedPixels_48
  | _ => none
theorem kd10_receivedPixels : ∀ t is, cd10_receivedPixels t = some is → okL m10_receivedPixels t is := by
  intro t is h
  unfold cd10_receivedPixels at h
  split at h <;> cases h
  · exact oo10_receivedPixels_0
  · exact oo10_receivedPixels_19
  · exact oo10_receivedPixels_42
  · exact oo10_receivedPixels_48
theorem ff10_receivedPixels : mi_r m10_receivedPixels = (some .long) ∧ mi_l m10_receivedPixels = 2 ∧ mi_h m10_receivedPixels = [] ∧ (mi_rm m10_receivedPixels).cells = 0 ∧ (mi_rm m10_receivedPixels).slots = 0 ∧ (mi_rm m10_receivedPixels).locals = 74 ∧ cd10_receivedPixels 0 = some bb10_receivedPixels_0 ∧ cd10_receivedPixels 19 = some bb10_receivedPixels_19 ∧ cd10_receivedPixels 42 = some bb10_receivedPixels_42 ∧ cd10_receivedPixels 48 = some bb10_receivedPixels_48 ∧ (mi_rm m10_asLong).cells = 0 ∧ (mi_rm m10_asLong).slots = 0 ∧ (mi_rm m10_fails).cells = 0 ∧ (mi_rm m10_fails).slots = 0 ∧ (mi_rm m10_isAnyLine).cells = 0 ∧ (mi_rm m10_isAnyLine).slots = 0 ∧ (mi_rm m10_isGot).cells = 0 ∧ (mi_rm m10_isGot).slots = 0 := ⟨rfl, rfl, rfl, rfl, rfl, rfl, rfl, rfl, rfl, rfl, rfl, rfl, rfl, rfl, rfl, rfl, rfl, rfl⟩
def bb10_received_0 : List PI := [(1, .aload_n 0, 0, 0, 0, 0, kZ), (1, .iconst 0, 0, 0, 0, 0, kZ), (3, .putfield 34, 10, 0, 0, 0, kZ), (1, .aload_n 0, 0, 0, 0, 0, kZ), (3, .invokevirtual 122, 0, 10, 0, 0, m10_gotMany), (1, .ireturn, 0, 0, 0, 0, kZ)]
set_option maxRecDepth 100000 in
theorem oo10_received_0 : okL m10_received 0 bb10_received_0 := okL_of _ _ (by decide +kernel) ⟨trivial, ⟨trivial, ⟨lp_10_34 _, ⟨trivial, ⟨⟨mok_m10_gotMany, ⟨by decide, by decide⟩, rfl, by decide, Or.inl lc_10_122⟩, ⟨trivial, trivial⟩⟩⟩⟩⟩⟩
def cd10_received (t : Nat) : Option (List PI) := match t with
  | 0 => some bb10_received_0
  | _ => none
theorem kd10_received : ∀ t is, cd10_received t = some is → okL m10_received t is := by
  intro t is h
  unfold cd10_received at h
  split at h <;> cases h
  · exact oo10_received_0
theorem ff10_received : mi_r m10_received = (some .int) ∧ mi_l m10_received = 1 ∧ mi_h m10_received = [] ∧ (mi_rm m10_received).cells = 0 ∧ (mi_rm m10_received).slots = 0 ∧ (mi_rm m10_received).locals = 74 ∧ cd10_received 0 = some bb10_received_0 ∧ (mi_rm m10_gotMany).cells = 0 ∧ (mi_rm m10_gotMany).slots = 0 := ⟨rfl, rfl, rfl, rfl, rfl, rfl, rfl, rfl, rfl⟩
def bb10_right_0 : List PI := [(1, .aload_n 0, 0, 0, 0, 0, kZ), (1, .iconst 0, 0, 0, 0, 0, kZ), (3, .putfield 34, 10, 0, 0, 0, kZ), (1, .aload_n 0, 0, 0, 0, 0, kZ), (3, .invokevirtual 228, 0, 10, 0, 0, m10_rightMany), (1, .ireturn, 0, 0, 0, 0, kZ)]
set_option maxRecDepth 100000 in
theorem oo10_right_0 : okL m10_right 0 bb10_right_0 := okL_of _ _ (by decide +kernel) ⟨trivial, ⟨trivial, ⟨lp_10_34 _, ⟨trivial, ⟨⟨mok_m10_rightMany, ⟨by decide, by decide⟩, rfl, by decide, Or.inl lc_10_228⟩, ⟨trivial, trivial⟩⟩⟩⟩⟩⟩
def cd10_right (t : Nat) : Option (List PI) := match t with
  | 0 => some bb10_right_0
  | _ => none
theorem kd10_right : ∀ t is, cd10_right t = some is → okL m10_right t is := by
  intro t is h
  unfold cd10_right at h
  split at h <;> cases h
  · exact oo10_right_0
theorem ff10_right : mi_r m10_right = (some .int) ∧ mi_l m10_right = 1 ∧ mi_h m10_right = [] ∧ (mi_rm m10_right).cells = 0 ∧ (mi_rm m10_right).slots = 0 ∧ (mi_rm m10_right).locals = 54 ∧ cd10_right 0 = some bb10_right_0 ∧ (mi_rm m10_rightMany).cells = 0 ∧ (mi_rm m10_rightMany).slots = 0 := ⟨rfl, rfl, rfl, rfl, rfl, rfl, rfl, rfl, rfl⟩
def bb10_errors_0 : List PI := [(1, .aload_n 0, 0, 0, 0, 0, kZ), (1, .iconst 0, 0, 0, 0, 0, kZ), (3, .putfield 34, 10, 0, 0, 0, kZ), (1, .aload_n 0, 0, 0, 0, 0, kZ), (3, .getfield 7, 10, 1, 0, 0, kZ), (1, .iconst 5, 0, 0, 0, 0, kZ), (1, .iaload, 0, 0, 0, 0, kZ), (1, .ireturn, 0, 0, 0, 0, kZ)]
set_option maxRecDepth 100000 in
theorem oo10_errors_0 : okL m10_errors 0 bb10_errors_0 := okL_of _ _ (by decide +kernel) ⟨trivial, ⟨trivial, ⟨lp_10_34 _, ⟨trivial, ⟨lf_10_7, ⟨trivial, ⟨trivial, ⟨trivial, trivial⟩⟩⟩⟩⟩⟩⟩⟩
def cd10_errors (t : Nat) : Option (List PI) := match t with
  | 0 => some bb10_errors_0
  | _ => none
theorem kd10_errors : ∀ t is, cd10_errors t = some is → okL m10_errors t is := by
  intro t is h
  unfold cd10_errors at h
  split at h <;> cases h
  · exact oo10_errors_0
theorem ff10_errors : mi_r m10_errors = (some .int) ∧ mi_l m10_errors = 1 ∧ mi_h m10_errors = [] ∧ (mi_rm m10_errors).cells = 0 ∧ (mi_rm m10_errors).slots = 0 ∧ (mi_rm m10_errors).locals = 32 ∧ cd10_errors 0 = some bb10_errors_0 := ⟨rfl, rfl, rfl, rfl, rfl, rfl, rfl⟩
def bb10_error_0 : List PI := [(1, .aload_n 0, 0, 0, 0, 0, kZ), (1, .iconst 0, 0, 0, 0, 0, kZ), (3, .putfield 34, 10, 0, 0, 0, kZ), (1, .iload_n 1, 0, 0, 0, 0, kZ), (1, .iconst 0, 0, 0, 0, 0, kZ), (1, .aload_n 0, 0, 0, 0, 0, kZ), (3, .getfield 7, 10, 1, 0, 0, kZ), (1, .iconst 5, 0, 0, 0, 0, kZ), (1, .iaload, 0, 0, 0, 0, kZ), (1, .iconst 1, 0, 0, 0, 0, kZ), (1, .isub, 0, 0, 0, 0, kZ), (3, .invokestatic 38, 3, 10, 0, 0, m10_in), (3, .ifCond .eq 19, 37, 0, 0, 0, kZ), (1, .aload_n 0, 0, 0, 0, 0, kZ), (3, .getfield 7, 10, 1, 0, 0, kZ), (2, .bipush 28, 0, 0, 0, 0, kZ), (1, .iconst 2, 0, 0, 0, 0, kZ), (1, .iload_n 1, 0, 0, 0, 0, kZ), (1, .imul, 0, 0, 0, 0, kZ), (1, .iadd, 0, 0, 0, 0, kZ), (1, .iload_n 2, 0, 0, 0, 0, kZ), (1, .iadd, 0, 0, 0, 0, kZ), (1, .iaload, 0, 0, 0, 0, kZ), (3, .goto 8, 42, 0, 0, 0, kZ)]
set_option maxRecDepth 100000 in
theorem oo10_error_0 : okL m10_error 0 bb10_error_0 := okL_of _ _ (by decide +kernel) ⟨trivial, ⟨trivial, ⟨lp_10_34 _, ⟨trivial, ⟨trivial, ⟨trivial, ⟨lf_10_7, ⟨trivial, ⟨trivial, ⟨trivial, ⟨trivial, ⟨⟨mok_m10_in, ⟨by decide, by decide⟩, rfl, Or.inl lc_10_38⟩, ⟨rfl, ⟨trivial, ⟨lf_10_7, ⟨trivial, ⟨trivial, ⟨trivial, ⟨trivial, ⟨trivial, ⟨trivial, ⟨trivial, ⟨trivial, ⟨rfl, trivial⟩⟩⟩⟩⟩⟩⟩⟩⟩⟩⟩⟩⟩⟩⟩⟩⟩⟩⟩⟩⟩⟩⟩⟩
def bb10_error_37 : List PI := [(1, .aload_n 0, 0, 0, 0, 0, kZ), (1, .iconst 1, 0, 0, 0, 0, kZ), (3, .invokevirtual 125, 1, 10, 0, 0, m10_fails)]
set_option maxRecDepth 100000 in
theorem oo10_error_37 : okL m10_error 37 bb10_error_37 := okL_of _ _ (by decide +kernel) ⟨trivial, ⟨trivial, ⟨⟨mok_m10_fails, ⟨by decide, by decide⟩, rfl, by decide, Or.inl lc_10_125⟩, trivial⟩⟩⟩
def bb10_error_42 : List PI := [(1, .ireturn, 0, 0, 0, 0, kZ)]
set_option maxRecDepth 100000 in
theorem oo10_error_42 : okL m10_error 42 bb10_error_42 := okL_of _ _ (by decide +kernel) ⟨trivial, trivial⟩
def cd10_error (t : Nat) : Option (List PI) := match t with
  | 0 => some bb10_error_0
  | 37 => some bb10_error_37
  | 42 => some bb10_error_42
  | _ => none
theorem kd10_error : ∀ t is, cd10_error t = some is → okL m10_error t is := by
  intro t is h
  unfold cd10_error at h
  split at h <;> cases h
  · exact oo10_error_0
  · exact oo10_error_37
  · exact oo10_error_42
theorem ff10_error : mi_r m10_error = (some .int) ∧ mi_l m10_error = 3 ∧ mi_h m10_error = [] ∧ (mi_rm m10_error).cells = 0 ∧ (mi_rm m10_error).slots = 0 ∧ (mi_rm m10_error).locals = 54 ∧ cd10_error 0 = some bb10_error_0 ∧ cd10_error 37 = some bb10_error_37 ∧ cd10_error 42 = some bb10_error_42 ∧ (mi_rm m10_fails).cells = 0 ∧ (mi_rm m10_fails).slots = 0 ∧ (mi_rm m10_in).cells = 0 ∧ (mi_rm m10_in).slots = 0 := ⟨rfl, rfl, rfl, rfl, rfl, rfl, rfl, rfl, rfl, rfl, rfl, rfl, rfl⟩
def bb10_errorPlace_0 : List PI := [(1, .aload_n 0, 0, 0, 0, 0, kZ), (1, .iload_n 1, 0, 0, 0, 0, kZ), (1, .iconst 0, 0, 0, 0, 0, kZ), (3, .invokevirtual 231, 2, 10, 0, 0, m10_error), (1, .ireturn, 0, 0, 0, 0, kZ)]
set_option maxRecDepth 100000 in
theorem oo10_errorPlace_0 : okL m10_errorPlace 0 bb10_errorPlace_0 := okL_of _ _ (by decide +kernel) ⟨trivial, ⟨trivial, ⟨trivial, ⟨⟨mok_m10_error, ⟨by decide, by decide⟩, rfl, by decide, Or.inl lc_10_231⟩, ⟨trivial, trivial⟩⟩⟩⟩⟩
def cd10_errorPlace (t : Nat) : Option (List PI) := match t with
  | 0 => some bb10_errorPlace_0
  | _ => none
theorem kd10_errorPlace : ∀ t is, cd10_errorPlace t = some is → okL m10_errorPlace t is := by
  intro t is h
  unfold cd10_errorPlace at h
  split at h <;> cases h
  · exact oo10_errorPlace_0
theorem ff10_errorPlace : mi_r m10_errorPlace = (some .int) ∧ mi_l m10_errorPlace = 2 ∧ mi_h m10_errorPlace = [] ∧ (mi_rm m10_errorPlace).cells = 0 ∧ (mi_rm m10_errorPlace).slots = 0 ∧ (mi_rm m10_errorPlace).locals = 76 ∧ cd10_errorPlace 0 = some bb10_errorPlace_0 ∧ (mi_rm m10_error).cells = 0 ∧ (mi_rm m10_error).slots = 0 := ⟨rfl, rfl, rfl, rfl, rfl, rfl, rfl, rfl, rfl⟩
def bb10_errorReason_0 : List PI := [(1, .aload_n 0, 0, 0, 0, 0, kZ), (1, .iload_n 1, 0, 0, 0, 0, kZ), (1, .iconst 1, 0, 0, 0, 0, kZ), (3, .invokevirtual 231, 2, 10, 0, 0, m10_error), (1, .ireturn, 0, 0, 0, 0, kZ)]
set_option maxRecDepth 100000 in
theorem oo10_errorReason_0 : okL m10_errorReason 0 bb10_errorReason_0 := okL_of _ _ (by decide +kernel) ⟨trivial, ⟨trivial, ⟨trivial, ⟨⟨mok_m10_error, ⟨by decide, by decide⟩, rfl, by decide, Or.inl lc_10_231⟩, ⟨trivial, trivial⟩⟩⟩⟩⟩
def cd10_errorReason (t : Nat) : Option (List PI) := match t with
  | 0 => some bb10_errorReason_0
  | _ => none
theorem kd10_errorReason : ∀ t is, cd10_errorReason t = some is → okL m10_errorReason t is := by
  intro t is h
  unfold cd10_errorReason at h
  split at h <;> cases h
  · exact oo10_errorReason_0
theorem ff10_errorReason : mi_r m10_errorReason = (some .int) ∧ mi_l m10_errorReason = 2 ∧ mi_h m10_errorReason = [] ∧ (mi_rm m10_errorReason).cells = 0 ∧ (mi_rm m10_errorReason).slots = 0 ∧ (mi_rm m10_errorReason).locals = 76 ∧ cd10_errorReason 0 = some bb10_errorReason_0 ∧ (mi_rm m10_error).cells = 0 ∧ (mi_rm m10_error).slots = 0 := ⟨rfl, rfl, rfl, rfl, rfl, rfl, rfl, rfl, rfl⟩
def bb10_wouldGet_0 : List PI := [(1, .aload_n 0, 0, 0, 0, 0, kZ), (3, .invokevirtual 234, 0, 10, 0, 0, m10_putAside), (1, .aload_n 0, 0, 0, 0, 0, kZ), (3, .invokevirtual 157, 0, 10, 0, 0, m10_readsStream), (1, .istore_n 1, 0, 0, 0, 0, kZ), (1, .aload_n 0, 0, 0, 0, 0, kZ), (3, .invokevirtual 237, 0, 10, 0, 0, m10_takeBack), (1, .iload_n 1, 0, 0, 0, 0, kZ), (1, .ireturn, 0, 0, 0, 0, kZ)]
set_option maxRecDepth 100000 in
theorem oo10_wouldGet_0 : okL m10_wouldGet 0 bb10_wouldGet_0 := okL_of _ _ (by decide +kernel) ⟨trivial, ⟨⟨mok_m10_putAside, ⟨by decide, by decide⟩, rfl, by decide, Or.inl lc_10_234⟩, ⟨trivial, ⟨⟨mok_m10_readsStream, ⟨by decide, by decide⟩, rfl, by decide, Or.inl lc_10_157⟩, ⟨trivial, ⟨trivial, ⟨⟨mok_m10_takeBack, ⟨by decide, by decide⟩, rfl, by decide, Or.inl lc_10_237⟩, ⟨trivial, ⟨trivial, trivial⟩⟩⟩⟩⟩⟩⟩⟩⟩
def cd10_wouldGet (t : Nat) : Option (List PI) := match t with
  | 0 => some bb10_wouldGet_0
  | _ => none
theorem kd10_wouldGet : ∀ t is, cd10_wouldGet t = some is → okL m10_wouldGet t is := by
  intro t is h
  unfold cd10_wouldGet at h
  split at h <;> cases h
  · exact oo10_wouldGet_0
theorem ff10_wouldGet : mi_r m10_wouldGet = (some .int) ∧ mi_l m10_wouldGet = 2 ∧ mi_h m10_wouldGet = [] ∧ (mi_rm m10_wouldGet).cells = 0 ∧ (mi_rm m10_wouldGet).slots = 0 ∧ (mi_rm m10_wouldGet).locals = 190 ∧ cd10_wouldGet 0 = some bb10_wouldGet_0 ∧ (mi_rm m10_putAside).cells = 0 ∧ (mi_rm m10_putAside).slots = 0 ∧ (mi_rm m10_readsStream).cells = 0 ∧ (mi_rm m10_readsStream).slots = 0 ∧ (mi_rm m10_takeBack).cells = 0 ∧ (mi_rm m10_takeBack).slots = 0 := ⟨rfl, rfl, rfl, rfl, rfl, rfl, rfl, rfl, rfl, rfl, rfl, rfl, rfl⟩
def bb10_wouldReceive_0 : List PI := [(1, .aload_n 0, 0, 0, 0, 0, kZ), (1, .iconst 0, 0, 0, 0, 0, kZ), (3, .putfield 34, 10, 0, 0, 0, kZ), (1, .aload_n 0, 0, 0, 0, 0, kZ), (3, .invokevirtual 240, 0, 10, 0, 0, m10_wouldGet), (1, .ireturn, 0, 0, 0, 0, kZ)]
set_option maxRecDepth 100000 in
theorem oo10_wouldReceive_0 : okL m10_wouldReceive 0 bb10_wouldReceive_0 := okL_of _ _ (by decide +kernel) ⟨trivial, ⟨trivial, ⟨lp_10_34 _, ⟨trivial, ⟨⟨mok_m10_wouldGet, ⟨by decide, by decide⟩, rfl, by decide, Or.inl lc_10_240⟩, ⟨trivial, trivial⟩⟩⟩⟩⟩⟩
def cd10_wouldReceive (t : Nat) : Option (List PI) := match t with
  | 0 => some bb10_wouldReceive_0
  | _ => none
theorem kd10_wouldReceive : ∀ t is, cd10_wouldReceive t = some is → okL m10_wouldReceive t is := by
  intro t is h
  unfold cd10_wouldReceive at h
  split at h <;> cases h
  · exact oo10_wouldReceive_0
theorem ff10_wouldReceive : mi_r m10_wouldReceive = (some .int) ∧ mi_l m10_wouldReceive = 1 ∧ mi_h m10_wouldReceive = [] ∧ (mi_rm m10_wouldReceive).cells = 0 ∧ (mi_rm m10_wouldReceive).slots = 0 ∧ (mi_rm m10_wouldReceive).locals = 211 ∧ cd10_wouldReceive 0 = some bb10_wouldReceive_0 ∧ (mi_rm m10_wouldGet).cells = 0 ∧ (mi_rm m10_wouldGet).slots = 0 := ⟨rfl, rfl, rfl, rfl, rfl, rfl, rfl, rfl, rfl⟩
def bb10_wouldRight_0 : List PI := [(1, .aload_n 0, 0, 0, 0, 0, kZ), (3, .invokevirtual 234, 0, 10, 0, 0, m10_putAside), (1, .aload_n 0, 0, 0, 0, 0, kZ), (3, .invokevirtual 157, 0, 10, 0, 0, m10_readsStream), (1, .pop, 0, 0, 0, 0, kZ), (1, .aload_n 0, 0, 0, 0, 0, kZ), (3, .invokevirtual 228, 0, 10, 0, 0, m10_rightMany), (1, .istore_n 1, 0, 0, 0, 0, kZ), (1, .aload_n 0, 0, 0, 0, 0, kZ), (3, .invokevirtual 237, 0, 10, 0, 0, m10_takeBack), (1, .iload_n 1, 0, 0, 0, 0, kZ), (1, .ireturn, 0, 0, 0, 0, kZ)]
set_option maxRecDepth 100000 in
theorem oo10_wouldRight_0 : okL m10_wouldRight 0 bb10_wouldRight_0 := okL_of _ _ (by decide +kernel) ⟨trivial, ⟨⟨mok_m10_putAside, ⟨by decide, by decide⟩, rfl, by decide, Or.inl lc_10_234⟩, ⟨trivial, ⟨⟨mok_m10_readsStream, ⟨by decide, by decide⟩, rfl, by decide, Or.inl lc_10_157⟩, ⟨trivial, ⟨trivial, ⟨⟨mok_m10_rightMany, ⟨by decide, by decide⟩, rfl, by decide, Or.inl lc_10_228⟩, ⟨trivial, ⟨trivial, ⟨⟨mok_m10_takeBack, ⟨by decide, by decide⟩, rfl, by decide, Or.inl lc_10_237⟩, ⟨trivial, ⟨trivial, trivial⟩⟩⟩⟩⟩⟩⟩⟩⟩⟩⟩⟩
def cd10_wouldRight (t : Nat) : Option (List PI) := match t with
  | 0 => some bb10_wouldRight_0
  | _ => none
theorem kd10_wouldRight : ∀ t is, cd10_wouldRight t = some is → okL m10_wouldRight t is := by
  intro t is h
  unfold cd10_wouldRight at h
  split at h <;> cases h
  · exact oo10_wouldRight_0
theorem ff10_wouldRight : mi_r m10_wouldRight = (some .int) ∧ mi_l m10_wouldRight = 2 ∧ mi_h m10_wouldRight = [] ∧ (mi_rm m10_wouldRight).cells = 0 ∧ (mi_rm m10_wouldRight).slots = 0 ∧ (mi_rm m10_wouldRight).locals = 190 ∧ cd10_wouldRight 0 = some bb10_wouldRight_0 ∧ (mi_rm m10_putAside).cells = 0 ∧ (mi_rm m10_putAside).slots = 0 ∧ (mi_rm m10_readsStream).cells = 0 ∧ (mi_rm m10_readsStream).slots = 0 ∧ (mi_rm m10_rightMany).cells = 0 ∧ (mi_rm m10_rightMany).slots = 0 ∧ (mi_rm m10_takeBack).cells = 0 ∧ (mi_rm m10_takeBack).slots = 0 := ⟨rfl, rfl, rfl, rfl, rfl, rfl, rfl, rfl, rfl, rfl, rfl, rfl, rfl, rfl, rfl⟩
def bb10_wouldBeRight_0 : List PI := [(1, .aload_n 0, 0, 0, 0, 0, kZ), (1, .iconst 0, 0, 0, 0, 0, kZ), (3, .putfield 34, 10, 0, 0, 0, kZ), (1, .aload_n 0, 0, 0, 0, 0, kZ), (3, .invokevirtual 243, 0, 10, 0, 0, m10_wouldRight), (1, .ireturn, 0, 0, 0, 0, kZ)]
set_option maxRecDepth 100000 in
theorem oo10_wouldBeRight_0 : okL m10_wouldBeRight 0 bb10_wouldBeRight_0 := okL_of _ _ (by decide +kernel) ⟨trivial, ⟨trivial, ⟨lp_10_34 _, ⟨trivial, ⟨⟨mok_m10_wouldRight, ⟨by decide, by decide⟩, rfl, by decide, Or.inl lc_10_243⟩, ⟨trivial, trivial⟩⟩⟩⟩⟩⟩
def cd10_wouldBeRight (t : Nat) : Option (List PI) := match t with
  | 0 => some bb10_wouldBeRight_0
  | _ => none
theorem kd10_wouldBeRight : ∀ t is, cd10_wouldBeRight t = some is → okL m10_wouldBeRight t is := by
  intro t is h
  unfold cd10_wouldBeRight at h
  split at h <;> cases h
  · exact oo10_wouldBeRight_0
theorem ff10_wouldBeRight : mi_r m10_wouldBeRight = (some .int) ∧ mi_l m10_wouldBeRight = 1 ∧ mi_h m10_wouldBeRight = [] ∧ (mi_rm m10_wouldBeRight).cells = 0 ∧ (mi_rm m10_wouldBeRight).slots = 0 ∧ (mi_rm m10_wouldBeRight).locals = 211 ∧ cd10_wouldBeRight 0 = some bb10_wouldBeRight_0 ∧ (mi_rm m10_wouldRight).cells = 0 ∧ (mi_rm m10_wouldRight).slots = 0 := ⟨rfl, rfl, rfl, rfl, rfl, rfl, rfl, rfl, rfl⟩
def bb10_rightIfReplaced_0 : List PI := [(1, .aload_n 0, 0, 0, 0, 0, kZ), (1, .iconst 0, 0, 0, 0, 0, kZ), (3, .putfield 34, 10, 0, 0, 0, kZ), (1, .aload_n 0, 0, 0, 0, 0, kZ), (1, .iload_n 1, 0, 0, 0, 0, kZ), (3, .invokevirtual 148, 1, 10, 0, 0, m10_isPlace), (3, .ifCond .ne 9, 19, 0, 0, 0, kZ), (1, .aload_n 0, 0, 0, 0, 0, kZ), (1, .iconst 1, 0, 0, 0, 0, kZ), (3, .invokevirtual 125, 1, 10, 0, 0, m10_fails), (1, .ireturn, 0, 0, 0, 0, kZ)]
set_option maxRecDepth 100000 in
theorem oo10_rightIfReplaced_0 : okL m10_rightIfReplaced 0 bb10_rightIfReplaced_0 := okL_of _ _ (by decide +kernel) ⟨trivial, ⟨trivial, ⟨lp_10_34 _, ⟨trivial, ⟨trivial, ⟨⟨mok_m10_isPlace, ⟨by decide, by decide⟩, rfl, by decide, Or.inl lc_10_148⟩, ⟨rfl, ⟨trivial, ⟨trivial, ⟨⟨mok_m10_fails, ⟨by decide, by decide⟩, rfl, by decide, Or.inl lc_10_125⟩, ⟨trivial, trivial⟩⟩⟩⟩⟩⟩⟩⟩⟩⟩⟩
def bb10_rightIfReplaced_19 : List PI := [(1, .iload_n 2, 0, 0, 0, 0, kZ), (3, .invokestatic 151, 1, 10, 0, 0, m10_isNumber), (3, .ifCond .ne 9, 32, 0, 0, 0, kZ), (1, .aload_n 0, 0, 0, 0, 0, kZ), (1, .iconst 2, 0, 0, 0, 0, kZ), (3, .invokevirtual 125, 1, 10, 0, 0, m10_fails), (1, .ireturn, 0, 0, 0, 0, kZ)]
set_option maxRecDepth 100000 in
theorem oo10_rightIfReplaced_19 : okL m10_rightIfReplaced 19 bb10_rightIfReplaced_19 := okL_of _ _ (by decide +kernel) ⟨trivial, ⟨⟨mok_m10_isNumber, ⟨by decide, by decide⟩, rfl, Or.inl lc_10_151⟩, ⟨rfl, ⟨trivial, ⟨trivial, ⟨⟨mok_m10_fails, ⟨by decide, by decide⟩, rfl, by decide, Or.inl lc_10_125⟩, ⟨trivial, trivial⟩⟩⟩⟩⟩⟩⟩
def bb10_rightIfReplaced_32 : List PI := [(1, .aload_n 0, 0, 0, 0, 0, kZ), (1, .iload_n 1, 0, 0, 0, 0, kZ), (1, .iload_n 2, 0, 0, 0, 0, kZ), (3, .invokevirtual 154, 2, 10, 0, 0, m10_replaces), (1, .istore_n 3, 0, 0, 0, 0, kZ), (1, .aload_n 0, 0, 0, 0, 0, kZ), (3, .invokevirtual 243, 0, 10, 0, 0, m10_wouldRight), (2, .istore 4, 0, 0, 0, 0, kZ), (1, .aload_n 0, 0, 0, 0, 0, kZ), (1, .iload_n 1, 0, 0, 0, 0, kZ), (1, .iload_n 3, 0, 0, 0, 0, kZ), (3, .invokevirtual 154, 2, 10, 0, 0, m10_replaces), (1, .pop, 0, 0, 0, 0, kZ), (2, .iload 4, 0, 0, 0, 0, kZ), (1, .ireturn, 0, 0, 0, 0, kZ)]
set_option maxRecDepth 100000 in
theorem oo10_rightIfReplaced_32 : okL m10_rightIfReplaced 32 bb10_rightIfReplaced_32 := okL_of _ _ (by decide +kernel) ⟨trivial, ⟨trivial, ⟨trivial, ⟨⟨mok_m10_replaces, ⟨by decide, by decide⟩, rfl, by decide, Or.inl lc_10_154⟩, ⟨trivial, ⟨trivial, ⟨⟨mok_m10_wouldRight, ⟨by decide, by decide⟩, rfl, by decide, Or.inl lc_10_243⟩, ⟨trivial, ⟨trivial, ⟨trivial, ⟨trivial, ⟨⟨mok_m10_replaces, ⟨by decide, by decide⟩, rfl, by decide, Or.inl lc_10_154⟩, ⟨trivial, ⟨trivial, ⟨trivial, trivial⟩⟩⟩⟩⟩⟩⟩⟩⟩⟩⟩⟩⟩⟩⟩
def cd10_rightIfReplaced (t : Nat) : Option (List PI) := match t with
  | 0 => some bb10_rightIfReplaced_0
  | 19 => some bb10_rightIfReplaced_19
  | 32 => some bb10_rightIfReplaced_32
  | _ => none
theorem kd10_rightIfReplaced : ∀ t is, cd10_rightIfReplaced t = some is → okL m10_rightIfReplaced t is := by
  intro t is h
  unfold cd10_rightIfReplaced at h
  split at h <;> cases h
  · exact oo10_rightIfReplaced_0
  · exact oo10_rightIfReplaced_19
  · exact oo10_rightIfReplaced_32
theorem ff10_rightIfReplaced : mi_r m10_rightIfReplaced = (some .int) ∧ mi_l m10_rightIfReplaced = 5 ∧ mi_h m10_rightIfReplaced = [] ∧ (mi_rm m10_rightIfReplaced).cells = 0 ∧ (mi_rm m10_rightIfReplaced).slots = 0 ∧ (mi_rm m10_rightIfReplaced).locals = 211 ∧ cd10_rightIfReplaced 0 = some bb10_rightIfReplaced_0 ∧ cd10_rightIfReplaced 19 = some bb10_rightIfReplaced_19 ∧ cd10_rightIfReplaced 32 = some bb10_rightIfReplaced_32 ∧ (mi_rm m10_fails).cells = 0 ∧ (mi_rm m10_fails).slots = 0 ∧ (mi_rm m10_isNumber).cells = 0 ∧ (mi_rm m10_isNumber).slots = 0 ∧ (mi_rm m10_isPlace).cells = 0 ∧ (mi_rm m10_isPlace).slots = 0 ∧ (mi_rm m10_replaces).cells = 0 ∧ (mi_rm m10_replaces).slots = 0 ∧ (mi_rm m10_wouldRight).cells = 0 ∧ (mi_rm m10_wouldRight).slots = 0 := ⟨rfl, rfl, rfl, rfl, rfl, rfl, rfl, rfl, rfl, rfl, rfl, rfl, rfl, rfl, rfl, rfl, rfl, rfl, rfl⟩
def bb10_share_0 : List PI := [(1, .aload_n 0, 0, 0, 0, 0, kZ), (3, .getfield 7, 10, 1, 0, 0, kZ), (1, .iconst 2, 0, 0, 0, 0, kZ), (1, .iaload, 0, 0, 0, 0, kZ), (3, .ifCond .ne 7, 13, 0, 0, 0, kZ), (1, .dconst 0, 0, 0, 0, 0, kZ), (3, .goto 25, 35, 0, 0, 0, kZ)]
set_option maxRecDepth 100000 in
theorem oo10_share_0 : okL m10_share 0 bb10_share_0 := okL_of _ _ (by decide +kernel) ⟨trivial, ⟨lf_10_7, ⟨trivial, ⟨trivial, ⟨rfl, ⟨(show (0 : Nat) < 2 by decide), ⟨rfl, trivial⟩⟩⟩⟩⟩⟩⟩
def bb10_share_13 : List PI := [(1, .iconst 4, 0, 0, 0, 0, kZ), (1, .aload_n 0, 0, 0, 0, 0, kZ), (3, .invokevirtual 216, 0, 10, 0, 0, m10_sendsMany), (1, .imul, 0, 0, 0, 0, kZ), (1, .i2d, 0, 0, 0, 0, kZ), (1, .aload_n 0, 0, 0, 0, 0, kZ), (3, .getfield 7, 10, 1, 0, 0, kZ), (1, .iconst 0, 0, 0, 0, 0, kZ), (1, .iaload, 0, 0, 0, 0, kZ), (1, .aload_n 0, 0, 0, 0, 0, kZ), (3, .getfield 7, 10, 1, 0, 0, kZ), (1, .iconst 2, 0, 0, 0, 0, kZ), (1, .iaload, 0, 0, 0, 0, kZ), (1, .imul, 0, 0, 0, 0, kZ), (1, .i2d, 0, 0, 0, 0, kZ), (1, .ddiv, 0, 0, 0, 0, kZ)]
set_option maxRecDepth 100000 in
theorem oo10_share_13 : okL m10_share 13 bb10_share_13 := okL_of _ _ (by decide +kernel) ⟨trivial, ⟨trivial, ⟨⟨mok_m10_sendsMany, ⟨by decide, by decide⟩, rfl, by decide, Or.inl lc_10_216⟩, ⟨trivial, ⟨trivial, ⟨trivial, ⟨lf_10_7, ⟨trivial, ⟨trivial, ⟨trivial, ⟨lf_10_7, ⟨trivial, ⟨trivial, ⟨trivial, ⟨trivial, ⟨trivial, trivial⟩⟩⟩⟩⟩⟩⟩⟩⟩⟩⟩⟩⟩⟩⟩⟩
def bb10_share_35 : List PI := [(1, .dreturn, 0, 0, 0, 0, kZ)]
set_option maxRecDepth 100000 in
theorem oo10_share_35 : okL m10_share 35 bb10_share_35 := okL_of _ _ (by decide +kernel) ⟨rfl, trivial⟩
def cd10_share (t : Nat) : Option (List PI) := match t with
  | 0 => some bb10_share_0
  | 13 => some bb10_share_13
  | 35 => some bb10_share_35
  | _ => none
theorem kd10_share : ∀ t is, cd10_share t = some is → okL m10_share t is := by
  intro t is h
  unfold cd10_share at h
  split at h <;> cases h
  · exact oo10_share_0
  · exact oo10_share_13
  · exact oo10_share_35
theorem ff10_share : mi_r m10_share = (some .double) ∧ mi_l m10_share = 1 ∧ mi_h m10_share = [] ∧ (mi_rm m10_share).cells = 0 ∧ (mi_rm m10_share).slots = 0 ∧ (mi_rm m10_share).locals = 145 ∧ cd10_share 0 = some bb10_share_0 ∧ cd10_share 13 = some bb10_share_13 ∧ cd10_share 35 = some bb10_share_35 ∧ (mi_rm m10_sendsMany).cells = 0 ∧ (mi_rm m10_sendsMany).slots = 0 := ⟨rfl, rfl, rfl, rfl, rfl, rfl, rfl, rfl, rfl, rfl, rfl⟩
def bb10_codedShare_0 : List PI := [(1, .aload_n 0, 0, 0, 0, 0, kZ), (1, .iconst 0, 0, 0, 0, 0, kZ), (3, .putfield 34, 10, 0, 0, 0, kZ), (1, .aload_n 0, 0, 0, 0, 0, kZ), (3, .invokevirtual 246, 0, 10, 0, 0, m10_share), (1, .dreturn, 0, 0, 0, 0, kZ)]
set_option maxRecDepth 100000 in
theorem oo10_codedShare_0 : okL m10_codedShare 0 bb10_codedShare_0 := okL_of _ _ (by decide +kernel) ⟨trivial, ⟨trivial, ⟨lp_10_34 _, ⟨trivial, ⟨⟨mok_m10_share, ⟨by decide, by decide⟩, rfl, by decide, Or.inl lc_10_246⟩, ⟨rfl, trivial⟩⟩⟩⟩⟩⟩
def cd10_codedShare (t : Nat) : Option (List PI) := match t with
  | 0 => some bb10_codedShare_0
  | _ => none
theorem kd10_codedShare : ∀ t is, cd10_codedShare t = some is → okL m10_codedShare t is := by
  intro t is h
  unfold cd10_codedShare at h
  split at h <;> cases h
  · exact oo10_codedShare_0
theorem ff10_codedShare : mi_r m10_codedShare = (some .double) ∧ mi_l m10_codedShare = 1 ∧ mi_h m10_codedShare = [] ∧ (mi_rm m10_codedShare).cells = 0 ∧ (mi_rm m10_codedShare).slots = 0 ∧ (mi_rm m10_codedShare).locals = 165 ∧ cd10_codedShare 0 = some bb10_codedShare_0 ∧ (mi_rm m10_share).cells = 0 ∧ (mi_rm m10_share).slots = 0 := ⟨rfl, rfl, rfl, rfl, rfl, rfl, rfl, rfl, rfl⟩
def bb10_digestLine_0 : List PI := [(3, .ldc2_w 250, 0, 0, 0, 31, kZ), (3, .ldc2_w 250, 0, 0, 0, 31, kZ), (1, .lload_n 1, 0, 0, 0, 0, kZ), (1, .lmul, 0, 0, 0, 0, kZ), (1, .aload_n 0, 0, 0, 0, 0, kZ), (3, .getfield 7, 10, 1, 0, 0, kZ), (2, .bipush 8, 0, 0, 0, 0, kZ), (1, .iload_n 3, 0, 0, 0, 0, kZ), (1, .iadd, 0, 0, 0, 0, kZ), (1, .iaload, 0, 0, 0, 0, kZ), (3, .invokestatic 141, 1, 10, 0, 0, m10_asLong), (1, .ladd, 0, 0, 0, 0, kZ), (1, .lmul, 0, 0, 0, 0, kZ), (1, .aload_n 0, 0, 0, 0, 0, kZ), (1, .iload_n 3, 0, 0, 0, 0, kZ), (3, .invokevirtual 198, 1, 10, 0, 0, m10_manyRuns), (1, .i2l, 0, 0, 0, 0, kZ), (1, .ladd, 0, 0, 0, 0, kZ), (2, .lstore 4, 0, 0, 0, 0, kZ), (3, .ldc2_w 250, 0, 0, 0, 31, kZ), (3, .ldc2_w 250, 0, 0, 0, 31, kZ), (2, .lload 4, 0, 0, 0, 0, kZ), (1, .lmul, 0, 0, 0, 0, kZ), (1, .aload_n 0, 0, 0, 0, 0, kZ), (1, .iload_n 3, 0, 0, 0, 0, kZ), (3, .invokevirtual 201, 1, 10, 0, 0, m10_longest), (1, .i2l, 0, 0, 0, 0, kZ), (1, .ladd, 0, 0, 0, 0, kZ), (1, .lmul, 0, 0, 0, 0, kZ), (1, .aload_n 0, 0, 0, 0, 0, kZ), (1, .iload_n 3, 0, 0, 0, 0, kZ), (3, .invokevirtual 73, 1, 10, 0, 0, m10_bestMode), (1, .i2l, 0, 0, 0, 0, kZ), (1, .ladd, 0, 0, 0, 0, kZ), (2, .lstore 4, 0, 0, 0, 0, kZ), (1, .iconst 0, 0, 0, 0, 0, kZ), (2, .istore 6, 0, 0, 0, 0, kZ)]
set_option maxRecDepth 100000 in
theorem oo10_digestLine_0 : okL m10_digestLine 0 bb10_digestLine_0 := okL_of _ _ (by decide +kernel) ⟨(wt_7 91 (by decide +kernel) rfl), ⟨(wt_7 91 (by decide +kernel) rfl), ⟨trivial, ⟨trivial, ⟨trivial, ⟨lf_10_7, ⟨trivial, ⟨trivial, ⟨trivial, ⟨trivial, ⟨⟨mok_m10_asLong, ⟨by decide, by decide⟩, rfl, Or.inl lc_10_141⟩, ⟨trivial, ⟨trivial, ⟨trivial, ⟨trivial, ⟨⟨mok_m10_manyRuns, ⟨by decide, by decide⟩, rfl, by decide, Or.inl lc_10_198⟩, ⟨trivial, ⟨trivial, ⟨trivial, ⟨(wt_7 91 (by decide +kernel) rfl), ⟨(wt_7 91 (by decide +kernel) rfl), ⟨trivial, ⟨trivial, ⟨trivial, ⟨trivial, ⟨⟨mok_m10_longest, ⟨by decide, by decide⟩, rfl, by decide, Or.inl lc_10_201⟩, ⟨trivial, ⟨trivial, ⟨trivial, ⟨trivial, ⟨trivial, ⟨⟨mok_m10_bestMode, ⟨by decide, by decide⟩, rfl, by decide, Or.inl lc_10_73⟩, ⟨trivial, ⟨trivial, ⟨trivial, ⟨trivial, ⟨trivial, trivial⟩⟩⟩⟩⟩⟩⟩⟩⟩⟩⟩⟩⟩⟩⟩⟩⟩⟩⟩⟩⟩⟩⟩⟩⟩⟩⟩⟩⟩⟩⟩⟩⟩⟩⟩⟩⟩
def bb10_digestLine_60 : List PI := [(2, .iload 6, 0, 0, 0, 0, kZ), (1, .iconst 3, 0, 0, 0, 0, kZ), (3, .if_icmp .ge 52, 115, 0, 0, 0, kZ), (3, .ldc2_w 250, 0, 0, 0, 31, kZ), (3, .ldc2_w 250, 0, 0, 0, 31, kZ), (3, .ldc2_w 250, 0, 0, 0, 31, kZ), (2, .lload 4, 0, 0, 0, 0, kZ), (1, .lmul, 0, 0, 0, 0, kZ), (1, .aload_n 0, 0, 0, 0, 0, kZ), (1, .iload_n 3, 0, 0, 0, 0, kZ), (2, .iload 6, 0, 0, 0, 0, kZ), (3, .invokevirtual 69, 2, 10, 0, 0, m10_codes), (1, .i2l, 0, 0, 0, 0, kZ), (1, .ladd, 0, 0, 0, 0, kZ), (1, .lmul, 0, 0, 0, 0, kZ), (1, .aload_n 0, 0, 0, 0, 0, kZ), (1, .iload_n 3, 0, 0, 0, 0, kZ), (2, .iload 6, 0, 0, 0, 0, kZ), (3, .invokevirtual 69, 2, 10, 0, 0, m10_codes), (1, .i2l, 0, 0, 0, 0, kZ), (1, .ladd, 0, 0, 0, 0, kZ), (1, .lmul, 0, 0, 0, 0, kZ), (1, .aload_n 0, 0, 0, 0, 0, kZ), (1, .iload_n 3, 0, 0, 0, 0, kZ), (2, .iload 6, 0, 0, 0, 0, kZ), (3, .invokevirtual 213, 2, 10, 0, 0, m10_check), (1, .i2l, 0, 0, 0, 0, kZ), (1, .ladd, 0, 0, 0, 0, kZ), (2, .lstore 4, 0, 0, 0, 0, kZ), (3, .iinc 6 1, 0, 0, 0, 0, kZ), (3, .goto (-52), 60, 0, 0, 0, kZ)]
set_option maxRecDepth 100000 in
theorem oo10_digestLine_60 : okL m10_digestLine 60 bb10_digestLine_60 := okL_of _ _ (by decide +kernel) ⟨trivial, ⟨trivial, ⟨rfl, ⟨(wt_7 91 (by decide +kernel) rfl), ⟨(wt_7 91 (by decide +kernel) rfl), ⟨(wt_7 91 (by decide +kernel) rfl), ⟨trivial, ⟨trivial, ⟨trivial, ⟨trivial, ⟨trivial, ⟨⟨mok_m10_codes, ⟨by decide, by decide⟩, rfl, by decide, Or.inl lc_10_69⟩, ⟨trivial, ⟨trivial, ⟨trivial, ⟨trivial, ⟨trivial, ⟨trivial, ⟨⟨mok_m10_codes, ⟨by decide, by decide⟩, rfl, by decide, Or.inl lc_10_69⟩, ⟨trivial, ⟨trivial, ⟨trivial, ⟨trivial, ⟨trivial, ⟨trivial, ⟨⟨mok_m10_check, ⟨by decide, by decide⟩, rfl, by decide, Or.inl lc_10_213⟩, ⟨trivial, ⟨trivial, ⟨trivial, ⟨trivial, ⟨rfl, trivial⟩⟩⟩⟩⟩⟩⟩⟩⟩⟩⟩⟩⟩⟩⟩⟩⟩⟩⟩⟩⟩⟩⟩⟩⟩⟩⟩⟩⟩⟩⟩
def bb10_digestLine_115 : List PI := [(2, .lload 4, 0, 0, 0, 0, kZ), (1, .lreturn, 0, 0, 0, 0, kZ)]
set_option maxRecDepth 100000 in
theorem oo10_digestLine_115 : okL m10_digestLine 115 bb10_digestLine_115 := okL_of _ _ (by decide +kernel) ⟨trivial, ⟨rfl, trivial⟩⟩
def cd10_digestLine (t : Nat) : Option (List PI) := match t with
  | 0 => some bb10_digestLine_0
  | 115 => some bb10_digestLine_115
  | _ => none
theorem kd10_digestLine : ∀ t is, cd10_digestLine t = some is → okL m10_digestLine t is := by
  intro t is h
  unfold cd10_digestLine at h
  split at h <;> cases h
  · exact oo10_digestLine_0
  · exact oo10_digestLine_115
theorem ff10_digestLine : mi_r m10_digestLine = (some .long) ∧ mi_l m10_digestLine = 7 ∧ mi_h m10_digestLine = [] ∧ (mi_rm m10_digestLine).cells = 0 ∧ (mi_rm m10_digestLine).slots = 0 ∧ (mi_rm m10_digestLine).locals = 123 ∧ cd10_digestLine 0 = some bb10_digestLine_0 ∧ cd10_digestLine 60 = none ∧ cd10_digestLine 115 = some bb10_digestLine_115 ∧ (mi_rm m10_asLong).cells = 0 ∧ (mi_rm m10_asLong).slots = 0 ∧ (mi_rm m10_bestMode).cells = 0 ∧ (mi_rm m10_bestMode).slots = 0 ∧ (mi_rm m10_check).cells = 0 ∧ (mi_rm m10_check).slots = 0 ∧ (mi_rm m10_codes).cells = 0 ∧ (mi_rm m10_codes).slots = 0 ∧ (mi_rm m10_longest).cells = 0 ∧ (mi_rm m10_longest).slots = 0 ∧ (mi_rm m10_manyRuns).cells = 0 ∧ (mi_rm m10_manyRuns).slots = 0 := ⟨rfl, rfl, rfl, rfl, rfl, rfl, rfl, rfl, rfl, rfl, rfl, rfl, rfl, rfl, rfl, rfl, rfl, rfl, rfl, rfl, rfl⟩
def bbJxe99ae_isNaN_0 : List PI := [(1, .dload_n 0, 0, 0, 0, 0, kZ), (1, .dload_n 0, 0, 0, 0, 0, kZ), (1, .dcmp .l, 0, 0, 0, 0, kZ), (3, .ifCond .eq 7, 10, 0, 0, 0, kZ), (1, .iconst 1, 0, 0, 0, 0, kZ), (3, .goto 4, 11, 0, 0, 0, kZ)]
set_option maxRecDepth 100000 in
theorem ooJxe99ae_isNaN_0 : okL mJxe99ae_isNaN 0 bbJxe99ae_isNaN_0 := okL_of _ _ (by decide +kernel) ⟨trivial, ⟨trivial, ⟨trivial, ⟨rfl, ⟨trivial, ⟨rfl, trivial⟩⟩⟩⟩⟩⟩
def bbJxe99ae_isNaN_10 : List PI := [(1, .iconst 0, 0, 0, 0, 0, kZ)]
set_option maxRecDepth 100000 in
theorem ooJxe99ae_isNaN_10 : okL mJxe99ae_isNaN 10 bbJxe99ae_isNaN_10 := okL_of _ _ (by decide +kernel) ⟨trivial, trivial⟩
def bbJxe99ae_isNaN_11 : List PI := [(1, .ireturn, 0, 0, 0, 0, kZ)]
set_option maxRecDepth 100000 in
theorem ooJxe99ae_isNaN_11 : okL mJxe99ae_isNaN 11 bbJxe99ae_isNaN_11 := okL_of _ _ (by decide +kernel) ⟨trivial, trivial⟩
def cdJxe99ae_isNaN (t : Nat) : Option (List PI) := match t with
  | 0 => some bbJxe99ae_isNaN_0
  | 10 => some bbJxe99ae_isNaN_10
  | 11 => some bbJxe99ae_isNaN_11
  | _ => none
theorem kdJxe99ae_isNaN : ∀ t is, cdJxe99ae_isNaN t = some is → okL mJxe99ae_isNaN t is := by
  intro t is h
  unfold cdJxe99ae_isNaN at h
  split at h <;> cases h
  · exact ooJxe99ae_isNaN_0
  · exact ooJxe99ae_isNaN_10
  · exact ooJxe99ae_isNaN_11
theorem ffJxe99ae_isNaN : mi_r mJxe99ae_isNaN = (some .boolean) ∧ mi_l mJxe99ae_isNaN = 2 ∧ mi_h mJxe99ae_isNaN = [] ∧ (mi_rm mJxe99ae_isNaN).cells = 0 ∧ (mi_rm mJxe99ae_isNaN).slots = 0 ∧ (mi_rm mJxe99ae_isNaN).locals = 32 ∧ cdJxe99ae_isNaN 0 = some bbJxe99ae_isNaN_0 ∧ cdJxe99ae_isNaN 10 = some bbJxe99ae_isNaN_10 ∧ cdJxe99ae_isNaN 11 = some bbJxe99ae_isNaN_11 := ⟨rfl, rfl, rfl, rfl, rfl, rfl, rfl, rfl, rfl⟩
def bbJxe99ae_doubleToLongBits_0 : List PI := [(1, .dload_n 0, 0, 0, 0, 0, kZ), (3, .invokestatic 122, 1, 0, 0, 0, mJxe99ae_isNaN), (3, .ifCond .ne 8, 12, 0, 0, 0, kZ), (1, .dload_n 0, 0, 0, 0, 0, kZ), (3, .invokestatic 134, 0, 0, 4, 0, kZ), (1, .lreturn, 0, 0, 0, 0, kZ)]
set_option maxRecDepth 100000 in
theorem ooJxe99ae_doubleToLongBits_0 : okL mJxe99ae_doubleToLongBits 0 bbJxe99ae_doubleToLongBits_0 := okL_of _ _ (by decide +kernel) ⟨trivial, ⟨⟨mok_mJxe99ae_isNaN, ⟨by decide, by decide⟩, rfl, Or.inl lc_JDouble_122⟩, ⟨rfl, ⟨trivial, ⟨⟨lr_JDouble_134, by decide⟩, ⟨rfl, trivial⟩⟩⟩⟩⟩⟩
def bbJxe99ae_doubleToLongBits_12 : List PI := [(3, .ldc2_w 137, 0, 0, 0, 9221120237041090560, kZ), (1, .lreturn, 0, 0, 0, 0, kZ)]
set_option maxRecDepth 100000 in
theorem ooJxe99ae_doubleToLongBits_12 : okL mJxe99ae_doubleToLongBits 12 bbJxe99ae_doubleToLongBits_12 := okL_of _ _ (by decide +kernel) ⟨(wt_7 105 (by decide +kernel) rfl), ⟨rfl, trivial⟩⟩
def cdJxe99ae_doubleToLongBits (t : Nat) : Option (List PI) := match t with
  | 0 => some bbJxe99ae_doubleToLongBits_0
  | 12 => some bbJxe99ae_doubleToLongBits_12
  | _ => none
theorem kdJxe99ae_doubleToLongBits : ∀ t is, cdJxe99ae_doubleToLongBits t = some is → okL mJxe99ae_doubleToLongBits t is := by
  intro t is h
  unfold cdJxe99ae_doubleToLongBits at h
  split at h <;> cases h
  · exact ooJxe99ae_doubleToLongBits_0
  · exact ooJxe99ae_doubleToLongBits_12
theorem ffJxe99ae_doubleToLongBits : mi_r mJxe99ae_doubleToLongBits = (some .long) ∧ mi_l mJxe99ae_doubleToLongBits = 2 ∧ mi_h mJxe99ae_doubleToLongBits = [] ∧ (mi_rm mJxe99ae_doubleToLongBits).cells = 0 ∧ (mi_rm mJxe99ae_doubleToLongBits).slots = 0 ∧ (mi_rm mJxe99ae_doubleToLongBits).locals = 53 ∧ cdJxe99ae_doubleToLongBits 0 = some bbJxe99ae_doubleToLongBits_0 ∧ cdJxe99ae_doubleToLongBits 12 = some bbJxe99ae_doubleToLongBits_12 ∧ (mi_rm mJxe99ae_isNaN).cells = 0 ∧ (mi_rm mJxe99ae_isNaN).slots = 0 := ⟨rfl, rfl, rfl, rfl, rfl, rfl, rfl, rfl, rfl, rfl⟩
def bb10_digest_0 : List PI := [(1, .aload_n 0, 0, 0, 0, 0, kZ), (1, .iconst 0, 0, 0, 0, 0, kZ), (3, .putfield 34, 10, 0, 0, 0, kZ), (3, .ldc2_w 252, 0, 0, 0, 4409, kZ), (1, .lstore_n 1, 0, 0, 0, 0, kZ), (3, .ldc2_w 250, 0, 0, 0, 31, kZ), (3, .ldc2_w 250, 0, 0, 0, 31, kZ), (3, .ldc2_w 250, 0, 0, 0, 31, kZ), (1, .lload_n 1, 0, 0, 0, 0, kZ), (1, .lmul, 0, 0, 0, 0, kZ), (1, .aload_n 0, 0, 0, 0, 0, kZ), (3, .getfield 7, 10, 1, 0, 0, kZ), (1, .iconst 0, 0, 0, 0, 0, kZ), (1, .iaload, 0, 0, 0, 0, kZ), (1, .i2l, 0, 0, 0, 0, kZ), (1, .ladd, 0, 0, 0, 0, kZ), (1, .lmul, 0, 0, 0, 0, kZ), (1, .aload_n 0, 0, 0, 0, 0, kZ), (3, .getfield 7, 10, 1, 0, 0, kZ), (1, .iconst 2, 0, 0, 0, 0, kZ), (1, .iaload, 0, 0, 0, 0, kZ), (1, .i2l, 0, 0, 0, 0, kZ), (1, .ladd, 0, 0, 0, 0, kZ), (1, .lmul, 0, 0, 0, 0, kZ), (1, .aload_n 0, 0, 0, 0, 0, kZ), (3, .getfield 7, 10, 1, 0, 0, kZ), (1, .iconst 1, 0, 0, 0, 0, kZ), (1, .iaload, 0, 0, 0, 0, kZ), (1, .i2l, 0, 0, 0, 0, kZ), (1, .ladd, 0, 0, 0, 0, kZ), (1, .lstore_n 1, 0, 0, 0, 0, kZ), (3, .ldc2_w 250, 0, 0, 0, 31, kZ), (3, .ldc2_w 250, 0, 0, 0, 31, kZ), (3, .ldc2_w 250, 0, 0, 0, 31, kZ), (1, .lload_n 1, 0, 0, 0, 0, kZ), (1, .lmul, 0, 0, 0, 0, kZ), (1, .aload_n 0, 0, 0, 0, 0, kZ), (3, .invokevirtual 204, 0, 10, 0, 0, m10_black), (1, .i2l, 0, 0, 0, 0, kZ), (1, .ladd, 0, 0, 0, 0, kZ), (1, .lmul, 0, 0, 0, 0, kZ), (1, .aload_n 0, 0, 0, 0, 0, kZ), (3, .invokevirtual 216, 0, 10, 0, 0, m10_sendsMany), (1, .i2l, 0, 0, 0, 0, kZ), (1, .ladd, 0, 0, 0, 0, kZ), (1, .lmul, 0, 0, 0, 0, kZ), (1, .aload_n 0, 0, 0, 0, 0, kZ), (3, .getfield 7, 10, 1, 0, 0, kZ), (1, .iconst 3, 0, 0, 0, 0, kZ), (1, .iaload, 0, 0, 0, 0, kZ), (1, .i2l, 0, 0, 0, 0, kZ), (1, .ladd, 0, 0, 0, 0, kZ), (1, .lstore_n 1, 0, 0, 0, 0, kZ), (3, .ldc2_w 250, 0, 0, 0, 31, kZ), (3, .ldc2_w 250, 0, 0, 0, 31, kZ), (3, .ldc2_w 250, 0, 0, 0, 31, kZ), (1, .lload_n 1, 0, 0, 0, 0, kZ), (1, .lmul, 0, 0, 0, 0, kZ), (1, .aload_n 0, 0, 0, 0, 0, kZ), (3, .invokevirtual 219, 0, 10, 0, 0, m10_markerMany), (1, .i2l, 0, 0, 0, 0, kZ), (1, .ladd, 0, 0, 0, 0, kZ), (1, .lmul, 0, 0, 0, 0, kZ), (1, .aload_n 0, 0, 0, 0, 0, kZ), (3, .invokevirtual 122, 0, 10, 0, 0, m10_gotMany), (1, .i2l, 0, 0, 0, 0, kZ), (1, .ladd, 0, 0, 0, 0, kZ), (1, .lmul, 0, 0, 0, 0, kZ), (1, .aload_n 0, 0, 0, 0, 0, kZ), (3, .invokevirtual 228, 0, 10, 0, 0, m10_rightMany), (1, .i2l, 0, 0, 0, 0, kZ), (1, .ladd, 0, 0, 0, 0, kZ), (1, .lstore_n 1, 0, 0, 0, 0, kZ), (3, .ldc2_w 250, 0, 0, 0, 31, kZ), (3, .ldc2_w 250, 0, 0, 0, 31, kZ), (3, .ldc2_w 250, 0, 0, 0, 31, kZ), (1, .lload_n 1, 0, 0, 0, 0, kZ), (1, .lmul, 0, 0, 0, 0, kZ), (1, .aload_n 0, 0, 0, 0, 0, kZ), (3, .getfield 7, 10, 1, 0, 0, kZ), (1, .iconst 5, 0, 0, 0, 0, kZ), (1, .iaload, 0, 0, 0, 0, kZ), (1, .i2l, 0, 0, 0, 0, kZ), (1, .ladd, 0, 0, 0, 0, kZ), (1, .lmul, 0, 0, 0, 0, kZ), (1, .aload_n 0, 0, 0, 0, 0, kZ), (3, .invokevirtual 240, 0, 10, 0, 0, m10_wouldGet), (1, .i2l, 0, 0, 0, 0, kZ), (1, .ladd, 0, 0, 0, 0, kZ), (1, .lmul, 0, 0, 0, 0, kZ), (1, .aload_n 0, 0, 0, 0, 0, kZ), (3, .invokevirtual 243, 0, 10, 0, 0, m10_wouldRight), (1, .i2l, 0, 0, 0, 0, kZ), (1, .ladd, 0, 0, 0, 0, kZ), (1, .lstore_n 1, 0, 0, 0, 0, kZ), (3, .ldc2_w 250, 0, 0, 0, 31, kZ), (1, .lload_n 1, 0, 0, 0, 0, kZ), (1, .lmul, 0, 0, 0, 0, kZ), (1, .aload_n 0, 0, 0, 0, 0, kZ), (3, .getfield 44, 10, 4, 0, 0, kZ), (1, .i2l, 0, 0, 0, 0, kZ), (1, .ladd, 0, 0, 0, 0, kZ), (1, .lstore_n 1, 0, 0, 0, 0, kZ), (1, .iconst 0, 0, 0, 0, 0, kZ), (1, .istore_n 3, 0, 0, 0, 0, kZ)]
set_option maxRecDepth 100000 in
theorem oo10_digest_0 : okL m10_digest 0 bb10_digest_0 := okL_of _ _ (by decide +kernel) ⟨trivial, ⟨trivial, ⟨lp_10_34 _, ⟨(wt_7 90 (by decide +kernel) rfl), ⟨trivial, ⟨(wt_7 91 (by decide +kernel) rfl), ⟨(wt_7 91 (by decide +kernel) rfl), ⟨(wt_7 91 (by decide +kernel) rfl), ⟨trivial, ⟨trivial, ⟨trivial, ⟨lf_10_7, ⟨trivial, ⟨trivial, ⟨trivial, ⟨trivial, ⟨trivial, ⟨trivial, ⟨lf_10_7, ⟨trivial, ⟨trivial, ⟨trivial, ⟨trivial, ⟨trivial, ⟨trivial, ⟨lf_10_7, ⟨trivial, ⟨trivial, ⟨trivial, ⟨trivial, ⟨trivial, ⟨(wt_7 91 (by decide +kernel) rfl), ⟨(wt_7 91 (by decide +kernel) rfl), ⟨(wt_7 91 (by decide +kernel) rfl), ⟨trivial, ⟨trivial, ⟨trivial, ⟨⟨mok_m10_black, ⟨by decide, by decide⟩, rfl, by decide, Or.inl lc_10_204⟩, ⟨trivial, ⟨trivial, ⟨trivial, ⟨trivial, ⟨⟨mok_m10_sendsMany, ⟨by decide, by decide⟩, rfl, by decide, Or.inl lc_10_216⟩, ⟨trivial, ⟨trivial, ⟨trivial, ⟨trivial, ⟨lf_10_7, ⟨trivial, ⟨trivial, ⟨trivial, ⟨trivial, ⟨trivial, ⟨(wt_7 91 (by decide +kernel) rfl), ⟨(wt_7 91 (by decide +kernel) rfl), ⟨(wt_7 91 (by decide +kernel) rfl), ⟨trivial, ⟨trivial, ⟨trivial, ⟨⟨mok_m10_markerMany, ⟨by decide, by decide⟩, rfl, by decide, Or.inl lc_10_219⟩, ⟨trivial, ⟨trivial, ⟨trivial, ⟨trivial, ⟨⟨mok_m10_gotMany, ⟨by decide, by decide⟩, rfl, by decide, Or.inl lc_10_122⟩, ⟨trivial, ⟨trivial, ⟨trivial, ⟨trivial, ⟨⟨mok_m10_rightMany, ⟨by decide, by decide⟩, rfl, by decide, Or.inl lc_10_228⟩, ⟨trivial, ⟨trivial, ⟨trivial, ⟨(wt_7 91 (by decide +kernel) rfl), ⟨(wt_7 91 (by decide +kernel) rfl), ⟨(wt_7 91 (by decide +kernel) rfl), ⟨trivial, ⟨trivial, ⟨trivial, ⟨lf_10_7, ⟨trivial, ⟨trivial, ⟨trivial, ⟨trivial, ⟨trivial, ⟨trivial, ⟨⟨mok_m10_wouldGet, ⟨by decide, by decide⟩, rfl, by decide, Or.inl lc_10_240⟩, ⟨trivial, ⟨trivial, ⟨trivial, ⟨trivial, ⟨⟨mok_m10_wouldRight, ⟨by decide, by decide⟩, rfl, by decide, Or.inl lc_10_243⟩, ⟨trivial, ⟨trivial, ⟨trivial, ⟨(wt_7 91 (by decide +kernel) rfl), ⟨trivial, ⟨trivial, ⟨trivial, ⟨lf_10_44, ⟨trivial, ⟨trivial, ⟨trivial, ⟨trivial, ⟨trivial, trivial⟩⟩⟩⟩⟩⟩⟩⟩⟩⟩⟩⟩⟩⟩⟩⟩⟩⟩⟩⟩⟩⟩⟩⟩⟩⟩⟩⟩⟩⟩⟩⟩⟩⟩⟩⟩⟩⟩⟩⟩⟩⟩⟩⟩⟩⟩⟩⟩⟩⟩⟩⟩⟩⟩⟩⟩⟩⟩⟩⟩⟩⟩⟩⟩⟩⟩⟩⟩⟩⟩⟩⟩⟩⟩⟩⟩⟩⟩⟩⟩⟩⟩⟩⟩⟩⟩⟩⟩⟩⟩⟩⟩⟩⟩⟩⟩⟩⟩⟩⟩⟩⟩⟩⟩⟩
def bb10_digest_161 : List PI := [(1, .iload_n 3, 0, 0, 0, 0, kZ), (1, .aload_n 0, 0, 0, 0, 0, kZ), (3, .getfield 7, 10, 1, 0, 0, kZ), (1, .iconst 2, 0, 0, 0, 0, kZ), (1, .iaload, 0, 0, 0, 0, kZ), (3, .if_icmp .ge 16, 184, 0, 0, 0, kZ), (1, .aload_n 0, 0, 0, 0, 0, kZ), (1, .lload_n 1, 0, 0, 0, 0, kZ), (1, .iload_n 3, 0, 0, 0, 0, kZ), (3, .invokevirtual 254, 2, 10, 0, 0, m10_digestLine), (1, .lstore_n 1, 0, 0, 0, 0, kZ), (3, .iinc 3 1, 0, 0, 0, 0, kZ), (3, .goto (-20), 161, 0, 0, 0, kZ)]
set_option maxRecDepth 100000 in
theorem oo10_digest_161 : okL m10_digest 161 bb10_digest_161 := okL_of _ _ (by decide +kernel) ⟨trivial, ⟨trivial, ⟨lf_10_7, ⟨trivial, ⟨trivial, ⟨rfl, ⟨trivial, ⟨trivial, ⟨trivial, ⟨⟨mok_m10_digestLine, ⟨by decide, by decide⟩, rfl, by decide, Or.inl lc_10_254⟩, ⟨trivial, ⟨trivial, ⟨rfl, trivial⟩⟩⟩⟩⟩⟩⟩⟩⟩⟩⟩⟩⟩
def bb10_digest_184 : List PI := [(1, .iconst 0, 0, 0, 0, 0, kZ), (1, .istore_n 3, 0, 0, 0, 0, kZ)]
set_option maxRecDepth 100000 in
theorem oo10_digest_184 : okL m10_digest 184 bb10_digest_184 := okL_of _ _ (by decide +kernel) ⟨trivial, ⟨trivial, trivial⟩⟩
def bb10_digest_186 : List PI := [(1, .iload_n 3, 0, 0, 0, 0, kZ), (1, .aload_n 0, 0, 0, 0, 0, kZ), (3, .getfield 7, 10, 1, 0, 0, kZ), (1, .iconst 3, 0, 0, 0, 0, kZ), (1, .iaload, 0, 0, 0, 0, kZ), (3, .if_icmp .ge 26, 219, 0, 0, 0, kZ), (3, .ldc2_w 250, 0, 0, 0, 31, kZ), (1, .lload_n 1, 0, 0, 0, 0, kZ), (1, .lmul, 0, 0, 0, 0, kZ), (1, .aload_n 0, 0, 0, 0, 0, kZ), (3, .getfield 7, 10, 1, 0, 0, kZ), (2, .bipush 68, 0, 0, 0, 0, kZ), (1, .iload_n 3, 0, 0, 0, 0, kZ), (1, .iadd, 0, 0, 0, 0, kZ), (1, .iaload, 0, 0, 0, 0, kZ), (1, .i2l, 0, 0, 0, 0, kZ), (1, .ladd, 0, 0, 0, 0, kZ), (1, .lstore_n 1, 0, 0, 0, 0, kZ), (3, .iinc 3 1, 0, 0, 0, 0, kZ), (3, .goto (-30), 186, 0, 0, 0, kZ)]
set_option maxRecDepth 100000 in
theorem oo10_digest_186 : okL m10_digest 186 bb10_digest_186 := okL_of _ _ (by decide +kernel) ⟨trivial, ⟨trivial, ⟨lf_10_7, ⟨trivial, ⟨trivial, ⟨rfl, ⟨(wt_7 91 (by decide +kernel) rfl), ⟨trivial, ⟨trivial, ⟨trivial, ⟨lf_10_7, ⟨trivial, ⟨trivial, ⟨trivial, ⟨trivial, ⟨trivial, ⟨trivial, ⟨trivial, ⟨trivial, ⟨rfl, trivial⟩⟩⟩⟩⟩⟩⟩⟩⟩⟩⟩⟩⟩⟩⟩⟩⟩⟩⟩⟩
def bb10_digest_219 : List PI := [(1, .iconst 0, 0, 0, 0, 0, kZ), (1, .istore_n 3, 0, 0, 0, 0, kZ)]
set_option maxRecDepth 100000 in
theorem oo10_digest_219 : okL m10_digest 219 bb10_digest_219 := okL_of _ _ (by decide +kernel) ⟨trivial, ⟨trivial, trivial⟩⟩
def bb10_digest_221 : List PI := [(1, .iload_n 3, 0, 0, 0, 0, kZ), (2, .bipush 10, 0, 0, 0, 0, kZ), (3, .if_icmp .ge 61, 285, 0, 0, 0, kZ), (3, .ldc2_w 250, 0, 0, 0, 31, kZ), (1, .lload_n 1, 0, 0, 0, 0, kZ), (1, .lmul, 0, 0, 0, 0, kZ), (1, .aload_n 0, 0, 0, 0, 0, kZ), (1, .iload_n 3, 0, 0, 0, 0, kZ), (3, .invokevirtual 225, 1, 10, 0, 0, m10_isGot), (3, .ifCond .eq 7, 244, 0, 0, 0, kZ), (1, .iconst 1, 0, 0, 0, 0, kZ), (3, .goto 4, 245, 0, 0, 0, kZ)]
set_option maxRecDepth 100000 in
theorem oo10_digest_221 : okL m10_digest 221 bb10_digest_221 := okL_of _ _ (by decide +kernel) ⟨trivial, ⟨trivial, ⟨rfl, ⟨(wt_7 91 (by decide +kernel) rfl), ⟨trivial, ⟨trivial, ⟨trivial, ⟨trivial, ⟨⟨mok_m10_isGot, ⟨by decide, by decide⟩, rfl, by decide, Or.inl lc_10_225⟩, ⟨rfl, ⟨trivial, ⟨rfl, trivial⟩⟩⟩⟩⟩⟩⟩⟩⟩⟩⟩⟩
def bb10_digest_244 : List PI := [(1, .iconst 0, 0, 0, 0, 0, kZ)]
set_option maxRecDepth 100000 in
theorem oo10_digest_244 : okL m10_digest 244 bb10_digest_244 := okL_of _ _ (by decide +kernel) ⟨trivial, trivial⟩
def bb10_digest_245 : List PI := [(1, .i2l, 0, 0, 0, 0, kZ), (1, .ladd, 0, 0, 0, 0, kZ), (1, .lstore_n 1, 0, 0, 0, 0, kZ), (1, .aload_n 0, 0, 0, 0, 0, kZ), (1, .iload_n 3, 0, 0, 0, 0, kZ), (3, .invokevirtual 225, 1, 10, 0, 0, m10_isGot), (3, .ifCond .eq 24, 277, 0, 0, 0, kZ), (3, .ldc2_w 250, 0, 0, 0, 31, kZ), (1, .lload_n 1, 0, 0, 0, 0, kZ), (1, .lmul, 0, 0, 0, 0, kZ), (1, .aload_n 0, 0, 0, 0, 0, kZ), (3, .getfield 7, 10, 1, 0, 0, kZ), (2, .bipush 18, 0, 0, 0, 0, kZ), (1, .iload_n 3, 0, 0, 0, 0, kZ), (1, .iadd, 0, 0, 0, 0, kZ), (1, .iaload, 0, 0, 0, 0, kZ), (3, .invokestatic 141, 1, 10, 0, 0, m10_asLong), (1, .ladd, 0, 0, 0, 0, kZ), (3, .goto 4, 278, 0, 0, 0, kZ)]
set_option maxRecDepth 100000 in
theorem oo10_digest_245 : okL m10_digest 245 bb10_digest_245 := okL_of _ _ (by decide +kernel) ⟨trivial, ⟨trivial, ⟨trivial, ⟨trivial, ⟨trivial, ⟨⟨mok_m10_isGot, ⟨by decide, by decide⟩, rfl, by decide, Or.inl lc_10_225⟩, ⟨rfl, ⟨(wt_7 91 (by decide +kernel) rfl), ⟨trivial, ⟨trivial, ⟨trivial, ⟨lf_10_7, ⟨trivial, ⟨trivial, ⟨trivial, ⟨trivial, ⟨⟨mok_m10_asLong, ⟨by decide, by decide⟩, rfl, Or.inl lc_10_141⟩, ⟨trivial, ⟨rfl, trivial⟩⟩⟩⟩⟩⟩⟩⟩⟩⟩⟩⟩⟩⟩⟩⟩⟩⟩⟩
def bb10_digest_277 : List PI := [(1, .lload_n 1, 0, 0, 0, 0, kZ)]
set_option maxRecDepth 100000 in
theorem oo10_digest_277 : okL m10_digest 277 bb10_digest_277 := okL_of _ _ (by decide +kernel) ⟨trivial, trivial⟩
def bb10_digest_278 : List PI := [(1, .lstore_n 1, 0, 0, 0, 0, kZ), (3, .iinc 3 1, 0, 0, 0, 0, kZ), (3, .goto (-61), 221, 0, 0, 0, kZ)]
set_option maxRecDepth 100000 in
theorem oo10_digest_278 : okL m10_digest 278 bb10_digest_278 := okL_of _ _ (by decide +kernel) ⟨trivial, ⟨trivial, ⟨rfl, trivial⟩⟩⟩
def bb10_digest_285 : List PI := [(1, .iconst 0, 0, 0, 0, 0, kZ), (1, .istore_n 3, 0, 0, 0, 0, kZ)]
set_option maxRecDepth 100000 in
theorem oo10_digest_285 : okL m10_digest 285 bb10_digest_285 := okL_of _ _ (by decide +kernel) ⟨trivial, ⟨trivial, trivial⟩⟩
def bb10_digest_287 : List PI := [(1, .iload_n 3, 0, 0, 0, 0, kZ), (1, .aload_n 0, 0, 0, 0, 0, kZ), (3, .getfield 7, 10, 1, 0, 0, kZ), (1, .iconst 5, 0, 0, 0, 0, kZ), (1, .iaload, 0, 0, 0, 0, kZ), (3, .if_icmp .ge 47, 341, 0, 0, 0, kZ), (3, .ldc2_w 250, 0, 0, 0, 31, kZ), (3, .ldc2_w 250, 0, 0, 0, 31, kZ), (1, .lload_n 1, 0, 0, 0, 0, kZ), (1, .lmul, 0, 0, 0, 0, kZ), (1, .aload_n 0, 0, 0, 0, 0, kZ), (3, .getfield 7, 10, 1, 0, 0, kZ), (2, .bipush 28, 0, 0, 0, 0, kZ), (1, .iconst 2, 0, 0, 0, 0, kZ), (1, .iload_n 3, 0, 0, 0, 0, kZ), (1, .imul, 0, 0, 0, 0, kZ), (1, .iadd, 0, 0, 0, 0, kZ), (1, .iaload, 0, 0, 0, 0, kZ), (1, .i2l, 0, 0, 0, 0, kZ), (1, .ladd, 0, 0, 0, 0, kZ), (1, .lmul, 0, 0, 0, 0, kZ), (1, .aload_n 0, 0, 0, 0, 0, kZ), (3, .getfield 7, 10, 1, 0, 0, kZ), (2, .bipush 28, 0, 0, 0, 0, kZ), (1, .iconst 2, 0, 0, 0, 0, kZ), (1, .iload_n 3, 0, 0, 0, 0, kZ), (1, .imul, 0, 0, 0, 0, kZ), (1, .iadd, 0, 0, 0, 0, kZ), (1, .iconst 1, 0, 0, 0, 0, kZ), (1, .iadd, 0, 0, 0, 0, kZ), (1, .iaload, 0, 0, 0, 0, kZ), (1, .i2l, 0, 0, 0, 0, kZ), (1, .ladd, 0, 0, 0, 0, kZ), (1, .lstore_n 1, 0, 0, 0, 0, kZ), (3, .iinc 3 1, 0, 0, 0, 0, kZ), (3, .goto (-51), 287, 0, 0, 0, kZ)]
set_option maxRecDepth 100000 in
theorem oo10_digest_287 : okL m10_digest 287 bb10_digest_287 := okL_of _ _ (by decide +kernel) ⟨trivial, ⟨trivial, ⟨lf_10_7, ⟨trivial, ⟨trivial, ⟨rfl, ⟨(wt_7 91 (by decide +kernel) rfl), ⟨(wt_7 91 (by decide +kernel) rfl), ⟨trivial, ⟨trivial, ⟨trivial, ⟨lf_10_7, ⟨trivial, ⟨trivial, ⟨trivial, ⟨trivial, ⟨trivial, ⟨trivial, ⟨trivial, ⟨trivial, ⟨trivial, ⟨trivial, ⟨lf_10_7, ⟨trivial, ⟨trivial, ⟨trivial, ⟨trivial, ⟨trivial, ⟨trivial, ⟨trivial, ⟨trivial, ⟨trivial, ⟨trivial, ⟨trivial, ⟨trivial, ⟨rfl, trivial⟩⟩⟩⟩⟩⟩⟩⟩⟩⟩⟩⟩⟩⟩⟩⟩⟩⟩⟩⟩⟩⟩⟩⟩⟩⟩⟩⟩⟩⟩⟩⟩⟩⟩⟩⟩
def bb10_digest_341 : List PI := [(3, .ldc2_w 250, 0, 0, 0, 31, kZ), (1, .lload_n 1, 0, 0, 0, 0, kZ), (1, .lmul, 0, 0, 0, 0, kZ), (1, .aload_n 0, 0, 0, 0, 0, kZ), (3, .getfield 7, 10, 1, 0, 0, kZ), (2, .bipush 6, 0, 0, 0, 0, kZ), (1, .iaload, 0, 0, 0, 0, kZ), (1, .iconst (-1), 0, 0, 0, 0, kZ), (3, .if_icmp .ne 7, 361, 0, 0, 0, kZ), (1, .iconst 0, 0, 0, 0, 0, kZ), (3, .goto 4, 362, 0, 0, 0, kZ)]
set_option maxRecDepth 100000 in
theorem oo10_digest_341 : okL m10_digest 341 bb10_digest_341 := okL_of _ _ (by decide +kernel) ⟨(wt_7 91 (by decide +kernel) rfl), ⟨trivial, ⟨trivial, ⟨trivial, ⟨lf_10_7, ⟨trivial, ⟨trivial, ⟨trivial, ⟨rfl, ⟨trivial, ⟨rfl, trivial⟩⟩⟩⟩⟩⟩⟩⟩⟩⟩⟩
def bb10_digest_361 : List PI := [(1, .iconst 1, 0, 0, 0, 0, kZ)]
set_option maxRecDepth 100000 in
theorem oo10_digest_361 : okL m10_digest 361 bb10_digest_361 := okL_of _ _ (by decide +kernel) ⟨trivial, trivial⟩
def bb10_digest_362 : List PI := [(1, .i2l, 0, 0, 0, 0, kZ), (1, .ladd, 0, 0, 0, 0, kZ), (1, .lstore_n 1, 0, 0, 0, 0, kZ), (1, .aload_n 0, 0, 0, 0, 0, kZ), (3, .getfield 7, 10, 1, 0, 0, kZ), (2, .bipush 6, 0, 0, 0, 0, kZ), (1, .iaload, 0, 0, 0, 0, kZ), (1, .iconst (-1), 0, 0, 0, 0, kZ), (3, .if_icmp .ne 7, 380, 0, 0, 0, kZ), (1, .lload_n 1, 0, 0, 0, 0, kZ), (3, .goto 17, 394, 0, 0, 0, kZ)]
set_option maxRecDepth 100000 in
theorem oo10_digest_362 : okL m10_digest 362 bb10_digest_362 := okL_of _ _ (by decide +kernel) ⟨trivial, ⟨trivial, ⟨trivial, ⟨trivial, ⟨lf_10_7, ⟨trivial, ⟨trivial, ⟨trivial, ⟨rfl, ⟨trivial, ⟨rfl, trivial⟩⟩⟩⟩⟩⟩⟩⟩⟩⟩⟩
def bb10_digest_380 : List PI := [(3, .ldc2_w 250, 0, 0, 0, 31, kZ), (1, .lload_n 1, 0, 0, 0, 0, kZ), (1, .lmul, 0, 0, 0, 0, kZ), (1, .aload_n 0, 0, 0, 0, 0, kZ), (3, .getfield 7, 10, 1, 0, 0, kZ), (2, .bipush 6, 0, 0, 0, 0, kZ), (1, .iaload, 0, 0, 0, 0, kZ), (1, .i2l, 0, 0, 0, 0, kZ), (1, .ladd, 0, 0, 0, 0, kZ)]
set_option maxRecDepth 100000 in
theorem oo10_digest_380 : okL m10_digest 380 bb10_digest_380 := okL_of _ _ (by decide +kernel) ⟨(wt_7 91 (by decide +kernel) rfl), ⟨trivial, ⟨trivial, ⟨trivial, ⟨lf_10_7, ⟨trivial, ⟨trivial, ⟨trivial, ⟨trivial, trivial⟩⟩⟩⟩⟩⟩⟩⟩⟩
def bb10_digest_394 : List PI := [(1, .lstore_n 1, 0, 0, 0, 0, kZ), (3, .ldc2_w 250, 0, 0, 0, 31, kZ), (1, .lload_n 1, 0, 0, 0, 0, kZ), (1, .lmul, 0, 0, 0, 0, kZ), (1, .aload_n 0, 0, 0, 0, 0, kZ), (3, .invokevirtual 246, 0, 10, 0, 0, m10_share), (3, .invokestatic 258, 1, 0, 0, 0, mJxe99ae_doubleToLongBits), (1, .ladd, 0, 0, 0, 0, kZ), (1, .lstore_n 1, 0, 0, 0, 0, kZ), (3, .ldc2_w 250, 0, 0, 0, 31, kZ), (1, .lload_n 1, 0, 0, 0, 0, kZ), (1, .lmul, 0, 0, 0, 0, kZ), (1, .aload_n 0, 0, 0, 0, 0, kZ), (3, .getfield 160, 10, 8, 0, 0, kZ), (1, .i2l, 0, 0, 0, 0, kZ), (1, .ladd, 0, 0, 0, 0, kZ), (1, .lstore_n 1, 0, 0, 0, 0, kZ), (1, .iconst 0, 0, 0, 0, 0, kZ), (1, .istore_n 3, 0, 0, 0, 0, kZ)]
set_option maxRecDepth 100000 in
theorem oo10_digest_394 : okL m10_digest 394 bb10_digest_394 := okL_of _ _ (by decide +kernel) ⟨trivial, ⟨(wt_7 91 (by decide +kernel) rfl), ⟨trivial, ⟨trivial, ⟨trivial, ⟨⟨mok_m10_share, ⟨by decide, by decide⟩, rfl, by decide, Or.inl lc_10_246⟩, ⟨⟨mok_mJxe99ae_doubleToLongBits, ⟨by decide, by decide⟩, rfl, Or.inl lc_10_258⟩, ⟨trivial, ⟨trivial, ⟨(wt_7 91 (by decide +kernel) rfl), ⟨trivial, ⟨trivial, ⟨trivial, ⟨lf_10_160, ⟨trivial, ⟨trivial, ⟨trivial, ⟨trivial, ⟨trivial, trivial⟩⟩⟩⟩⟩⟩⟩⟩⟩⟩⟩⟩⟩⟩⟩⟩⟩⟩⟩
def bb10_digest_423 : List PI := [(1, .iload_n 3, 0, 0, 0, 0, kZ), (1, .aload_n 0, 0, 0, 0, 0, kZ), (3, .getfield 160, 10, 8, 0, 0, kZ), (3, .if_icmp .ge 23, 451, 0, 0, 0, kZ), (3, .ldc2_w 250, 0, 0, 0, 31, kZ), (1, .lload_n 1, 0, 0, 0, 0, kZ), (1, .lmul, 0, 0, 0, 0, kZ), (1, .aload_n 0, 0, 0, 0, 0, kZ), (3, .getfield 22, 10, 7, 0, 0, kZ), (1, .iload_n 3, 0, 0, 0, 0, kZ), (1, .iaload, 0, 0, 0, 0, kZ), (1, .i2l, 0, 0, 0, 0, kZ), (1, .ladd, 0, 0, 0, 0, kZ), (1, .lstore_n 1, 0, 0, 0, 0, kZ), (3, .iinc 3 1, 0, 0, 0, 0, kZ), (3, .goto (-25), 423, 0, 0, 0, kZ)]
set_option maxRecDepth 100000 in
theorem oo10_digest_423 : okL m10_digest 423 bb10_digest_423 := okL_of _ _ (by decide +kernel) ⟨trivial, ⟨trivial, ⟨lf_10_160, ⟨rfl, ⟨(wt_7 91 (by decide +kernel) rfl), ⟨trivial, ⟨trivial, ⟨trivial, ⟨lf_10_22, ⟨trivial, ⟨trivial, ⟨trivial, ⟨trivial, ⟨trivial, ⟨trivial, ⟨rfl, trivial⟩⟩⟩⟩⟩⟩⟩⟩⟩⟩⟩⟩⟩⟩⟩⟩
def bb10_digest_451 : List PI := [(1, .lload_n 1, 0, 0, 0, 0, kZ), (1, .lreturn, 0, 0, 0, 0, kZ)]
set_option maxRecDepth 100000 in
theorem oo10_digest_451 : okL m10_digest 451 bb10_digest_451 := okL_of _ _ (by decide +kernel) ⟨trivial, ⟨rfl, trivial⟩⟩
def cd10_digest (t : Nat) : Option (List PI) := match t with
  | 0 => some bb10_digest_0
  | 184 => some bb10_digest_184
  | 219 => some bb10_digest_219
  | 244 => some bb10_digest_244
  | 245 => some bb10_digest_245
  | 277 => some bb10_digest_277
  | 278 => some bb10_digest_278
  | 285 => some bb10_digest_285
  | 341 => some bb10_digest_341
  | 361 => some bb10_digest_361
  | 362 => some bb10_digest_362
  | 380 => some bb10_digest_380
  | 394 => some bb10_digest_394
  | 451 => some bb10_digest_451
  | _ => none
theorem kd10_digest : ∀ t is, cd10_digest t = some is → okL m10_digest t is := by
  intro t is h
  unfold cd10_digest at h
  split at h <;> cases h
  · exact oo10_digest_0
  · exact oo10_digest_184
  · exact oo10_digest_219
  · exact oo10_digest_244
  · exact oo10_digest_245
  · exact oo10_digest_277
  · exact oo10_digest_278
  · exact oo10_digest_285
  · exact oo10_digest_341
  · exact oo10_digest_361
  · exact oo10_digest_362
  · exact oo10_digest_380
  · exact oo10_digest_394
  · exact oo10_digest_451
theorem ff10_digest : mi_r m10_digest = (some .long) ∧ mi_l m10_digest = 4 ∧ mi_h m10_digest = [] ∧ (mi_rm m10_digest).cells = 0 ∧ (mi_rm m10_digest).slots = 0 ∧ (mi_rm m10_digest).locals = 211 ∧ cd10_digest 0 = some bb10_digest_0 ∧ cd10_digest 161 = none ∧ cd10_digest 184 = some bb10_digest_184 ∧ cd10_digest 186 = none ∧ cd10_digest 219 = some bb10_digest_219 ∧ cd10_digest 221 = none ∧ cd10_digest 244 = some bb10_digest_244 ∧ cd10_digest 245 = some bb10_digest_245 ∧ cd10_digest 277 = some bb10_digest_277 ∧ cd10_digest 278 = some bb10_digest_278 ∧ cd10_digest 285 = some bb10_digest_285 ∧ cd10_digest 287 = none ∧ cd10_digest 341 = some bb10_digest_341 ∧ cd10_digest 361 = some bb10_digest_361 ∧ cd10_digest 362 = some bb10_digest_362 ∧ cd10_digest 380 = some bb10_digest_380 ∧ cd10_digest 394 = some bb10_digest_394 ∧ cd10_digest 423 = none ∧ cd10_digest 451 = some bb10_digest_451 ∧ (mi_rm m10_asLong).cells = 0 ∧ (mi_rm m10_asLong).slots = 0 ∧ (mi_rm m10_black).cells = 0 ∧ (mi_rm m10_black).slots = 0 ∧ (mi_rm m10_digestLine).cells = 0 ∧ (mi_rm m10_digestLine).slots = 0 ∧ (mi_rm m10_gotMany).cells = 0 ∧ (mi_rm m10_gotMany).slots = 0 ∧ (mi_rm m10_isGot).cells = 0 ∧ (mi_rm m10_isGot).slots = 0 ∧ (mi_rm m10_markerMany).cells = 0 ∧ (mi_rm m10_markerMany).slots = 0 ∧ (mi_rm m10_rightMany).cells = 0 ∧ (mi_rm m10_rightMany).slots = 0 ∧ (mi_rm m10_sendsMany).cells = 0 ∧ (mi_rm m10_sendsMany).slots = 0 ∧ (mi_rm m10_share).cells = 0 ∧ (mi_rm m10_share).slots = 0 ∧ (mi_rm m10_wouldGet).cells = 0 ∧ (mi_rm m10_wouldGet).slots = 0 ∧ (mi_rm m10_wouldRight).cells = 0 ∧ (mi_rm m10_wouldRight).slots = 0 ∧ (mi_rm mJxe99ae_doubleToLongBits).cells = 0 ∧ (mi_rm mJxe99ae_doubleToLongBits).slots = 0 := ⟨rfl, rfl, rfl, rfl, rfl, rfl, rfl, rfl, rfl, rfl, rfl, rfl, rfl, rfl, rfl, rfl, rfl, rfl, rfl, rfl, rfl, rfl, rfl, rfl, rfl, rfl, rfl, rfl, rfl, rfl, rfl, rfl, rfl, rfl, rfl, rfl, rfl, rfl, rfl, rfl, rfl, rfl, rfl, rfl, rfl, rfl, rfl, rfl, rfl⟩
set_option maxRecDepth 100000 in
theorem okt_mL_setWidth : okT mL_setWidth 4 := List.forall_mem_cons.mpr ⟨⟨by decide, by decide, (wt_3 169 (by decide +kernel) rfl), (nt_3 176 (by decide +kernel) rfl)⟩, (fun _ h => nomatch h)⟩
def bbL_setWidth_0 : List PI := [(1, .aload_n 2, 0, 0, 0, 0, kZ), (1, .iconst 0, 0, 0, 0, 0, kZ), (1, .aload_n 0, 0, 0, 0, 0, kZ), (1, .iload_n 1, 0, 0, 0, 0, kZ), (3, .invokevirtual 7, 1, 9, 1, 0, m9_setWidth), (1, .i2l, 0, 0, 0, 0, kZ), (1, .lastore, 0, 0, 0, 0, kZ), (3, .goto 6, 15, 0, 0, 0, kZ)]
set_option maxRecDepth 100000 in
theorem ooL_setWidth_0 : okL mL_setWidth 0 bbL_setWidth_0 := okL_of _ _ (by decide +kernel) ⟨trivial, ⟨trivial, ⟨trivial, ⟨trivial, ⟨⟨mok_m9_setWidth, ⟨by decide, by decide⟩, rfl, by decide, lc_L_7, okt_mL_setWidth⟩, ⟨trivial, ⟨trivial, ⟨rfl, trivial⟩⟩⟩⟩⟩⟩⟩⟩
def bbL_setWidth_12 : List PI := [(1, .astore_n 3, 0, 0, 0, 0, kZ), (1, .iconst 1, 0, 0, 0, 0, kZ), (1, .ireturn, 0, 0, 0, 0, kZ)]
set_option maxRecDepth 100000 in
theorem ooL_setWidth_12 : okL mL_setWidth 12 bbL_setWidth_12 := okL_of _ _ (by decide +kernel) ⟨trivial, ⟨trivial, ⟨trivial, trivial⟩⟩⟩
def bbL_setWidth_15 : List PI := [(1, .iconst 0, 0, 0, 0, 0, kZ), (1, .ireturn, 0, 0, 0, 0, kZ)]
set_option maxRecDepth 100000 in
theorem ooL_setWidth_15 : okL mL_setWidth 15 bbL_setWidth_15 := okL_of _ _ (by decide +kernel) ⟨trivial, ⟨trivial, trivial⟩⟩
def cdL_setWidth (t : Nat) : Option (List PI) := match t with
  | 0 => some bbL_setWidth_0
  | 12 => some bbL_setWidth_12
  | 15 => some bbL_setWidth_15
  | _ => none
theorem kdL_setWidth : ∀ t is, cdL_setWidth t = some is → okL mL_setWidth t is := by
  intro t is h
  unfold cdL_setWidth at h
  split at h <;> cases h
  · exact ooL_setWidth_0
  · exact ooL_setWidth_12
  · exact ooL_setWidth_15
theorem ffL_setWidth : mi_r mL_setWidth = (some .int) ∧ mi_l mL_setWidth = 4 ∧ mi_h mL_setWidth = [((0, 9, 12, 13), eIA)] ∧ (mi_rm mL_setWidth).cells = 1 ∧ (mi_rm mL_setWidth).slots = 6 ∧ (mi_rm mL_setWidth).locals = 139 ∧ cdL_setWidth 0 = some bbL_setWidth_0 ∧ cdL_setWidth 12 = some bbL_setWidth_12 ∧ cdL_setWidth 15 = some bbL_setWidth_15 ∧ (mi_rm m9_setWidth).cells = 1 ∧ (mi_rm m9_setWidth).slots = 6 := ⟨rfl, rfl, rfl, rfl, rfl, rfl, rfl, rfl, rfl, rfl, rfl⟩
set_option maxRecDepth 100000 in
theorem okt_mL_addLine : okT mL_addLine 4 := List.forall_mem_cons.mpr ⟨⟨by decide, by decide, (wt_3 169 (by decide +kernel) rfl), (nt_3 176 (by decide +kernel) rfl)⟩, List.forall_mem_cons.mpr ⟨⟨by decide, by decide, (wt_4 10 (by decide +kernel) rfl), (nt_4 30 (by decide +kernel) rfl)⟩, (fun _ h => nomatch h)⟩⟩
def bbL_addLine_0 : List PI := [(1, .aload_n 3, 0, 0, 0, 0, kZ), (1, .iconst 0, 0, 0, 0, 0, kZ), (1, .aload_n 0, 0, 0, 0, 0, kZ), (1, .lload_n 1, 0, 0, 0, 0, kZ), (3, .invokevirtual 15, 1, 9, 1, 0, m9_addLine), (1, .i2l, 0, 0, 0, 0, kZ), (1, .lastore, 0, 0, 0, 0, kZ), (3, .goto 11, 20, 0, 0, 0, kZ)]
set_option maxRecDepth 100000 in
theorem ooL_addLine_0 : okL mL_addLine 0 bbL_addLine_0 := okL_of _ _ (by decide +kernel) ⟨trivial, ⟨trivial, ⟨trivial, ⟨trivial, ⟨⟨mok_m9_addLine, ⟨by decide, by decide⟩, rfl, by decide, lc_L_15, okt_mL_addLine⟩, ⟨trivial, ⟨trivial, ⟨rfl, trivial⟩⟩⟩⟩⟩⟩⟩⟩
def bbL_addLine_12 : List PI := [(2, .astore 4, 0, 0, 0, 0, kZ), (1, .iconst 1, 0, 0, 0, 0, kZ), (1, .ireturn, 0, 0, 0, 0, kZ)]
set_option maxRecDepth 100000 in
theorem ooL_addLine_12 : okL mL_addLine 12 bbL_addLine_12 := okL_of _ _ (by decide +kernel) ⟨trivial, ⟨trivial, ⟨trivial, trivial⟩⟩⟩
def bbL_addLine_16 : List PI := [(2, .astore 4, 0, 0, 0, 0, kZ), (1, .iconst 2, 0, 0, 0, 0, kZ), (1, .ireturn, 0, 0, 0, 0, kZ)]
set_option maxRecDepth 100000 in
theorem ooL_addLine_16 : okL mL_addLine 16 bbL_addLine_16 := okL_of _ _ (by decide +kernel) ⟨trivial, ⟨trivial, ⟨trivial, trivial⟩⟩⟩
def bbL_addLine_20 : List PI := [(1, .iconst 0, 0, 0, 0, 0, kZ), (1, .ireturn, 0, 0, 0, 0, kZ)]
set_option maxRecDepth 100000 in
theorem ooL_addLine_20 : okL mL_addLine 20 bbL_addLine_20 := okL_of _ _ (by decide +kernel) ⟨trivial, ⟨trivial, trivial⟩⟩
def cdL_addLine (t : Nat) : Option (List PI) := match t with
  | 0 => some bbL_addLine_0
  | 12 => some bbL_addLine_12
  | 16 => some bbL_addLine_16
  | 20 => some bbL_addLine_20
  | _ => none
theorem kdL_addLine : ∀ t is, cdL_addLine t = some is → okL mL_addLine t is := by
  intro t is h
  unfold cdL_addLine at h
  split at h <;> cases h
  · exact ooL_addLine_0
  · exact ooL_addLine_12
  · exact ooL_addLine_16
  · exact ooL_addLine_20
theorem ffL_addLine : mi_r mL_addLine = (some .int) ∧ mi_l mL_addLine = 5 ∧ mi_h mL_addLine = [((0, 9, 12, 13), eIA), ((0, 9, 16, 19), eIS)] ∧ (mi_rm mL_addLine).cells = 2 ∧ (mi_rm mL_addLine).slots = 12 ∧ (mi_rm mL_addLine).locals = 139 ∧ cdL_addLine 0 = some bbL_addLine_0 ∧ cdL_addLine 12 = some bbL_addLine_12 ∧ cdL_addLine 16 = some bbL_addLine_16 ∧ cdL_addLine 20 = some bbL_addLine_20 ∧ (mi_rm m9_addLine).cells = 2 ∧ (mi_rm m9_addLine).slots = 12 := ⟨rfl, rfl, rfl, rfl, rfl, rfl, rfl, rfl, rfl, rfl, rfl, rfl⟩
set_option maxRecDepth 100000 in
theorem okt_mL_setLine : okT mL_setLine 6 := List.forall_mem_cons.mpr ⟨⟨by decide, by decide, (wt_4 51 (by decide +kernel) rfl), (nt_4 66 (by decide +kernel) rfl)⟩, List.forall_mem_cons.mpr ⟨⟨by decide, by decide, (wt_3 169 (by decide +kernel) rfl), (nt_3 176 (by decide +kernel) rfl)⟩, (fun _ h => nomatch h)⟩⟩
def bbL_setLine_0 : List PI := [(2, .aload 4, 0, 0, 0, 0, kZ), (1, .iconst 0, 0, 0, 0, 0, kZ), (1, .aload_n 0, 0, 0, 0, 0, kZ), (1, .iload_n 1, 0, 0, 0, 0, kZ), (1, .lload_n 2, 0, 0, 0, 0, kZ), (3, .invokevirtual 21, 2, 9, 1, 0, m9_setLine), (1, .lastore, 0, 0, 0, 0, kZ), (3, .goto 11, 21, 0, 0, 0, kZ)]
set_option maxRecDepth 100000 in
theorem ooL_setLine_0 : okL mL_setLine 0 bbL_setLine_0 := okL_of _ _ (by decide +kernel) ⟨trivial, ⟨trivial, ⟨trivial, ⟨trivial, ⟨trivial, ⟨⟨mok_m9_setLine, ⟨by decide, by decide⟩, rfl, by decide, lc_L_21, okt_mL_setLine⟩, ⟨trivial, ⟨rfl, trivial⟩⟩⟩⟩⟩⟩⟩⟩
def bbL_setLine_13 : List PI := [(2, .astore 5, 0, 0, 0, 0, kZ), (1, .iconst 1, 0, 0, 0, 0, kZ), (1, .ireturn, 0, 0, 0, 0, kZ)]
set_option maxRecDepth 100000 in
theorem ooL_setLine_13 : okL mL_setLine 13 bbL_setLine_13 := okL_of _ _ (by decide +kernel) ⟨trivial, ⟨trivial, ⟨trivial, trivial⟩⟩⟩
def bbL_setLine_17 : List PI := [(2, .astore 5, 0, 0, 0, 0, kZ), (1, .iconst 2, 0, 0, 0, 0, kZ), (1, .ireturn, 0, 0, 0, 0, kZ)]
set_option maxRecDepth 100000 in
theorem ooL_setLine_17 : okL mL_setLine 17 bbL_setLine_17 := okL_of _ _ (by decide +kernel) ⟨trivial, ⟨trivial, ⟨trivial, trivial⟩⟩⟩
def bbL_setLine_21 : List PI := [(1, .iconst 0, 0, 0, 0, 0, kZ), (1, .ireturn, 0, 0, 0, 0, kZ)]
set_option maxRecDepth 100000 in
theorem ooL_setLine_21 : okL mL_setLine 21 bbL_setLine_21 := okL_of _ _ (by decide +kernel) ⟨trivial, ⟨trivial, trivial⟩⟩
def cdL_setLine (t : Nat) : Option (List PI) := match t with
  | 0 => some bbL_setLine_0
  | 13 => some bbL_setLine_13
  | 17 => some bbL_setLine_17
  | 21 => some bbL_setLine_21
  | _ => none
theorem kdL_setLine : ∀ t is, cdL_setLine t = some is → okL mL_setLine t is := by
  intro t is h
  unfold cdL_setLine at h
  split at h <;> cases h
  · exact ooL_setLine_0
  · exact ooL_setLine_13
  · exact ooL_setLine_17
  · exact ooL_setLine_21
theorem ffL_setLine : mi_r mL_setLine = (some .int) ∧ mi_l mL_setLine = 6 ∧ mi_h mL_setLine = [((0, 10, 13, 25), eIO), ((0, 10, 17, 13), eIA)] ∧ (mi_rm mL_setLine).cells = 2 ∧ (mi_rm mL_setLine).slots = 12 ∧ (mi_rm mL_setLine).locals = 142 ∧ cdL_setLine 0 = some bbL_setLine_0 ∧ cdL_setLine 13 = some bbL_setLine_13 ∧ cdL_setLine 17 = some bbL_setLine_17 ∧ cdL_setLine 21 = some bbL_setLine_21 ∧ (mi_rm m9_setLine).cells = 2 ∧ (mi_rm m9_setLine).slots = 12 := ⟨rfl, rfl, rfl, rfl, rfl, rfl, rfl, rfl, rfl, rfl, rfl, rfl⟩
set_option maxRecDepth 100000 in
theorem okt_mL_dropLast : okT mL_dropLast 3 := List.forall_mem_cons.mpr ⟨⟨by decide, by decide, (wt_4 10 (by decide +kernel) rfl), (nt_4 30 (by decide +kernel) rfl)⟩, (fun _ h => nomatch h)⟩
def bbL_dropLast_0 : List PI := [(1, .aload_n 1, 0, 0, 0, 0, kZ), (1, .iconst 0, 0, 0, 0, 0, kZ), (1, .aload_n 0, 0, 0, 0, 0, kZ), (3, .invokevirtual 27, 0, 9, 1, 0, m9_dropLast), (1, .i2l, 0, 0, 0, 0, kZ), (1, .lastore, 0, 0, 0, 0, kZ), (3, .goto 6, 14, 0, 0, 0, kZ)]
set_option maxRecDepth 100000 in
theorem ooL_dropLast_0 : okL mL_dropLast 0 bbL_dropLast_0 := okL_of _ _ (by decide +kernel) ⟨trivial, ⟨trivial, ⟨trivial, ⟨⟨mok_m9_dropLast, ⟨by decide, by decide⟩, rfl, by decide, lc_L_27, okt_mL_dropLast⟩, ⟨trivial, ⟨trivial, ⟨rfl, trivial⟩⟩⟩⟩⟩⟩⟩
def bbL_dropLast_11 : List PI := [(1, .astore_n 2, 0, 0, 0, 0, kZ), (1, .iconst 1, 0, 0, 0, 0, kZ), (1, .ireturn, 0, 0, 0, 0, kZ)]
set_option maxRecDepth 100000 in
theorem ooL_dropLast_11 : okL mL_dropLast 11 bbL_dropLast_11 := okL_of _ _ (by decide +kernel) ⟨trivial, ⟨trivial, ⟨trivial, trivial⟩⟩⟩
def bbL_dropLast_14 : List PI := [(1, .iconst 0, 0, 0, 0, 0, kZ), (1, .ireturn, 0, 0, 0, 0, kZ)]
set_option maxRecDepth 100000 in
theorem ooL_dropLast_14 : okL mL_dropLast 14 bbL_dropLast_14 := okL_of _ _ (by decide +kernel) ⟨trivial, ⟨trivial, trivial⟩⟩
def cdL_dropLast (t : Nat) : Option (List PI) := match t with
  | 0 => some bbL_dropLast_0
  | 11 => some bbL_dropLast_11
  | 14 => some bbL_dropLast_14
  | _ => none
theorem kdL_dropLast : ∀ t is, cdL_dropLast t = some is → okL mL_dropLast t is := by
  intro t is h
  unfold cdL_dropLast at h
  split at h <;> cases h
  · exact ooL_dropLast_0
  · exact ooL_dropLast_11
  · exact ooL_dropLast_14
theorem ffL_dropLast : mi_r mL_dropLast = (some .int) ∧ mi_l mL_dropLast = 3 ∧ mi_h mL_dropLast = [((0, 8, 11, 19), eIS)] ∧ (mi_rm mL_dropLast).cells = 1 ∧ (mi_rm mL_dropLast).slots = 6 ∧ (mi_rm mL_dropLast).locals = 137 ∧ cdL_dropLast 0 = some bbL_dropLast_0 ∧ cdL_dropLast 11 = some bbL_dropLast_11 ∧ cdL_dropLast 14 = some bbL_dropLast_14 ∧ (mi_rm m9_dropLast).cells = 1 ∧ (mi_rm m9_dropLast).slots = 6 := ⟨rfl, rfl, rfl, rfl, rfl, rfl, rfl, rfl, rfl, rfl, rfl⟩
set_option maxRecDepth 100000 in
theorem okt_mL_setStyle : okT mL_setStyle 4 := List.forall_mem_cons.mpr ⟨⟨by decide, by decide, (wt_3 169 (by decide +kernel) rfl), (nt_3 176 (by decide +kernel) rfl)⟩, (fun _ h => nomatch h)⟩
def bbL_setStyle_0 : List PI := [(1, .aload_n 2, 0, 0, 0, 0, kZ), (1, .iconst 0, 0, 0, 0, 0, kZ), (1, .aload_n 0, 0, 0, 0, 0, kZ), (1, .iload_n 1, 0, 0, 0, 0, kZ), (3, .invokevirtual 31, 1, 9, 1, 0, m9_setStyle), (1, .i2l, 0, 0, 0, 0, kZ), (1, .lastore, 0, 0, 0, 0, kZ), (3, .goto 6, 15, 0, 0, 0, kZ)]
set_option maxRecDepth 100000 in
theorem ooL_setStyle_0 : okL mL_setStyle 0 bbL_setStyle_0 := okL_of _ _ (by decide +kernel) ⟨trivial, ⟨trivial, ⟨trivial, ⟨trivial, ⟨⟨mok_m9_setStyle, ⟨by decide, by decide⟩, rfl, by decide, lc_L_31, okt_mL_setStyle⟩, ⟨trivial, ⟨trivial, ⟨rfl, trivial⟩⟩⟩⟩⟩⟩⟩⟩
def bbL_setStyle_12 : List PI := [(1, .astore_n 3, 0, 0, 0, 0, kZ), (1, .iconst 1, 0, 0, 0, 0, kZ), (1, .ireturn, 0, 0, 0, 0, kZ)]
set_option maxRecDepth 100000 in
theorem ooL_setStyle_12 : okL mL_setStyle 12 bbL_setStyle_12 := okL_of _ _ (by decide +kernel) ⟨trivial, ⟨trivial, ⟨trivial, trivial⟩⟩⟩
def bbL_setStyle_15 : List PI := [(1, .iconst 0, 0, 0, 0, 0, kZ), (1, .ireturn, 0, 0, 0, 0, kZ)]
set_option maxRecDepth 100000 in
theorem ooL_setStyle_15 : okL mL_setStyle 15 bbL_setStyle_15 := okL_of _ _ (by decide +kernel) ⟨trivial, ⟨trivial, trivial⟩⟩
def cdL_setStyle (t : Nat) : Option (List PI) := match t with
  | 0 => some bbL_setStyle_0
  | 12 => some bbL_setStyle_12
  | 15 => some bbL_setStyle_15
  | _ => none
theorem kdL_setStyle : ∀ t is, cdL_setStyle t = some is → okL mL_setStyle t is := by
  intro t is h
  unfold cdL_setStyle at h
  split at h <;> cases h
  · exact ooL_setStyle_0
  · exact ooL_setStyle_12
  · exact ooL_setStyle_15
theorem ffL_setStyle : mi_r mL_setStyle = (some .int) ∧ mi_l mL_setStyle = 4 ∧ mi_h mL_setStyle = [((0, 9, 12, 13), eIA)] ∧ (mi_rm mL_setStyle).cells = 1 ∧ (mi_rm mL_setStyle).slots = 6 ∧ (mi_rm mL_setStyle).locals = 139 ∧ cdL_setStyle 0 = some bbL_setStyle_0 ∧ cdL_setStyle 12 = some bbL_setStyle_12 ∧ cdL_setStyle 15 = some bbL_setStyle_15 ∧ (mi_rm m9_setStyle).cells = 1 ∧ (mi_rm m9_setStyle).slots = 6 := ⟨rfl, rfl, rfl, rfl, rfl, rfl, rfl, rfl, rfl, rfl, rfl⟩
set_option maxRecDepth 100000 in
theorem okt_mL_replace : okT mL_replace 5 := List.forall_mem_cons.mpr ⟨⟨by decide, by decide, (wt_4 51 (by decide +kernel) rfl), (nt_4 66 (by decide +kernel) rfl)⟩, List.forall_mem_cons.mpr ⟨⟨by decide, by decide, (wt_3 169 (by decide +kernel) rfl), (nt_3 176 (by decide +kernel) rfl)⟩, (fun _ h => nomatch h)⟩⟩
def bbL_replace_0 : List PI := [(1, .aload_n 3, 0, 0, 0, 0, kZ), (1, .iconst 0, 0, 0, 0, 0, kZ), (1, .aload_n 0, 0, 0, 0, 0, kZ), (1, .iload_n 1, 0, 0, 0, 0, kZ), (1, .iload_n 2, 0, 0, 0, 0, kZ), (3, .invokevirtual 34, 2, 9, 1, 0, m9_replace), (1, .i2l, 0, 0, 0, 0, kZ), (1, .lastore, 0, 0, 0, 0, kZ), (3, .goto 11, 21, 0, 0, 0, kZ)]
set_option maxRecDepth 100000 in
theorem ooL_replace_0 : okL mL_replace 0 bbL_replace_0 := okL_of _ _ (by decide +kernel) ⟨trivial, ⟨trivial, ⟨trivial, ⟨trivial, ⟨trivial, ⟨⟨mok_m9_replace, ⟨by decide, by decide⟩, rfl, by decide, lc_L_34, okt_mL_replace⟩, ⟨trivial, ⟨trivial, ⟨rfl, trivial⟩⟩⟩⟩⟩⟩⟩⟩⟩
def bbL_replace_13 : List PI := [(2, .astore 4, 0, 0, 0, 0, kZ), (1, .iconst 1, 0, 0, 0, 0, kZ), (1, .ireturn, 0, 0, 0, 0, kZ)]
set_option maxRecDepth 100000 in
theorem ooL_replace_13 : okL mL_replace 13 bbL_replace_13 := okL_of _ _ (by decide +kernel) ⟨trivial, ⟨trivial, ⟨trivial, trivial⟩⟩⟩
def bbL_replace_17 : List PI := [(2, .astore 4, 0, 0, 0, 0, kZ), (1, .iconst 2, 0, 0, 0, 0, kZ), (1, .ireturn, 0, 0, 0, 0, kZ)]
set_option maxRecDepth 100000 in
theorem ooL_replace_17 : okL mL_replace 17 bbL_replace_17 := okL_of _ _ (by decide +kernel) ⟨trivial, ⟨trivial, ⟨trivial, trivial⟩⟩⟩
def bbL_replace_21 : List PI := [(1, .iconst 0, 0, 0, 0, 0, kZ), (1, .ireturn, 0, 0, 0, 0, kZ)]
set_option maxRecDepth 100000 in
theorem ooL_replace_21 : okL mL_replace 21 bbL_replace_21 := okL_of _ _ (by decide +kernel) ⟨trivial, ⟨trivial, trivial⟩⟩
def cdL_replace (t : Nat) : Option (List PI) := match t with
  | 0 => some bbL_replace_0
  | 13 => some bbL_replace_13
  | 17 => some bbL_replace_17
  | 21 => some bbL_replace_21
  | _ => none
theorem kdL_replace : ∀ t is, cdL_replace t = some is → okL mL_replace t is := by
  intro t is h
  unfold cdL_replace at h
  split at h <;> cases h
  · exact ooL_replace_0
  · exact ooL_replace_13
  · exact ooL_replace_17
  · exact ooL_replace_21
theorem ffL_replace : mi_r mL_replace = (some .int) ∧ mi_l mL_replace = 5 ∧ mi_h mL_replace = [((0, 10, 13, 25), eIO), ((0, 10, 17, 13), eIA)] ∧ (mi_rm mL_replace).cells = 2 ∧ (mi_rm mL_replace).slots = 12 ∧ (mi_rm mL_replace).locals = 140 ∧ cdL_replace 0 = some bbL_replace_0 ∧ cdL_replace 13 = some bbL_replace_13 ∧ cdL_replace 17 = some bbL_replace_17 ∧ cdL_replace 21 = some bbL_replace_21 ∧ (mi_rm m9_replace).cells = 2 ∧ (mi_rm m9_replace).slots = 12 := ⟨rfl, rfl, rfl, rfl, rfl, rfl, rfl, rfl, rfl, rfl, rfl, rfl⟩
set_option maxRecDepth 100000 in
theorem okt_mL_lose : okT mL_lose 4 := List.forall_mem_cons.mpr ⟨⟨by decide, by decide, (wt_4 51 (by decide +kernel) rfl), (nt_4 66 (by decide +kernel) rfl)⟩, (fun _ h => nomatch h)⟩
def bbL_lose_0 : List PI := [(1, .aload_n 2, 0, 0, 0, 0, kZ), (1, .iconst 0, 0, 0, 0, 0, kZ), (1, .aload_n 0, 0, 0, 0, 0, kZ), (1, .iload_n 1, 0, 0, 0, 0, kZ), (3, .invokevirtual 38, 1, 9, 1, 0, m9_lose), (1, .i2l, 0, 0, 0, 0, kZ), (1, .lastore, 0, 0, 0, 0, kZ), (3, .goto 6, 15, 0, 0, 0, kZ)]
set_option maxRecDepth 100000 in
theorem ooL_lose_0 : okL mL_lose 0 bbL_lose_0 := okL_of _ _ (by decide +kernel) ⟨trivial, ⟨trivial, ⟨trivial, ⟨trivial, ⟨⟨mok_m9_lose, ⟨by decide, by decide⟩, rfl, by decide, lc_L_38, okt_mL_lose⟩, ⟨trivial, ⟨trivial, ⟨rfl, trivial⟩⟩⟩⟩⟩⟩⟩⟩
def bbL_lose_12 : List PI := [(1, .astore_n 3, 0, 0, 0, 0, kZ), (1, .iconst 1, 0, 0, 0, 0, kZ), (1, .ireturn, 0, 0, 0, 0, kZ)]
set_option maxRecDepth 100000 in
theorem ooL_lose_12 : okL mL_lose 12 bbL_lose_12 := okL_of _ _ (by decide +kernel) ⟨trivial, ⟨trivial, ⟨trivial, trivial⟩⟩⟩
def bbL_lose_15 : List PI := [(1, .iconst 0, 0, 0, 0, 0, kZ), (1, .ireturn, 0, 0, 0, 0, kZ)]
set_option maxRecDepth 100000 in
theorem ooL_lose_15 : okL mL_lose 15 bbL_lose_15 := okL_of _ _ (by decide +kernel) ⟨trivial, ⟨trivial, trivial⟩⟩
def cdL_lose (t : Nat) : Option (List PI) := match t with
  | 0 => some bbL_lose_0
  | 12 => some bbL_lose_12
  | 15 => some bbL_lose_15
  | _ => none
theorem kdL_lose : ∀ t is, cdL_lose t = some is → okL mL_lose t is := by
  intro t is h
  unfold cdL_lose at h
  split at h <;> cases h
  · exact ooL_lose_0
  · exact ooL_lose_12
  · exact ooL_lose_15
theorem ffL_lose : mi_r mL_lose = (some .int) ∧ mi_l mL_lose = 4 ∧ mi_h mL_lose = [((0, 9, 12, 25), eIO)] ∧ (mi_rm mL_lose).cells = 1 ∧ (mi_rm mL_lose).slots = 6 ∧ (mi_rm mL_lose).locals = 139 ∧ cdL_lose 0 = some bbL_lose_0 ∧ cdL_lose 12 = some bbL_lose_12 ∧ cdL_lose 15 = some bbL_lose_15 ∧ (mi_rm m9_lose).cells = 1 ∧ (mi_rm m9_lose).slots = 6 := ⟨rfl, rfl, rfl, rfl, rfl, rfl, rfl, rfl, rfl, rfl, rfl⟩
set_option maxRecDepth 100000 in
theorem okt_mL_gain : okT mL_gain 5 := List.forall_mem_cons.mpr ⟨⟨by decide, by decide, (wt_4 51 (by decide +kernel) rfl), (nt_4 66 (by decide +kernel) rfl)⟩, List.forall_mem_cons.mpr ⟨⟨by decide, by decide, (wt_3 169 (by decide +kernel) rfl), (nt_3 176 (by decide +kernel) rfl)⟩, List.forall_mem_cons.mpr ⟨⟨by decide, by decide, (wt_4 10 (by decide +kernel) rfl), (nt_4 30 (by decide +kernel) rfl)⟩, (fun _ h => nomatch h)⟩⟩⟩
def bbL_gain_0 : List PI := [(1, .aload_n 3, 0, 0, 0, 0, kZ), (1, .iconst 0, 0, 0, 0, 0, kZ), (1, .aload_n 0, 0, 0, 0, 0, kZ), (1, .iload_n 1, 0, 0, 0, 0, kZ), (1, .iload_n 2, 0, 0, 0, 0, kZ), (3, .invokevirtual 41, 2, 9, 1, 0, m9_gain), (1, .i2l, 0, 0, 0, 0, kZ), (1, .lastore, 0, 0, 0, 0, kZ), (3, .goto 15, 25, 0, 0, 0, kZ)]
set_option maxRecDepth 100000 in
theorem ooL_gain_0 : okL mL_gain 0 bbL_gain_0 := okL_of _ _ (by decide +kernel) ⟨trivial, ⟨trivial, ⟨trivial, ⟨trivial, ⟨trivial, ⟨⟨mok_m9_gain, ⟨by decide, by decide⟩, rfl, by decide, lc_L_41, okt_mL_gain⟩, ⟨trivial, ⟨trivial, ⟨rfl, trivial⟩⟩⟩⟩⟩⟩⟩⟩⟩
def bbL_gain_13 : List PI := [(2, .astore 4, 0, 0, 0, 0, kZ), (1, .iconst 1, 0, 0, 0, 0, kZ), (1, .ireturn, 0, 0, 0, 0, kZ)]
set_option maxRecDepth 100000 in
theorem ooL_gain_13 : okL mL_gain 13 bbL_gain_13 := okL_of _ _ (by decide +kernel) ⟨trivial, ⟨trivial, ⟨trivial, trivial⟩⟩⟩
def bbL_gain_17 : List PI := [(2, .astore 4, 0, 0, 0, 0, kZ), (1, .iconst 2, 0, 0, 0, 0, kZ), (1, .ireturn, 0, 0, 0, 0, kZ)]
set_option maxRecDepth 100000 in
theorem ooL_gain_17 : okL mL_gain 17 bbL_gain_17 := okL_of _ _ (by decide +kernel) ⟨trivial, ⟨trivial, ⟨trivial, trivial⟩⟩⟩
def bbL_gain_21 : List PI := [(2, .astore 4, 0, 0, 0, 0, kZ), (1, .iconst 3, 0, 0, 0, 0, kZ), (1, .ireturn, 0, 0, 0, 0, kZ)]
set_option maxRecDepth 100000 in
theorem ooL_gain_21 : okL mL_gain 21 bbL_gain_21 := okL_of _ _ (by decide +kernel) ⟨trivial, ⟨trivial, ⟨trivial, trivial⟩⟩⟩
def bbL_gain_25 : List PI := [(1, .iconst 0, 0, 0, 0, 0, kZ), (1, .ireturn, 0, 0, 0, 0, kZ)]
set_option maxRecDepth 100000 in
theorem ooL_gain_25 : okL mL_gain 25 bbL_gain_25 := okL_of _ _ (by decide +kernel) ⟨trivial, ⟨trivial, trivial⟩⟩
def cdL_gain (t : Nat) : Option (List PI) := match t with
  | 0 => some bbL_gain_0
  | 13 => some bbL_gain_13
  | 17 => some bbL_gain_17
  | 21 => some bbL_gain_21
  | 25 => some bbL_gain_25
  | _ => none
theorem kdL_gain : ∀ t is, cdL_gain t = some is → okL mL_gain t is := by
  intro t is h
  unfold cdL_gain at h
  split at h <;> cases h
  · exact ooL_gain_0
  · exact ooL_gain_13
  · exact ooL_gain_17
  · exact ooL_gain_21
  · exact ooL_gain_25
theorem ffL_gain : mi_r mL_gain = (some .int) ∧ mi_l mL_gain = 5 ∧ mi_h mL_gain = [((0, 10, 13, 25), eIO), ((0, 10, 17, 13), eIA), ((0, 10, 21, 19), eIS)] ∧ (mi_rm mL_gain).cells = 2 ∧ (mi_rm mL_gain).slots = 12 ∧ (mi_rm mL_gain).locals = 139 ∧ cdL_gain 0 = some bbL_gain_0 ∧ cdL_gain 13 = some bbL_gain_13 ∧ cdL_gain 17 = some bbL_gain_17 ∧ cdL_gain 21 = some bbL_gain_21 ∧ cdL_gain 25 = some bbL_gain_25 ∧ (mi_rm m9_gain).cells = 2 ∧ (mi_rm m9_gain).slots = 12 := ⟨rfl, rfl, rfl, rfl, rfl, rfl, rfl, rfl, rfl, rfl, rfl, rfl, rfl⟩
set_option maxRecDepth 100000 in
theorem okt_mL_append : okT mL_append 4 := List.forall_mem_cons.mpr ⟨⟨by decide, by decide, (wt_3 169 (by decide +kernel) rfl), (nt_3 176 (by decide +kernel) rfl)⟩, List.forall_mem_cons.mpr ⟨⟨by decide, by decide, (wt_4 10 (by decide +kernel) rfl), (nt_4 30 (by decide +kernel) rfl)⟩, (fun _ h => nomatch h)⟩⟩
def bbL_append_0 : List PI := [(1, .aload_n 2, 0, 0, 0, 0, kZ), (1, .iconst 0, 0, 0, 0, 0, kZ), (1, .aload_n 0, 0, 0, 0, 0, kZ), (1, .iload_n 1, 0, 0, 0, 0, kZ), (3, .invokevirtual 44, 1, 9, 1, 0, m9_append), (1, .i2l, 0, 0, 0, 0, kZ), (1, .lastore, 0, 0, 0, 0, kZ), (3, .goto 9, 18, 0, 0, 0, kZ)]
set_option maxRecDepth 100000 in
theorem ooL_append_0 : okL mL_append 0 bbL_append_0 := okL_of _ _ (by decide +kernel) ⟨trivial, ⟨trivial, ⟨trivial, ⟨trivial, ⟨⟨mok_m9_append, ⟨by decide, by decide⟩, rfl, by decide, lc_L_44, okt_mL_append⟩, ⟨trivial, ⟨trivial, ⟨rfl, trivial⟩⟩⟩⟩⟩⟩⟩⟩
def bbL_append_12 : List PI := [(1, .astore_n 3, 0, 0, 0, 0, kZ), (1, .iconst 1, 0, 0, 0, 0, kZ), (1, .ireturn, 0, 0, 0, 0, kZ)]
set_option maxRecDepth 100000 in
theorem ooL_append_12 : okL mL_append 12 bbL_append_12 := okL_of _ _ (by decide +kernel) ⟨trivial, ⟨trivial, ⟨trivial, trivial⟩⟩⟩
def bbL_append_15 : List PI := [(1, .astore_n 3, 0, 0, 0, 0, kZ), (1, .iconst 2, 0, 0, 0, 0, kZ), (1, .ireturn, 0, 0, 0, 0, kZ)]
set_option maxRecDepth 100000 in
theorem ooL_append_15 : okL mL_append 15 bbL_append_15 := okL_of _ _ (by decide +kernel) ⟨trivial, ⟨trivial, ⟨trivial, trivial⟩⟩⟩
def bbL_append_18 : List PI := [(1, .iconst 0, 0, 0, 0, 0, kZ), (1, .ireturn, 0, 0, 0, 0, kZ)]
set_option maxRecDepth 100000 in
theorem ooL_append_18 : okL mL_append 18 bbL_append_18 := okL_of _ _ (by decide +kernel) ⟨trivial, ⟨trivial, trivial⟩⟩
def cdL_append (t : Nat) : Option (List PI) := match t with
  | 0 => some bbL_append_0
  | 12 => some bbL_append_12
  | 15 => some bbL_append_15
  | 18 => some bbL_append_18
  | _ => none
theorem kdL_append : ∀ t is, cdL_append t = some is → okL mL_append t is := by
  intro t is h
  unfold cdL_append at h
  split at h <;> cases h
  · exact ooL_append_0
  · exact ooL_append_12
  · exact ooL_append_15
  · exact ooL_append_18
theorem ffL_append : mi_r mL_append = (some .int) ∧ mi_l mL_append = 4 ∧ mi_h mL_append = [((0, 9, 12, 13), eIA), ((0, 9, 15, 19), eIS)] ∧ (mi_rm mL_append).cells = 1 ∧ (mi_rm mL_append).slots = 6 ∧ (mi_rm mL_append).locals = 105 ∧ cdL_append 0 = some bbL_append_0 ∧ cdL_append 12 = some bbL_append_12 ∧ cdL_append 15 = some bbL_append_15 ∧ cdL_append 18 = some bbL_append_18 ∧ (mi_rm m9_append).cells = 1 ∧ (mi_rm m9_append).slots = 6 := ⟨rfl, rfl, rfl, rfl, rfl, rfl, rfl, rfl, rfl, rfl, rfl, rfl⟩
set_option maxRecDepth 100000 in
theorem okt_mL_play : okT mL_play 3 := List.forall_mem_cons.mpr ⟨⟨by decide, by decide, (wt_3 169 (by decide +kernel) rfl), (nt_3 176 (by decide +kernel) rfl)⟩, (fun _ h => nomatch h)⟩
def bbL_play_0 : List PI := [(1, .aload_n 1, 0, 0, 0, 0, kZ), (1, .iconst 0, 0, 0, 0, 0, kZ), (1, .aload_n 0, 0, 0, 0, 0, kZ), (3, .invokevirtual 47, 0, 9, 1, 0, m9_play), (1, .i2l, 0, 0, 0, 0, kZ), (1, .lastore, 0, 0, 0, 0, kZ), (3, .goto 6, 14, 0, 0, 0, kZ)]
set_option maxRecDepth 100000 in
theorem ooL_play_0 : okL mL_play 0 bbL_play_0 := okL_of _ _ (by decide +kernel) ⟨trivial, ⟨trivial, ⟨trivial, ⟨⟨mok_m9_play, ⟨by decide, by decide⟩, rfl, by decide, lc_L_47, okt_mL_play⟩, ⟨trivial, ⟨trivial, ⟨rfl, trivial⟩⟩⟩⟩⟩⟩⟩
def bbL_play_11 : List PI := [(1, .astore_n 2, 0, 0, 0, 0, kZ), (1, .iconst 1, 0, 0, 0, 0, kZ), (1, .ireturn, 0, 0, 0, 0, kZ)]
set_option maxRecDepth 100000 in
theorem ooL_play_11 : okL mL_play 11 bbL_play_11 := okL_of _ _ (by decide +kernel) ⟨trivial, ⟨trivial, ⟨trivial, trivial⟩⟩⟩
def bbL_play_14 : List PI := [(1, .iconst 0, 0, 0, 0, 0, kZ), (1, .ireturn, 0, 0, 0, 0, kZ)]
set_option maxRecDepth 100000 in
theorem ooL_play_14 : okL mL_play 14 bbL_play_14 := okL_of _ _ (by decide +kernel) ⟨trivial, ⟨trivial, trivial⟩⟩
def cdL_play (t : Nat) : Option (List PI) := match t with
  | 0 => some bbL_play_0
  | 11 => some bbL_play_11
  | 14 => some bbL_play_14
  | _ => none
theorem kdL_play : ∀ t is, cdL_play t = some is → okL mL_play t is := by
  intro t is h
  unfold cdL_play at h
  split at h <;> cases h
  · exact ooL_play_0
  · exact ooL_play_11
  · exact ooL_play_14
theorem ffL_play : mi_r mL_play = (some .int) ∧ mi_l mL_play = 3 ∧ mi_h mL_play = [((0, 8, 11, 13), eIA)] ∧ (mi_rm mL_play).cells = 1 ∧ (mi_rm mL_play).slots = 6 ∧ (mi_rm mL_play).locals = 226 ∧ cdL_play 0 = some bbL_play_0 ∧ cdL_play 11 = some bbL_play_11 ∧ cdL_play 14 = some bbL_play_14 ∧ (mi_rm m9_play).cells = 1 ∧ (mi_rm m9_play).slots = 6 := ⟨rfl, rfl, rfl, rfl, rfl, rfl, rfl, rfl, rfl, rfl, rfl⟩
set_option maxRecDepth 100000 in
theorem okt_mL_stoppedPart : okT mL_stoppedPart 3 := List.forall_mem_cons.mpr ⟨⟨by decide, by decide, (wt_4 10 (by decide +kernel) rfl), (nt_4 30 (by decide +kernel) rfl)⟩, (fun _ h => nomatch h)⟩
def bbL_stoppedPart_0 : List PI := [(1, .aload_n 1, 0, 0, 0, 0, kZ), (1, .iconst 0, 0, 0, 0, 0, kZ), (1, .aload_n 0, 0, 0, 0, 0, kZ), (3, .invokevirtual 50, 0, 9, 1, 0, m9_stoppedPart), (1, .i2l, 0, 0, 0, 0, kZ), (1, .lastore, 0, 0, 0, 0, kZ), (3, .goto 6, 14, 0, 0, 0, kZ)]
set_option maxRecDepth 100000 in
theorem ooL_stoppedPart_0 : okL mL_stoppedPart 0 bbL_stoppedPart_0 := okL_of _ _ (by decide +kernel) ⟨trivial, ⟨trivial, ⟨trivial, ⟨⟨mok_m9_stoppedPart, ⟨by decide, by decide⟩, rfl, by decide, lc_L_50, okt_mL_stoppedPart⟩, ⟨trivial, ⟨trivial, ⟨rfl, trivial⟩⟩⟩⟩⟩⟩⟩
def bbL_stoppedPart_11 : List PI := [(1, .astore_n 2, 0, 0, 0, 0, kZ), (1, .iconst 1, 0, 0, 0, 0, kZ), (1, .ireturn, 0, 0, 0, 0, kZ)]
set_option maxRecDepth 100000 in
theorem ooL_stoppedPart_11 : okL mL_stoppedPart 11 bbL_stoppedPart_11 := okL_of _ _ (by decide +kernel) ⟨trivial, ⟨trivial, ⟨trivial, trivial⟩⟩⟩
def bbL_stoppedPart_14 : List PI := [(1, .iconst 0, 0, 0, 0, 0, kZ), (1, .ireturn, 0, 0, 0, 0, kZ)]
set_option maxRecDepth 100000 in
theorem ooL_stoppedPart_14 : okL mL_stoppedPart 14 bbL_stoppedPart_14 := okL_of _ _ (by decide +kernel) ⟨trivial, ⟨trivial, trivial⟩⟩
def cdL_stoppedPart (t : Nat) : Option (List PI) := match t with
  | 0 => some bbL_stoppedPart_0
  | 11 => some bbL_stoppedPart_11
  | 14 => some bbL_stoppedPart_14
  | _ => none
theorem kdL_stoppedPart : ∀ t is, cdL_stoppedPart t = some is → okL mL_stoppedPart t is := by
  intro t is h
  unfold cdL_stoppedPart at h
  split at h <;> cases h
  · exact ooL_stoppedPart_0
  · exact ooL_stoppedPart_11
  · exact ooL_stoppedPart_14
theorem ffL_stoppedPart : mi_r mL_stoppedPart = (some .int) ∧ mi_l mL_stoppedPart = 3 ∧ mi_h mL_stoppedPart = [((0, 8, 11, 19), eIS)] ∧ (mi_rm mL_stoppedPart).cells = 1 ∧ (mi_rm mL_stoppedPart).slots = 6 ∧ (mi_rm mL_stoppedPart).locals = 104 ∧ cdL_stoppedPart 0 = some bbL_stoppedPart_0 ∧ cdL_stoppedPart 11 = some bbL_stoppedPart_11 ∧ cdL_stoppedPart 14 = some bbL_stoppedPart_14 ∧ (mi_rm m9_stoppedPart).cells = 1 ∧ (mi_rm m9_stoppedPart).slots = 6 := ⟨rfl, rfl, rfl, rfl, rfl, rfl, rfl, rfl, rfl, rfl, rfl⟩
set_option maxRecDepth 100000 in
theorem okt_mL_undo : okT mL_undo 3 := List.forall_mem_cons.mpr ⟨⟨by decide, by decide, (wt_4 10 (by decide +kernel) rfl), (nt_4 30 (by decide +kernel) rfl)⟩, (fun _ h => nomatch h)⟩
def bbL_undo_0 : List PI := [(1, .aload_n 1, 0, 0, 0, 0, kZ), (1, .iconst 0, 0, 0, 0, 0, kZ), (1, .aload_n 0, 0, 0, 0, 0, kZ), (3, .invokevirtual 53, 0, 9, 1, 0, m9_undo), (1, .i2l, 0, 0, 0, 0, kZ), (1, .lastore, 0, 0, 0, 0, kZ), (3, .goto 6, 14, 0, 0, 0, kZ)]
set_option maxRecDepth 100000 in
theorem ooL_undo_0 : okL mL_undo 0 bbL_undo_0 := okL_of _ _ (by decide +kernel) ⟨trivial, ⟨trivial, ⟨trivial, ⟨⟨mok_m9_undo, ⟨by decide, by decide⟩, rfl, by decide, lc_L_53, okt_mL_undo⟩, ⟨trivial, ⟨trivial, ⟨rfl, trivial⟩⟩⟩⟩⟩⟩⟩
def bbL_undo_11 : List PI := [(1, .astore_n 2, 0, 0, 0, 0, kZ), (1, .iconst 1, 0, 0, 0, 0, kZ), (1, .ireturn, 0, 0, 0, 0, kZ)]
set_option maxRecDepth 100000 in
theorem ooL_undo_11 : okL mL_undo 11 bbL_undo_11 := okL_of _ _ (by decide +kernel) ⟨trivial, ⟨trivial, ⟨trivial, trivial⟩⟩⟩
def bbL_undo_14 : List PI := [(1, .iconst 0, 0, 0, 0, 0, kZ), (1, .ireturn, 0, 0, 0, 0, kZ)]
set_option maxRecDepth 100000 in
theorem ooL_undo_14 : okL mL_undo 14 bbL_undo_14 := okL_of _ _ (by decide +kernel) ⟨trivial, ⟨trivial, trivial⟩⟩
def cdL_undo (t : Nat) : Option (List PI) := match t with
  | 0 => some bbL_undo_0
  | 11 => some bbL_undo_11
  | 14 => some bbL_undo_14
  | _ => none
theorem kdL_undo : ∀ t is, cdL_undo t = some is → okL mL_undo t is := by
  intro t is h
  unfold cdL_undo at h
  split at h <;> cases h
  · exact ooL_undo_0
  · exact ooL_undo_11
  · exact ooL_undo_14
theorem ffL_undo : mi_r mL_undo = (some .int) ∧ mi_l mL_undo = 3 ∧ mi_h mL_undo = [((0, 8, 11, 19), eIS)] ∧ (mi_rm mL_undo).cells = 1 ∧ (mi_rm mL_undo).slots = 6 ∧ (mi_rm mL_undo).locals = 137 ∧ cdL_undo 0 = some bbL_undo_0 ∧ cdL_undo 11 = some bbL_undo_11 ∧ cdL_undo 14 = some bbL_undo_14 ∧ (mi_rm m9_undo).cells = 1 ∧ (mi_rm m9_undo).slots = 6 := ⟨rfl, rfl, rfl, rfl, rfl, rfl, rfl, rfl, rfl, rfl, rfl⟩
set_option maxRecDepth 100000 in
theorem okt_mL_restore : okT mL_restore 3 := List.forall_mem_cons.mpr ⟨⟨by decide, by decide, (wt_4 10 (by decide +kernel) rfl), (nt_4 30 (by decide +kernel) rfl)⟩, (fun _ h => nomatch h)⟩
def bbL_restore_0 : List PI := [(1, .aload_n 1, 0, 0, 0, 0, kZ), (1, .iconst 0, 0, 0, 0, 0, kZ), (1, .aload_n 0, 0, 0, 0, 0, kZ), (3, .invokevirtual 56, 0, 9, 1, 0, m9_restore), (1, .i2l, 0, 0, 0, 0, kZ), (1, .lastore, 0, 0, 0, 0, kZ), (3, .goto 6, 14, 0, 0, 0, kZ)]
set_option maxRecDepth 100000 in
theorem ooL_restore_0 : okL mL_restore 0 bbL_restore_0 := okL_of _ _ (by decide +kernel) ⟨trivial, ⟨trivial, ⟨trivial, ⟨⟨mok_m9_restore, ⟨by decide, by decide⟩, rfl, by decide, lc_L_56, okt_mL_restore⟩, ⟨trivial, ⟨trivial, ⟨rfl, trivial⟩⟩⟩⟩⟩⟩⟩
def bbL_restore_11 : List PI := [(1, .astore_n 2, 0, 0, 0, 0, kZ), (1, .iconst 1, 0, 0, 0, 0, kZ), (1, .ireturn, 0, 0, 0, 0, kZ)]
set_option maxRecDepth 100000 in
theorem ooL_restore_11 : okL mL_restore 11 bbL_restore_11 := okL_of _ _ (by decide +kernel) ⟨trivial, ⟨trivial, ⟨trivial, trivial⟩⟩⟩
def bbL_restore_14 : List PI := [(1, .iconst 0, 0, 0, 0, 0, kZ), (1, .ireturn, 0, 0, 0, 0, kZ)]
set_option maxRecDepth 100000 in
theorem ooL_restore_14 : okL mL_restore 14 bbL_restore_14 := okL_of _ _ (by decide +kernel) ⟨trivial, ⟨trivial, trivial⟩⟩
def cdL_restore (t : Nat) : Option (List PI) := match t with
  | 0 => some bbL_restore_0
  | 11 => some bbL_restore_11
  | 14 => some bbL_restore_14
  | _ => none
theorem kdL_restore : ∀ t is, cdL_restore t = some is → okL mL_restore t is := by
  intro t is h
  unfold cdL_restore at h
  split at h <;> cases h
  · exact ooL_restore_0
  · exact ooL_restore_11
  · exact ooL_restore_14
theorem ffL_restore : mi_r mL_restore = (some .int) ∧ mi_l mL_restore = 3 ∧ mi_h mL_restore = [((0, 8, 11, 19), eIS)] ∧ (mi_rm mL_restore).cells = 1 ∧ (mi_rm mL_restore).slots = 6 ∧ (mi_rm mL_restore).locals = 137 ∧ cdL_restore 0 = some bbL_restore_0 ∧ cdL_restore 11 = some bbL_restore_11 ∧ cdL_restore 14 = some bbL_restore_14 ∧ (mi_rm m9_restore).cells = 1 ∧ (mi_rm m9_restore).slots = 6 := ⟨rfl, rfl, rfl, rfl, rfl, rfl, rfl, rfl, rfl, rfl, rfl⟩
set_option maxRecDepth 100000 in
theorem okt_mL_pixelsOf : okT mL_pixelsOf 4 := List.forall_mem_cons.mpr ⟨⟨by decide, by decide, (wt_4 51 (by decide +kernel) rfl), (nt_4 66 (by decide +kernel) rfl)⟩, (fun _ h => nomatch h)⟩
def bbL_pixelsOf_0 : List PI := [(1, .aload_n 2, 0, 0, 0, 0, kZ), (1, .iconst 0, 0, 0, 0, 0, kZ), (1, .aload_n 0, 0, 0, 0, 0, kZ), (1, .iload_n 1, 0, 0, 0, 0, kZ), (3, .invokevirtual 59, 1, 9, 1, 0, m9_pixelsOf), (1, .lastore, 0, 0, 0, 0, kZ), (3, .goto 6, 14, 0, 0, 0, kZ)]
set_option maxRecDepth 100000 in
theorem ooL_pixelsOf_0 : okL mL_pixelsOf 0 bbL_pixelsOf_0 := okL_of _ _ (by decide +kernel) ⟨trivial, ⟨trivial, ⟨trivial, ⟨trivial, ⟨⟨mok_m9_pixelsOf, ⟨by decide, by decide⟩, rfl, by decide, lc_L_59, okt_mL_pixelsOf⟩, ⟨trivial, ⟨rfl, trivial⟩⟩⟩⟩⟩⟩⟩
def bbL_pixelsOf_11 : List PI := [(1, .astore_n 3, 0, 0, 0, 0, kZ), (1, .iconst 1, 0, 0, 0, 0, kZ), (1, .ireturn, 0, 0, 0, 0, kZ)]
set_option maxRecDepth 100000 in
theorem ooL_pixelsOf_11 : okL mL_pixelsOf 11 bbL_pixelsOf_11 := okL_of _ _ (by decide +kernel) ⟨trivial, ⟨trivial, ⟨trivial, trivial⟩⟩⟩
def bbL_pixelsOf_14 : List PI := [(1, .iconst 0, 0, 0, 0, 0, kZ), (1, .ireturn, 0, 0, 0, 0, kZ)]
set_option maxRecDepth 100000 in
theorem ooL_pixelsOf_14 : okL mL_pixelsOf 14 bbL_pixelsOf_14 := okL_of _ _ (by decide +kernel) ⟨trivial, ⟨trivial, trivial⟩⟩
def cdL_pixelsOf (t : Nat) : Option (List PI) := match t with
  | 0 => some bbL_pixelsOf_0
  | 11 => some bbL_pixelsOf_11
  | 14 => some bbL_pixelsOf_14
  | _ => none
theorem kdL_pixelsOf : ∀ t is, cdL_pixelsOf t = some is → okL mL_pixelsOf t is := by
  intro t is h
  unfold cdL_pixelsOf at h
  split at h <;> cases h
  · exact ooL_pixelsOf_0
  · exact ooL_pixelsOf_11
  · exact ooL_pixelsOf_14
theorem ffL_pixelsOf : mi_r mL_pixelsOf = (some .int) ∧ mi_l mL_pixelsOf = 4 ∧ mi_h mL_pixelsOf = [((0, 8, 11, 25), eIO)] ∧ (mi_rm mL_pixelsOf).cells = 1 ∧ (mi_rm mL_pixelsOf).slots = 6 ∧ (mi_rm mL_pixelsOf).locals = 126 ∧ cdL_pixelsOf 0 = some bbL_pixelsOf_0 ∧ cdL_pixelsOf 11 = some bbL_pixelsOf_11 ∧ cdL_pixelsOf 14 = some bbL_pixelsOf_14 ∧ (mi_rm m9_pixelsOf).cells = 1 ∧ (mi_rm m9_pixelsOf).slots = 6 := ⟨rfl, rfl, rfl, rfl, rfl, rfl, rfl, rfl, rfl, rfl, rfl⟩
set_option maxRecDepth 100000 in
theorem okt_mL_isBlack : okT mL_isBlack 5 := List.forall_mem_cons.mpr ⟨⟨by decide, by decide, (wt_4 51 (by decide +kernel) rfl), (nt_4 66 (by decide +kernel) rfl)⟩, (fun _ h => nomatch h)⟩
def bbL_isBlack_0 : List PI := [(1, .aload_n 3, 0, 0, 0, 0, kZ), (1, .iconst 0, 0, 0, 0, 0, kZ), (1, .aload_n 0, 0, 0, 0, 0, kZ), (1, .iload_n 1, 0, 0, 0, 0, kZ), (1, .iload_n 2, 0, 0, 0, 0, kZ), (3, .invokevirtual 63, 2, 9, 1, 0, m9_isBlack), (3, .ifCond .eq 7, 15, 0, 0, 0, kZ), (1, .lconst 1, 0, 0, 0, 0, kZ), (3, .goto 4, 16, 0, 0, 0, kZ)]
set_option maxRecDepth 100000 in
theorem ooL_isBlack_0 : okL mL_isBlack 0 bbL_isBlack_0 := okL_of _ _ (by decide +kernel) ⟨trivial, ⟨trivial, ⟨trivial, ⟨trivial, ⟨trivial, ⟨⟨mok_m9_isBlack, ⟨by decide, by decide⟩, rfl, by decide, lc_L_63, okt_mL_isBlack⟩, ⟨rfl, ⟨trivial, ⟨rfl, trivial⟩⟩⟩⟩⟩⟩⟩⟩⟩
def bbL_isBlack_15 : List PI := [(1, .lconst 0, 0, 0, 0, 0, kZ)]
set_option maxRecDepth 100000 in
theorem ooL_isBlack_15 : okL mL_isBlack 15 bbL_isBlack_15 := okL_of _ _ (by decide +kernel) ⟨trivial, trivial⟩
def bbL_isBlack_16 : List PI := [(1, .lastore, 0, 0, 0, 0, kZ), (3, .goto 7, 24, 0, 0, 0, kZ)]
set_option maxRecDepth 100000 in
theorem ooL_isBlack_16 : okL mL_isBlack 16 bbL_isBlack_16 := okL_of _ _ (by decide +kernel) ⟨trivial, ⟨rfl, trivial⟩⟩
def bbL_isBlack_20 : List PI := [(2, .astore 4, 0, 0, 0, 0, kZ), (1, .iconst 1, 0, 0, 0, 0, kZ), (1, .ireturn, 0, 0, 0, 0, kZ)]
set_option maxRecDepth 100000 in
theorem ooL_isBlack_20 : okL mL_isBlack 20 bbL_isBlack_20 := okL_of _ _ (by decide +kernel) ⟨trivial, ⟨trivial, ⟨trivial, trivial⟩⟩⟩
def bbL_isBlack_24 : List PI := [(1, .iconst 0, 0, 0, 0, 0, kZ), (1, .ireturn, 0, 0, 0, 0, kZ)]
set_option maxRecDepth 100000 in
theorem ooL_isBlack_24 : okL mL_isBlack 24 bbL_isBlack_24 := okL_of _ _ (by decide +kernel) ⟨trivial, ⟨trivial, trivial⟩⟩
def cdL_isBlack (t : Nat) : Option (List PI) := match t with
  | 0 => some bbL_isBlack_0
  | 15 => some bbL_isBlack_15
  | 16 => some bbL_isBlack_16
  | 20 => some bbL_isBlack_20
  | 24 => some bbL_isBlack_24
  | _ => none
theorem kdL_isBlack : ∀ t is, cdL_isBlack t = some is → okL mL_isBlack t is := by
  intro t is h
  unfold cdL_isBlack at h
  split at h <;> cases h
  · exact ooL_isBlack_0
  · exact ooL_isBlack_15
  · exact ooL_isBlack_16
  · exact ooL_isBlack_20
  · exact ooL_isBlack_24
theorem ffL_isBlack : mi_r mL_isBlack = (some .int) ∧ mi_l mL_isBlack = 5 ∧ mi_h mL_isBlack = [((0, 17, 20, 25), eIO)] ∧ (mi_rm mL_isBlack).cells = 1 ∧ (mi_rm mL_isBlack).slots = 6 ∧ (mi_rm mL_isBlack).locals = 106 ∧ cdL_isBlack 0 = some bbL_isBlack_0 ∧ cdL_isBlack 15 = some bbL_isBlack_15 ∧ cdL_isBlack 16 = some bbL_isBlack_16 ∧ cdL_isBlack 20 = some bbL_isBlack_20 ∧ cdL_isBlack 24 = some bbL_isBlack_24 ∧ (mi_rm m9_isBlack).cells = 1 ∧ (mi_rm m9_isBlack).slots = 6 := ⟨rfl, rfl, rfl, rfl, rfl, rfl, rfl, rfl, rfl, rfl, rfl, rfl, rfl⟩
set_option maxRecDepth 100000 in
theorem okt_mL_runsOf : okT mL_runsOf 4 := List.forall_mem_cons.mpr ⟨⟨by decide, by decide, (wt_4 51 (by decide +kernel) rfl), (nt_4 66 (by decide +kernel) rfl)⟩, (fun _ h => nomatch h)⟩
def bbL_runsOf_0 : List PI := [(1, .aload_n 2, 0, 0, 0, 0, kZ), (1, .iconst 0, 0, 0, 0, 0, kZ), (1, .aload_n 0, 0, 0, 0, 0, kZ), (1, .iload_n 1, 0, 0, 0, 0, kZ), (3, .invokevirtual 67, 1, 9, 1, 0, m9_runsOf), (1, .i2l, 0, 0, 0, 0, kZ), (1, .lastore, 0, 0, 0, 0, kZ), (3, .goto 6, 15, 0, 0, 0, kZ)]
set_option maxRecDepth 100000 in
theorem ooL_runsOf_0 : okL mL_runsOf 0 bbL_runsOf_0 := okL_of _ _ (by decide +kernel) ⟨trivial, ⟨trivial, ⟨trivial, ⟨trivial, ⟨⟨mok_m9_runsOf, ⟨by decide, by decide⟩, rfl, by decide, lc_L_67, okt_mL_runsOf⟩, ⟨trivial, ⟨trivial, ⟨rfl, trivial⟩⟩⟩⟩⟩⟩⟩⟩
def bbL_runsOf_12 : List PI := [(1, .astore_n 3, 0, 0, 0, 0, kZ), (1, .iconst 1, 0, 0, 0, 0, kZ), (1, .ireturn, 0, 0, 0, 0, kZ)]
set_option maxRecDepth 100000 in
theorem ooL_runsOf_12 : okL mL_runsOf 12 bbL_runsOf_12 := okL_of _ _ (by decide +kernel) ⟨trivial, ⟨trivial, ⟨trivial, trivial⟩⟩⟩
def bbL_runsOf_15 : List PI := [(1, .iconst 0, 0, 0, 0, 0, kZ), (1, .ireturn, 0, 0, 0, 0, kZ)]
set_option maxRecDepth 100000 in
theorem ooL_runsOf_15 : okL mL_runsOf 15 bbL_runsOf_15 := okL_of _ _ (by decide +kernel) ⟨trivial, ⟨trivial, trivial⟩⟩
def cdL_runsOf (t : Nat) : Option (List PI) := match t with
  | 0 => some bbL_runsOf_0
  | 12 => some bbL_runsOf_12
  | 15 => some bbL_runsOf_15
  | _ => none
theorem kdL_runsOf : ∀ t is, cdL_runsOf t = some is → okL mL_runsOf t is := by
  intro t is h
  unfold cdL_runsOf at h
  split at h <;> cases h
  · exact ooL_runsOf_0
  · exact ooL_runsOf_12
  · exact ooL_runsOf_15
theorem ffL_runsOf : mi_r mL_runsOf = (some .int) ∧ mi_l mL_runsOf = 4 ∧ mi_h mL_runsOf = [((0, 9, 12, 25), eIO)] ∧ (mi_rm mL_runsOf).cells = 1 ∧ (mi_rm mL_runsOf).slots = 6 ∧ (mi_rm mL_runsOf).locals = 126 ∧ cdL_runsOf 0 = some bbL_runsOf_0 ∧ cdL_runsOf 12 = some bbL_runsOf_12 ∧ cdL_runsOf 15 = some bbL_runsOf_15 ∧ (mi_rm m9_runsOf).cells = 1 ∧ (mi_rm m9_runsOf).slots = 6 := ⟨rfl, rfl, rfl, rfl, rfl, rfl, rfl, rfl, rfl, rfl, rfl⟩
set_option maxRecDepth 100000 in
theorem okt_mL_longestRun : okT mL_longestRun 4 := List.forall_mem_cons.mpr ⟨⟨by decide, by decide, (wt_4 51 (by decide +kernel) rfl), (nt_4 66 (by decide +kernel) rfl)⟩, (fun _ h => nomatch h)⟩
def bbL_longestRun_0 : List PI := [(1, .aload_n 2, 0, 0, 0, 0, kZ), (1, .iconst 0, 0, 0, 0, 0, kZ), (1, .aload_n 0, 0, 0, 0, 0, kZ), (1, .iload_n 1, 0, 0, 0, 0, kZ), (3, .invokevirtual 70, 1, 9, 1, 0, m9_longestRun), (1, .i2l, 0, 0, 0, 0, kZ), (1, .lastore, 0, 0, 0, 0, kZ), (3, .goto 6, 15, 0, 0, 0, kZ)]
set_option maxRecDepth 100000 in
theorem ooL_longestRun_0 : okL mL_longestRun 0 bbL_longestRun_0 := okL_of _ _ (by decide +kernel) ⟨trivial, ⟨trivial, ⟨trivial, ⟨trivial, ⟨⟨mok_m9_longestRun, ⟨by decide, by decide⟩, rfl, by decide, lc_L_70, okt_mL_longestRun⟩, ⟨trivial, ⟨trivial, ⟨rfl, trivial⟩⟩⟩⟩⟩⟩⟩⟩
def bbL_longestRun_12 : List PI := [(1, .astore_n 3, 0, 0, 0, 0, kZ), (1, .iconst 1, 0, 0, 0, 0, kZ), (1, .ireturn, 0, 0, 0, 0, kZ)]
set_option maxRecDepth 100000 in
theorem ooL_longestRun_12 : okL mL_longestRun 12 bbL_longestRun_12 := okL_of _ _ (by decide +kernel) ⟨trivial, ⟨trivial, ⟨trivial, trivial⟩⟩⟩
def bbL_longestRun_15 : List PI := [(1, .iconst 0, 0, 0, 0, 0, kZ), (1, .ireturn, 0, 0, 0, 0, kZ)]
set_option maxRecDepth 100000 in
theorem ooL_longestRun_15 : okL mL_longestRun 15 bbL_longestRun_15 := okL_of _ _ (by decide +kernel) ⟨trivial, ⟨trivial, trivial⟩⟩
def cdL_longestRun (t : Nat) : Option (List PI) := match t with
  | 0 => some bbL_longestRun_0
  | 12 => some bbL_longestRun_12
  | 15 => some bbL_longestRun_15
  | _ => none
theorem kdL_longestRun : ∀ t is, cdL_longestRun t = some is → okL mL_longestRun t is := by
  intro t is h
  unfold cdL_longestRun at h
  split at h <;> cases h
  · exact ooL_longestRun_0
  · exact ooL_longestRun_12
  · exact ooL_longestRun_15
theorem ffL_longestRun : mi_r mL_longestRun = (some .int) ∧ mi_l mL_longestRun = 4 ∧ mi_h mL_longestRun = [((0, 9, 12, 25), eIO)] ∧ (mi_rm mL_longestRun).cells = 1 ∧ (mi_rm mL_longestRun).slots = 6 ∧ (mi_rm mL_longestRun).locals = 126 ∧ cdL_longestRun 0 = some bbL_longestRun_0 ∧ cdL_longestRun 12 = some bbL_longestRun_12 ∧ cdL_longestRun 15 = some bbL_longestRun_15 ∧ (mi_rm m9_longestRun).cells = 1 ∧ (mi_rm m9_longestRun).slots = 6 := ⟨rfl, rfl, rfl, rfl, rfl, rfl, rfl, rfl, rfl, rfl, rfl⟩
set_option maxRecDepth 100000 in
theorem okt_mL_codeLength : okT mL_codeLength 5 := List.forall_mem_cons.mpr ⟨⟨by decide, by decide, (wt_4 51 (by decide +kernel) rfl), (nt_4 66 (by decide +kernel) rfl)⟩, List.forall_mem_cons.mpr ⟨⟨by decide, by decide, (wt_3 169 (by decide +kernel) rfl), (nt_3 176 (by decide +kernel) rfl)⟩, (fun _ h => nomatch h)⟩⟩
def bbL_codeLength_0 : List PI := [(1, .aload_n 3, 0, 0, 0, 0, kZ), (1, .iconst 0, 0, 0, 0, 0, kZ), (1, .aload_n 0, 0, 0, 0, 0, kZ), (1, .iload_n 1, 0, 0, 0, 0, kZ), (1, .iload_n 2, 0, 0, 0, 0, kZ), (3, .invokevirtual 73, 2, 9, 1, 0, m9_codeLength), (1, .i2l, 0, 0, 0, 0, kZ), (1, .lastore, 0, 0, 0, 0, kZ), (3, .goto 11, 21, 0, 0, 0, kZ)]
set_option maxRecDepth 100000 in
theorem ooL_codeLength_0 : okL mL_codeLength 0 bbL_codeLength_0 := okL_of _ _ (by decide +kernel) ⟨trivial, ⟨trivial, ⟨trivial, ⟨trivial, ⟨trivial, ⟨⟨mok_m9_codeLength, ⟨by decide, by decide⟩, rfl, by decide, lc_L_73, okt_mL_codeLength⟩, ⟨trivial, ⟨trivial, ⟨rfl, trivial⟩⟩⟩⟩⟩⟩⟩⟩⟩
def bbL_codeLength_13 : List PI := [(2, .astore 4, 0, 0, 0, 0, kZ), (1, .iconst 1, 0, 0, 0, 0, kZ), (1, .ireturn, 0, 0, 0, 0, kZ)]
set_option maxRecDepth 100000 in
theorem ooL_codeLength_13 : okL mL_codeLength 13 bbL_codeLength_13 := okL_of _ _ (by decide +kernel) ⟨trivial, ⟨trivial, ⟨trivial, trivial⟩⟩⟩
def bbL_codeLength_17 : List PI := [(2, .astore 4, 0, 0, 0, 0, kZ), (1, .iconst 2, 0, 0, 0, 0, kZ), (1, .ireturn, 0, 0, 0, 0, kZ)]
set_option maxRecDepth 100000 in
theorem ooL_codeLength_17 : okL mL_codeLength 17 bbL_codeLength_17 := okL_of _ _ (by decide +kernel) ⟨trivial, ⟨trivial, ⟨trivial, trivial⟩⟩⟩
def bbL_codeLength_21 : List PI := [(1, .iconst 0, 0, 0, 0, 0, kZ), (1, .ireturn, 0, 0, 0, 0, kZ)]
set_option maxRecDepth 100000 in
theorem ooL_codeLength_21 : okL mL_codeLength 21 bbL_codeLength_21 := okL_of _ _ (by decide +kernel) ⟨trivial, ⟨trivial, trivial⟩⟩
def cdL_codeLength (t : Nat) : Option (List PI) := match t with
  | 0 => some bbL_codeLength_0
  | 13 => some bbL_codeLength_13
  | 17 => some bbL_codeLength_17
  | 21 => some bbL_codeLength_21
  | _ => none
theorem kdL_codeLength : ∀ t is, cdL_codeLength t = some is → okL mL_codeLength t is := by
  intro t is h
  unfold cdL_codeLength at h
  split at h <;> cases h
  · exact ooL_codeLength_0
  · exact ooL_codeLength_13
  · exact ooL_codeLength_17
  · exact ooL_codeLength_21
theorem ffL_codeLength : mi_r mL_codeLength = (some .int) ∧ mi_l mL_codeLength = 5 ∧ mi_h mL_codeLength = [((0, 10, 13, 25), eIO), ((0, 10, 17, 13), eIA)] ∧ (mi_rm mL_codeLength).cells = 2 ∧ (mi_rm mL_codeLength).slots = 12 ∧ (mi_rm mL_codeLength).locals = 149 ∧ cdL_codeLength 0 = some bbL_codeLength_0 ∧ cdL_codeLength 13 = some bbL_codeLength_13 ∧ cdL_codeLength 17 = some bbL_codeLength_17 ∧ cdL_codeLength 21 = some bbL_codeLength_21 ∧ (mi_rm m9_codeLength).cells = 2 ∧ (mi_rm m9_codeLength).slots = 12 := ⟨rfl, rfl, rfl, rfl, rfl, rfl, rfl, rfl, rfl, rfl, rfl, rfl⟩
set_option maxRecDepth 100000 in
theorem okt_mL_codeLengthByCounting : okT mL_codeLengthByCounting 5 := List.forall_mem_cons.mpr ⟨⟨by decide, by decide, (wt_4 51 (by decide +kernel) rfl), (nt_4 66 (by decide +kernel) rfl)⟩, List.forall_mem_cons.mpr ⟨⟨by decide, by decide, (wt_3 169 (by decide +kernel) rfl), (nt_3 176 (by decide +kernel) rfl)⟩, (fun _ h => nomatch h)⟩⟩
def bbL_codeLengthByCounting_0 : List PI := [(1, .aload_n 3, 0, 0, 0, 0, kZ), (1, .iconst 0, 0, 0, 0, 0, kZ), (1, .aload_n 0, 0, 0, 0, 0, kZ), (1, .iload_n 1, 0, 0, 0, 0, kZ), (1, .iload_n 2, 0, 0, 0, 0, kZ), (3, .invokevirtual 76, 2, 9, 1, 0, m9_codeLengthByCounting), (1, .i2l, 0, 0, 0, 0, kZ), (1, .lastore, 0, 0, 0, 0, kZ), (3, .goto 11, 21, 0, 0, 0, kZ)]
set_option maxRecDepth 100000 in
theorem ooL_codeLengthByCounting_0 : okL mL_codeLengthByCounting 0 bbL_codeLengthByCounting_0 := okL_of _ _ (by decide +kernel) ⟨trivial, ⟨trivial, ⟨trivial, ⟨trivial, ⟨trivial, ⟨⟨mok_m9_codeLengthByCounting, ⟨by decide, by decide⟩, rfl, by decide, lc_L_76, okt_mL_codeLengthByCounting⟩, ⟨trivial, ⟨trivial, ⟨rfl, trivial⟩⟩⟩⟩⟩⟩⟩⟩⟩
def bbL_codeLengthByCounting_13 : List PI := [(2, .astore 4, 0, 0, 0, 0, kZ), (1, .iconst 1, 0, 0, 0, 0, kZ), (1, .ireturn, 0, 0, 0, 0, kZ)]
set_option maxRecDepth 100000 in
theorem ooL_codeLengthByCounting_13 : okL mL_codeLengthByCounting 13 bbL_codeLengthByCounting_13 := okL_of _ _ (by decide +kernel) ⟨trivial, ⟨trivial, ⟨trivial, trivial⟩⟩⟩
def bbL_codeLengthByCounting_17 : List PI := [(2, .astore 4, 0, 0, 0, 0, kZ), (1, .iconst 2, 0, 0, 0, 0, kZ), (1, .ireturn, 0, 0, 0, 0, kZ)]
set_option maxRecDepth 100000 in
theorem ooL_codeLengthByCounting_17 : okL mL_codeLengthByCounting 17 bbL_codeLengthByCounting_17 := okL_of _ _ (by decide +kernel) ⟨trivial, ⟨trivial, ⟨trivial, trivial⟩⟩⟩
def bbL_codeLengthByCounting_21 : List PI := [(1, .iconst 0, 0, 0, 0, 0, kZ), (1, .ireturn, 0, 0, 0, 0, kZ)]
set_option maxRecDepth 100000 in
theorem ooL_codeLengthByCounting_21 : okL mL_codeLengthByCounting 21 bbL_codeLengthByCounting_21 := okL_of _ _ (by decide +kernel) ⟨trivial, ⟨trivial, trivial⟩⟩
def cdL_codeLengthByCounting (t : Nat) : Option (List PI) := match t with
  | 0 => some bbL_codeLengthByCounting_0
  | 13 => some bbL_codeLengthByCounting_13
  | 17 => some bbL_codeLengthByCounting_17
  | 21 => some bbL_codeLengthByCounting_21
  | _ => none
theorem kdL_codeLengthByCounting : ∀ t is, cdL_codeLengthByCounting t = some is → okL mL_codeLengthByCounting t is := by
  intro t is h
  unfold cdL_codeLengthByCounting at h
  split at h <;> cases h
  · exact ooL_codeLengthByCounting_0
  · exact ooL_codeLengthByCounting_13
  · exact ooL_codeLengthByCounting_17
  · exact ooL_codeLengthByCounting_21
theorem ffL_codeLengthByCounting : mi_r mL_codeLengthByCounting = (some .int) ∧ mi_l mL_codeLengthByCounting = 5 ∧ mi_h mL_codeLengthByCounting = [((0, 10, 13, 25), eIO), ((0, 10, 17, 13), eIA)] ∧ (mi_rm mL_codeLengthByCounting).cells = 2 ∧ (mi_rm mL_codeLengthByCounting).slots = 12 ∧ (mi_rm mL_codeLengthByCounting).locals = 129 ∧ cdL_codeLengthByCounting 0 = some bbL_codeLengthByCounting_0 ∧ cdL_codeLengthByCounting 13 = some bbL_codeLengthByCounting_13 ∧ cdL_codeLengthByCounting 17 = some bbL_codeLengthByCounting_17 ∧ cdL_codeLengthByCounting 21 = some bbL_codeLengthByCounting_21 ∧ (mi_rm m9_codeLengthByCounting).cells = 2 ∧ (mi_rm m9_codeLengthByCounting).slots = 12 := ⟨rfl, rfl, rfl, rfl, rfl, rfl, rfl, rfl, rfl, rfl, rfl, rfl⟩
set_option maxRecDepth 100000 in
theorem okt_mL_modeOf : okT mL_modeOf 4 := List.forall_mem_cons.mpr ⟨⟨by decide, by decide, (wt_4 51 (by decide +kernel) rfl), (nt_4 66 (by decide +kernel) rfl)⟩, (fun _ h => nomatch h)⟩
def bbL_modeOf_0 : List PI := [(1, .aload_n 2, 0, 0, 0, 0, kZ), (1, .iconst 0, 0, 0, 0, 0, kZ), (1, .aload_n 0, 0, 0, 0, 0, kZ), (1, .iload_n 1, 0, 0, 0, 0, kZ), (3, .invokevirtual 79, 1, 9, 1, 0, m9_modeOf), (1, .i2l, 0, 0, 0, 0, kZ), (1, .lastore, 0, 0, 0, 0, kZ), (3, .goto 6, 15, 0, 0, 0, kZ)]
set_option maxRecDepth 100000 in
theorem ooL_modeOf_0 : okL mL_modeOf 0 bbL_modeOf_0 := okL_of _ _ (by decide +kernel) ⟨trivial, ⟨trivial, ⟨trivial, ⟨trivial, ⟨⟨mok_m9_modeOf, ⟨by decide, by decide⟩, rfl, by decide, lc_L_79, okt_mL_modeOf⟩, ⟨trivial, ⟨trivial, ⟨rfl, trivial⟩⟩⟩⟩⟩⟩⟩⟩
def bbL_modeOf_12 : List PI := [(1, .astore_n 3, 0, 0, 0, 0, kZ), (1, .iconst 1, 0, 0, 0, 0, kZ), (1, .ireturn, 0, 0, 0, 0, kZ)]
set_option maxRecDepth 100000 in
theorem ooL_modeOf_12 : okL mL_modeOf 12 bbL_modeOf_12 := okL_of _ _ (by decide +kernel) ⟨trivial, ⟨trivial, ⟨trivial, trivial⟩⟩⟩
def bbL_modeOf_15 : List PI := [(1, .iconst 0, 0, 0, 0, 0, kZ), (1, .ireturn, 0, 0, 0, 0, kZ)]
set_option maxRecDepth 100000 in
theorem ooL_modeOf_15 : okL mL_modeOf 15 bbL_modeOf_15 := okL_of _ _ (by decide +kernel) ⟨trivial, ⟨trivial, trivial⟩⟩
def cdL_modeOf (t : Nat) : Option (List PI) := match t with
  | 0 => some bbL_modeOf_0
  | 12 => some bbL_modeOf_12
  | 15 => some bbL_modeOf_15
  | _ => none
theorem kdL_modeOf : ∀ t is, cdL_modeOf t = some is → okL mL_modeOf t is := by
  intro t is h
  unfold cdL_modeOf at h
  split at h <;> cases h
  · exact ooL_modeOf_0
  · exact ooL_modeOf_12
  · exact ooL_modeOf_15
theorem ffL_modeOf : mi_r mL_modeOf = (some .int) ∧ mi_l mL_modeOf = 4 ∧ mi_h mL_modeOf = [((0, 9, 12, 25), eIO)] ∧ (mi_rm mL_modeOf).cells = 1 ∧ (mi_rm mL_modeOf).slots = 6 ∧ (mi_rm mL_modeOf).locals = 153 ∧ cdL_modeOf 0 = some bbL_modeOf_0 ∧ cdL_modeOf 12 = some bbL_modeOf_12 ∧ cdL_modeOf 15 = some bbL_modeOf_15 ∧ (mi_rm m9_modeOf).cells = 1 ∧ (mi_rm m9_modeOf).slots = 6 := ⟨rfl, rfl, rfl, rfl, rfl, rfl, rfl, rfl, rfl, rfl, rfl⟩
set_option maxRecDepth 100000 in
theorem okt_mL_checkOf : okT mL_checkOf 5 := List.forall_mem_cons.mpr ⟨⟨by decide, by decide, (wt_4 51 (by decide +kernel) rfl), (nt_4 66 (by decide +kernel) rfl)⟩, List.forall_mem_cons.mpr ⟨⟨by decide, by decide, (wt_3 169 (by decide +kernel) rfl), (nt_3 176 (by decide +kernel) rfl)⟩, (fun _ h => nomatch h)⟩⟩
def bbL_checkOf_0 : List PI := [(1, .aload_n 3, 0, 0, 0, 0, kZ), (1, .iconst 0, 0, 0, 0, 0, kZ), (1, .aload_n 0, 0, 0, 0, 0, kZ), (1, .iload_n 1, 0, 0, 0, 0, kZ), (1, .iload_n 2, 0, 0, 0, 0, kZ), (3, .invokevirtual 82, 2, 9, 1, 0, m9_checkOf), (1, .i2l, 0, 0, 0, 0, kZ), (1, .lastore, 0, 0, 0, 0, kZ), (3, .goto 11, 21, 0, 0, 0, kZ)]
set_option maxRecDepth 100000 in
theorem ooL_checkOf_0 : okL mL_checkOf 0 bbL_checkOf_0 := okL_of _ _ (by decide +kernel) ⟨trivial, ⟨trivial, ⟨trivial, ⟨trivial, ⟨trivial, ⟨⟨mok_m9_checkOf, ⟨by decide, by decide⟩, rfl, by decide, lc_L_82, okt_mL_checkOf⟩, ⟨trivial, ⟨trivial, ⟨rfl, trivial⟩⟩⟩⟩⟩⟩⟩⟩⟩
def bbL_checkOf_13 : List PI := [(2, .astore 4, 0, 0, 0, 0, kZ), (1, .iconst 1, 0, 0, 0, 0, kZ), (1, .ireturn, 0, 0, 0, 0, kZ)]
set_option maxRecDepth 100000 in
theorem ooL_checkOf_13 : okL mL_checkOf 13 bbL_checkOf_13 := okL_of _ _ (by decide +kernel) ⟨trivial, ⟨trivial, ⟨trivial, trivial⟩⟩⟩
def bbL_checkOf_17 : List PI := [(2, .astore 4, 0, 0, 0, 0, kZ), (1, .iconst 2, 0, 0, 0, 0, kZ), (1, .ireturn, 0, 0, 0, 0, kZ)]
set_option maxRecDepth 100000 in
theorem ooL_checkOf_17 : okL mL_checkOf 17 bbL_checkOf_17 := okL_of _ _ (by decide +kernel) ⟨trivial, ⟨trivial, ⟨trivial, trivial⟩⟩⟩
def bbL_checkOf_21 : List PI := [(1, .iconst 0, 0, 0, 0, 0, kZ), (1, .ireturn, 0, 0, 0, 0, kZ)]
set_option maxRecDepth 100000 in
theorem ooL_checkOf_21 : okL mL_checkOf 21 bbL_checkOf_21 := okL_of _ _ (by decide +kernel) ⟨trivial, ⟨trivial, trivial⟩⟩
def cdL_checkOf (t : Nat) : Option (List PI) := match t with
  | 0 => some bbL_checkOf_0
  | 13 => some bbL_checkOf_13
  | 17 => some bbL_checkOf_17
  | 21 => some bbL_checkOf_21
  | _ => none
theorem kdL_checkOf : ∀ t is, cdL_checkOf t = some is → okL mL_checkOf t is := by
  intro t is h
  unfold cdL_checkOf at h
  split at h <;> cases h
  · exact ooL_checkOf_0
  · exact ooL_checkOf_13
  · exact ooL_checkOf_17
  · exact ooL_checkOf_21
theorem ffL_checkOf : mi_r mL_checkOf = (some .int) ∧ mi_l mL_checkOf = 5 ∧ mi_h mL_checkOf = [((0, 10, 13, 25), eIO), ((0, 10, 17, 13), eIA)] ∧ (mi_rm mL_checkOf).cells = 2 ∧ (mi_rm mL_checkOf).slots = 12 ∧ (mi_rm mL_checkOf).locals = 149 ∧ cdL_checkOf 0 = some bbL_checkOf_0 ∧ cdL_checkOf 13 = some bbL_checkOf_13 ∧ cdL_checkOf 17 = some bbL_checkOf_17 ∧ cdL_checkOf 21 = some bbL_checkOf_21 ∧ (mi_rm m9_checkOf).cells = 2 ∧ (mi_rm m9_checkOf).slots = 12 := ⟨rfl, rfl, rfl, rfl, rfl, rfl, rfl, rfl, rfl, rfl, rfl, rfl⟩
set_option maxRecDepth 100000 in
theorem okt_mL_numberAt : okT mL_numberAt 4 := List.forall_mem_cons.mpr ⟨⟨by decide, by decide, (wt_4 51 (by decide +kernel) rfl), (nt_4 66 (by decide +kernel) rfl)⟩, (fun _ h => nomatch h)⟩
def bbL_numberAt_0 : List PI := [(1, .aload_n 2, 0, 0, 0, 0, kZ), (1, .iconst 0, 0, 0, 0, 0, kZ), (1, .aload_n 0, 0, 0, 0, 0, kZ), (1, .iload_n 1, 0, 0, 0, 0, kZ), (3, .invokevirtual 85, 1, 9, 1, 0, m9_numberAt), (1, .i2l, 0, 0, 0, 0, kZ), (1, .lastore, 0, 0, 0, 0, kZ), (3, .goto 6, 15, 0, 0, 0, kZ)]
set_option maxRecDepth 100000 in
theorem ooL_numberAt_0 : okL mL_numberAt 0 bbL_numberAt_0 := okL_of _ _ (by decide +kernel) ⟨trivial, ⟨trivial, ⟨trivial, ⟨trivial, ⟨⟨mok_m9_numberAt, ⟨by decide, by decide⟩, rfl, by decide, lc_L_85, okt_mL_numberAt⟩, ⟨trivial, ⟨trivial, ⟨rfl, trivial⟩⟩⟩⟩⟩⟩⟩⟩
def bbL_numberAt_12 : List PI := [(1, .astore_n 3, 0, 0, 0, 0, kZ), (1, .iconst 1, 0, 0, 0, 0, kZ), (1, .ireturn, 0, 0, 0, 0, kZ)]
set_option maxRecDepth 100000 in
theorem ooL_numberAt_12 : okL mL_numberAt 12 bbL_numberAt_12 := okL_of _ _ (by decide +kernel) ⟨trivial, ⟨trivial, ⟨trivial, trivial⟩⟩⟩
def bbL_numberAt_15 : List PI := [(1, .iconst 0, 0, 0, 0, 0, kZ), (1, .ireturn, 0, 0, 0, 0, kZ)]
set_option maxRecDepth 100000 in
theorem ooL_numberAt_15 : okL mL_numberAt 15 bbL_numberAt_15 := okL_of _ _ (by decide +kernel) ⟨trivial, ⟨trivial, trivial⟩⟩
def cdL_numberAt (t : Nat) : Option (List PI) := match t with
  | 0 => some bbL_numberAt_0
  | 12 => some bbL_numberAt_12
  | 15 => some bbL_numberAt_15
  | _ => none
theorem kdL_numberAt : ∀ t is, cdL_numberAt t = some is → okL mL_numberAt t is := by
  intro t is h
  unfold cdL_numberAt at h
  split at h <;> cases h
  · exact ooL_numberAt_0
  · exact ooL_numberAt_12
  · exact ooL_numberAt_15
theorem ffL_numberAt : mi_r mL_numberAt = (some .int) ∧ mi_l mL_numberAt = 4 ∧ mi_h mL_numberAt = [((0, 9, 12, 25), eIO)] ∧ (mi_rm mL_numberAt).cells = 1 ∧ (mi_rm mL_numberAt).slots = 6 ∧ (mi_rm mL_numberAt).locals = 126 ∧ cdL_numberAt 0 = some bbL_numberAt_0 ∧ cdL_numberAt 12 = some bbL_numberAt_12 ∧ cdL_numberAt 15 = some bbL_numberAt_15 ∧ (mi_rm m9_numberAt).cells = 1 ∧ (mi_rm m9_numberAt).slots = 6 := ⟨rfl, rfl, rfl, rfl, rfl, rfl, rfl, rfl, rfl, rfl, rfl⟩
set_option maxRecDepth 100000 in
theorem okt_mL_isReceived : okT mL_isReceived 4 := List.forall_mem_cons.mpr ⟨⟨by decide, by decide, (wt_4 51 (by decide +kernel) rfl), (nt_4 66 (by decide +kernel) rfl)⟩, (fun _ h => nomatch h)⟩
def bbL_isReceived_0 : List PI := [(1, .aload_n 2, 0, 0, 0, 0, kZ), (1, .iconst 0, 0, 0, 0, 0, kZ), (1, .aload_n 0, 0, 0, 0, 0, kZ), (1, .iload_n 1, 0, 0, 0, 0, kZ), (3, .invokevirtual 88, 1, 9, 1, 0, m9_isReceived), (3, .ifCond .eq 7, 14, 0, 0, 0, kZ), (1, .lconst 1, 0, 0, 0, 0, kZ), (3, .goto 4, 15, 0, 0, 0, kZ)]
set_option maxRecDepth 100000 in
theorem ooL_isReceived_0 : okL mL_isReceived 0 bbL_isReceived_0 := okL_of _ _ (by decide +kernel) ⟨trivial, ⟨trivial, ⟨trivial, ⟨trivial, ⟨⟨mok_m9_isReceived, ⟨by decide, by decide⟩, rfl, by decide, lc_L_88, okt_mL_isReceived⟩, ⟨rfl, ⟨trivial, ⟨rfl, trivial⟩⟩⟩⟩⟩⟩⟩⟩
def bbL_isReceived_14 : List PI := [(1, .lconst 0, 0, 0, 0, 0, kZ)]
set_option maxRecDepth 100000 in
theorem ooL_isReceived_14 : okL mL_isReceived 14 bbL_isReceived_14 := okL_of _ _ (by decide +kernel) ⟨trivial, trivial⟩
def bbL_isReceived_15 : List PI := [(1, .lastore, 0, 0, 0, 0, kZ), (3, .goto 6, 22, 0, 0, 0, kZ)]
set_option maxRecDepth 100000 in
theorem ooL_isReceived_15 : okL mL_isReceived 15 bbL_isReceived_15 := okL_of _ _ (by decide +kernel) ⟨trivial, ⟨rfl, trivial⟩⟩
def bbL_isReceived_19 : List PI := [(1, .astore_n 3, 0, 0, 0, 0, kZ), (1, .iconst 1, 0, 0, 0, 0, kZ), (1, .ireturn, 0, 0, 0, 0, kZ)]
set_option maxRecDepth 100000 in
theorem ooL_isReceived_19 : okL mL_isReceived 19 bbL_isReceived_19 := okL_of _ _ (by decide +kernel) ⟨trivial, ⟨trivial, ⟨trivial, trivial⟩⟩⟩
def bbL_isReceived_22 : List PI := [(1, .iconst 0, 0, 0, 0, 0, kZ), (1, .ireturn, 0, 0, 0, 0, kZ)]
set_option maxRecDepth 100000 in
theorem ooL_isReceived_22 : okL mL_isReceived 22 bbL_isReceived_22 := okL_of _ _ (by decide +kernel) ⟨trivial, ⟨trivial, trivial⟩⟩
def cdL_isReceived (t : Nat) : Option (List PI) := match t with
  | 0 => some bbL_isReceived_0
  | 14 => some bbL_isReceived_14
  | 15 => some bbL_isReceived_15
  | 19 => some bbL_isReceived_19
  | 22 => some bbL_isReceived_22
  | _ => none
theorem kdL_isReceived : ∀ t is, cdL_isReceived t = some is → okL mL_isReceived t is := by
  intro t is h
  unfold cdL_isReceived at h
  split at h <;> cases h
  · exact ooL_isReceived_0
  · exact ooL_isReceived_14
  · exact ooL_isReceived_15
  · exact ooL_isReceived_19
  · exact ooL_isReceived_22
theorem ffL_isReceived : mi_r mL_isReceived = (some .int) ∧ mi_l mL_isReceived = 4 ∧ mi_h mL_isReceived = [((0, 16, 19, 25), eIO)] ∧ (mi_rm mL_isReceived).cells = 1 ∧ (mi_rm mL_isReceived).slots = 6 ∧ (mi_rm mL_isReceived).locals = 125 ∧ cdL_isReceived 0 = some bbL_isReceived_0 ∧ cdL_isReceived 14 = some bbL_isReceived_14 ∧ cdL_isReceived 15 = some bbL_isReceived_15 ∧ cdL_isReceived 19 = some bbL_isReceived_19 ∧ cdL_isReceived 22 = some bbL_isReceived_22 ∧ (mi_rm m9_isReceived).cells = 1 ∧ (mi_rm m9_isReceived).slots = 6 := ⟨rfl, rfl, rfl, rfl, rfl, rfl, rfl, rfl, rfl, rfl, rfl, rfl, rfl⟩
set_option maxRecDepth 100000 in
theorem okt_mL_receivedPixels : okT mL_receivedPixels 4 := List.forall_mem_cons.mpr ⟨⟨by decide, by decide, (wt_4 51 (by decide +kernel) rfl), (nt_4 66 (by decide +kernel) rfl)⟩, List.forall_mem_cons.mpr ⟨⟨by decide, by decide, (wt_4 10 (by decide +kernel) rfl), (nt_4 30 (by decide +kernel) rfl)⟩, (fun _ h => nomatch h)⟩⟩
def bbL_receivedPixels_0 : List PI := [(1, .aload_n 2, 0, 0, 0, 0, kZ), (1, .iconst 0, 0, 0, 0, 0, kZ), (1, .aload_n 0, 0, 0, 0, 0, kZ), (1, .iload_n 1, 0, 0, 0, 0, kZ), (3, .invokevirtual 92, 1, 9, 1, 0, m9_receivedPixels), (1, .lastore, 0, 0, 0, 0, kZ), (3, .goto 9, 17, 0, 0, 0, kZ)]
set_option maxRecDepth 100000 in
theorem ooL_receivedPixels_0 : okL mL_receivedPixels 0 bbL_receivedPixels_0 := okL_of _ _ (by decide +kernel) ⟨trivial, ⟨trivial, ⟨trivial, ⟨trivial, ⟨⟨mok_m9_receivedPixels, ⟨by decide, by decide⟩, rfl, by decide, lc_L_92, okt_mL_receivedPixels⟩, ⟨trivial, ⟨rfl, trivial⟩⟩⟩⟩⟩⟩⟩
def bbL_receivedPixels_11 : List PI := [(1, .astore_n 3, 0, 0, 0, 0, kZ), (1, .iconst 1, 0, 0, 0, 0, kZ), (1, .ireturn, 0, 0, 0, 0, kZ)]
set_option maxRecDepth 100000 in
theorem ooL_receivedPixels_11 : okL mL_receivedPixels 11 bbL_receivedPixels_11 := okL_of _ _ (by decide +kernel) ⟨trivial, ⟨trivial, ⟨trivial, trivial⟩⟩⟩
def bbL_receivedPixels_14 : List PI := [(1, .astore_n 3, 0, 0, 0, 0, kZ), (1, .iconst 2, 0, 0, 0, 0, kZ), (1, .ireturn, 0, 0, 0, 0, kZ)]
set_option maxRecDepth 100000 in
theorem ooL_receivedPixels_14 : okL mL_receivedPixels 14 bbL_receivedPixels_14 := okL_of _ _ (by decide +kernel) ⟨trivial, ⟨trivial, ⟨trivial, trivial⟩⟩⟩
def bbL_receivedPixels_17 : List PI := [(1, .iconst 0, 0, 0, 0, 0, kZ), (1, .ireturn, 0, 0, 0, 0, kZ)]
set_option maxRecDepth 100000 in
theorem ooL_receivedPixels_17 : okL mL_receivedPixels 17 bbL_receivedPixels_17 := okL_of _ _ (by decide +kernel) ⟨trivial, ⟨trivial, trivial⟩⟩
def cdL_receivedPixels (t : Nat) : Option (List PI) := match t with
  | 0 => some bbL_receivedPixels_0
  | 11 => some bbL_receivedPixels_11
  | 14 => some bbL_receivedPixels_14
  | 17 => some bbL_receivedPixels_17
  | _ => none
theorem kdL_receivedPixels : ∀ t is, cdL_receivedPixels t = some is → okL mL_receivedPixels t is := by
  intro t is h
  unfold cdL_receivedPixels at h
  split at h <;> cases h
  · exact ooL_receivedPixels_0
  · exact ooL_receivedPixels_11
  · exact ooL_receivedPixels_14
  · exact ooL_receivedPixels_17
theorem ffL_receivedPixels : mi_r mL_receivedPixels = (some .int) ∧ mi_l mL_receivedPixels = 4 ∧ mi_h mL_receivedPixels = [((0, 8, 11, 25), eIO), ((0, 8, 14, 19), eIS)] ∧ (mi_rm mL_receivedPixels).cells = 2 ∧ (mi_rm mL_receivedPixels).slots = 12 ∧ (mi_rm mL_receivedPixels).locals = 125 ∧ cdL_receivedPixels 0 = some bbL_receivedPixels_0 ∧ cdL_receivedPixels 11 = some bbL_receivedPixels_11 ∧ cdL_receivedPixels 14 = some bbL_receivedPixels_14 ∧ cdL_receivedPixels 17 = some bbL_receivedPixels_17 ∧ (mi_rm m9_receivedPixels).cells = 2 ∧ (mi_rm m9_receivedPixels).slots = 12 := ⟨rfl, rfl, rfl, rfl, rfl, rfl, rfl, rfl, rfl, rfl, rfl, rfl⟩
set_option maxRecDepth 100000 in
theorem okt_mL_errorPlace : okT mL_errorPlace 4 := List.forall_mem_cons.mpr ⟨⟨by decide, by decide, (wt_4 51 (by decide +kernel) rfl), (nt_4 66 (by decide +kernel) rfl)⟩, (fun _ h => nomatch h)⟩
def bbL_errorPlace_0 : List PI := [(1, .aload_n 2, 0, 0, 0, 0, kZ), (1, .iconst 0, 0, 0, 0, 0, kZ), (1, .aload_n 0, 0, 0, 0, 0, kZ), (1, .iload_n 1, 0, 0, 0, 0, kZ), (3, .invokevirtual 95, 1, 9, 1, 0, m9_errorPlace), (1, .i2l, 0, 0, 0, 0, kZ), (1, .lastore, 0, 0, 0, 0, kZ), (3, .goto 6, 15, 0, 0, 0, kZ)]
set_option maxRecDepth 100000 in
theorem ooL_errorPlace_0 : okL mL_errorPlace 0 bbL_errorPlace_0 := okL_of _ _ (by decide +kernel) ⟨trivial, ⟨trivial, ⟨trivial, ⟨trivial, ⟨⟨mok_m9_errorPlace, ⟨by decide, by decide⟩, rfl, by decide, lc_L_95, okt_mL_errorPlace⟩, ⟨trivial, ⟨trivial, ⟨rfl, trivial⟩⟩⟩⟩⟩⟩⟩⟩
def bbL_errorPlace_12 : List PI := [(1, .astore_n 3, 0, 0, 0, 0, kZ), (1, .iconst 1, 0, 0, 0, 0, kZ), (1, .ireturn, 0, 0, 0, 0, kZ)]
set_option maxRecDepth 100000 in
theorem ooL_errorPlace_12 : okL mL_errorPlace 12 bbL_errorPlace_12 := okL_of _ _ (by decide +kernel) ⟨trivial, ⟨trivial, ⟨trivial, trivial⟩⟩⟩
def bbL_errorPlace_15 : List PI := [(1, .iconst 0, 0, 0, 0, 0, kZ), (1, .ireturn, 0, 0, 0, 0, kZ)]
set_option maxRecDepth 100000 in
theorem ooL_errorPlace_15 : okL mL_errorPlace 15 bbL_errorPlace_15 := okL_of _ _ (by decide +kernel) ⟨trivial, ⟨trivial, trivial⟩⟩
def cdL_errorPlace (t : Nat) : Option (List PI) := match t with
  | 0 => some bbL_errorPlace_0
  | 12 => some bbL_errorPlace_12
  | 15 => some bbL_errorPlace_15
  | _ => none
theorem kdL_errorPlace : ∀ t is, cdL_errorPlace t = some is → okL mL_errorPlace t is := by
  intro t is h
  unfold cdL_errorPlace at h
  split at h <;> cases h
  · exact ooL_errorPlace_0
  · exact ooL_errorPlace_12
  · exact ooL_errorPlace_15
theorem ffL_errorPlace : mi_r mL_errorPlace = (some .int) ∧ mi_l mL_errorPlace = 4 ∧ mi_h mL_errorPlace = [((0, 9, 12, 25), eIO)] ∧ (mi_rm mL_errorPlace).cells = 1 ∧ (mi_rm mL_errorPlace).slots = 6 ∧ (mi_rm mL_errorPlace).locals = 126 ∧ cdL_errorPlace 0 = some bbL_errorPlace_0 ∧ cdL_errorPlace 12 = some bbL_errorPlace_12 ∧ cdL_errorPlace 15 = some bbL_errorPlace_15 ∧ (mi_rm m9_errorPlace).cells = 1 ∧ (mi_rm m9_errorPlace).slots = 6 := ⟨rfl, rfl, rfl, rfl, rfl, rfl, rfl, rfl, rfl, rfl, rfl⟩
set_option maxRecDepth 100000 in
theorem okt_mL_errorReason : okT mL_errorReason 4 := List.forall_mem_cons.mpr ⟨⟨by decide, by decide, (wt_4 51 (by decide +kernel) rfl), (nt_4 66 (by decide +kernel) rfl)⟩, (fun _ h => nomatch h)⟩
def bbL_errorReason_0 : List PI := [(1, .aload_n 2, 0, 0, 0, 0, kZ), (1, .iconst 0, 0, 0, 0, 0, kZ), (1, .aload_n 0, 0, 0, 0, 0, kZ), (1, .iload_n 1, 0, 0, 0, 0, kZ), (3, .invokevirtual 98, 1, 9, 1, 0, m9_errorReason), (1, .i2l, 0, 0, 0, 0, kZ), (1, .lastore, 0, 0, 0, 0, kZ), (3, .goto 6, 15, 0, 0, 0, kZ)]
set_option maxRecDepth 100000 in
theorem ooL_errorReason_0 : okL mL_errorReason 0 bbL_errorReason_0 := okL_of _ _ (by decide +kernel) ⟨trivial, ⟨trivial, ⟨trivial, ⟨trivial, ⟨⟨mok_m9_errorReason, ⟨by decide, by decide⟩, rfl, by decide, lc_L_98, okt_mL_errorReason⟩, ⟨trivial, ⟨trivial, ⟨rfl, trivial⟩⟩⟩⟩⟩⟩⟩⟩
def bbL_errorReason_12 : List PI := [(1, .astore_n 3, 0, 0, 0, 0, kZ), (1, .iconst 1, 0, 0, 0, 0, kZ), (1, .ireturn, 0, 0, 0, 0, kZ)]
set_option maxRecDepth 100000 in
theorem ooL_errorReason_12 : okL mL_errorReason 12 bbL_errorReason_12 := okL_of _ _ (by decide +kernel) ⟨trivial, ⟨trivial, ⟨trivial, trivial⟩⟩⟩
def bbL_errorReason_15 : List PI := [(1, .iconst 0, 0, 0, 0, 0, kZ), (1, .ireturn, 0, 0, 0, 0, kZ)]
set_option maxRecDepth 100000 in
theorem ooL_errorReason_15 : okL mL_errorReason 15 bbL_errorReason_15 := okL_of _ _ (by decide +kernel) ⟨trivial, ⟨trivial, trivial⟩⟩
def cdL_errorReason (t : Nat) : Option (List PI) := match t with
  | 0 => some bbL_errorReason_0
  | 12 => some bbL_errorReason_12
  | 15 => some bbL_errorReason_15
  | _ => none
theorem kdL_errorReason : ∀ t is, cdL_errorReason t = some is → okL mL_errorReason t is := by
  intro t is h
  unfold cdL_errorReason at h
  split at h <;> cases h
  · exact ooL_errorReason_0
  · exact ooL_errorReason_12
  · exact ooL_errorReason_15
theorem ffL_errorReason : mi_r mL_errorReason = (some .int) ∧ mi_l mL_errorReason = 4 ∧ mi_h mL_errorReason = [((0, 9, 12, 25), eIO)] ∧ (mi_rm mL_errorReason).cells = 1 ∧ (mi_rm mL_errorReason).slots = 6 ∧ (mi_rm mL_errorReason).locals = 126 ∧ cdL_errorReason 0 = some bbL_errorReason_0 ∧ cdL_errorReason 12 = some bbL_errorReason_12 ∧ cdL_errorReason 15 = some bbL_errorReason_15 ∧ (mi_rm m9_errorReason).cells = 1 ∧ (mi_rm m9_errorReason).slots = 6 := ⟨rfl, rfl, rfl, rfl, rfl, rfl, rfl, rfl, rfl, rfl, rfl⟩
set_option maxRecDepth 100000 in
theorem okt_mL_rightIfReplaced : okT mL_rightIfReplaced 5 := List.forall_mem_cons.mpr ⟨⟨by decide, by decide, (wt_4 51 (by decide +kernel) rfl), (nt_4 66 (by decide +kernel) rfl)⟩, List.forall_mem_cons.mpr ⟨⟨by decide, by decide, (wt_3 169 (by decide +kernel) rfl), (nt_3 176 (by decide +kernel) rfl)⟩, (fun _ h => nomatch h)⟩⟩
def bbL_rightIfReplaced_0 : List PI := [(1, .aload_n 3, 0, 0, 0, 0, kZ), (1, .iconst 0, 0, 0, 0, 0, kZ), (1, .aload_n 0, 0, 0, 0, 0, kZ), (1, .iload_n 1, 0, 0, 0, 0, kZ), (1, .iload_n 2, 0, 0, 0, 0, kZ), (3, .invokevirtual 101, 2, 9, 1, 0, m9_rightIfReplaced), (1, .i2l, 0, 0, 0, 0, kZ), (1, .lastore, 0, 0, 0, 0, kZ), (3, .goto 11, 21, 0, 0, 0, kZ)]
set_option maxRecDepth 100000 in
theorem ooL_rightIfReplaced_0 : okL mL_rightIfReplaced 0 bbL_rightIfReplaced_0 := okL_of _ _ (by decide +kernel) ⟨trivial, ⟨trivial, ⟨trivial, ⟨trivial, ⟨trivial, ⟨⟨mok_m9_rightIfReplaced, ⟨by decide, by decide⟩, rfl, by decide, lc_L_101, okt_mL_rightIfReplaced⟩, ⟨trivial, ⟨trivial, ⟨rfl, trivial⟩⟩⟩⟩⟩⟩⟩⟩⟩
def bbL_rightIfReplaced_13 : List PI := [(2, .astore 4, 0, 0, 0, 0, kZ), (1, .iconst 1, 0, 0, 0, 0, kZ), (1, .ireturn, 0, 0, 0, 0, kZ)]
set_option maxRecDepth 100000 in
theorem ooL_rightIfReplaced_13 : okL mL_rightIfReplaced 13 bbL_rightIfReplaced_13 := okL_of _ _ (by decide +kernel) ⟨trivial, ⟨trivial, ⟨trivial, trivial⟩⟩⟩
def bbL_rightIfReplaced_17 : List PI := [(2, .astore 4, 0, 0, 0, 0, kZ), (1, .iconst 2, 0, 0, 0, 0, kZ), (1, .ireturn, 0, 0, 0, 0, kZ)]
set_option maxRecDepth 100000 in
theorem ooL_rightIfReplaced_17 : okL mL_rightIfReplaced 17 bbL_rightIfReplaced_17 := okL_of _ _ (by decide +kernel) ⟨trivial, ⟨trivial, ⟨trivial, trivial⟩⟩⟩
def bbL_rightIfReplaced_21 : List PI := [(1, .iconst 0, 0, 0, 0, 0, kZ), (1, .ireturn, 0, 0, 0, 0, kZ)]
set_option maxRecDepth 100000 in
theorem ooL_rightIfReplaced_21 : okL mL_rightIfReplaced 21 bbL_rightIfReplaced_21 := okL_of _ _ (by decide +kernel) ⟨trivial, ⟨trivial, trivial⟩⟩
def cdL_rightIfReplaced (t : Nat) : Option (List PI) := match t with
  | 0 => some bbL_rightIfReplaced_0
  | 13 => some bbL_rightIfReplaced_13
  | 17 => some bbL_rightIfReplaced_17
  | 21 => some bbL_rightIfReplaced_21
  | _ => none
theorem kdL_rightIfReplaced : ∀ t is, cdL_rightIfReplaced t = some is → okL mL_rightIfReplaced t is := by
  intro t is h
  unfold cdL_rightIfReplaced at h
  split at h <;> cases h
  · exact ooL_rightIfReplaced_0
  · exact ooL_rightIfReplaced_13
  · exact ooL_rightIfReplaced_17
  · exact ooL_rightIfReplaced_21
theorem ffL_rightIfReplaced : mi_r mL_rightIfReplaced = (some .int) ∧ mi_l mL_rightIfReplaced = 5 ∧ mi_h mL_rightIfReplaced = [((0, 10, 13, 25), eIO), ((0, 10, 17, 13), eIA)] ∧ (mi_rm mL_rightIfReplaced).cells = 2 ∧ (mi_rm mL_rightIfReplaced).slots = 12 ∧ (mi_rm mL_rightIfReplaced).locals = 204 ∧ cdL_rightIfReplaced 0 = some bbL_rightIfReplaced_0 ∧ cdL_rightIfReplaced 13 = some bbL_rightIfReplaced_13 ∧ cdL_rightIfReplaced 17 = some bbL_rightIfReplaced_17 ∧ cdL_rightIfReplaced 21 = some bbL_rightIfReplaced_21 ∧ (mi_rm m9_rightIfReplaced).cells = 2 ∧ (mi_rm m9_rightIfReplaced).slots = 12 := ⟨rfl, rfl, rfl, rfl, rfl, rfl, rfl, rfl, rfl, rfl, rfl, rfl⟩

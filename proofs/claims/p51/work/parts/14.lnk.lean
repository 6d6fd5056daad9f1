def kZ : MI := (⟨"", "", ""⟩, ⟨#[]⟩, 0, none, ⟨0, 0, 0, 0⟩, [])
def kX (E t : String) : MI := (⟨E, t, ""⟩, ⟨#[]⟩, 0, none, ⟨0, 0, 0, 0⟩, [])
set_option maxRecDepth 100000 in
def atB (own : String) (ic : Nat) (E : String) (ik : Nat) : Bool := (vx_atS own ic E exN).all (fun w => decide (w ∈ lw_tbl) && (goodWord w || nsb w)) && (Jvm.Cond.classLink own ik E :: Jvm.Cond.initialized E :: vx_atS own ic E exN).all vx_ot
set_option maxRecDepth 100000 in
theorem at_ws {own E : String} {ic ik : Nat} (h : atB own ic E ik = true) : ∀ w ∈ vx_atS own ic E exN, w ∈ WS ∨ w ∈ NS := fun w hw => by
  simp only [atB, Bool.and_eq_true] at h
  have := List.all_eq_true.mp h.1 w hw
  simp only [Bool.and_eq_true, Bool.or_eq_true, decide_eq_true_eq] at this
  exact this.2.elim (fun g => Or.inl (List.mem_filter.mpr ⟨this.1, g⟩)) (fun g => Or.inr (List.mem_filter.mpr ⟨this.1, g⟩))
theorem at_ot {own E : String} {ic ik : Nat} (h : atB own ic E ik = true) : ∀ w ∈ Jvm.Cond.classLink own ik E :: Jvm.Cond.initialized E :: vx_atS own ic E exN, vx_ot w = true := fun w hw => by
  simp only [atB, Bool.and_eq_true] at h
  exact List.all_eq_true.mp h.2 w hw
set_option maxRecDepth 100000 in
theorem AT_eIA_62 : atB RX9 62 eIA 58 = true := by decide +kernel
set_option maxRecDepth 100000 in
theorem AT_eIS_108 : atB RX9 108 eIS 104 = true := by decide +kernel
set_option maxRecDepth 100000 in
theorem AT_eIO_164 : atB RX9 164 eIO 160 = true := by decide +kernel
def m0_init : MI := (⟨RX0, "<init>", "()V"⟩, prog_2_method_1_code, 1, none, ⟨1, 2, 104, 32⟩, [])
set_option maxRecDepth 100000 in
theorem mok_m0_init : MOK m0_init 0 := ⟨(wt_1 187 (by decide +kernel) rfl), (wt_1 9 (by decide +kernel) rfl), ⟨by decide +kernel, by decide +kernel⟩, by decide +kernel⟩
def m0_addToKernel : MI := (⟨RX0, "addToKernel", "(I)V"⟩, prog_2_method_4_code, 2, none, ⟨1, 0, 0, 32⟩, [])
set_option maxRecDepth 100000 in
theorem mok_m0_addToKernel : MOK m0_addToKernel 1 := ⟨(wt_3 179 (by decide +kernel) rfl), (wt_1 9 (by decide +kernel) rfl), ⟨by decide +kernel, by decide +kernel⟩, by decide +kernel⟩
def m9_blackAt : MI := (⟨RX9, "blackAt", "(JI)Z"⟩, prog_1_method_64_code, 3, (some .boolean), ⟨1, 0, 0, 32⟩, [])
set_option maxRecDepth 100000 in
theorem mok_m9_blackAt : MOK m9_blackAt 2 := ⟨(wt_2 181 (by decide +kernel) rfl), (wt_1 1 (by decide +kernel) rfl), ⟨by decide +kernel, by decide +kernel⟩, by decide +kernel⟩
def m0_kernelByFours : MI := (⟨RX0, "kernelByFours", "(JI)V"⟩, prog_2_method_5_code, 7, none, ⟨2, 0, 0, 54⟩, [])
set_option maxRecDepth 100000 in
theorem mok_m0_kernelByFours : MOK m0_kernelByFours 2 := ⟨(wt_3 174 (by decide +kernel) rfl), (wt_1 9 (by decide +kernel) rfl), ⟨by decide +kernel, by decide +kernel⟩, by decide +kernel⟩
def m0_addRun : MI := (⟨RX0, "addRun", "(I)V"⟩, prog_2_method_7_code, 2, none, ⟨2, 0, 0, 53⟩, [])
set_option maxRecDepth 100000 in
theorem mok_m0_addRun : MOK m0_addRun 1 := ⟨(wt_3 187 (by decide +kernel) rfl), (wt_1 9 (by decide +kernel) rfl), ⟨by decide +kernel, by decide +kernel⟩, by decide +kernel⟩
def m0_kernelByRuns : MI := (⟨RX0, "kernelByRuns", "(JI)V"⟩, prog_2_method_6_code, 7, none, ⟨3, 0, 0, 74⟩, [])
set_option maxRecDepth 100000 in
theorem mok_m0_kernelByRuns : MOK m0_kernelByRuns 2 := ⟨(wt_3 183 (by decide +kernel) rfl), (wt_1 9 (by decide +kernel) rfl), ⟨by decide +kernel, by decide +kernel⟩, by decide +kernel⟩
def m0_put : MI := (⟨RX0, "put", "(I)V"⟩, prog_2_method_3_code, 2, none, ⟨1, 0, 0, 32⟩, [])
set_option maxRecDepth 100000 in
theorem mok_m0_put : MOK m0_put 1 := ⟨(wt_3 191 (by decide +kernel) rfl), (wt_1 9 (by decide +kernel) rfl), ⟨by decide +kernel, by decide +kernel⟩, by decide +kernel⟩
def m2_rowOf : MI := (⟨RX2, "rowOf", "(I)J"⟩, prog_4_method_6_code, 2, (some .long), ⟨1, 0, 0, 32⟩, [])
set_option maxRecDepth 100000 in
theorem mok_m2_rowOf : MOK m2_rowOf 1 := ⟨(wt_2 168 (by decide +kernel) rfl), (wt_1 3 (by decide +kernel) rfl), ⟨by decide +kernel, by decide +kernel⟩, by decide +kernel⟩
def m2_toCode : MI := (⟨RX2, "toCode", "(II)J"⟩, prog_4_method_10_code, 3, (some .long), ⟨2, 0, 0, 53⟩, [])
set_option maxRecDepth 100000 in
theorem mok_m2_toCode : MOK m2_toCode 2 := ⟨(wt_2 164 (by decide +kernel) rfl), (wt_1 3 (by decide +kernel) rfl), ⟨by decide +kernel, by decide +kernel⟩, by decide +kernel⟩
def m0_write : MI := (⟨RX0, "write", "(LRunFaxes$Page;II)V"⟩, prog_2_method_2_code, 8, none, ⟨4, 0, 0, 100⟩, [])
set_option maxRecDepth 100000 in
theorem mok_m0_write : MOK m0_write 3 := ⟨(wt_3 169 (by decide +kernel) rfl), (wt_1 9 (by decide +kernel) rfl), ⟨by decide +kernel, by decide +kernel⟩, by decide +kernel⟩
def m2_init : MI := (⟨RX2, "<init>", "()V"⟩, prog_4_method_1_code, 1, none, ⟨1, 1, 10, 32⟩, [])
set_option maxRecDepth 100000 in
theorem mok_m2_init : MOK m2_init 0 := ⟨(wt_1 39 (by decide +kernel) rfl), (wt_1 3 (by decide +kernel) rfl), ⟨by decide +kernel, by decide +kernel⟩, by decide +kernel⟩
def m6_init : MI := (⟨RX6, "<init>", "()V"⟩, prog_8_method_1_code, 1, none, ⟨1, 3, 50, 32⟩, [])
set_option maxRecDepth 100000 in
theorem mok_m6_init : MOK m6_init 0 := ⟨(wt_1 79 (by decide +kernel) rfl), (wt_1 5 (by decide +kernel) rfl), ⟨by decide +kernel, by decide +kernel⟩, by decide +kernel⟩
def m8_init : MI := (⟨RX8, "<init>", "()V"⟩, prog_10_method_1_code, 1, none, ⟨1, 1, 500, 32⟩, [])
set_option maxRecDepth 100000 in
theorem mok_m8_init : MOK m8_init 0 := ⟨(wt_1 64 (by decide +kernel) rfl), (wt_1 4 (by decide +kernel) rfl), ⟨by decide +kernel, by decide +kernel⟩, by decide +kernel⟩
def m7_init : MI := (⟨RX7, "<init>", "()V"⟩, prog_9_method_1_code, 1, none, ⟨2, 8, 571, 52⟩, [])
set_option maxRecDepth 100000 in
theorem mok_m7_init : MOK m7_init 0 := ⟨(wt_1 33 (by decide +kernel) rfl), (wt_1 2 (by decide +kernel) rfl), ⟨by decide +kernel, by decide +kernel⟩, by decide +kernel⟩
def m1_init : MI := (⟨RX1, "<init>", "()V"⟩, prog_3_method_1_code, 2, none, ⟨3, 46, 2885, 72⟩, [])
set_option maxRecDepth 100000 in
theorem mok_m1_init : MOK m1_init 0 := ⟨(wt_1 123 (by decide +kernel) rfl), (wt_1 6 (by decide +kernel) rfl), ⟨by decide +kernel, by decide +kernel⟩, by decide +kernel⟩
def m1_slot : MI := (⟨RX1, "slot", "(I)LRunFaxes$State;"⟩, prog_3_method_2_code, 3, (some (.object RX7)), ⟨1, 0, 0, 32⟩, [])
set_option maxRecDepth 100000 in
theorem mok_m1_slot : MOK m1_slot 1 := ⟨(wt_2 94 (by decide +kernel) rfl), (wt_1 6 (by decide +kernel) rfl), ⟨by decide +kernel, by decide +kernel⟩, by decide +kernel⟩
def m9_copyLongs : MI := (⟨RX9, "copyLongs", "([J[J)V"⟩, prog_1_method_72_code, 2, none, ⟨1, 0, 0, 32⟩, [])
set_option maxRecDepth 100000 in
theorem mok_m9_copyLongs : MOK m9_copyLongs 2 := ⟨(wt_2 105 (by decide +kernel) rfl), (wt_1 1 (by decide +kernel) rfl), ⟨by decide +kernel, by decide +kernel⟩, by decide +kernel⟩
def m2_copyFrom : MI := (⟨RX2, "copyFrom", "(LRunFaxes$Page;)V"⟩, prog_4_method_11_code, 2, none, ⟨2, 0, 0, 53⟩, [])
set_option maxRecDepth 100000 in
theorem mok_m2_copyFrom : MOK m2_copyFrom 1 := ⟨(wt_2 102 (by decide +kernel) rfl), (wt_1 3 (by decide +kernel) rfl), ⟨by decide +kernel, by decide +kernel⟩, by decide +kernel⟩
def m9_copyInts : MI := (⟨RX9, "copyInts", "([I[I)V"⟩, prog_1_method_71_code, 2, none, ⟨1, 0, 0, 32⟩, [])
set_option maxRecDepth 100000 in
theorem mok_m9_copyInts : MOK m9_copyInts 2 := ⟨(wt_2 118 (by decide +kernel) rfl), (wt_1 1 (by decide +kernel) rfl), ⟨by decide +kernel, by decide +kernel⟩, by decide +kernel⟩
def m6_copyFrom : MI := (⟨RX6, "copyFrom", "(LRunFaxes$Reception;)V"⟩, prog_8_method_12_code, 2, none, ⟨2, 0, 0, 53⟩, [])
set_option maxRecDepth 100000 in
theorem mok_m6_copyFrom : MOK m6_copyFrom 1 := ⟨(wt_2 122 (by decide +kernel) rfl), (wt_1 5 (by decide +kernel) rfl), ⟨by decide +kernel, by decide +kernel⟩, by decide +kernel⟩
def m8_copyFrom : MI := (⟨RX8, "copyFrom", "(LRunFaxes$Stream;)V"⟩, prog_10_method_13_code, 2, none, ⟨2, 0, 0, 53⟩, [])
set_option maxRecDepth 100000 in
theorem mok_m8_copyFrom : MOK m8_copyFrom 1 := ⟨(wt_2 115 (by decide +kernel) rfl), (wt_1 4 (by decide +kernel) rfl), ⟨by decide +kernel, by decide +kernel⟩, by decide +kernel⟩
def m7_copyFrom : MI := (⟨RX7, "copyFrom", "(LRunFaxes$State;)V"⟩, prog_9_method_2_code, 2, none, ⟨3, 0, 0, 74⟩, [])
set_option maxRecDepth 100000 in
theorem mok_m7_copyFrom : MOK m7_copyFrom 1 := ⟨(wt_2 98 (by decide +kernel) rfl), (wt_1 2 (by decide +kernel) rfl), ⟨by decide +kernel, by decide +kernel⟩, by decide +kernel⟩
def m1_push : MI := (⟨RX1, "push", "(LRunFaxes$State;)V"⟩, prog_3_method_3_code, 3, none, ⟨4, 0, 0, 95⟩, [])
set_option maxRecDepth 100000 in
theorem mok_m1_push : MOK m1_push 1 := ⟨(wt_3 110 (by decide +kernel) rfl), (wt_1 6 (by decide +kernel) rfl), ⟨by decide +kernel, by decide +kernel⟩, by decide +kernel⟩
def m1_popInto : MI := (⟨RX1, "popInto", "(LRunFaxes$State;)V"⟩, prog_3_method_4_code, 3, none, ⟨4, 0, 0, 95⟩, [])
set_option maxRecDepth 100000 in
theorem mok_m1_popInto : MOK m1_popInto 1 := ⟨(wt_2 90 (by decide +kernel) rfl), (wt_1 6 (by decide +kernel) rfl), ⟨by decide +kernel, by decide +kernel⟩, by decide +kernel⟩
def m2_emptyWith : MI := (⟨RX2, "emptyWith", "(I)V"⟩, prog_4_method_2_code, 2, none, ⟨1, 0, 0, 32⟩, [])
set_option maxRecDepth 100000 in
theorem mok_m2_emptyWith : MOK m2_emptyWith 1 := ⟨(wt_3 149 (by decide +kernel) rfl), (wt_1 3 (by decide +kernel) rfl), ⟨by decide +kernel, by decide +kernel⟩, by decide +kernel⟩
def m2_has : MI := (⟨RX2, "has", "(I)Z"⟩, prog_4_method_3_code, 2, (some .boolean), ⟨1, 0, 0, 32⟩, [])
set_option maxRecDepth 100000 in
theorem mok_m2_has : MOK m2_has 1 := ⟨(wt_2 222 (by decide +kernel) rfl), (wt_1 3 (by decide +kernel) rfl), ⟨by decide +kernel, by decide +kernel⟩, by decide +kernel⟩
def m2_isFull : MI := (⟨RX2, "isFull", "()Z"⟩, prog_4_method_4_code, 1, (some .boolean), ⟨1, 0, 0, 32⟩, [])
set_option maxRecDepth 100000 in
theorem mok_m2_isFull : MOK m2_isFull 0 := ⟨(wt_3 105 (by decide +kernel) rfl), (wt_1 3 (by decide +kernel) rfl), ⟨by decide +kernel, by decide +kernel⟩, by decide +kernel⟩
def m2_fits : MI := (⟨RX2, "fits", "(J)Z"⟩, prog_4_method_5_code, 3, (some .boolean), ⟨1, 0, 0, 32⟩, [])
set_option maxRecDepth 100000 in
theorem mok_m2_fits : MOK m2_fits 1 := ⟨(wt_3 85 (by decide +kernel) rfl), (wt_1 3 (by decide +kernel) rfl), ⟨by decide +kernel, by decide +kernel⟩, by decide +kernel⟩
def m2_putRow : MI := (⟨RX2, "putRow", "(IJ)V"⟩, prog_4_method_7_code, 4, none, ⟨1, 0, 0, 32⟩, [])
set_option maxRecDepth 100000 in
theorem mok_m2_putRow : MOK m2_putRow 2 := ⟨(wt_3 126 (by decide +kernel) rfl), (wt_1 3 (by decide +kernel) rfl), ⟨by decide +kernel, by decide +kernel⟩, by decide +kernel⟩
def m2_addRow : MI := (⟨RX2, "addRow", "(J)Z"⟩, prog_4_method_8_code, 3, (some .boolean), ⟨1, 0, 0, 32⟩, [])
set_option maxRecDepth 100000 in
theorem mok_m2_addRow : MOK m2_addRow 1 := ⟨(wt_3 114 (by decide +kernel) rfl), (wt_1 3 (by decide +kernel) rfl), ⟨by decide +kernel, by decide +kernel⟩, by decide +kernel⟩
def m2_dropRow : MI := (⟨RX2, "dropRow", "()Z"⟩, prog_4_method_9_code, 1, (some .boolean), ⟨1, 0, 0, 32⟩, [])
set_option maxRecDepth 100000 in
theorem mok_m2_dropRow : MOK m2_dropRow 0 := ⟨(wt_3 135 (by decide +kernel) rfl), (wt_1 3 (by decide +kernel) rfl), ⟨by decide +kernel, by decide +kernel⟩, by decide +kernel⟩
def m4_init : MI := (⟨RX4, "<init>", "()V"⟩, prog_6_method_1_code, 1, none, ⟨1, 0, 0, 32⟩, [])
set_option maxRecDepth 100000 in
theorem mok_m4_init : MOK m4_init 0 := ⟨(wt_1 149 (by decide +kernel) rfl), (wt_1 8 (by decide +kernel) rfl), ⟨by decide +kernel, by decide +kernel⟩, by decide +kernel⟩
def m3_init : MI := (⟨RX3, "<init>", "()V"⟩, prog_5_method_1_code, 1, none, ⟨2, 2, 67, 52⟩, [])
set_option maxRecDepth 100000 in
theorem mok_m3_init : MOK m3_init 0 := ⟨(wt_1 143 (by decide +kernel) rfl), (wt_1 7 (by decide +kernel) rfl), ⟨by decide +kernel, by decide +kernel⟩, by decide +kernel⟩
def m5_init : MI := (⟨RX5, "<init>", "()V"⟩, prog_7_method_1_code, 1, none, ⟨1, 0, 0, 32⟩, [])
set_option maxRecDepth 100000 in
theorem mok_m5_init : MOK m5_init 0 := ⟨(wt_1 212 (by decide +kernel) rfl), (wt_1 10 (by decide +kernel) rfl), ⟨by decide +kernel, by decide +kernel⟩, by decide +kernel⟩
def m8_at : MI := (⟨RX8, "at", "(I)I"⟩, prog_10_method_5_code, 2, (some .int), ⟨1, 0, 0, 32⟩, [])
set_option maxRecDepth 100000 in
theorem mok_m8_at : MOK m8_at 1 := ⟨(wt_3 16 (by decide +kernel) rfl), (wt_1 4 (by decide +kernel) rfl), ⟨by decide +kernel, by decide +kernel⟩, by decide +kernel⟩
def m5_next : MI := (⟨RX5, "next", "(LRunFaxes$Stream;)I"⟩, prog_7_method_4_code, 3, (some .int), ⟨2, 0, 0, 53⟩, [])
set_option maxRecDepth 100000 in
theorem mok_m5_next : MOK m5_next 1 := ⟨(wt_4 17 (by decide +kernel) rfl), (wt_1 10 (by decide +kernel) rfl), ⟨by decide +kernel, by decide +kernel⟩, by decide +kernel⟩
def m5_nextOfKernel : MI := (⟨RX5, "nextOfKernel", "(LRunFaxes$Stream;)I"⟩, prog_7_method_5_code, 4, (some .int), ⟨3, 0, 0, 75⟩, [])
set_option maxRecDepth 100000 in
theorem mok_m5_nextOfKernel : MOK m5_nextOfKernel 1 := ⟨(wt_4 27 (by decide +kernel) rfl), (wt_1 10 (by decide +kernel) rfl), ⟨by decide +kernel, by decide +kernel⟩, by decide +kernel⟩
def m5_pixelsByFours : MI := (⟨RX5, "pixelsByFours", "(LRunFaxes$Stream;I)J"⟩, prog_7_method_6_code, 9, (some .long), ⟨4, 0, 0, 98⟩, [])
set_option maxRecDepth 100000 in
theorem mok_m5_pixelsByFours : MOK m5_pixelsByFours 2 := ⟨(wt_4 23 (by decide +kernel) rfl), (wt_1 10 (by decide +kernel) rfl), ⟨by decide +kernel, by decide +kernel⟩, by decide +kernel⟩
def m5_pixelsByRuns : MI := (⟨RX5, "pixelsByRuns", "(LRunFaxes$Stream;I)J"⟩, prog_7_method_7_code, 11, (some .long), ⟨4, 0, 0, 98⟩, [])
set_option maxRecDepth 100000 in
theorem mok_m5_pixelsByRuns : MOK m5_pixelsByRuns 2 := ⟨(wt_4 31 (by decide +kernel) rfl), (wt_1 10 (by decide +kernel) rfl), ⟨by decide +kernel, by decide +kernel⟩, by decide +kernel⟩
def m6_has : MI := (⟨RX6, "has", "(I)Z"⟩, prog_8_method_3_code, 2, (some .boolean), ⟨1, 0, 0, 32⟩, [])
set_option maxRecDepth 100000 in
theorem mok_m6_has : MOK m6_has 1 := ⟨(wt_3 28 (by decide +kernel) rfl), (wt_1 5 (by decide +kernel) rfl), ⟨by decide +kernel, by decide +kernel⟩, by decide +kernel⟩
def m6_rowOf : MI := (⟨RX6, "rowOf", "(I)J"⟩, prog_8_method_4_code, 2, (some .long), ⟨2, 0, 0, 53⟩, [])
set_option maxRecDepth 100000 in
theorem mok_m6_rowOf : MOK m6_rowOf 1 := ⟨(wt_3 37 (by decide +kernel) rfl), (wt_1 5 (by decide +kernel) rfl), ⟨by decide +kernel, by decide +kernel⟩, by decide +kernel⟩
def m6_take : MI := (⟨RX6, "take", "(IJ)V"⟩, prog_8_method_5_code, 4, none, ⟨1, 0, 0, 32⟩, [])
set_option maxRecDepth 100000 in
theorem mok_m6_take : MOK m6_take 2 := ⟨(wt_4 36 (by decide +kernel) rfl), (wt_1 5 (by decide +kernel) rfl), ⟨by decide +kernel, by decide +kernel⟩, by decide +kernel⟩
def m5_readCode : MI := (⟨RX5, "readCode", "(LRunFaxes$Stream;ILRunFaxes$Reception;)V"⟩, prog_7_method_3_code, 9, none, ⟨5, 0, 0, 128⟩, [])
set_option maxRecDepth 100000 in
theorem mok_m5_readCode : MOK m5_readCode 3 := ⟨(wt_4 13 (by decide +kernel) rfl), (wt_1 10 (by decide +kernel) rfl), ⟨by decide +kernel, by decide +kernel⟩, by decide +kernel⟩
def m6_empty : MI := (⟨RX6, "empty", "()V"⟩, prog_8_method_2_code, 1, none, ⟨1, 0, 0, 32⟩, [])
set_option maxRecDepth 100000 in
theorem mok_m6_empty : MOK m6_empty 0 := ⟨(wt_3 157 (by decide +kernel) rfl), (wt_1 5 (by decide +kernel) rfl), ⟨by decide +kernel, by decide +kernel⟩, by decide +kernel⟩
def m6_note : MI := (⟨RX6, "note", "(II)V"⟩, prog_8_method_8_code, 3, none, ⟨1, 0, 0, 32⟩, [])
set_option maxRecDepth 100000 in
theorem mok_m6_note : MOK m6_note 2 := ⟨(wt_4 40 (by decide +kernel) rfl), (wt_1 5 (by decide +kernel) rfl), ⟨by decide +kernel, by decide +kernel⟩, by decide +kernel⟩
def m8_isMarker : MI := (⟨RX8, "isMarker", "(I)Z"⟩, prog_10_method_10_code, 2, (some .boolean), ⟨2, 0, 0, 53⟩, [])
set_option maxRecDepth 100000 in
theorem mok_m8_isMarker : MOK m8_isMarker 1 := ⟨(wt_4 9 (by decide +kernel) rfl), (wt_1 4 (by decide +kernel) rfl), ⟨by decide +kernel, by decide +kernel⟩, by decide +kernel⟩
def m8_markerFrom : MI := (⟨RX8, "markerFrom", "(I)I"⟩, prog_10_method_11_code, 3, (some .int), ⟨3, 0, 0, 74⟩, [])
set_option maxRecDepth 100000 in
theorem mok_m8_markerFrom : MOK m8_markerFrom 1 := ⟨(wt_4 5 (by decide +kernel) rfl), (wt_1 4 (by decide +kernel) rfl), ⟨by decide +kernel, by decide +kernel⟩, by decide +kernel⟩
def m5_readAll : MI := (⟨RX5, "readAll", "(LRunFaxes$Stream;ILRunFaxes$Reception;)V"⟩, prog_7_method_2_code, 6, none, ⟨6, 0, 0, 156⟩, [])
set_option maxRecDepth 100000 in
theorem mok_m5_readAll : MOK m5_readAll 3 := ⟨(wt_4 0 (by decide +kernel) rfl), (wt_1 10 (by decide +kernel) rfl), ⟨by decide +kernel, by decide +kernel⟩, by decide +kernel⟩
def mJ6_bitCount : MI := (⟨"java/lang/Integer", "bitCount", "(I)I"⟩, prog_17_method_49_code, 1, (some .int), ⟨1, 0, 0, 32⟩, [])
set_option maxRecDepth 100000 in
theorem mok_mJ6_bitCount : MOK mJ6_bitCount 1 := ⟨(wt_2 203 (by decide +kernel) rfl), (wt_1 11 (by decide +kernel) rfl), ⟨by decide +kernel, by decide +kernel⟩, by decide +kernel⟩
def m6_count : MI := (⟨RX6, "count", "()I"⟩, prog_8_method_6_code, 1, (some .int), ⟨2, 0, 0, 52⟩, [])
set_option maxRecDepth 100000 in
theorem mok_m6_count : MOK m6_count 0 := ⟨(wt_2 200 (by decide +kernel) rfl), (wt_1 5 (by decide +kernel) rfl), ⟨by decide +kernel, by decide +kernel⟩, by decide +kernel⟩
def m6_countAlike : MI := (⟨RX6, "countAlike", "(LRunFaxes$Page;)I"⟩, prog_8_method_7_code, 4, (some .int), ⟨3, 0, 0, 74⟩, [])
set_option maxRecDepth 100000 in
theorem mok_m6_countAlike : MOK m6_countAlike 1 := ⟨(wt_4 101 (by decide +kernel) rfl), (wt_1 5 (by decide +kernel) rfl), ⟨by decide +kernel, by decide +kernel⟩, by decide +kernel⟩
def m6_hasError : MI := (⟨RX6, "hasError", "(I)Z"⟩, prog_8_method_9_code, 2, (some .boolean), ⟨1, 0, 0, 32⟩, [])
set_option maxRecDepth 100000 in
theorem mok_m6_hasError : MOK m6_hasError 1 := ⟨(wt_3 50 (by decide +kernel) rfl), (wt_1 5 (by decide +kernel) rfl), ⟨by decide +kernel, by decide +kernel⟩, by decide +kernel⟩
def m6_placeOf : MI := (⟨RX6, "placeOf", "(I)I"⟩, prog_8_method_10_code, 2, (some .int), ⟨2, 0, 0, 53⟩, [])
set_option maxRecDepth 100000 in
theorem mok_m6_placeOf : MOK m6_placeOf 1 := ⟨(wt_3 55 (by decide +kernel) rfl), (wt_1 5 (by decide +kernel) rfl), ⟨by decide +kernel, by decide +kernel⟩, by decide +kernel⟩
def m6_reasonOf : MI := (⟨RX6, "reasonOf", "(I)I"⟩, prog_8_method_11_code, 2, (some .int), ⟨2, 0, 0, 53⟩, [])
set_option maxRecDepth 100000 in
theorem mok_m6_reasonOf : MOK m6_reasonOf 1 := ⟨(wt_3 64 (by decide +kernel) rfl), (wt_1 5 (by decide +kernel) rfl), ⟨by decide +kernel, by decide +kernel⟩, by decide +kernel⟩
def m8_empty : MI := (⟨RX8, "empty", "()V"⟩, prog_10_method_2_code, 1, none, ⟨1, 0, 0, 32⟩, [])
set_option maxRecDepth 100000 in
theorem mok_m8_empty : MOK m8_empty 0 := ⟨(wt_3 153 (by decide +kernel) rfl), (wt_1 4 (by decide +kernel) rfl), ⟨by decide +kernel, by decide +kernel⟩, by decide +kernel⟩
def m8_has : MI := (⟨RX8, "has", "(I)Z"⟩, prog_10_method_3_code, 2, (some .boolean), ⟨1, 0, 0, 32⟩, [])
set_option maxRecDepth 100000 in
theorem mok_m8_has : MOK m8_has 1 := ⟨(wt_3 11 (by decide +kernel) rfl), (wt_1 4 (by decide +kernel) rfl), ⟨by decide +kernel, by decide +kernel⟩, by decide +kernel⟩
def m8_isFull : MI := (⟨RX8, "isFull", "()Z"⟩, prog_10_method_4_code, 1, (some .boolean), ⟨1, 0, 0, 32⟩, [])
set_option maxRecDepth 100000 in
theorem mok_m8_isFull : MOK m8_isFull 0 := ⟨(wt_3 199 (by decide +kernel) rfl), (wt_1 4 (by decide +kernel) rfl), ⟨by decide +kernel, by decide +kernel⟩, by decide +kernel⟩
def m8_put : MI := (⟨RX8, "put", "(II)Z"⟩, prog_10_method_6_code, 3, (some .boolean), ⟨1, 0, 0, 32⟩, [])
set_option maxRecDepth 100000 in
theorem mok_m8_put : MOK m8_put 2 := ⟨(wt_3 203 (by decide +kernel) rfl), (wt_1 4 (by decide +kernel) rfl), ⟨by decide +kernel, by decide +kernel⟩, by decide +kernel⟩
def m8_addAll : MI := (⟨RX8, "addAll", "([II)V"⟩, prog_10_method_7_code, 4, none, ⟨2, 0, 0, 54⟩, [])
set_option maxRecDepth 100000 in
theorem mok_m8_addAll : MOK m8_addAll 2 := ⟨(wt_3 195 (by decide +kernel) rfl), (wt_1 4 (by decide +kernel) rfl), ⟨by decide +kernel, by decide +kernel⟩, by decide +kernel⟩
def m8_takeOut : MI := (⟨RX8, "takeOut", "(I)V"⟩, prog_10_method_8_code, 3, none, ⟨2, 0, 0, 54⟩, [])
set_option maxRecDepth 100000 in
theorem mok_m8_takeOut : MOK m8_takeOut 1 := ⟨(wt_3 220 (by decide +kernel) rfl), (wt_1 4 (by decide +kernel) rfl), ⟨by decide +kernel, by decide +kernel⟩, by decide +kernel⟩
def m8_putAhead : MI := (⟨RX8, "putAhead", "(II)V"⟩, prog_10_method_9_code, 4, none, ⟨2, 0, 0, 54⟩, [])
set_option maxRecDepth 100000 in
theorem mok_m8_putAhead : MOK m8_putAhead 2 := ⟨(wt_3 232 (by decide +kernel) rfl), (wt_1 4 (by decide +kernel) rfl), ⟨by decide +kernel, by decide +kernel⟩, by decide +kernel⟩
def m8_countMarkers : MI := (⟨RX8, "countMarkers", "()I"⟩, prog_10_method_12_code, 3, (some .int), ⟨3, 0, 0, 74⟩, [])
set_option maxRecDepth 100000 in
theorem mok_m8_countMarkers : MOK m8_countMarkers 0 := ⟨(wt_4 119 (by decide +kernel) rfl), (wt_1 4 (by decide +kernel) rfl), ⟨by decide +kernel, by decide +kernel⟩, by decide +kernel⟩
def m9_init : MI := (⟨RX9, "<init>", "()V"⟩, prog_1_method_1_code, 1, none, ⟨4, 76, 4277, 93⟩, [])
set_option maxRecDepth 100000 in
theorem mok_m9_init : MOK m9_init 0 := ⟨(wt_1 25 (by decide +kernel) rfl), (wt_1 1 (by decide +kernel) rfl), ⟨by decide +kernel, by decide +kernel⟩, by decide +kernel⟩
def m9_setWidth : MI := (⟨RX9, "setWidth", "(I)I"⟩, prog_1_method_2_code, 3, (some .int), ⟨6, 1, 6, 117⟩, [])
set_option maxRecDepth 100000 in
theorem mok_m9_setWidth : MOK m9_setWidth 1 := ⟨(wt_3 144 (by decide +kernel) rfl), (wt_1 1 (by decide +kernel) rfl), ⟨by decide +kernel, by decide +kernel⟩, by decide +kernel⟩
def m9_needPixels : MI := (⟨RX9, "needPixels", "(J)V"⟩, prog_1_method_54_code, 3, none, ⟨6, 1, 6, 84⟩, [])
set_option maxRecDepth 100000 in
theorem mok_m9_needPixels : MOK m9_needPixels 1 := ⟨(wt_3 81 (by decide +kernel) rfl), (wt_1 1 (by decide +kernel) rfl), ⟨by decide +kernel, by decide +kernel⟩, by decide +kernel⟩
def m9_addLine : MI := (⟨RX9, "addLine", "(J)I"⟩, prog_1_method_3_code, 3, (some .int), ⟨7, 2, 12, 117⟩, [])
set_option maxRecDepth 100000 in
theorem mok_m9_addLine : MOK m9_addLine 1 := ⟨(wt_3 77 (by decide +kernel) rfl), (wt_1 1 (by decide +kernel) rfl), ⟨by decide +kernel, by decide +kernel⟩, by decide +kernel⟩
def m9_needLine : MI := (⟨RX9, "needLine", "(I)V"⟩, prog_1_method_50_code, 2, none, ⟨6, 1, 6, 84⟩, [])
set_option maxRecDepth 100000 in
theorem mok_m9_needLine : MOK m9_needLine 1 := ⟨(wt_2 218 (by decide +kernel) rfl), (wt_1 1 (by decide +kernel) rfl), ⟨by decide +kernel, by decide +kernel⟩, by decide +kernel⟩
def m9_setLine : MI := (⟨RX9, "setLine", "(IJ)J"⟩, prog_1_method_4_code, 6, (some .long), ⟨7, 2, 12, 117⟩, [])
set_option maxRecDepth 100000 in
theorem mok_m9_setLine : MOK m9_setLine 2 := ⟨(wt_3 122 (by decide +kernel) rfl), (wt_1 1 (by decide +kernel) rfl), ⟨by decide +kernel, by decide +kernel⟩, by decide +kernel⟩
def m9_dropLast : MI := (⟨RX9, "dropLast", "()I"⟩, prog_1_method_5_code, 1, (some .int), ⟨6, 1, 6, 117⟩, [])
set_option maxRecDepth 100000 in
theorem mok_m9_dropLast : MOK m9_dropLast 0 := ⟨(wt_3 130 (by decide +kernel) rfl), (wt_1 1 (by decide +kernel) rfl), ⟨by decide +kernel, by decide +kernel⟩, by decide +kernel⟩
def m9_setStyle : MI := (⟨RX9, "setStyle", "(I)I"⟩, prog_1_method_6_code, 3, (some .int), ⟨6, 1, 6, 117⟩, [])
set_option maxRecDepth 100000 in
theorem mok_m9_setStyle : MOK m9_setStyle 1 := ⟨(wt_3 139 (by decide +kernel) rfl), (wt_1 1 (by decide +kernel) rfl), ⟨by decide +kernel, by decide +kernel⟩, by decide +kernel⟩
def m9_countedFours : MI := (⟨RX9, "countedFours", "(JI)I"⟩, prog_1_method_68_code, 5, (some .int), ⟨1, 0, 0, 32⟩, [])
set_option maxRecDepth 100000 in
theorem mok_m9_countedFours : MOK m9_countedFours 2 := ⟨(wt_2 171 (by decide +kernel) rfl), (wt_1 1 (by decide +kernel) rfl), ⟨by decide +kernel, by decide +kernel⟩, by decide +kernel⟩
def m9_bordersOf : MI := (⟨RX9, "bordersOf", "(JI)J"⟩, prog_1_method_65_code, 3, (some .long), ⟨1, 0, 0, 32⟩, [])
set_option maxRecDepth 100000 in
theorem mok_m9_bordersOf : MOK m9_bordersOf 2 := ⟨(wt_2 178 (by decide +kernel) rfl), (wt_1 1 (by decide +kernel) rfl), ⟨by decide +kernel, by decide +kernel⟩, by decide +kernel⟩
def m9_numbersOfRun : MI := (⟨RX9, "numbersOfRun", "(I)I"⟩, prog_1_method_70_code, 1, (some .int), ⟨1, 0, 0, 32⟩, [])
set_option maxRecDepth 100000 in
theorem mok_m9_numbersOfRun : MOK m9_numbersOfRun 1 := ⟨(wt_2 184 (by decide +kernel) rfl), (wt_1 1 (by decide +kernel) rfl), ⟨by decide +kernel, by decide +kernel⟩, by decide +kernel⟩
def m9_countedRuns : MI := (⟨RX9, "countedRuns", "(JI)I"⟩, prog_1_method_69_code, 8, (some .int), ⟨2, 0, 0, 54⟩, [])
set_option maxRecDepth 100000 in
theorem mok_m9_countedRuns : MOK m9_countedRuns 2 := ⟨(wt_2 175 (by decide +kernel) rfl), (wt_1 1 (by decide +kernel) rfl), ⟨by decide +kernel, by decide +kernel⟩, by decide +kernel⟩
def m9_countedLength : MI := (⟨RX9, "countedLength", "(II)I"⟩, prog_1_method_67_code, 7, (some .int), ⟨3, 0, 0, 81⟩, [])
set_option maxRecDepth 100000 in
theorem mok_m9_countedLength : MOK m9_countedLength 2 := ⟨(wt_2 160 (by decide +kernel) rfl), (wt_1 1 (by decide +kernel) rfl), ⟨by decide +kernel, by decide +kernel⟩, by decide +kernel⟩
def m9_modeToSend : MI := (⟨RX9, "modeToSend", "(I)I"⟩, prog_1_method_63_code, 6, (some .int), ⟨4, 0, 0, 107⟩, [])
set_option maxRecDepth 100000 in
theorem mok_m9_modeToSend : MOK m9_modeToSend 1 := ⟨(wt_2 156 (by decide +kernel) rfl), (wt_1 1 (by decide +kernel) rfl), ⟨by decide +kernel, by decide +kernel⟩, by decide +kernel⟩
def m9_sendPage : MI := (⟨RX9, "sendPage", "()V"⟩, prog_1_method_61_code, 2, none, ⟨5, 0, 0, 132⟩, [])
set_option maxRecDepth 100000 in
theorem mok_m9_sendPage : MOK m9_sendPage 0 := ⟨(wt_3 165 (by decide +kernel) rfl), (wt_1 1 (by decide +kernel) rfl), ⟨by decide +kernel, by decide +kernel⟩, by decide +kernel⟩
def m9_send : MI := (⟨RX9, "send", "()I"⟩, prog_1_method_7_code, 1, (some .int), ⟨6, 0, 0, 153⟩, [])
set_option maxRecDepth 100000 in
theorem mok_m9_send : MOK m9_send 0 := ⟨(wt_3 161 (by decide +kernel) rfl), (wt_1 1 (by decide +kernel) rfl), ⟨by decide +kernel, by decide +kernel⟩, by decide +kernel⟩
def m9_needNumber : MI := (⟨RX9, "needNumber", "(I)V"⟩, prog_1_method_55_code, 1, none, ⟨6, 1, 6, 84⟩, [])
set_option maxRecDepth 100000 in
theorem mok_m9_needNumber : MOK m9_needNumber 1 := ⟨(wt_3 210 (by decide +kernel) rfl), (wt_1 1 (by decide +kernel) rfl), ⟨by decide +kernel, by decide +kernel⟩, by decide +kernel⟩
def m9_needPlace : MI := (⟨RX9, "needPlace", "(I)V"⟩, prog_1_method_52_code, 2, none, ⟨6, 1, 6, 84⟩, [])
set_option maxRecDepth 100000 in
theorem mok_m9_needPlace : MOK m9_needPlace 1 := ⟨(wt_3 7 (by decide +kernel) rfl), (wt_1 1 (by decide +kernel) rfl), ⟨by decide +kernel, by decide +kernel⟩, by decide +kernel⟩
def m9_replace : MI := (⟨RX9, "replace", "(II)I"⟩, prog_1_method_8_code, 4, (some .int), ⟨7, 2, 12, 117⟩, [])
set_option maxRecDepth 100000 in
theorem mok_m9_replace : MOK m9_replace 2 := ⟨(wt_3 207 (by decide +kernel) rfl), (wt_1 1 (by decide +kernel) rfl), ⟨by decide +kernel, by decide +kernel⟩, by decide +kernel⟩
def m9_lose : MI := (⟨RX9, "lose", "(I)I"⟩, prog_1_method_9_code, 3, (some .int), ⟨7, 1, 6, 117⟩, [])
set_option maxRecDepth 100000 in
theorem mok_m9_lose : MOK m9_lose 1 := ⟨(wt_3 216 (by decide +kernel) rfl), (wt_1 1 (by decide +kernel) rfl), ⟨by decide +kernel, by decide +kernel⟩, by decide +kernel⟩
def m9_gain : MI := (⟨RX9, "gain", "(II)I"⟩, prog_1_method_10_code, 3, (some .int), ⟨7, 2, 12, 117⟩, [])
set_option maxRecDepth 100000 in
theorem mok_m9_gain : MOK m9_gain 2 := ⟨(wt_3 226 (by decide +kernel) rfl), (wt_1 1 (by decide +kernel) rfl), ⟨by decide +kernel, by decide +kernel⟩, by decide +kernel⟩
def m9_receive : MI := (⟨RX9, "receive", "()I"⟩, prog_1_method_11_code, 1, (some .int), ⟨7, 0, 0, 181⟩, [])
set_option maxRecDepth 100000 in
theorem mok_m9_receive : MOK m9_receive 0 := ⟨(wt_3 236 (by decide +kernel) rfl), (wt_1 1 (by decide +kernel) rfl), ⟨by decide +kernel, by decide +kernel⟩, by decide +kernel⟩
def m9_hasStopped : MI := (⟨RX9, "hasStopped", "()Z"⟩, prog_1_method_16_code, 1, (some .boolean), ⟨1, 0, 0, 32⟩, [])
set_option maxRecDepth 100000 in
theorem mok_m9_hasStopped : MOK m9_hasStopped 0 := ⟨(wt_2 14 (by decide +kernel) rfl), (wt_1 1 (by decide +kernel) rfl), ⟨by decide +kernel, by decide +kernel⟩, by decide +kernel⟩
def m9_stoppedPart : MI := (⟨RX9, "stoppedPart", "()I"⟩, prog_1_method_17_code, 1, (some .int), ⟨6, 1, 6, 84⟩, [])
set_option maxRecDepth 100000 in
theorem mok_m9_stoppedPart : MOK m9_stoppedPart 0 := ⟨(wt_3 68 (by decide +kernel) rfl), (wt_1 1 (by decide +kernel) rfl), ⟨by decide +kernel, by decide +kernel⟩, by decide +kernel⟩
def m9_undo : MI := (⟨RX9, "undo", "()I"⟩, prog_1_method_18_code, 1, (some .int), ⟨6, 1, 6, 117⟩, [])
set_option maxRecDepth 100000 in
theorem mok_m9_undo : MOK m9_undo 0 := ⟨(wt_2 18 (by decide +kernel) rfl), (wt_1 1 (by decide +kernel) rfl), ⟨by decide +kernel, by decide +kernel⟩, by decide +kernel⟩
def m9_savedStates : MI := (⟨RX9, "savedStates", "()I"⟩, prog_1_method_21_code, 1, (some .int), ⟨1, 0, 0, 32⟩, [])
set_option maxRecDepth 100000 in
theorem mok_m9_savedStates : MOK m9_savedStates 0 := ⟨(wt_2 128 (by decide +kernel) rfl), (wt_1 1 (by decide +kernel) rfl), ⟨by decide +kernel, by decide +kernel⟩, by decide +kernel⟩
def m9_width : MI := (⟨RX9, "width", "()I"⟩, prog_1_method_22_code, 1, (some .int), ⟨1, 0, 0, 32⟩, [])
set_option maxRecDepth 100000 in
theorem mok_m9_width : MOK m9_width 0 := ⟨(wt_2 132 (by decide +kernel) rfl), (wt_1 1 (by decide +kernel) rfl), ⟨by decide +kernel, by decide +kernel⟩, by decide +kernel⟩
def m9_lines : MI := (⟨RX9, "lines", "()I"⟩, prog_1_method_23_code, 1, (some .int), ⟨1, 0, 0, 32⟩, [])
set_option maxRecDepth 100000 in
theorem mok_m9_lines : MOK m9_lines 0 := ⟨(wt_2 136 (by decide +kernel) rfl), (wt_1 1 (by decide +kernel) rfl), ⟨by decide +kernel, by decide +kernel⟩, by decide +kernel⟩
def m9_style : MI := (⟨RX9, "style", "()I"⟩, prog_1_method_24_code, 1, (some .int), ⟨1, 0, 0, 32⟩, [])
set_option maxRecDepth 100000 in
theorem mok_m9_style : MOK m9_style 0 := ⟨(wt_2 140 (by decide +kernel) rfl), (wt_1 1 (by decide +kernel) rfl), ⟨by decide +kernel, by decide +kernel⟩, by decide +kernel⟩
def m9_pixelsOf : MI := (⟨RX9, "pixelsOf", "(I)J"⟩, prog_1_method_25_code, 2, (some .long), ⟨7, 1, 6, 105⟩, [])
set_option maxRecDepth 100000 in
theorem mok_m9_pixelsOf : MOK m9_pixelsOf 1 := ⟨(wt_2 214 (by decide +kernel) rfl), (wt_1 1 (by decide +kernel) rfl), ⟨by decide +kernel, by decide +kernel⟩, by decide +kernel⟩
def m9_isBlack : MI := (⟨RX9, "isBlack", "(II)Z"⟩, prog_1_method_26_code, 3, (some .boolean), ⟨6, 1, 6, 84⟩, [])
set_option maxRecDepth 100000 in
theorem mok_m9_isBlack : MOK m9_isBlack 2 := ⟨(wt_4 67 (by decide +kernel) rfl), (wt_1 1 (by decide +kernel) rfl), ⟨by decide +kernel, by decide +kernel⟩, by decide +kernel⟩
def mJ13_bitCount : MI := (⟨"java/lang/Long", "bitCount", "(J)I"⟩, prog_18_method_50_code, 2, (some .int), ⟨1, 0, 0, 32⟩, [])
set_option maxRecDepth 100000 in
theorem mok_mJ13_bitCount : MOK mJ13_bitCount 1 := ⟨(wt_4 75 (by decide +kernel) rfl), (wt_1 20 (by decide +kernel) rfl), ⟨by decide +kernel, by decide +kernel⟩, by decide +kernel⟩
def m9_runsOf : MI := (⟨RX9, "runsOf", "(I)I"⟩, prog_1_method_27_code, 2, (some .int), ⟨7, 1, 6, 105⟩, [])
set_option maxRecDepth 100000 in
theorem mok_m9_runsOf : MOK m9_runsOf 1 := ⟨(wt_4 72 (by decide +kernel) rfl), (wt_1 1 (by decide +kernel) rfl), ⟨by decide +kernel, by decide +kernel⟩, by decide +kernel⟩
def m9_longestBetween : MI := (⟨RX9, "longestBetween", "(JI)I"⟩, prog_1_method_66_code, 6, (some .int), ⟨2, 0, 0, 54⟩, [])
set_option maxRecDepth 100000 in
theorem mok_m9_longestBetween : MOK m9_longestBetween 2 := ⟨(wt_4 85 (by decide +kernel) rfl), (wt_1 1 (by decide +kernel) rfl), ⟨by decide +kernel, by decide +kernel⟩, by decide +kernel⟩
def m9_longestRun : MI := (⟨RX9, "longestRun", "(I)I"⟩, prog_1_method_28_code, 2, (some .int), ⟨7, 1, 6, 105⟩, [])
set_option maxRecDepth 100000 in
theorem mok_m9_longestRun : MOK m9_longestRun 1 := ⟨(wt_4 82 (by decide +kernel) rfl), (wt_1 1 (by decide +kernel) rfl), ⟨by decide +kernel, by decide +kernel⟩, by decide +kernel⟩
def m9_blackPixels : MI := (⟨RX9, "blackPixels", "()I"⟩, prog_1_method_29_code, 3, (some .int), ⟨2, 0, 0, 53⟩, [])
set_option maxRecDepth 100000 in
theorem mok_m9_blackPixels : MOK m9_blackPixels 0 := ⟨(wt_4 93 (by decide +kernel) rfl), (wt_1 1 (by decide +kernel) rfl), ⟨by decide +kernel, by decide +kernel⟩, by decide +kernel⟩
def m9_needMode : MI := (⟨RX9, "needMode", "(I)V"⟩, prog_1_method_56_code, 1, none, ⟨6, 1, 6, 84⟩, [])
set_option maxRecDepth 100000 in
theorem mok_m9_needMode : MOK m9_needMode 1 := ⟨(wt_4 54 (by decide +kernel) rfl), (wt_1 1 (by decide +kernel) rfl), ⟨by decide +kernel, by decide +kernel⟩, by decide +kernel⟩
def m9_codeLength : MI := (⟨RX9, "codeLength", "(II)I"⟩, prog_1_method_30_code, 3, (some .int), ⟨7, 2, 12, 127⟩, [])
set_option maxRecDepth 100000 in
theorem mok_m9_codeLength : MOK m9_codeLength 2 := ⟨(wt_4 51 (by decide +kernel) rfl), (wt_1 1 (by decide +kernel) rfl), ⟨by decide +kernel, by decide +kernel⟩, by decide +kernel⟩
def m9_codeLengthByCounting : MI := (⟨RX9, "codeLengthByCounting", "(II)I"⟩, prog_1_method_31_code, 3, (some .int), ⟨7, 2, 12, 107⟩, [])
set_option maxRecDepth 100000 in
theorem mok_m9_codeLengthByCounting : MOK m9_codeLengthByCounting 2 := ⟨(wt_4 59 (by decide +kernel) rfl), (wt_1 1 (by decide +kernel) rfl), ⟨by decide +kernel, by decide +kernel⟩, by decide +kernel⟩
def m9_modeOf : MI := (⟨RX9, "modeOf", "(I)I"⟩, prog_1_method_32_code, 2, (some .int), ⟨7, 1, 6, 132⟩, [])
set_option maxRecDepth 100000 in
theorem mok_m9_modeOf : MOK m9_modeOf 1 := ⟨(wt_4 47 (by decide +kernel) rfl), (wt_1 1 (by decide +kernel) rfl), ⟨by decide +kernel, by decide +kernel⟩, by decide +kernel⟩
def m9_checkOf : MI := (⟨RX9, "checkOf", "(II)I"⟩, prog_1_method_33_code, 3, (some .int), ⟨7, 2, 12, 127⟩, [])
set_option maxRecDepth 100000 in
theorem mok_m9_checkOf : MOK m9_checkOf 2 := ⟨(wt_4 63 (by decide +kernel) rfl), (wt_1 1 (by decide +kernel) rfl), ⟨by decide +kernel, by decide +kernel⟩, by decide +kernel⟩
def m9_wouldSend : MI := (⟨RX9, "wouldSend", "()I"⟩, prog_1_method_34_code, 3, (some .int), ⟨5, 0, 0, 132⟩, [])
set_option maxRecDepth 100000 in
theorem mok_m9_wouldSend : MOK m9_wouldSend 0 := ⟨(wt_2 152 (by decide +kernel) rfl), (wt_1 1 (by decide +kernel) rfl), ⟨by decide +kernel, by decide +kernel⟩, by decide +kernel⟩
def m9_streamLength : MI := (⟨RX9, "streamLength", "()I"⟩, prog_1_method_35_code, 1, (some .int), ⟨1, 0, 0, 32⟩, [])
set_option maxRecDepth 100000 in
theorem mok_m9_streamLength : MOK m9_streamLength 0 := ⟨(wt_2 144 (by decide +kernel) rfl), (wt_1 1 (by decide +kernel) rfl), ⟨by decide +kernel, by decide +kernel⟩, by decide +kernel⟩
def m9_numberAt : MI := (⟨RX9, "numberAt", "(I)I"⟩, prog_1_method_36_code, 2, (some .int), ⟨7, 1, 6, 105⟩, [])
set_option maxRecDepth 100000 in
theorem mok_m9_numberAt : MOK m9_numberAt 1 := ⟨(wt_3 3 (by decide +kernel) rfl), (wt_1 1 (by decide +kernel) rfl), ⟨by decide +kernel, by decide +kernel⟩, by decide +kernel⟩
def m9_markers : MI := (⟨RX9, "markers", "()I"⟩, prog_1_method_37_code, 1, (some .int), ⟨4, 0, 0, 96⟩, [])
set_option maxRecDepth 100000 in
theorem mok_m9_markers : MOK m9_markers 0 := ⟨(wt_4 115 (by decide +kernel) rfl), (wt_1 1 (by decide +kernel) rfl), ⟨by decide +kernel, by decide +kernel⟩, by decide +kernel⟩
def m9_needLineOfAnyPage : MI := (⟨RX9, "needLineOfAnyPage", "(I)V"⟩, prog_1_method_51_code, 1, none, ⟨6, 1, 6, 84⟩, [])
set_option maxRecDepth 100000 in
theorem mok_m9_needLineOfAnyPage : MOK m9_needLineOfAnyPage 1 := ⟨(wt_3 23 (by decide +kernel) rfl), (wt_1 1 (by decide +kernel) rfl), ⟨by decide +kernel, by decide +kernel⟩, by decide +kernel⟩
def m9_isReceived : MI := (⟨RX9, "isReceived", "(I)Z"⟩, prog_1_method_38_code, 2, (some .boolean), ⟨7, 1, 6, 104⟩, [])
set_option maxRecDepth 100000 in
theorem mok_m9_isReceived : MOK m9_isReceived 1 := ⟨(wt_3 20 (by decide +kernel) rfl), (wt_1 1 (by decide +kernel) rfl), ⟨by decide +kernel, by decide +kernel⟩, by decide +kernel⟩
def m9_receivedPixels : MI := (⟨RX9, "receivedPixels", "(I)J"⟩, prog_1_method_39_code, 2, (some .long), ⟨7, 2, 12, 104⟩, [])
set_option maxRecDepth 100000 in
theorem mok_m9_receivedPixels : MOK m9_receivedPixels 1 := ⟨(wt_3 32 (by decide +kernel) rfl), (wt_1 1 (by decide +kernel) rfl), ⟨by decide +kernel, by decide +kernel⟩, by decide +kernel⟩
def m9_received : MI := (⟨RX9, "received", "()I"⟩, prog_1_method_40_code, 1, (some .int), ⟨3, 0, 0, 72⟩, [])
set_option maxRecDepth 100000 in
theorem mok_m9_received : MOK m9_received 0 := ⟨(wt_2 196 (by decide +kernel) rfl), (wt_1 1 (by decide +kernel) rfl), ⟨by decide +kernel, by decide +kernel⟩, by decide +kernel⟩
def m9_right : MI := (⟨RX9, "right", "()I"⟩, prog_1_method_41_code, 1, (some .int), ⟨4, 0, 0, 97⟩, [])
set_option maxRecDepth 100000 in
theorem mok_m9_right : MOK m9_right 0 := ⟨(wt_4 97 (by decide +kernel) rfl), (wt_1 1 (by decide +kernel) rfl), ⟨by decide +kernel, by decide +kernel⟩, by decide +kernel⟩
def m9_errors : MI := (⟨RX9, "errors", "()I"⟩, prog_1_method_42_code, 1, (some .int), ⟨1, 0, 0, 32⟩, [])
set_option maxRecDepth 100000 in
theorem mok_m9_errors : MOK m9_errors 0 := ⟨(wt_2 210 (by decide +kernel) rfl), (wt_1 1 (by decide +kernel) rfl), ⟨by decide +kernel, by decide +kernel⟩, by decide +kernel⟩
def m9_needError : MI := (⟨RX9, "needError", "(I)V"⟩, prog_1_method_53_code, 2, none, ⟨6, 1, 6, 84⟩, [])
set_option maxRecDepth 100000 in
theorem mok_m9_needError : MOK m9_needError 1 := ⟨(wt_3 46 (by decide +kernel) rfl), (wt_1 1 (by decide +kernel) rfl), ⟨by decide +kernel, by decide +kernel⟩, by decide +kernel⟩
def m9_errorPlace : MI := (⟨RX9, "errorPlace", "(I)I"⟩, prog_1_method_43_code, 2, (some .int), ⟨7, 1, 6, 105⟩, [])
set_option maxRecDepth 100000 in
theorem mok_m9_errorPlace : MOK m9_errorPlace 1 := ⟨(wt_3 42 (by decide +kernel) rfl), (wt_1 1 (by decide +kernel) rfl), ⟨by decide +kernel, by decide +kernel⟩, by decide +kernel⟩
def m9_errorReason : MI := (⟨RX9, "errorReason", "(I)I"⟩, prog_1_method_44_code, 2, (some .int), ⟨7, 1, 6, 105⟩, [])
set_option maxRecDepth 100000 in
theorem mok_m9_errorReason : MOK m9_errorReason 1 := ⟨(wt_3 60 (by decide +kernel) rfl), (wt_1 1 (by decide +kernel) rfl), ⟨by decide +kernel, by decide +kernel⟩, by decide +kernel⟩
def m9_wouldReceive : MI := (⟨RX9, "wouldReceive", "()I"⟩, prog_1_method_45_code, 1, (some .int), ⟨7, 0, 0, 181⟩, [])
set_option maxRecDepth 100000 in
theorem mok_m9_wouldReceive : MOK m9_wouldReceive 0 := ⟨(wt_4 111 (by decide +kernel) rfl), (wt_1 1 (by decide +kernel) rfl), ⟨by decide +kernel, by decide +kernel⟩, by decide +kernel⟩
def m9_wouldBeRight : MI := (⟨RX9, "wouldBeRight", "()I"⟩, prog_1_method_46_code, 1, (some .int), ⟨7, 0, 0, 181⟩, [])
set_option maxRecDepth 100000 in
theorem mok_m9_wouldBeRight : MOK m9_wouldBeRight 0 := ⟨(wt_4 107 (by decide +kernel) rfl), (wt_1 1 (by decide +kernel) rfl), ⟨by decide +kernel, by decide +kernel⟩, by decide +kernel⟩
def m9_codedShare : MI := (⟨RX9, "codedShare", "()D"⟩, prog_1_method_48_code, 2, (some .double), ⟨6, 0, 0, 154⟩, [])
set_option maxRecDepth 100000 in
theorem mok_m9_codedShare : MOK m9_codedShare 0 := ⟨(wt_2 148 (by decide +kernel) rfl), (wt_1 1 (by decide +kernel) rfl), ⟨by decide +kernel, by decide +kernel⟩, by decide +kernel⟩
def mL_cell : MI := (⟨"RunFaxesLaw", "cell", "([II)I"⟩, method_2_code, 2, (some .int), ⟨1, 0, 0, 32⟩, [])
set_option maxRecDepth 100000 in
theorem mok_mL_cell : MOK mL_cell 2 := ⟨(wt_2 187 (by decide +kernel) rfl), (wt_1 0 (by decide +kernel) rfl), ⟨by decide +kernel, by decide +kernel⟩, by decide +kernel⟩
def mL_low : MI := (⟨"RunFaxesLaw", "low", "(II)I"⟩, method_3_code, 2, (some .int), ⟨1, 0, 0, 32⟩, [])
set_option maxRecDepth 100000 in
theorem mok_mL_low : MOK mL_low 2 := ⟨(wt_3 117 (by decide +kernel) rfl), (wt_1 0 (by decide +kernel) rfl), ⟨by decide +kernel, by decide +kernel⟩, by decide +kernel⟩
def mL_told : MI := (⟨"RunFaxesLaw", "told", "(LRunFaxes;)J"⟩, method_4_code, 5, (some .long), ⟨8, 700, 4200, 126⟩, [])
set_option maxRecDepth 100000 in
theorem mok_mL_told : MOK mL_told 1 := ⟨(wt_2 190 (by decide +kernel) rfl), (wt_1 0 (by decide +kernel) rfl), ⟨by decide +kernel, by decide +kernel⟩, by decide +kernel⟩
def mL_act : MI := (⟨"RunFaxesLaw", "act", "(LRunFaxes;II)Z"⟩, method_5_code, 6, (some .boolean), ⟨8, 20, 120, 201⟩, [])
set_option maxRecDepth 100000 in
theorem mok_mL_act : MOK mL_act 3 := ⟨(wt_3 72 (by decide +kernel) rfl), (wt_1 0 (by decide +kernel) rfl), ⟨by decide +kernel, by decide +kernel⟩, by decide +kernel⟩
def mL_holds : MI := (⟨"RunFaxesLaw", "holds", "(LRunFaxes;)Z"⟩, method_6_code, 7, (some .boolean), ⟨8, 2000, 12000, 201⟩, [])
set_option maxRecDepth 100000 in
theorem mok_mL_holds : MOK mL_holds 1 := ⟨(wt_4 43 (by decide +kernel) rfl), (wt_1 0 (by decide +kernel) rfl), ⟨by decide +kernel, by decide +kernel⟩, by decide +kernel⟩
def mL_isBack : MI := (⟨"RunFaxesLaw", "isBack", "(LRunFaxes;)Z"⟩, method_7_code, 5, (some .boolean), ⟨9, 1600, 9600, 201⟩, [])
set_option maxRecDepth 100000 in
theorem mok_mL_isBack : MOK mL_isBack 1 := ⟨(wt_4 122 (by decide +kernel) rfl), (wt_1 0 (by decide +kernel) rfl), ⟨by decide +kernel, by decide +kernel⟩, by decide +kernel⟩
set_option maxRecDepth 100000 in
theorem lo_0_3 : LkO RX0 3 := ⟨(wt_1 188 (by decide +kernel) rfl), (wt_1 27 (by decide +kernel) rfl), (wt_1 28 (by decide +kernel) rfl)⟩
set_option maxRecDepth 100000 in
theorem la_0 : LkA 0 .int := Or.inl ⟨rfl, rfl, (wt_1 74 (by decide +kernel) rfl)⟩
set_option maxRecDepth 100000 in
theorem lp_0_9i : LkP RX0 "<init>" 9 0 0 := ⟨_, _, _, rfl, by decide, Or.inr ⟨rfl, rfl, rfl, (wt_1 189 (by decide +kernel) rfl)⟩⟩
set_option maxRecDepth 100000 in
theorem lp_0_15 (nm : String) : LkP RX0 nm 15 0 1 := ⟨_, _, _, rfl, by decide, Or.inl ⟨rfl, Or.inl (wt_1 190 (by decide +kernel) rfl)⟩⟩
set_option maxRecDepth 100000 in
theorem lp_0_19i : LkP RX0 "<init>" 19 0 2 := ⟨_, _, _, rfl, by decide, Or.inr ⟨rfl, rfl, rfl, (wt_1 191 (by decide +kernel) rfl)⟩⟩
set_option maxRecDepth 100000 in
theorem lp_0_22 (nm : String) : LkP RX0 nm 22 0 3 := ⟨_, _, _, rfl, by decide, Or.inl ⟨rfl, Or.inl (wt_1 193 (by decide +kernel) rfl)⟩⟩
set_option maxRecDepth 100000 in
theorem lp_0_25 (nm : String) : LkP RX0 nm 25 0 4 := ⟨_, _, _, rfl, by decide, Or.inl ⟨rfl, Or.inl (wt_1 195 (by decide +kernel) rfl)⟩⟩
set_option maxRecDepth 100000 in
theorem lf_0_15 : LkF RX0 15 0 1 := ⟨_, _, _, rfl, by decide, Or.inl (wt_1 190 (by decide +kernel) rfl)⟩
set_option maxRecDepth 100000 in
theorem lf_0_9 : LkF RX0 9 0 0 := ⟨_, _, _, rfl, by decide, Or.inl (wt_1 189 (by decide +kernel) rfl)⟩
set_option maxRecDepth 100000 in
theorem lc_0_48 : LkSN RX0 48 m9_blackAt := ⟨⟨"RunFaxes", (nt_3 175 (by decide +kernel) rfl)⟩, (wt_2 180 (by decide +kernel) rfl)⟩
set_option maxRecDepth 100000 in
theorem lc_0_52 : LkV RX0 52 m0_addToKernel := ⟨(wt_3 176 (by decide +kernel) rfl), (wt_3 178 (by decide +kernel) rfl), (ws_i 36 (by decide +kernel) rfl)⟩
set_option maxRecDepth 100000 in
theorem lc_0_55 : LkV RX0 55 m0_addRun := ⟨(wt_3 184 (by decide +kernel) rfl), (wt_3 186 (by decide +kernel) rfl), (ws_i 38 (by decide +kernel) rfl)⟩
set_option maxRecDepth 100000 in
theorem lf_0_22 : LkF RX0 22 0 3 := ⟨_, _, _, rfl, by decide, Or.inl (wt_1 193 (by decide +kernel) rfl)⟩
set_option maxRecDepth 100000 in
theorem lf_0_19 : LkF RX0 19 0 2 := ⟨_, _, _, rfl, by decide, Or.inl (wt_1 191 (by decide +kernel) rfl)⟩
set_option maxRecDepth 100000 in
theorem lf_2_18 : LkF RX2 18 2 2 := ⟨_, _, _, rfl, by decide, Or.inl (wt_1 46 (by decide +kernel) rfl)⟩
set_option maxRecDepth 100000 in
theorem lf_2_21 : LkF RX2 21 2 3 := ⟨_, _, _, rfl, by decide, Or.inl (wt_1 49 (by decide +kernel) rfl)⟩
set_option maxRecDepth 100000 in
theorem lc_2_25 : LkV RX2 25 m2_rowOf := ⟨(wt_2 165 (by decide +kernel) rfl), (wt_2 167 (by decide +kernel) rfl), (ws_i 10 (by decide +kernel) rfl)⟩
set_option maxRecDepth 100000 in
theorem lc_0_28 : LkVN RX0 28 m2_toCode := ⟨⟨"RunFaxes", (nt_3 170 (by decide +kernel) rfl)⟩, (wt_2 163 (by decide +kernel) rfl), (ws_i 9 (by decide +kernel) rfl)⟩
set_option maxRecDepth 100000 in
theorem lf_0_34 : LkF RX0 34 2 0 := ⟨_, _, _, rfl, by decide, Or.inr ⟨"RunFaxes", (nt_1 42 (by decide +kernel) rfl)⟩⟩
set_option maxRecDepth 100000 in
theorem lc_0_37 : LkV RX0 37 m0_kernelByFours := ⟨(wt_3 171 (by decide +kernel) rfl), (wt_3 173 (by decide +kernel) rfl), (ws_i 35 (by decide +kernel) rfl)⟩
set_option maxRecDepth 100000 in
theorem lc_0_41 : LkV RX0 41 m0_kernelByRuns := ⟨(wt_3 180 (by decide +kernel) rfl), (wt_3 182 (by decide +kernel) rfl), (ws_i 37 (by decide +kernel) rfl)⟩
set_option maxRecDepth 100000 in
theorem lc_0_44 : LkV RX0 44 m0_put := ⟨(wt_3 188 (by decide +kernel) rfl), (wt_3 190 (by decide +kernel) rfl), (ws_i 39 (by decide +kernel) rfl)⟩
set_option maxRecDepth 100000 in
theorem lf_0_25 : LkF RX0 25 0 4 := ⟨_, _, _, rfl, by decide, Or.inl (wt_1 195 (by decide +kernel) rfl)⟩
set_option maxRecDepth 100000 in
theorem lo_2_3 : LkO RX2 3 := ⟨(wt_1 40 (by decide +kernel) rfl), (wt_1 27 (by decide +kernel) rfl), (wt_1 28 (by decide +kernel) rfl)⟩
set_option maxRecDepth 100000 in
theorem lp_2_9 (nm : String) : LkP RX2 nm 9 2 0 := ⟨_, _, _, rfl, by decide, Or.inl ⟨rfl, Or.inl (wt_1 41 (by decide +kernel) rfl)⟩⟩
set_option maxRecDepth 100000 in
theorem lp_2_15 (nm : String) : LkP RX2 nm 15 2 1 := ⟨_, _, _, rfl, by decide, Or.inl ⟨rfl, Or.inl (wt_1 44 (by decide +kernel) rfl)⟩⟩
set_option maxRecDepth 100000 in
theorem lp_2_18 (nm : String) : LkP RX2 nm 18 2 2 := ⟨_, _, _, rfl, by decide, Or.inl ⟨rfl, Or.inl (wt_1 46 (by decide +kernel) rfl)⟩⟩
set_option maxRecDepth 100000 in
theorem la_1 : LkA 1 .long := Or.inr ⟨rfl, rfl, (wt_1 59 (by decide +kernel) rfl)⟩
set_option maxRecDepth 100000 in
theorem lp_2_21i : LkP RX2 "<init>" 21 2 3 := ⟨_, _, _, rfl, by decide, Or.inr ⟨rfl, rfl, rfl, (wt_1 49 (by decide +kernel) rfl)⟩⟩
set_option maxRecDepth 100000 in
theorem lo_6_3 : LkO RX6 3 := ⟨(wt_1 80 (by decide +kernel) rfl), (wt_1 27 (by decide +kernel) rfl), (wt_1 28 (by decide +kernel) rfl)⟩
set_option maxRecDepth 100000 in
theorem lp_6_9 (nm : String) : LkP RX6 nm 9 6 0 := ⟨_, _, _, rfl, by decide, Or.inl ⟨rfl, Or.inl (wt_1 81 (by decide +kernel) rfl)⟩⟩
set_option maxRecDepth 100000 in
theorem lp_6_15i : LkP RX6 "<init>" 15 6 1 := ⟨_, _, _, rfl, by decide, Or.inr ⟨rfl, rfl, rfl, (wt_1 82 (by decide +kernel) rfl)⟩⟩
set_option maxRecDepth 100000 in
theorem lp_6_19 (nm : String) : LkP RX6 nm 19 6 2 := ⟨_, _, _, rfl, by decide, Or.inl ⟨rfl, Or.inl (wt_1 83 (by decide +kernel) rfl)⟩⟩
set_option maxRecDepth 100000 in
theorem lp_6_22i : LkP RX6 "<init>" 22 6 3 := ⟨_, _, _, rfl, by decide, Or.inr ⟨rfl, rfl, rfl, (wt_1 85 (by decide +kernel) rfl)⟩⟩
set_option maxRecDepth 100000 in
theorem lp_6_26i : LkP RX6 "<init>" 26 6 4 := ⟨_, _, _, rfl, by decide, Or.inr ⟨rfl, rfl, rfl, (wt_1 86 (by decide +kernel) rfl)⟩⟩
set_option maxRecDepth 100000 in
theorem lo_8_3 : LkO RX8 3 := ⟨(wt_1 65 (by decide +kernel) rfl), (wt_1 27 (by decide +kernel) rfl), (wt_1 28 (by decide +kernel) rfl)⟩
set_option maxRecDepth 100000 in
theorem lp_8_9 (nm : String) : LkP RX8 nm 9 8 0 := ⟨_, _, _, rfl, by decide, Or.inl ⟨rfl, Or.inl (wt_1 66 (by decide +kernel) rfl)⟩⟩
set_option maxRecDepth 100000 in
theorem lp_8_15i : LkP RX8 "<init>" 15 8 1 := ⟨_, _, _, rfl, by decide, Or.inr ⟨rfl, rfl, rfl, (wt_1 68 (by decide +kernel) rfl)⟩⟩
set_option maxRecDepth 100000 in
theorem lo_7_1 : LkO RX7 1 := ⟨(wt_1 34 (by decide +kernel) rfl), (wt_1 27 (by decide +kernel) rfl), (wt_1 28 (by decide +kernel) rfl)⟩
set_option maxRecDepth 100000 in
theorem ln_7_7 : LkN RX7 7 2 := ⟨_, _, _, rfl, (wt_1 35 (by decide +kernel) rfl), (wt_1 36 (by decide +kernel) rfl), (wt_1 3 (by decide +kernel) rfl)⟩
set_option maxRecDepth 100000 in
theorem lc_7_9 : LkIN RX7 9 m2_init := ⟨⟨"RunFaxes", (nt_1 37 (by decide +kernel) rfl)⟩, (wt_1 38 (by decide +kernel) rfl), rfl, rfl⟩
set_option maxRecDepth 100000 in
theorem lp_7_10i : LkP RX7 "<init>" 10 7 0 := ⟨_, _, _, rfl, by decide, Or.inr ⟨rfl, rfl, rfl, (wt_1 98 (by decide +kernel) rfl)⟩⟩
set_option maxRecDepth 100000 in
theorem ln_7_16 : LkN RX7 16 8 := ⟨_, _, _, rfl, (wt_1 60 (by decide +kernel) rfl), (wt_1 61 (by decide +kernel) rfl), (wt_1 4 (by decide +kernel) rfl)⟩
set_option maxRecDepth 100000 in
theorem lc_7_18 : LkIN RX7 18 m8_init := ⟨⟨"RunFaxes", (nt_1 62 (by decide +kernel) rfl)⟩, (wt_1 63 (by decide +kernel) rfl), rfl, rfl⟩
set_option maxRecDepth 100000 in
theorem lp_7_19i : LkP RX7 "<init>" 19 7 1 := ⟨_, _, _, rfl, by decide, Or.inr ⟨rfl, rfl, rfl, (wt_1 100 (by decide +kernel) rfl)⟩⟩
set_option maxRecDepth 100000 in
theorem ln_7_23 : LkN RX7 23 6 := ⟨_, _, _, rfl, (wt_1 75 (by decide +kernel) rfl), (wt_1 76 (by decide +kernel) rfl), (wt_1 5 (by decide +kernel) rfl)⟩
set_option maxRecDepth 100000 in
theorem lc_7_25 : LkIN RX7 25 m6_init := ⟨⟨"RunFaxes", (nt_1 77 (by decide +kernel) rfl)⟩, (wt_1 78 (by decide +kernel) rfl), rfl, rfl⟩
set_option maxRecDepth 100000 in
theorem lp_7_26i : LkP RX7 "<init>" 26 7 2 := ⟨_, _, _, rfl, by decide, Or.inr ⟨rfl, rfl, rfl, (wt_1 102 (by decide +kernel) rfl)⟩⟩
set_option maxRecDepth 100000 in
theorem lp_7_30 (nm : String) : LkP RX7 nm 30 7 3 := ⟨_, _, _, rfl, by decide, Or.inl ⟨rfl, Or.inl (wt_1 104 (by decide +kernel) rfl)⟩⟩
set_option maxRecDepth 100000 in
theorem lp_7_34 (nm : String) : LkP RX7 nm 34 7 4 := ⟨_, _, _, rfl, by decide, Or.inl ⟨rfl, Or.inl (wt_1 106 (by decide +kernel) rfl)⟩⟩
set_option maxRecDepth 100000 in
theorem lo_1_3 : LkO RX1 3 := ⟨(wt_1 124 (by decide +kernel) rfl), (wt_1 27 (by decide +kernel) rfl), (wt_1 28 (by decide +kernel) rfl)⟩
set_option maxRecDepth 100000 in
theorem lp_1_9 (nm : String) : LkP RX1 nm 9 1 0 := ⟨_, _, _, rfl, by decide, Or.inl ⟨rfl, Or.inl (wt_1 128 (by decide +kernel) rfl)⟩⟩
set_option maxRecDepth 100000 in
theorem lp_1_15 (nm : String) : LkP RX1 nm 15 1 1 := ⟨_, _, _, rfl, by decide, Or.inl ⟨rfl, Or.inl (wt_1 130 (by decide +kernel) rfl)⟩⟩
set_option maxRecDepth 100000 in
theorem lq_1_18 : LkQ RX1 18 := (wt_1 125 (by decide +kernel) rfl)
set_option maxRecDepth 100000 in
theorem lp_1_20i : LkP RX1 "<init>" 20 1 2 := ⟨_, _, _, rfl, by decide, Or.inr ⟨rfl, rfl, rfl, (wt_1 131 (by decide +kernel) rfl)⟩⟩
set_option maxRecDepth 100000 in
theorem lf_1_20 : LkF RX1 20 1 2 := ⟨_, _, _, rfl, by decide, Or.inl (wt_1 131 (by decide +kernel) rfl)⟩
set_option maxRecDepth 100000 in
theorem ln_1_18 : LkN RX1 18 7 := ⟨_, _, _, rfl, (wt_1 125 (by decide +kernel) rfl), (wt_1 30 (by decide +kernel) rfl), (wt_1 2 (by decide +kernel) rfl)⟩
set_option maxRecDepth 100000 in
theorem lc_1_24 : LkIN RX1 24 m7_init := ⟨⟨"RunFaxes", (nt_1 127 (by decide +kernel) rfl)⟩, (wt_1 32 (by decide +kernel) rfl), rfl, rfl⟩
set_option maxRecDepth 100000 in
theorem lf_1_15 : LkF RX1 15 1 1 := ⟨_, _, _, rfl, by decide, Or.inl (wt_1 130 (by decide +kernel) rfl)⟩
set_option maxRecDepth 100000 in
theorem lm_9_435 : LkM RX9 435 Lib.Math.min.name Lib.Math.min.code := ⟨(wt_2 106 (by decide +kernel) rfl), (wt_2 107 (by decide +kernel) rfl), (wt_1 18 (by decide +kernel) rfl), (wt_2 108 (by decide +kernel) rfl)⟩
set_option maxRecDepth 100000 in
theorem ly_9_438 : LkY RX9 438 := ⟨(wt_2 109 (by decide +kernel) rfl), (wt_2 111 (by decide +kernel) rfl), (wt_2 110 (by decide +kernel) rfl), (wt_1 19 (by decide +kernel) rfl)⟩
set_option maxRecDepth 100000 in
theorem lf_2_9 : LkF RX2 9 2 0 := ⟨_, _, _, rfl, by decide, Or.inl (wt_1 41 (by decide +kernel) rfl)⟩
set_option maxRecDepth 100000 in
theorem lf_2_15 : LkF RX2 15 2 1 := ⟨_, _, _, rfl, by decide, Or.inl (wt_1 44 (by decide +kernel) rfl)⟩
set_option maxRecDepth 100000 in
theorem lc_2_29 : LkSN RX2 29 m9_copyLongs := ⟨⟨"RunFaxes", (nt_2 103 (by decide +kernel) rfl)⟩, (wt_2 104 (by decide +kernel) rfl)⟩
set_option maxRecDepth 100000 in
theorem lf_6_9 : LkF RX6 9 6 0 := ⟨_, _, _, rfl, by decide, Or.inl (wt_1 81 (by decide +kernel) rfl)⟩
set_option maxRecDepth 100000 in
theorem lf_6_15 : LkF RX6 15 6 1 := ⟨_, _, _, rfl, by decide, Or.inl (wt_1 82 (by decide +kernel) rfl)⟩
set_option maxRecDepth 100000 in
theorem lc_6_52 : LkSN RX6 52 m9_copyLongs := ⟨⟨"RunFaxes", (nt_2 123 (by decide +kernel) rfl)⟩, (wt_2 104 (by decide +kernel) rfl)⟩
set_option maxRecDepth 100000 in
theorem lf_6_19 : LkF RX6 19 6 2 := ⟨_, _, _, rfl, by decide, Or.inl (wt_1 83 (by decide +kernel) rfl)⟩
set_option maxRecDepth 100000 in
theorem lf_6_22 : LkF RX6 22 6 3 := ⟨_, _, _, rfl, by decide, Or.inl (wt_1 85 (by decide +kernel) rfl)⟩
set_option maxRecDepth 100000 in
theorem lc_6_56 : LkSN RX6 56 m9_copyInts := ⟨⟨"RunFaxes", (nt_2 124 (by decide +kernel) rfl)⟩, (wt_2 117 (by decide +kernel) rfl)⟩
set_option maxRecDepth 100000 in
theorem lf_6_26 : LkF RX6 26 6 4 := ⟨_, _, _, rfl, by decide, Or.inl (wt_1 86 (by decide +kernel) rfl)⟩
set_option maxRecDepth 100000 in
theorem lf_8_9 : LkF RX8 9 8 0 := ⟨_, _, _, rfl, by decide, Or.inl (wt_1 66 (by decide +kernel) rfl)⟩
set_option maxRecDepth 100000 in
theorem lf_8_15 : LkF RX8 15 8 1 := ⟨_, _, _, rfl, by decide, Or.inl (wt_1 68 (by decide +kernel) rfl)⟩
set_option maxRecDepth 100000 in
theorem lc_8_38 : LkSN RX8 38 m9_copyInts := ⟨⟨"RunFaxes", (nt_2 116 (by decide +kernel) rfl)⟩, (wt_2 117 (by decide +kernel) rfl)⟩
set_option maxRecDepth 100000 in
theorem lf_7_10 : LkF RX7 10 7 0 := ⟨_, _, _, rfl, by decide, Or.inl (wt_1 98 (by decide +kernel) rfl)⟩
set_option maxRecDepth 100000 in
theorem lc_7_38 : LkVN RX7 38 m2_copyFrom := ⟨⟨"RunFaxes", (nt_2 99 (by decide +kernel) rfl)⟩, (wt_2 101 (by decide +kernel) rfl), (ws_i 4 (by decide +kernel) rfl)⟩
set_option maxRecDepth 100000 in
theorem lf_7_19 : LkF RX7 19 7 1 := ⟨_, _, _, rfl, by decide, Or.inl (wt_1 100 (by decide +kernel) rfl)⟩
set_option maxRecDepth 100000 in
theorem lc_7_42 : LkVN RX7 42 m8_copyFrom := ⟨⟨"RunFaxes", (nt_2 112 (by decide +kernel) rfl)⟩, (wt_2 114 (by decide +kernel) rfl), (ws_i 5 (by decide +kernel) rfl)⟩
set_option maxRecDepth 100000 in
theorem lf_7_26 : LkF RX7 26 7 2 := ⟨_, _, _, rfl, by decide, Or.inl (wt_1 102 (by decide +kernel) rfl)⟩
set_option maxRecDepth 100000 in
theorem lc_7_45 : LkVN RX7 45 m6_copyFrom := ⟨⟨"RunFaxes", (nt_2 119 (by decide +kernel) rfl)⟩, (wt_2 121 (by decide +kernel) rfl), (ws_i 6 (by decide +kernel) rfl)⟩
set_option maxRecDepth 100000 in
theorem lf_7_30 : LkF RX7 30 7 3 := ⟨_, _, _, rfl, by decide, Or.inl (wt_1 104 (by decide +kernel) rfl)⟩
set_option maxRecDepth 100000 in
theorem lf_7_34 : LkF RX7 34 7 4 := ⟨_, _, _, rfl, by decide, Or.inl (wt_1 106 (by decide +kernel) rfl)⟩
set_option maxRecDepth 100000 in
theorem lf_1_9 : LkF RX1 9 1 0 := ⟨_, _, _, rfl, by decide, Or.inl (wt_1 128 (by decide +kernel) rfl)⟩
set_option maxRecDepth 100000 in
theorem lc_1_25 : LkV RX1 25 m1_slot := ⟨(wt_2 91 (by decide +kernel) rfl), (wt_2 93 (by decide +kernel) rfl), (ws_i 2 (by decide +kernel) rfl)⟩
set_option maxRecDepth 100000 in
theorem lc_1_29 : LkVN RX1 29 m7_copyFrom := ⟨⟨"RunFaxes", (nt_2 95 (by decide +kernel) rfl)⟩, (wt_2 97 (by decide +kernel) rfl), (ws_i 3 (by decide +kernel) rfl)⟩
set_option maxRecDepth 100000 in
theorem lo_4_3 : LkO RX4 3 := ⟨(wt_1 150 (by decide +kernel) rfl), (wt_1 27 (by decide +kernel) rfl), (wt_1 28 (by decide +kernel) rfl)⟩
set_option maxRecDepth 100000 in
theorem lp_4_11 (nm : String) : LkP RX4 nm 11 4 0 := ⟨_, _, _, rfl, by decide, Or.inl ⟨rfl, Or.inl (wt_1 151 (by decide +kernel) rfl)⟩⟩
set_option maxRecDepth 100000 in
theorem lp_4_15 (nm : String) : LkP RX4 nm 15 4 1 := ⟨_, _, _, rfl, by decide, Or.inl ⟨rfl, Or.inl (wt_1 152 (by decide +kernel) rfl)⟩⟩
set_option maxRecDepth 100000 in
theorem lp_4_18 (nm : String) : LkP RX4 nm 18 4 2 := ⟨_, _, _, rfl, by decide, Or.inl ⟨rfl, Or.inl (wt_1 153 (by decide +kernel) rfl)⟩⟩
set_option maxRecDepth 100000 in
theorem lp_4_21 (nm : String) : LkP RX4 nm 21 4 3 := ⟨_, _, _, rfl, by decide, Or.inl ⟨rfl, Or.inl (wt_1 154 (by decide +kernel) rfl)⟩⟩
set_option maxRecDepth 100000 in
theorem lp_4_25 (nm : String) : LkP RX4 nm 25 4 4 := ⟨_, _, _, rfl, by decide, Or.inl ⟨rfl, Or.inl (wt_1 155 (by decide +kernel) rfl)⟩⟩
set_option maxRecDepth 100000 in
theorem lp_4_28 (nm : String) : LkP RX4 nm 28 4 5 := ⟨_, _, _, rfl, by decide, Or.inl ⟨rfl, Or.inl (wt_1 156 (by decide +kernel) rfl)⟩⟩
set_option maxRecDepth 100000 in
theorem lp_4_31 (nm : String) : LkP RX4 nm 31 4 6 := ⟨_, _, _, rfl, by decide, Or.inl ⟨rfl, Or.inl (wt_1 157 (by decide +kernel) rfl)⟩⟩
set_option maxRecDepth 100000 in
theorem lo_3_3 : LkO RX3 3 := ⟨(wt_1 144 (by decide +kernel) rfl), (wt_1 27 (by decide +kernel) rfl), (wt_1 28 (by decide +kernel) rfl)⟩
set_option maxRecDepth 100000 in
theorem lp_3_9i : LkP RX3 "<init>" 9 3 0 := ⟨_, _, _, rfl, by decide, Or.inr ⟨rfl, rfl, rfl, (wt_1 173 (by decide +kernel) rfl)⟩⟩
set_option maxRecDepth 100000 in
theorem lp_3_15 (nm : String) : LkP RX3 nm 15 3 1 := ⟨_, _, _, rfl, by decide, Or.inl ⟨rfl, Or.inl (wt_1 174 (by decide +kernel) rfl)⟩⟩
set_option maxRecDepth 100000 in
theorem ln_3_19 : LkN RX3 19 4 := ⟨_, _, _, rfl, (wt_1 145 (by decide +kernel) rfl), (wt_1 146 (by decide +kernel) rfl), (wt_1 8 (by decide +kernel) rfl)⟩
set_option maxRecDepth 100000 in
theorem lc_3_21 : LkIN RX3 21 m4_init := ⟨⟨"RunFaxes", (nt_1 147 (by decide +kernel) rfl)⟩, (wt_1 148 (by decide +kernel) rfl), rfl, rfl⟩
set_option maxRecDepth 100000 in
theorem lp_3_22i : LkP RX3 "<init>" 22 3 2 := ⟨_, _, _, rfl, by decide, Or.inr ⟨rfl, rfl, rfl, (wt_1 175 (by decide +kernel) rfl)⟩⟩
set_option maxRecDepth 100000 in
theorem lo_5_3 : LkO RX5 3 := ⟨(wt_1 213 (by decide +kernel) rfl), (wt_1 27 (by decide +kernel) rfl), (wt_1 28 (by decide +kernel) rfl)⟩
set_option maxRecDepth 100000 in
theorem lp_5_9 (nm : String) : LkP RX5 nm 9 5 0 := ⟨_, _, _, rfl, by decide, Or.inl ⟨rfl, Or.inl (wt_1 214 (by decide +kernel) rfl)⟩⟩
set_option maxRecDepth 100000 in
theorem lp_5_15 (nm : String) : LkP RX5 nm 15 5 1 := ⟨_, _, _, rfl, by decide, Or.inl ⟨rfl, Or.inl (wt_1 215 (by decide +kernel) rfl)⟩⟩
set_option maxRecDepth 100000 in
theorem lp_5_18 (nm : String) : LkP RX5 nm 18 5 2 := ⟨_, _, _, rfl, by decide, Or.inl ⟨rfl, Or.inl (wt_1 216 (by decide +kernel) rfl)⟩⟩
set_option maxRecDepth 100000 in
theorem lf_5_9 : LkF RX5 9 5 0 := ⟨_, _, _, rfl, by decide, Or.inl (wt_1 214 (by decide +kernel) rfl)⟩
set_option maxRecDepth 100000 in
theorem lc_5_63 : LkVN RX5 63 m8_at := ⟨⟨"RunFaxes", (nt_4 18 (by decide +kernel) rfl)⟩, (wt_3 15 (by decide +kernel) rfl), (ws_i 16 (by decide +kernel) rfl)⟩
set_option maxRecDepth 100000 in
theorem lc_5_40 : LkV RX5 40 m5_next := ⟨(wt_4 14 (by decide +kernel) rfl), (wt_4 16 (by decide +kernel) rfl), (ws_i 49 (by decide +kernel) rfl)⟩
set_option maxRecDepth 100000 in
theorem lf_5_15 : LkF RX5 15 5 1 := ⟨_, _, _, rfl, by decide, Or.inl (wt_1 215 (by decide +kernel) rfl)⟩
set_option maxRecDepth 100000 in
theorem lf_5_18 : LkF RX5 18 5 2 := ⟨_, _, _, rfl, by decide, Or.inl (wt_1 216 (by decide +kernel) rfl)⟩
set_option maxRecDepth 100000 in
theorem lc_5_66 : LkV RX5 66 m5_nextOfKernel := ⟨(wt_4 24 (by decide +kernel) rfl), (wt_4 26 (by decide +kernel) rfl), (ws_i 51 (by decide +kernel) rfl)⟩
set_option maxRecDepth 100000 in
theorem lc_6_29 : LkV RX6 29 m6_has := ⟨(wt_3 38 (by decide +kernel) rfl), (wt_3 27 (by decide +kernel) rfl), (ws_i 17 (by decide +kernel) rfl)⟩
set_option maxRecDepth 100000 in
theorem lc_5_44 : LkVN RX5 44 m6_has := ⟨⟨"RunFaxes", (nt_4 19 (by decide +kernel) rfl)⟩, (wt_3 27 (by decide +kernel) rfl), (ws_i 17 (by decide +kernel) rfl)⟩
set_option maxRecDepth 100000 in
theorem lc_5_48 : LkV RX5 48 m5_pixelsByFours := ⟨(wt_4 20 (by decide +kernel) rfl), (wt_4 22 (by decide +kernel) rfl), (ws_i 50 (by decide +kernel) rfl)⟩
set_option maxRecDepth 100000 in
theorem lc_5_52 : LkV RX5 52 m5_pixelsByRuns := ⟨(wt_4 28 (by decide +kernel) rfl), (wt_4 30 (by decide +kernel) rfl), (ws_i 52 (by decide +kernel) rfl)⟩
set_option maxRecDepth 100000 in
theorem lc_5_55 : LkVN RX5 55 m6_rowOf := ⟨⟨"RunFaxes", (nt_4 32 (by decide +kernel) rfl)⟩, (wt_3 36 (by decide +kernel) rfl), (ws_i 18 (by decide +kernel) rfl)⟩
set_option maxRecDepth 100000 in
theorem lc_5_59 : LkVN RX5 59 m6_take := ⟨⟨"RunFaxes", (nt_4 33 (by decide +kernel) rfl)⟩, (wt_4 35 (by decide +kernel) rfl), (ws_i 53 (by decide +kernel) rfl)⟩
set_option maxRecDepth 100000 in
theorem lc_8_31 : LkV RX8 31 m8_at := ⟨(wt_3 222 (by decide +kernel) rfl), (wt_3 15 (by decide +kernel) rfl), (ws_i 16 (by decide +kernel) rfl)⟩
set_option maxRecDepth 100000 in
theorem lc_8_35 : LkV RX8 35 m8_isMarker := ⟨(wt_4 6 (by decide +kernel) rfl), (wt_4 8 (by decide +kernel) rfl), (ws_i 47 (by decide +kernel) rfl)⟩
set_option maxRecDepth 100000 in
theorem lc_5_21 : LkVN RX5 21 m6_empty := ⟨⟨"RunFaxes", (nt_4 1 (by decide +kernel) rfl)⟩, (wt_3 156 (by decide +kernel) rfl), (ws_i 32 (by decide +kernel) rfl)⟩
set_option maxRecDepth 100000 in
theorem lc_5_26 : LkVN RX5 26 m8_markerFrom := ⟨⟨"RunFaxes", (nt_4 2 (by decide +kernel) rfl)⟩, (wt_4 4 (by decide +kernel) rfl), (ws_i 46 (by decide +kernel) rfl)⟩
set_option maxRecDepth 100000 in
theorem lc_5_32 : LkV RX5 32 m5_readCode := ⟨(wt_4 10 (by decide +kernel) rfl), (wt_4 12 (by decide +kernel) rfl), (ws_i 48 (by decide +kernel) rfl)⟩
set_option maxRecDepth 100000 in
theorem lc_5_36 : LkVN RX5 36 m6_note := ⟨⟨"RunFaxes", (nt_4 37 (by decide +kernel) rfl)⟩, (wt_4 39 (by decide +kernel) rfl), (ws_i 54 (by decide +kernel) rfl)⟩
set_option maxRecDepth 100000 in
theorem lc_6_33 : LkS RX6 33 mJ6_bitCount := ⟨(wt_2 201 (by decide +kernel) rfl), (wt_2 202 (by decide +kernel) rfl)⟩
set_option maxRecDepth 100000 in
theorem lf_6_39 : LkF RX6 39 2 2 := ⟨_, _, _, rfl, by decide, Or.inr ⟨"RunFaxes", (nt_1 48 (by decide +kernel) rfl)⟩⟩
set_option maxRecDepth 100000 in
theorem lc_6_44 : LkV RX6 44 m6_rowOf := ⟨(wt_4 102 (by decide +kernel) rfl), (wt_3 36 (by decide +kernel) rfl), (ws_i 18 (by decide +kernel) rfl)⟩
set_option maxRecDepth 100000 in
theorem lc_6_48 : LkVN RX6 48 m2_rowOf := ⟨⟨"RunFaxes", (nt_4 103 (by decide +kernel) rfl)⟩, (wt_2 167 (by decide +kernel) rfl), (ws_i 10 (by decide +kernel) rfl)⟩
set_option maxRecDepth 100000 in
theorem lc_6_49 : LkV RX6 49 m6_hasError := ⟨(wt_3 56 (by decide +kernel) rfl), (wt_3 49 (by decide +kernel) rfl), (ws_i 20 (by decide +kernel) rfl)⟩
set_option maxRecDepth 100000 in
theorem lc_8_19 : LkV RX8 19 m8_isFull := ⟨(wt_3 196 (by decide +kernel) rfl), (wt_3 198 (by decide +kernel) rfl), (ws_i 41 (by decide +kernel) rfl)⟩
set_option maxRecDepth 100000 in
theorem lc_8_23 : LkV RX8 23 m8_put := ⟨(wt_3 200 (by decide +kernel) rfl), (wt_3 202 (by decide +kernel) rfl), (ws_i 42 (by decide +kernel) rfl)⟩
set_option maxRecDepth 100000 in
theorem lc_8_27 : LkV RX8 27 m8_has := ⟨(wt_3 221 (by decide +kernel) rfl), (wt_3 10 (by decide +kernel) rfl), (ws_i 15 (by decide +kernel) rfl)⟩
set_option maxRecDepth 100000 in
theorem lo_9_3 : LkO RX9 3 := ⟨(wt_1 26 (by decide +kernel) rfl), (wt_1 27 (by decide +kernel) rfl), (wt_1 28 (by decide +kernel) rfl)⟩
set_option maxRecDepth 100000 in
theorem ln_9_9 : LkN RX9 9 7 := ⟨_, _, _, rfl, (wt_1 29 (by decide +kernel) rfl), (wt_1 30 (by decide +kernel) rfl), (wt_1 2 (by decide +kernel) rfl)⟩
set_option maxRecDepth 100000 in
theorem lc_9_11 : LkIN RX9 11 m7_init := ⟨⟨"RunFaxes", (nt_1 31 (by decide +kernel) rfl)⟩, (wt_1 32 (by decide +kernel) rfl), rfl, rfl⟩
set_option maxRecDepth 100000 in
theorem lp_9_12i : LkP RX9 "<init>" 12 9 0 := ⟨_, _, _, rfl, by decide, Or.inr ⟨rfl, rfl, rfl, (wt_1 226 (by decide +kernel) rfl)⟩⟩
set_option maxRecDepth 100000 in
theorem lp_9_16i : LkP RX9 "<init>" 16 9 1 := ⟨_, _, _, rfl, by decide, Or.inr ⟨rfl, rfl, rfl, (wt_1 227 (by decide +kernel) rfl)⟩⟩
set_option maxRecDepth 100000 in
theorem lp_9_19 (nm : String) : LkP RX9 nm 19 9 2 := ⟨_, _, _, rfl, by decide, Or.inl ⟨rfl, Or.inl (wt_1 228 (by decide +kernel) rfl)⟩⟩
set_option maxRecDepth 100000 in
theorem ln_9_23 : LkN RX9 23 1 := ⟨_, _, _, rfl, (wt_1 119 (by decide +kernel) rfl), (wt_1 120 (by decide +kernel) rfl), (wt_1 6 (by decide +kernel) rfl)⟩
set_option maxRecDepth 100000 in
theorem lc_9_25 : LkIN RX9 25 m1_init := ⟨⟨"RunFaxes", (nt_1 121 (by decide +kernel) rfl)⟩, (wt_1 122 (by decide +kernel) rfl), rfl, rfl⟩
set_option maxRecDepth 100000 in
theorem lp_9_26i : LkP RX9 "<init>" 26 9 3 := ⟨_, _, _, rfl, by decide, Or.inr ⟨rfl, rfl, rfl, (wt_1 229 (by decide +kernel) rfl)⟩⟩
set_option maxRecDepth 100000 in
theorem ln_9_30 : LkN RX9 30 3 := ⟨_, _, _, rfl, (wt_1 139 (by decide +kernel) rfl), (wt_1 140 (by decide +kernel) rfl), (wt_1 7 (by decide +kernel) rfl)⟩
set_option maxRecDepth 100000 in
theorem lc_9_32 : LkIN RX9 32 m3_init := ⟨⟨"RunFaxes", (nt_1 141 (by decide +kernel) rfl)⟩, (wt_1 142 (by decide +kernel) rfl), rfl, rfl⟩
set_option maxRecDepth 100000 in
theorem lp_9_33i : LkP RX9 "<init>" 33 9 4 := ⟨_, _, _, rfl, by decide, Or.inr ⟨rfl, rfl, rfl, (wt_1 230 (by decide +kernel) rfl)⟩⟩
set_option maxRecDepth 100000 in
theorem ln_9_37 : LkN RX9 37 0 := ⟨_, _, _, rfl, (wt_1 183 (by decide +kernel) rfl), (wt_1 184 (by decide +kernel) rfl), (wt_1 9 (by decide +kernel) rfl)⟩
set_option maxRecDepth 100000 in
theorem lc_9_39 : LkIN RX9 39 m0_init := ⟨⟨"RunFaxes", (nt_1 185 (by decide +kernel) rfl)⟩, (wt_1 186 (by decide +kernel) rfl), rfl, rfl⟩
set_option maxRecDepth 100000 in
theorem lp_9_40i : LkP RX9 "<init>" 40 9 5 := ⟨_, _, _, rfl, by decide, Or.inr ⟨rfl, rfl, rfl, (wt_1 231 (by decide +kernel) rfl)⟩⟩
set_option maxRecDepth 100000 in
theorem ln_9_44 : LkN RX9 44 5 := ⟨_, _, _, rfl, (wt_1 208 (by decide +kernel) rfl), (wt_1 209 (by decide +kernel) rfl), (wt_1 10 (by decide +kernel) rfl)⟩
set_option maxRecDepth 100000 in
theorem lc_9_46 : LkIN RX9 46 m5_init := ⟨⟨"RunFaxes", (nt_1 210 (by decide +kernel) rfl)⟩, (wt_1 211 (by decide +kernel) rfl), rfl, rfl⟩
set_option maxRecDepth 100000 in
theorem lp_9_47i : LkP RX9 "<init>" 47 9 6 := ⟨_, _, _, rfl, by decide, Or.inr ⟨rfl, rfl, rfl, (wt_1 232 (by decide +kernel) rfl)⟩⟩
set_option maxRecDepth 100000 in
theorem ln_9_51 : LkN RX9 51 6 := ⟨_, _, _, rfl, (wt_1 224 (by decide +kernel) rfl), (wt_1 76 (by decide +kernel) rfl), (wt_1 5 (by decide +kernel) rfl)⟩
set_option maxRecDepth 100000 in
theorem lc_9_53 : LkIN RX9 53 m6_init := ⟨⟨"RunFaxes", (nt_1 225 (by decide +kernel) rfl)⟩, (wt_1 78 (by decide +kernel) rfl), rfl, rfl⟩
set_option maxRecDepth 100000 in
theorem lp_9_54i : LkP RX9 "<init>" 54 9 7 := ⟨_, _, _, rfl, by decide, Or.inr ⟨rfl, rfl, rfl, (wt_1 233 (by decide +kernel) rfl)⟩⟩
set_option maxRecDepth 100000 in
theorem at_9_60 : AtOK RX9 58 60 62 eIA "a width is 8 to 32" := ⟨by decide +kernel, (wt_3 86 (by decide +kernel) rfl), (wt_1 17 (by decide +kernel) rfl), st_3 145 (by decide +kernel), at_ws AT_eIA_62, at_ot AT_eIA_62⟩
set_option maxRecDepth 100000 in
theorem lf_9_26 : LkF RX9 26 9 3 := ⟨_, _, _, rfl, by decide, Or.inl (wt_1 229 (by decide +kernel) rfl)⟩
set_option maxRecDepth 100000 in
theorem lf_9_12 : LkF RX9 12 9 0 := ⟨_, _, _, rfl, by decide, Or.inl (wt_1 226 (by decide +kernel) rfl)⟩
set_option maxRecDepth 100000 in
theorem lc_9_65 : LkVN RX9 65 m1_push := ⟨⟨"RunFaxes", (nt_3 107 (by decide +kernel) rfl)⟩, (wt_3 109 (by decide +kernel) rfl), (ws_i 26 (by decide +kernel) rfl)⟩
set_option maxRecDepth 100000 in
theorem lf_9_69 : LkF RX9 69 7 0 := ⟨_, _, _, rfl, by decide, Or.inr ⟨"RunFaxes", (nt_1 99 (by decide +kernel) rfl)⟩⟩
set_option maxRecDepth 100000 in
theorem lf_9_73 : LkF RX9 73 2 0 := ⟨_, _, _, rfl, by decide, Or.inr ⟨"RunFaxes", (nt_1 43 (by decide +kernel) rfl)⟩⟩
set_option maxRecDepth 100000 in
theorem lc_9_79 : LkVN RX9 79 m2_emptyWith := ⟨⟨"RunFaxes", (nt_3 146 (by decide +kernel) rfl)⟩, (wt_3 148 (by decide +kernel) rfl), (ws_i 30 (by decide +kernel) rfl)⟩
set_option maxRecDepth 100000 in
theorem lf_9_83 : LkF RX9 83 7 1 := ⟨_, _, _, rfl, by decide, Or.inr ⟨"RunFaxes", (nt_1 101 (by decide +kernel) rfl)⟩⟩
set_option maxRecDepth 100000 in
theorem lc_9_87 : LkVN RX9 87 m8_empty := ⟨⟨"RunFaxes", (nt_3 150 (by decide +kernel) rfl)⟩, (wt_3 152 (by decide +kernel) rfl), (ws_i 31 (by decide +kernel) rfl)⟩
set_option maxRecDepth 100000 in
theorem lf_9_92 : LkF RX9 92 7 2 := ⟨_, _, _, rfl, by decide, Or.inr ⟨"RunFaxes", (nt_1 103 (by decide +kernel) rfl)⟩⟩
set_option maxRecDepth 100000 in
theorem lc_9_95 : LkVN RX9 95 m6_empty := ⟨⟨"RunFaxes", (nt_3 154 (by decide +kernel) rfl)⟩, (wt_3 156 (by decide +kernel) rfl), (ws_i 32 (by decide +kernel) rfl)⟩
set_option maxRecDepth 100000 in
theorem lc_9_374 : LkVN RX9 374 m2_fits := ⟨⟨"RunFaxes", (nt_3 82 (by decide +kernel) rfl)⟩, (wt_3 84 (by decide +kernel) rfl), (ws_i 24 (by decide +kernel) rfl)⟩
set_option maxRecDepth 100000 in
theorem at_9_377 : AtOK RX9 58 377 62 eIA "a pixel from the width on is black" := ⟨by decide +kernel, (wt_3 86 (by decide +kernel) rfl), (wt_1 17 (by decide +kernel) rfl), st_3 95 (by decide +kernel), at_ws AT_eIA_62, at_ot AT_eIA_62⟩
set_option maxRecDepth 100000 in
theorem lc_9_96 : LkV RX9 96 m9_needPixels := ⟨(wt_3 78 (by decide +kernel) rfl), (wt_3 80 (by decide +kernel) rfl), (ws_i 23 (by decide +kernel) rfl)⟩
set_option maxRecDepth 100000 in
theorem lc_9_100 : LkVN RX9 100 m2_isFull := ⟨⟨"RunFaxes", (nt_3 102 (by decide +kernel) rfl)⟩, (wt_3 104 (by decide +kernel) rfl), (ws_i 25 (by decide +kernel) rfl)⟩
set_option maxRecDepth 100000 in
theorem at_9_106 : AtOK RX9 104 106 108 eIS "the page has 10 lines" := ⟨by decide +kernel, (wt_2 19 (by decide +kernel) rfl), (wt_1 16 (by decide +kernel) rfl), st_3 106 (by decide +kernel), at_ws AT_eIS_108, at_ot AT_eIS_108⟩
set_option maxRecDepth 100000 in
theorem lc_9_109 : LkVN RX9 109 m2_addRow := ⟨⟨"RunFaxes", (nt_3 111 (by decide +kernel) rfl)⟩, (wt_3 113 (by decide +kernel) rfl), (ws_i 27 (by decide +kernel) rfl)⟩
set_option maxRecDepth 100000 in
theorem lf_9_113 : LkF RX9 113 2 2 := ⟨_, _, _, rfl, by decide, Or.inr ⟨"RunFaxes", (nt_1 47 (by decide +kernel) rfl)⟩⟩
set_option maxRecDepth 100000 in
theorem lc_9_239 : LkVN RX9 239 m2_has := ⟨⟨"RunFaxes", (nt_2 219 (by decide +kernel) rfl)⟩, (wt_2 221 (by decide +kernel) rfl), (ws_i 13 (by decide +kernel) rfl)⟩
set_option maxRecDepth 100000 in
theorem at_9_364 : AtOK RX9 160 364 164 eIO "no such line" := ⟨by decide +kernel, (wt_2 223 (by decide +kernel) rfl), (wt_1 15 (by decide +kernel) rfl), st_2 232 (by decide +kernel), at_ws AT_eIO_164, at_ot AT_eIO_164⟩
set_option maxRecDepth 100000 in
theorem lc_9_116 : LkV RX9 116 m9_needLine := ⟨(wt_2 215 (by decide +kernel) rfl), (wt_2 217 (by decide +kernel) rfl), (ws_i 12 (by decide +kernel) rfl)⟩
set_option maxRecDepth 100000 in
theorem lc_9_119 : LkVN RX9 119 m2_rowOf := ⟨⟨"RunFaxes", (nt_2 239 (by decide +kernel) rfl)⟩, (wt_2 167 (by decide +kernel) rfl), (ws_i 10 (by decide +kernel) rfl)⟩
set_option maxRecDepth 100000 in
theorem lc_9_123 : LkVN RX9 123 m2_putRow := ⟨⟨"RunFaxes", (nt_3 123 (by decide +kernel) rfl)⟩, (wt_3 125 (by decide +kernel) rfl), (ws_i 28 (by decide +kernel) rfl)⟩
set_option maxRecDepth 100000 in
theorem at_9_127 : AtOK RX9 104 127 108 eIS "the page has no line" := ⟨by decide +kernel, (wt_2 19 (by decide +kernel) rfl), (wt_1 16 (by decide +kernel) rfl), st_3 131 (by decide +kernel), at_ws AT_eIS_108, at_ot AT_eIS_108⟩
set_option maxRecDepth 100000 in
theorem lc_9_129 : LkVN RX9 129 m2_dropRow := ⟨⟨"RunFaxes", (nt_3 132 (by decide +kernel) rfl)⟩, (wt_3 134 (by decide +kernel) rfl), (ws_i 29 (by decide +kernel) rfl)⟩
set_option maxRecDepth 100000 in
theorem at_9_132 : AtOK RX9 58 132 62 eIA "a style is 0 to 3" := ⟨by decide +kernel, (wt_3 86 (by decide +kernel) rfl), (wt_1 17 (by decide +kernel) rfl), st_3 140 (by decide +kernel), at_ws AT_eIA_62, at_ot AT_eIA_62⟩
set_option maxRecDepth 100000 in
theorem lf_9_134 : LkF RX9 134 2 1 := ⟨_, _, _, rfl, by decide, Or.inr ⟨"RunFaxes", (nt_1 45 (by decide +kernel) rfl)⟩⟩
set_option maxRecDepth 100000 in
theorem lp_9_134 (nm : String) : LkP RX9 nm 134 2 1 := ⟨_, _, _, rfl, by decide, Or.inl ⟨rfl, Or.inr ⟨"RunFaxes", (nt_1 45 (by decide +kernel) rfl)⟩⟩⟩
set_option maxRecDepth 100000 in
theorem lc_9_248 : LkS RX9 248 m9_bordersOf := ⟨(wt_2 176 (by decide +kernel) rfl), (wt_2 177 (by decide +kernel) rfl)⟩
set_option maxRecDepth 100000 in
theorem lc_9_244 : LkS RX9 244 m9_blackAt := ⟨(wt_2 179 (by decide +kernel) rfl), (wt_2 180 (by decide +kernel) rfl)⟩
set_option maxRecDepth 100000 in
theorem lc_9_432 : LkS RX9 432 m9_numbersOfRun := ⟨(wt_2 182 (by decide +kernel) rfl), (wt_2 183 (by decide +kernel) rfl)⟩
set_option maxRecDepth 100000 in
theorem lc_9_420 : LkVN RX9 420 m2_toCode := ⟨⟨"RunFaxes", (nt_2 161 (by decide +kernel) rfl)⟩, (wt_2 163 (by decide +kernel) rfl), (ws_i 9 (by decide +kernel) rfl)⟩
set_option maxRecDepth 100000 in
theorem lc_9_424 : LkS RX9 424 m9_countedFours := ⟨(wt_2 169 (by decide +kernel) rfl), (wt_2 170 (by decide +kernel) rfl)⟩
set_option maxRecDepth 100000 in
theorem lc_9_427 : LkS RX9 427 m9_countedRuns := ⟨(wt_2 173 (by decide +kernel) rfl), (wt_2 174 (by decide +kernel) rfl)⟩
set_option maxRecDepth 100000 in
theorem lc_9_270 : LkV RX9 270 m9_countedLength := ⟨(wt_2 157 (by decide +kernel) rfl), (wt_2 159 (by decide +kernel) rfl), (ws_i 8 (by decide +kernel) rfl)⟩
set_option maxRecDepth 100000 in
theorem lf_9_40 : LkF RX9 40 9 5 := ⟨_, _, _, rfl, by decide, Or.inl (wt_1 231 (by decide +kernel) rfl)⟩
set_option maxRecDepth 100000 in
theorem lc_9_274 : LkV RX9 274 m9_modeToSend := ⟨(wt_2 153 (by decide +kernel) rfl), (wt_2 155 (by decide +kernel) rfl), (ws_i 7 (by decide +kernel) rfl)⟩
set_option maxRecDepth 100000 in
theorem lc_9_265 : LkVN RX9 265 m0_write := ⟨⟨"RunFaxes", (nt_3 166 (by decide +kernel) rfl)⟩, (wt_3 168 (by decide +kernel) rfl), (ws_i 34 (by decide +kernel) rfl)⟩
set_option maxRecDepth 100000 in
theorem lf_9_391 : LkF RX9 391 0 2 := ⟨_, _, _, rfl, by decide, Or.inr ⟨"RunFaxes", (nt_1 192 (by decide +kernel) rfl)⟩⟩
set_option maxRecDepth 100000 in
theorem lf_9_269 : LkF RX9 269 0 3 := ⟨_, _, _, rfl, by decide, Or.inr ⟨"RunFaxes", (nt_1 194 (by decide +kernel) rfl)⟩⟩
set_option maxRecDepth 100000 in
theorem lc_9_395 : LkVN RX9 395 m8_addAll := ⟨⟨"RunFaxes", (nt_3 192 (by decide +kernel) rfl)⟩, (wt_3 194 (by decide +kernel) rfl), (ws_i 40 (by decide +kernel) rfl)⟩
set_option maxRecDepth 100000 in
theorem lc_9_137 : LkV RX9 137 m9_sendPage := ⟨(wt_3 162 (by decide +kernel) rfl), (wt_3 164 (by decide +kernel) rfl), (ws_i 33 (by decide +kernel) rfl)⟩
set_option maxRecDepth 100000 in
theorem lf_9_140 : LkF RX9 140 8 0 := ⟨_, _, _, rfl, by decide, Or.inr ⟨"RunFaxes", (nt_1 67 (by decide +kernel) rfl)⟩⟩
set_option maxRecDepth 100000 in
theorem at_9_379 : AtOK RX9 58 379 62 eIA "a number is 0 to 15" := ⟨by decide +kernel, (wt_3 86 (by decide +kernel) rfl), (wt_1 17 (by decide +kernel) rfl), st_3 211 (by decide +kernel), at_ws AT_eIA_62, at_ot AT_eIA_62⟩
set_option maxRecDepth 100000 in
theorem lc_9_368 : LkVN RX9 368 m8_has := ⟨⟨"RunFaxes", (nt_3 8 (by decide +kernel) rfl)⟩, (wt_3 10 (by decide +kernel) rfl), (ws_i 15 (by decide +kernel) rfl)⟩
set_option maxRecDepth 100000 in
theorem at_9_162 : AtOK RX9 160 162 164 eIO "no such place" := ⟨by decide +kernel, (wt_2 223 (by decide +kernel) rfl), (wt_1 15 (by decide +kernel) rfl), st_3 12 (by decide +kernel), at_ws AT_eIO_164, at_ot AT_eIO_164⟩
set_option maxRecDepth 100000 in
theorem lc_9_143 : LkV RX9 143 m9_needPlace := ⟨(wt_3 4 (by decide +kernel) rfl), (wt_3 6 (by decide +kernel) rfl), (ws_i 14 (by decide +kernel) rfl)⟩
set_option maxRecDepth 100000 in
theorem lc_9_146 : LkS RX9 146 m9_needNumber := ⟨(wt_3 208 (by decide +kernel) rfl), (wt_3 209 (by decide +kernel) rfl)⟩
set_option maxRecDepth 100000 in
theorem lc_9_149 : LkVN RX9 149 m8_at := ⟨⟨"RunFaxes", (nt_3 13 (by decide +kernel) rfl)⟩, (wt_3 15 (by decide +kernel) rfl), (ws_i 16 (by decide +kernel) rfl)⟩
set_option maxRecDepth 100000 in
theorem lc_9_153 : LkVN RX9 153 m8_put := ⟨⟨"RunFaxes", (nt_3 212 (by decide +kernel) rfl)⟩, (wt_3 202 (by decide +kernel) rfl), (ws_i 42 (by decide +kernel) rfl)⟩
set_option maxRecDepth 100000 in
theorem lc_9_157 : LkVN RX9 157 m8_takeOut := ⟨⟨"RunFaxes", (nt_3 217 (by decide +kernel) rfl)⟩, (wt_3 219 (by decide +kernel) rfl), (ws_i 43 (by decide +kernel) rfl)⟩
set_option maxRecDepth 100000 in
theorem lc_9_165 : LkVN RX9 165 m8_isFull := ⟨⟨"RunFaxes", (nt_3 227 (by decide +kernel) rfl)⟩, (wt_3 198 (by decide +kernel) rfl), (ws_i 41 (by decide +kernel) rfl)⟩
set_option maxRecDepth 100000 in
theorem at_9_166 : AtOK RX9 104 166 108 eIS "the stream has 500 numbers" := ⟨by decide +kernel, (wt_2 19 (by decide +kernel) rfl), (wt_1 16 (by decide +kernel) rfl), st_3 228 (by decide +kernel), at_ws AT_eIS_108, at_ot AT_eIS_108⟩
set_option maxRecDepth 100000 in
theorem lc_9_168 : LkVN RX9 168 m8_putAhead := ⟨⟨"RunFaxes", (nt_3 229 (by decide +kernel) rfl)⟩, (wt_3 231 (by decide +kernel) rfl), (ws_i 44 (by decide +kernel) rfl)⟩
set_option maxRecDepth 100000 in
theorem lf_9_47 : LkF RX9 47 9 6 := ⟨_, _, _, rfl, by decide, Or.inl (wt_1 232 (by decide +kernel) rfl)⟩
set_option maxRecDepth 100000 in
theorem lc_9_172 : LkVN RX9 172 m5_readAll := ⟨⟨"RunFaxes", (nt_3 237 (by decide +kernel) rfl)⟩, (wt_3 239 (by decide +kernel) rfl), (ws_i 45 (by decide +kernel) rfl)⟩
set_option maxRecDepth 100000 in
theorem lc_9_176 : LkVN RX9 176 m6_count := ⟨⟨"RunFaxes", (nt_2 197 (by decide +kernel) rfl)⟩, (wt_2 199 (by decide +kernel) rfl), (ws_i 11 (by decide +kernel) rfl)⟩
set_option maxRecDepth 100000 in
theorem lf_9_220 : LkF RX9 220 7 3 := ⟨_, _, _, rfl, by decide, Or.inr ⟨"RunFaxes", (nt_1 105 (by decide +kernel) rfl)⟩⟩
set_option maxRecDepth 100000 in
theorem at_9_226 : AtOK RX9 104 226 108 eIS "the latest text did not stop" := ⟨by decide +kernel, (wt_2 19 (by decide +kernel) rfl), (wt_1 16 (by decide +kernel) rfl), st_3 69 (by decide +kernel), at_ws AT_eIS_108, at_ot AT_eIS_108⟩
set_option maxRecDepth 100000 in
theorem lf_9_223 : LkF RX9 223 7 4 := ⟨_, _, _, rfl, by decide, Or.inr ⟨"RunFaxes", (nt_1 107 (by decide +kernel) rfl)⟩⟩
set_option maxRecDepth 100000 in
theorem lf_9_228 : LkF RX9 228 1 0 := ⟨_, _, _, rfl, by decide, Or.inr ⟨"RunFaxes", (nt_1 129 (by decide +kernel) rfl)⟩⟩
set_option maxRecDepth 100000 in
theorem at_9_229 : AtOK RX9 104 229 108 eIS "no state is saved" := ⟨by decide +kernel, (wt_2 19 (by decide +kernel) rfl), (wt_1 16 (by decide +kernel) rfl), st_2 60 (by decide +kernel), at_ws AT_eIS_108, at_ot AT_eIS_108⟩
set_option maxRecDepth 100000 in
theorem lc_9_231 : LkVN RX9 231 m1_popInto := ⟨⟨"RunFaxes", (nt_2 87 (by decide +kernel) rfl)⟩, (wt_2 89 (by decide +kernel) rfl), (ws_i 1 (by decide +kernel) rfl)⟩
set_option maxRecDepth 100000 in
theorem at_9_242 : AtOK RX9 160 242 164 eIO "no such line or pixel" := ⟨by decide +kernel, (wt_2 223 (by decide +kernel) rfl), (wt_1 15 (by decide +kernel) rfl), st_4 68 (by decide +kernel), at_ws AT_eIO_164, at_ot AT_eIO_164⟩
set_option maxRecDepth 100000 in
theorem lc_9_252 : LkS RX9 252 mJ13_bitCount := ⟨(wt_4 73 (by decide +kernel) rfl), (wt_4 74 (by decide +kernel) rfl)⟩
set_option maxRecDepth 100000 in
theorem lm_9_415 : LkM RX9 415 Lib.Math.max.name Lib.Math.max.code := ⟨(wt_4 86 (by decide +kernel) rfl), (wt_4 87 (by decide +kernel) rfl), (wt_1 18 (by decide +kernel) rfl), (wt_4 88 (by decide +kernel) rfl)⟩
set_option maxRecDepth 100000 in
theorem lc_9_258 : LkS RX9 258 m9_longestBetween := ⟨(wt_4 83 (by decide +kernel) rfl), (wt_4 84 (by decide +kernel) rfl)⟩
set_option maxRecDepth 100000 in
theorem at_9_381 : AtOK RX9 58 381 62 eIA "a mode is 0 to 2" := ⟨by decide +kernel, (wt_3 86 (by decide +kernel) rfl), (wt_1 17 (by decide +kernel) rfl), st_4 55 (by decide +kernel), at_ws AT_eIA_62, at_ot AT_eIA_62⟩
set_option maxRecDepth 100000 in
theorem lc_9_262 : LkS RX9 262 m9_needMode := ⟨(wt_4 52 (by decide +kernel) rfl), (wt_4 53 (by decide +kernel) rfl)⟩
set_option maxRecDepth 100000 in
theorem lf_9_277 : LkF RX9 277 0 4 := ⟨_, _, _, rfl, by decide, Or.inr ⟨"RunFaxes", (nt_1 196 (by decide +kernel) rfl)⟩⟩
set_option maxRecDepth 100000 in
theorem lc_9_280 : LkVN RX9 280 m8_countMarkers := ⟨⟨"RunFaxes", (nt_4 116 (by decide +kernel) rfl)⟩, (wt_4 118 (by decide +kernel) rfl), (ws_i 56 (by decide +kernel) rfl)⟩
set_option maxRecDepth 100000 in
theorem at_9_366 : AtOK RX9 160 366 164 eIO "no page has such a line" := ⟨by decide +kernel, (wt_2 223 (by decide +kernel) rfl), (wt_1 15 (by decide +kernel) rfl), st_3 24 (by decide +kernel), at_ws AT_eIO_164, at_ot AT_eIO_164⟩
set_option maxRecDepth 100000 in
theorem lc_9_283 : LkS RX9 283 m9_needLineOfAnyPage := ⟨(wt_3 21 (by decide +kernel) rfl), (wt_3 22 (by decide +kernel) rfl)⟩
set_option maxRecDepth 100000 in
theorem lc_9_286 : LkVN RX9 286 m6_has := ⟨⟨"RunFaxes", (nt_3 25 (by decide +kernel) rfl)⟩, (wt_3 27 (by decide +kernel) rfl), (ws_i 17 (by decide +kernel) rfl)⟩
set_option maxRecDepth 100000 in
theorem at_9_287 : AtOK RX9 104 287 108 eIS "the line is not received" := ⟨by decide +kernel, (wt_2 19 (by decide +kernel) rfl), (wt_1 16 (by decide +kernel) rfl), st_3 33 (by decide +kernel), at_ws AT_eIS_108, at_ot AT_eIS_108⟩
set_option maxRecDepth 100000 in
theorem lc_9_289 : LkVN RX9 289 m6_rowOf := ⟨⟨"RunFaxes", (nt_3 34 (by decide +kernel) rfl)⟩, (wt_3 36 (by decide +kernel) rfl), (ws_i 18 (by decide +kernel) rfl)⟩
set_option maxRecDepth 100000 in
theorem lc_9_290 : LkVN RX9 290 m6_countAlike := ⟨⟨"RunFaxes", (nt_4 98 (by decide +kernel) rfl)⟩, (wt_4 100 (by decide +kernel) rfl), (ws_i 55 (by decide +kernel) rfl)⟩
set_option maxRecDepth 100000 in
theorem lf_9_294 : LkF RX9 294 6 2 := ⟨_, _, _, rfl, by decide, Or.inr ⟨"RunFaxes", (nt_1 84 (by decide +kernel) rfl)⟩⟩
set_option maxRecDepth 100000 in
theorem lc_9_369 : LkVN RX9 369 m6_hasError := ⟨⟨"RunFaxes", (nt_3 47 (by decide +kernel) rfl)⟩, (wt_3 49 (by decide +kernel) rfl), (ws_i 20 (by decide +kernel) rfl)⟩
set_option maxRecDepth 100000 in
theorem at_9_372 : AtOK RX9 160 372 164 eIO "no such error" := ⟨by decide +kernel, (wt_2 223 (by decide +kernel) rfl), (wt_1 15 (by decide +kernel) rfl), st_3 51 (by decide +kernel), at_ws AT_eIO_164, at_ot AT_eIO_164⟩
set_option maxRecDepth 100000 in
theorem lc_9_297 : LkV RX9 297 m9_needError := ⟨(wt_3 43 (by decide +kernel) rfl), (wt_3 45 (by decide +kernel) rfl), (ws_i 19 (by decide +kernel) rfl)⟩
set_option maxRecDepth 100000 in
theorem lc_9_300 : LkVN RX9 300 m6_placeOf := ⟨⟨"RunFaxes", (nt_3 52 (by decide +kernel) rfl)⟩, (wt_3 54 (by decide +kernel) rfl), (ws_i 21 (by decide +kernel) rfl)⟩
set_option maxRecDepth 100000 in
theorem lc_9_303 : LkVN RX9 303 m6_reasonOf := ⟨⟨"RunFaxes", (nt_3 61 (by decide +kernel) rfl)⟩, (wt_3 63 (by decide +kernel) rfl), (ws_i 22 (by decide +kernel) rfl)⟩
set_option maxRecDepth 100000 in
theorem lf_9_54 : LkF RX9 54 9 7 := ⟨_, _, _, rfl, by decide, Or.inl (wt_1 233 (by decide +kernel) rfl)⟩
set_option maxRecDepth 100000 in
theorem lc_9_306 : LkV RX9 306 m9_wouldSend := ⟨(wt_2 149 (by decide +kernel) rfl), (wt_2 150 (by decide +kernel) rfl), (wt_2 151 (by decide +kernel) rfl)⟩
set_option maxRecDepth 100000 in
theorem lc_L_12 : LkV "RunFaxesLaw" 12 m9_width := ⟨(wt_2 129 (by decide +kernel) rfl), (wt_2 130 (by decide +kernel) rfl), (wt_2 131 (by decide +kernel) rfl)⟩
set_option maxRecDepth 100000 in
theorem lc_L_18 : LkV "RunFaxesLaw" 18 m9_lines := ⟨(wt_2 133 (by decide +kernel) rfl), (wt_2 134 (by decide +kernel) rfl), (wt_2 135 (by decide +kernel) rfl)⟩
set_option maxRecDepth 100000 in
theorem lc_L_21 : LkV "RunFaxesLaw" 21 m9_style := ⟨(wt_2 137 (by decide +kernel) rfl), (wt_2 138 (by decide +kernel) rfl), (wt_2 139 (by decide +kernel) rfl)⟩
set_option maxRecDepth 100000 in
theorem lc_L_24 : LkV "RunFaxesLaw" 24 m9_streamLength := ⟨(wt_2 141 (by decide +kernel) rfl), (wt_2 142 (by decide +kernel) rfl), (wt_2 143 (by decide +kernel) rfl)⟩
set_option maxRecDepth 100000 in
theorem lc_L_27 : LkV "RunFaxesLaw" 27 m9_received := ⟨(wt_2 193 (by decide +kernel) rfl), (wt_2 194 (by decide +kernel) rfl), (wt_2 195 (by decide +kernel) rfl)⟩
set_option maxRecDepth 100000 in
theorem lc_L_30 : LkV "RunFaxesLaw" 30 m9_errors := ⟨(wt_2 207 (by decide +kernel) rfl), (wt_2 208 (by decide +kernel) rfl), (wt_2 209 (by decide +kernel) rfl)⟩
set_option maxRecDepth 100000 in
theorem lc_L_33 : LkV "RunFaxesLaw" 33 m9_pixelsOf := ⟨(wt_2 211 (by decide +kernel) rfl), (wt_2 212 (by decide +kernel) rfl), (wt_2 213 (by decide +kernel) rfl)⟩
set_option maxRecDepth 100000 in
theorem lc_L_37 : LkV "RunFaxesLaw" 37 m9_numberAt := ⟨(wt_3 0 (by decide +kernel) rfl), (wt_3 1 (by decide +kernel) rfl), (wt_3 2 (by decide +kernel) rfl)⟩
set_option maxRecDepth 100000 in
theorem lc_L_41 : LkV "RunFaxesLaw" 41 m9_isReceived := ⟨(wt_3 17 (by decide +kernel) rfl), (wt_3 18 (by decide +kernel) rfl), (wt_3 19 (by decide +kernel) rfl)⟩
set_option maxRecDepth 100000 in
theorem lc_L_45 : LkV "RunFaxesLaw" 45 m9_receivedPixels := ⟨(wt_3 29 (by decide +kernel) rfl), (wt_3 30 (by decide +kernel) rfl), (wt_3 31 (by decide +kernel) rfl)⟩
set_option maxRecDepth 100000 in
theorem lc_L_48 : LkV "RunFaxesLaw" 48 m9_errorPlace := ⟨(wt_3 39 (by decide +kernel) rfl), (wt_3 40 (by decide +kernel) rfl), (wt_3 41 (by decide +kernel) rfl)⟩
set_option maxRecDepth 100000 in
theorem lc_L_51 : LkV "RunFaxesLaw" 51 m9_errorReason := ⟨(wt_3 57 (by decide +kernel) rfl), (wt_3 58 (by decide +kernel) rfl), (wt_3 59 (by decide +kernel) rfl)⟩
set_option maxRecDepth 100000 in
theorem lc_L_54 : LkV "RunFaxesLaw" 54 m9_hasStopped := ⟨(wt_2 11 (by decide +kernel) rfl), (wt_2 12 (by decide +kernel) rfl), (wt_2 13 (by decide +kernel) rfl)⟩
set_option maxRecDepth 100000 in
theorem lc_L_58 : LkV "RunFaxesLaw" 58 m9_stoppedPart := ⟨(wt_3 65 (by decide +kernel) rfl), (wt_3 66 (by decide +kernel) rfl), (wt_3 67 (by decide +kernel) rfl)⟩
set_option maxRecDepth 100000 in
theorem lc_L_63 : LkV "RunFaxesLaw" 63 m9_addLine := ⟨(wt_3 74 (by decide +kernel) rfl), (wt_3 75 (by decide +kernel) rfl), (wt_3 76 (by decide +kernel) rfl)⟩
set_option maxRecDepth 100000 in
theorem lc_L_67 : LkS "RunFaxesLaw" 67 mL_low := ⟨(wt_3 115 (by decide +kernel) rfl), (wt_3 116 (by decide +kernel) rfl)⟩
set_option maxRecDepth 100000 in
theorem lc_L_73 : LkV "RunFaxesLaw" 73 m9_setLine := ⟨(wt_3 119 (by decide +kernel) rfl), (wt_3 120 (by decide +kernel) rfl), (wt_3 121 (by decide +kernel) rfl)⟩
set_option maxRecDepth 100000 in
theorem lc_L_77 : LkV "RunFaxesLaw" 77 m9_dropLast := ⟨(wt_3 127 (by decide +kernel) rfl), (wt_3 128 (by decide +kernel) rfl), (wt_3 129 (by decide +kernel) rfl)⟩
set_option maxRecDepth 100000 in
theorem lc_L_80 : LkV "RunFaxesLaw" 80 m9_setStyle := ⟨(wt_3 136 (by decide +kernel) rfl), (wt_3 137 (by decide +kernel) rfl), (wt_3 138 (by decide +kernel) rfl)⟩
set_option maxRecDepth 100000 in
theorem lc_L_83 : LkV "RunFaxesLaw" 83 m9_setWidth := ⟨(wt_3 141 (by decide +kernel) rfl), (wt_3 142 (by decide +kernel) rfl), (wt_3 143 (by decide +kernel) rfl)⟩
set_option maxRecDepth 100000 in
theorem lc_L_86 : LkV "RunFaxesLaw" 86 m9_send := ⟨(wt_3 158 (by decide +kernel) rfl), (wt_3 159 (by decide +kernel) rfl), (wt_3 160 (by decide +kernel) rfl)⟩
set_option maxRecDepth 100000 in
theorem lc_L_89 : LkV "RunFaxesLaw" 89 m9_replace := ⟨(wt_3 204 (by decide +kernel) rfl), (wt_3 205 (by decide +kernel) rfl), (wt_3 206 (by decide +kernel) rfl)⟩
set_option maxRecDepth 100000 in
theorem lc_L_92 : LkV "RunFaxesLaw" 92 m9_lose := ⟨(wt_3 213 (by decide +kernel) rfl), (wt_3 214 (by decide +kernel) rfl), (wt_3 215 (by decide +kernel) rfl)⟩
set_option maxRecDepth 100000 in
theorem lc_L_95 : LkV "RunFaxesLaw" 95 m9_gain := ⟨(wt_3 223 (by decide +kernel) rfl), (wt_3 224 (by decide +kernel) rfl), (wt_3 225 (by decide +kernel) rfl)⟩
set_option maxRecDepth 100000 in
theorem lc_L_98 : LkV "RunFaxesLaw" 98 m9_receive := ⟨(wt_3 233 (by decide +kernel) rfl), (wt_3 234 (by decide +kernel) rfl), (wt_3 235 (by decide +kernel) rfl)⟩
set_option maxRecDepth 100000 in
theorem lc_L_101 : LkV "RunFaxesLaw" 101 m9_modeOf := ⟨(wt_4 44 (by decide +kernel) rfl), (wt_4 45 (by decide +kernel) rfl), (wt_4 46 (by decide +kernel) rfl)⟩
set_option maxRecDepth 100000 in
theorem lc_L_104 : LkV "RunFaxesLaw" 104 m9_codeLength := ⟨(wt_4 48 (by decide +kernel) rfl), (wt_4 49 (by decide +kernel) rfl), (wt_4 50 (by decide +kernel) rfl)⟩
set_option maxRecDepth 100000 in
theorem lc_L_107 : LkV "RunFaxesLaw" 107 m9_codeLengthByCounting := ⟨(wt_4 56 (by decide +kernel) rfl), (wt_4 57 (by decide +kernel) rfl), (wt_4 58 (by decide +kernel) rfl)⟩
set_option maxRecDepth 100000 in
theorem lc_L_110 : LkV "RunFaxesLaw" 110 m9_checkOf := ⟨(wt_4 60 (by decide +kernel) rfl), (wt_4 61 (by decide +kernel) rfl), (wt_4 62 (by decide +kernel) rfl)⟩
set_option maxRecDepth 100000 in
theorem lc_L_113 : LkV "RunFaxesLaw" 113 m9_isBlack := ⟨(wt_4 64 (by decide +kernel) rfl), (wt_4 65 (by decide +kernel) rfl), (wt_4 66 (by decide +kernel) rfl)⟩
set_option maxRecDepth 100000 in
theorem lc_L_117 : LkV "RunFaxesLaw" 117 m9_runsOf := ⟨(wt_4 69 (by decide +kernel) rfl), (wt_4 70 (by decide +kernel) rfl), (wt_4 71 (by decide +kernel) rfl)⟩
set_option maxRecDepth 100000 in
theorem lc_L_120 : LkV "RunFaxesLaw" 120 m9_longestRun := ⟨(wt_4 79 (by decide +kernel) rfl), (wt_4 80 (by decide +kernel) rfl), (wt_4 81 (by decide +kernel) rfl)⟩
set_option maxRecDepth 100000 in
theorem lc_L_123 : LkV "RunFaxesLaw" 123 m9_wouldSend := ⟨(wt_4 89 (by decide +kernel) rfl), (wt_2 150 (by decide +kernel) rfl), (wt_2 151 (by decide +kernel) rfl)⟩
set_option maxRecDepth 100000 in
theorem lc_L_126 : LkV "RunFaxesLaw" 126 m9_blackPixels := ⟨(wt_4 90 (by decide +kernel) rfl), (wt_4 91 (by decide +kernel) rfl), (wt_4 92 (by decide +kernel) rfl)⟩
set_option maxRecDepth 100000 in
theorem lc_L_129 : LkV "RunFaxesLaw" 129 m9_right := ⟨(wt_4 94 (by decide +kernel) rfl), (wt_4 95 (by decide +kernel) rfl), (wt_4 96 (by decide +kernel) rfl)⟩
set_option maxRecDepth 100000 in
theorem lc_L_132 : LkV "RunFaxesLaw" 132 m9_wouldBeRight := ⟨(wt_4 104 (by decide +kernel) rfl), (wt_4 105 (by decide +kernel) rfl), (wt_4 106 (by decide +kernel) rfl)⟩
set_option maxRecDepth 100000 in
theorem lc_L_135 : LkV "RunFaxesLaw" 135 m9_wouldReceive := ⟨(wt_4 108 (by decide +kernel) rfl), (wt_4 109 (by decide +kernel) rfl), (wt_4 110 (by decide +kernel) rfl)⟩
set_option maxRecDepth 100000 in
theorem lc_L_138 : LkV "RunFaxesLaw" 138 m9_codedShare := ⟨(wt_2 145 (by decide +kernel) rfl), (wt_2 146 (by decide +kernel) rfl), (wt_2 147 (by decide +kernel) rfl)⟩
set_option maxRecDepth 100000 in
theorem lc_L_142 : LkV "RunFaxesLaw" 142 m9_markers := ⟨(wt_4 112 (by decide +kernel) rfl), (wt_4 113 (by decide +kernel) rfl), (wt_4 114 (by decide +kernel) rfl)⟩
set_option maxRecDepth 100000 in
theorem lc_L_145 : LkS "RunFaxesLaw" 145 mL_told := ⟨(wt_2 188 (by decide +kernel) rfl), (wt_2 189 (by decide +kernel) rfl)⟩
set_option maxRecDepth 100000 in
theorem lc_L_149 : LkV "RunFaxesLaw" 149 m9_undo := ⟨(wt_2 15 (by decide +kernel) rfl), (wt_2 16 (by decide +kernel) rfl), (wt_2 17 (by decide +kernel) rfl)⟩

def kZ : MI := (⟨"", "", ""⟩, ⟨#[]⟩, 0, none, ⟨0, 0, 0, 0⟩, [])
def kX (E t : String) : MI := (⟨E, t, ""⟩, ⟨#[]⟩, 0, none, ⟨0, 0, 0, 0⟩, [])
set_option maxRecDepth 100000 in
def atB (own : String) (ic : Nat) (E : String) (ik : Nat) : Bool := (vx_atS own ic E exN).all (fun w => decide (w ∈ lw_tbl) && (goodWord w || nsb w)) && (Jvm.Cond.classLink own ik E :: Jvm.Cond.initialized E :: vx_atS own ic E exN).all vx_ot
set_option maxRecDepth 100000 in
theorem at_ws {own E : String} {ic ik : Nat} (h : atB own ic E ik = true) : ∀ w ∈ vx_atS own ic E exN, w ∈ WS ∨ w ∈ NS := fun w hw => by
  simp only [atB, Bool.and_eq_true] at h
  have := List.all_eq_true.mp h.1 w hw
  simp only [Bool.and_eq_true, Bool.or_eq_true, decide_eq_true_eq] at this
  exact this.2.elim (fun g => Or.inl (List.mem_filter.mpr ⟨this.1, g⟩)) (fun g => Or.inr (List.mem_filter.mpr ⟨this.1, g⟩))
theorem at_ot {own E : String} {ic ik : Nat} (h : atB own ic E ik = true) : ∀ w ∈ Jvm.Cond.classLink own ik E :: Jvm.Cond.initialized E :: vx_atS own ic E exN, vx_ot w = true := fun w hw => by
  simp only [atB, Bool.and_eq_true] at h
  exact List.all_eq_true.mp h.2 w hw
set_option maxRecDepth 100000 in
theorem AT_eIA_62 : atB RX9 62 eIA 58 = true := by decide +kernel
set_option maxRecDepth 100000 in
theorem AT_eIS_108 : atB RX9 108 eIS 104 = true := by decide +kernel
set_option maxRecDepth 100000 in
theorem AT_eIO_164 : atB RX9 164 eIO 160 = true := by decide +kernel
def m0_init : MI := (⟨RX0, "<init>", "()V"⟩, prog_2_method_1_code, 1, none, ⟨1, 2, 104, 32⟩, [])
set_option maxRecDepth 100000 in
theorem mok_m0_init : MOK m0_init 0 := ⟨(wt_1 196 (by decide +kernel) rfl), (wt_1 9 (by decide +kernel) rfl), ⟨by decide +kernel, by decide +kernel⟩, by decide +kernel⟩
def m0_addToKernel : MI := (⟨RX0, "addToKernel", "(I)V"⟩, prog_2_method_4_code, 2, none, ⟨1, 0, 0, 32⟩, [])
set_option maxRecDepth 100000 in
theorem mok_m0_addToKernel : MOK m0_addToKernel 1 := ⟨(wt_2 115 (by decide +kernel) rfl), (wt_1 9 (by decide +kernel) rfl), ⟨by decide +kernel, by decide +kernel⟩, by decide +kernel⟩
def m9_blackAt : MI := (⟨RX9, "blackAt", "(JI)Z"⟩, prog_1_method_64_code, 3, (some .boolean), ⟨1, 0, 0, 32⟩, [])
set_option maxRecDepth 100000 in
theorem mok_m9_blackAt : MOK m9_blackAt 2 := ⟨(wt_2 98 (by decide +kernel) rfl), (wt_1 1 (by decide +kernel) rfl), ⟨by decide +kernel, by decide +kernel⟩, by decide +kernel⟩
def m0_kernelByFours : MI := (⟨RX0, "kernelByFours", "(JI)V"⟩, prog_2_method_5_code, 7, none, ⟨2, 0, 0, 54⟩, [])
set_option maxRecDepth 100000 in
theorem mok_m0_kernelByFours : MOK m0_kernelByFours 2 := ⟨(wt_2 110 (by decide +kernel) rfl), (wt_1 9 (by decide +kernel) rfl), ⟨by decide +kernel, by decide +kernel⟩, by decide +kernel⟩
def m0_addRun : MI := (⟨RX0, "addRun", "(I)V"⟩, prog_2_method_7_code, 2, none, ⟨2, 0, 0, 53⟩, [])
set_option maxRecDepth 100000 in
theorem mok_m0_addRun : MOK m0_addRun 1 := ⟨(wt_2 123 (by decide +kernel) rfl), (wt_1 9 (by decide +kernel) rfl), ⟨by decide +kernel, by decide +kernel⟩, by decide +kernel⟩
def m0_kernelByRuns : MI := (⟨RX0, "kernelByRuns", "(JI)V"⟩, prog_2_method_6_code, 7, none, ⟨3, 0, 0, 74⟩, [])
set_option maxRecDepth 100000 in
theorem mok_m0_kernelByRuns : MOK m0_kernelByRuns 2 := ⟨(wt_2 119 (by decide +kernel) rfl), (wt_1 9 (by decide +kernel) rfl), ⟨by decide +kernel, by decide +kernel⟩, by decide +kernel⟩
def m0_put : MI := (⟨RX0, "put", "(I)V"⟩, prog_2_method_3_code, 2, none, ⟨1, 0, 0, 32⟩, [])
set_option maxRecDepth 100000 in
theorem mok_m0_put : MOK m0_put 1 := ⟨(wt_2 127 (by decide +kernel) rfl), (wt_1 9 (by decide +kernel) rfl), ⟨by decide +kernel, by decide +kernel⟩, by decide +kernel⟩
def m2_rowOf : MI := (⟨RX2, "rowOf", "(I)J"⟩, prog_4_method_6_code, 2, (some .long), ⟨1, 0, 0, 32⟩, [])
set_option maxRecDepth 100000 in
theorem mok_m2_rowOf : MOK m2_rowOf 1 := ⟨(wt_2 85 (by decide +kernel) rfl), (wt_1 3 (by decide +kernel) rfl), ⟨by decide +kernel, by decide +kernel⟩, by decide +kernel⟩
def m2_toCode : MI := (⟨RX2, "toCode", "(II)J"⟩, prog_4_method_10_code, 3, (some .long), ⟨2, 0, 0, 53⟩, [])
set_option maxRecDepth 100000 in
theorem mok_m2_toCode : MOK m2_toCode 2 := ⟨(wt_2 81 (by decide +kernel) rfl), (wt_1 3 (by decide +kernel) rfl), ⟨by decide +kernel, by decide +kernel⟩, by decide +kernel⟩
def m0_write : MI := (⟨RX0, "write", "(LRunFaxes$Page;II)V"⟩, prog_2_method_2_code, 8, none, ⟨4, 0, 0, 100⟩, [])
set_option maxRecDepth 100000 in
theorem mok_m0_write : MOK m0_write 3 := ⟨(wt_2 105 (by decide +kernel) rfl), (wt_1 9 (by decide +kernel) rfl), ⟨by decide +kernel, by decide +kernel⟩, by decide +kernel⟩
def m2_init : MI := (⟨RX2, "<init>", "()V"⟩, prog_4_method_1_code, 1, none, ⟨1, 1, 10, 32⟩, [])
set_option maxRecDepth 100000 in
theorem mok_m2_init : MOK m2_init 0 := ⟨(wt_1 41 (by decide +kernel) rfl), (wt_1 3 (by decide +kernel) rfl), ⟨by decide +kernel, by decide +kernel⟩, by decide +kernel⟩
def m6_init : MI := (⟨RX6, "<init>", "()V"⟩, prog_8_method_1_code, 1, none, ⟨1, 3, 50, 32⟩, [])
set_option maxRecDepth 100000 in
theorem mok_m6_init : MOK m6_init 0 := ⟨(wt_1 81 (by decide +kernel) rfl), (wt_1 5 (by decide +kernel) rfl), ⟨by decide +kernel, by decide +kernel⟩, by decide +kernel⟩
def m8_init : MI := (⟨RX8, "<init>", "()V"⟩, prog_10_method_1_code, 1, none, ⟨1, 1, 500, 32⟩, [])
set_option maxRecDepth 100000 in
theorem mok_m8_init : MOK m8_init 0 := ⟨(wt_1 66 (by decide +kernel) rfl), (wt_1 4 (by decide +kernel) rfl), ⟨by decide +kernel, by decide +kernel⟩, by decide +kernel⟩
def m7_init : MI := (⟨RX7, "<init>", "()V"⟩, prog_9_method_1_code, 1, none, ⟨2, 8, 571, 52⟩, [])
set_option maxRecDepth 100000 in
theorem mok_m7_init : MOK m7_init 0 := ⟨(wt_1 35 (by decide +kernel) rfl), (wt_1 2 (by decide +kernel) rfl), ⟨by decide +kernel, by decide +kernel⟩, by decide +kernel⟩
def m1_init : MI := (⟨RX1, "<init>", "()V"⟩, prog_3_method_1_code, 2, none, ⟨3, 46, 2885, 72⟩, [])
set_option maxRecDepth 100000 in
theorem mok_m1_init : MOK m1_init 0 := ⟨(wt_1 125 (by decide +kernel) rfl), (wt_1 6 (by decide +kernel) rfl), ⟨by decide +kernel, by decide +kernel⟩, by decide +kernel⟩
def m1_slot : MI := (⟨RX1, "slot", "(I)LRunFaxes$State;"⟩, prog_3_method_2_code, 3, (some (.object RX7)), ⟨1, 0, 0, 32⟩, [])
set_option maxRecDepth 100000 in
theorem mok_m1_slot : MOK m1_slot 1 := ⟨(wt_2 31 (by decide +kernel) rfl), (wt_1 6 (by decide +kernel) rfl), ⟨by decide +kernel, by decide +kernel⟩, by decide +kernel⟩
def m9_copyLongs : MI := (⟨RX9, "copyLongs", "([J[J)V"⟩, prog_1_method_72_code, 2, none, ⟨1, 0, 0, 32⟩, [])
set_option maxRecDepth 100000 in
theorem mok_m9_copyLongs : MOK m9_copyLongs 2 := ⟨(wt_2 42 (by decide +kernel) rfl), (wt_1 1 (by decide +kernel) rfl), ⟨by decide +kernel, by decide +kernel⟩, by decide +kernel⟩
def m2_copyFrom : MI := (⟨RX2, "copyFrom", "(LRunFaxes$Page;)V"⟩, prog_4_method_11_code, 2, none, ⟨2, 0, 0, 53⟩, [])
set_option maxRecDepth 100000 in
theorem mok_m2_copyFrom : MOK m2_copyFrom 1 := ⟨(wt_2 39 (by decide +kernel) rfl), (wt_1 3 (by decide +kernel) rfl), ⟨by decide +kernel, by decide +kernel⟩, by decide +kernel⟩
def m9_copyInts : MI := (⟨RX9, "copyInts", "([I[I)V"⟩, prog_1_method_71_code, 2, none, ⟨1, 0, 0, 32⟩, [])
set_option maxRecDepth 100000 in
theorem mok_m9_copyInts : MOK m9_copyInts 2 := ⟨(wt_2 55 (by decide +kernel) rfl), (wt_1 1 (by decide +kernel) rfl), ⟨by decide +kernel, by decide +kernel⟩, by decide +kernel⟩
def m6_copyFrom : MI := (⟨RX6, "copyFrom", "(LRunFaxes$Reception;)V"⟩, prog_8_method_12_code, 2, none, ⟨2, 0, 0, 53⟩, [])
set_option maxRecDepth 100000 in
theorem mok_m6_copyFrom : MOK m6_copyFrom 1 := ⟨(wt_2 59 (by decide +kernel) rfl), (wt_1 5 (by decide +kernel) rfl), ⟨by decide +kernel, by decide +kernel⟩, by decide +kernel⟩
def m8_copyFrom : MI := (⟨RX8, "copyFrom", "(LRunFaxes$Stream;)V"⟩, prog_10_method_13_code, 2, none, ⟨2, 0, 0, 53⟩, [])
set_option maxRecDepth 100000 in
theorem mok_m8_copyFrom : MOK m8_copyFrom 1 := ⟨(wt_2 52 (by decide +kernel) rfl), (wt_1 4 (by decide +kernel) rfl), ⟨by decide +kernel, by decide +kernel⟩, by decide +kernel⟩
def m7_copyFrom : MI := (⟨RX7, "copyFrom", "(LRunFaxes$State;)V"⟩, prog_9_method_2_code, 2, none, ⟨3, 0, 0, 74⟩, [])
set_option maxRecDepth 100000 in
theorem mok_m7_copyFrom : MOK m7_copyFrom 1 := ⟨(wt_2 35 (by decide +kernel) rfl), (wt_1 2 (by decide +kernel) rfl), ⟨by decide +kernel, by decide +kernel⟩, by decide +kernel⟩
def m1_push : MI := (⟨RX1, "push", "(LRunFaxes$State;)V"⟩, prog_3_method_3_code, 3, none, ⟨4, 0, 0, 95⟩, [])
set_option maxRecDepth 100000 in
theorem mok_m1_push : MOK m1_push 1 := ⟨(wt_2 27 (by decide +kernel) rfl), (wt_1 6 (by decide +kernel) rfl), ⟨by decide +kernel, by decide +kernel⟩, by decide +kernel⟩
def m1_popInto : MI := (⟨RX1, "popInto", "(LRunFaxes$State;)V"⟩, prog_3_method_4_code, 3, none, ⟨4, 0, 0, 95⟩, [])
set_option maxRecDepth 100000 in
theorem mok_m1_popInto : MOK m1_popInto 1 := ⟨(wt_4 210 (by decide +kernel) rfl), (wt_1 6 (by decide +kernel) rfl), ⟨by decide +kernel, by decide +kernel⟩, by decide +kernel⟩
def m2_emptyWith : MI := (⟨RX2, "emptyWith", "(I)V"⟩, prog_4_method_2_code, 2, none, ⟨1, 0, 0, 32⟩, [])
set_option maxRecDepth 100000 in
theorem mok_m2_emptyWith : MOK m2_emptyWith 1 := ⟨(wt_4 5 (by decide +kernel) rfl), (wt_1 3 (by decide +kernel) rfl), ⟨by decide +kernel, by decide +kernel⟩, by decide +kernel⟩
def m2_has : MI := (⟨RX2, "has", "(I)Z"⟩, prog_4_method_3_code, 2, (some .boolean), ⟨1, 0, 0, 32⟩, [])
set_option maxRecDepth 100000 in
theorem mok_m2_has : MOK m2_has 1 := ⟨(wt_4 63 (by decide +kernel) rfl), (wt_1 3 (by decide +kernel) rfl), ⟨by decide +kernel, by decide +kernel⟩, by decide +kernel⟩
def m2_isFull : MI := (⟨RX2, "isFull", "()Z"⟩, prog_4_method_4_code, 1, (some .boolean), ⟨1, 0, 0, 32⟩, [])
set_option maxRecDepth 100000 in
theorem mok_m2_isFull : MOK m2_isFull 0 := ⟨(wt_4 27 (by decide +kernel) rfl), (wt_1 3 (by decide +kernel) rfl), ⟨by decide +kernel, by decide +kernel⟩, by decide +kernel⟩
def m2_fits : MI := (⟨RX2, "fits", "(J)Z"⟩, prog_4_method_5_code, 3, (some .boolean), ⟨1, 0, 0, 32⟩, [])
set_option maxRecDepth 100000 in
theorem mok_m2_fits : MOK m2_fits 1 := ⟨(wt_4 22 (by decide +kernel) rfl), (wt_1 3 (by decide +kernel) rfl), ⟨by decide +kernel, by decide +kernel⟩, by decide +kernel⟩
def m2_putRow : MI := (⟨RX2, "putRow", "(IJ)V"⟩, prog_4_method_7_code, 4, none, ⟨1, 0, 0, 32⟩, [])
set_option maxRecDepth 100000 in
theorem mok_m2_putRow : MOK m2_putRow 2 := ⟨(wt_4 83 (by decide +kernel) rfl), (wt_1 3 (by decide +kernel) rfl), ⟨by decide +kernel, by decide +kernel⟩, by decide +kernel⟩
def m2_addRow : MI := (⟨RX2, "addRow", "(J)Z"⟩, prog_4_method_8_code, 3, (some .boolean), ⟨1, 0, 0, 32⟩, [])
set_option maxRecDepth 100000 in
theorem mok_m2_addRow : MOK m2_addRow 1 := ⟨(wt_4 47 (by decide +kernel) rfl), (wt_1 3 (by decide +kernel) rfl), ⟨by decide +kernel, by decide +kernel⟩, by decide +kernel⟩
def m2_dropRow : MI := (⟨RX2, "dropRow", "()Z"⟩, prog_4_method_9_code, 1, (some .boolean), ⟨1, 0, 0, 32⟩, [])
set_option maxRecDepth 100000 in
theorem mok_m2_dropRow : MOK m2_dropRow 0 := ⟨(wt_4 95 (by decide +kernel) rfl), (wt_1 3 (by decide +kernel) rfl), ⟨by decide +kernel, by decide +kernel⟩, by decide +kernel⟩
def m4_init : MI := (⟨RX4, "<init>", "()V"⟩, prog_6_method_1_code, 1, none, ⟨1, 0, 0, 32⟩, [])
set_option maxRecDepth 100000 in
theorem mok_m4_init : MOK m4_init 0 := ⟨(wt_1 151 (by decide +kernel) rfl), (wt_1 8 (by decide +kernel) rfl), ⟨by decide +kernel, by decide +kernel⟩, by decide +kernel⟩
def m3_init : MI := (⟨RX3, "<init>", "()V"⟩, prog_5_method_1_code, 1, none, ⟨2, 2, 67, 52⟩, [])
set_option maxRecDepth 100000 in
theorem mok_m3_init : MOK m3_init 0 := ⟨(wt_1 145 (by decide +kernel) rfl), (wt_1 7 (by decide +kernel) rfl), ⟨by decide +kernel, by decide +kernel⟩, by decide +kernel⟩
def m3_isFull : MI := (⟨RX3, "isFull", "()Z"⟩, prog_5_method_2_code, 1, (some .boolean), ⟨1, 0, 0, 32⟩, [])
set_option maxRecDepth 100000 in
theorem mok_m3_isFull : MOK m3_isFull 0 := ⟨(wt_4 161 (by decide +kernel) rfl), (wt_1 7 (by decide +kernel) rfl), ⟨by decide +kernel, by decide +kernel⟩, by decide +kernel⟩
def m3_add : MI := (⟨RX3, "add", "(I)V"⟩, prog_5_method_3_code, 2, none, ⟨1, 0, 0, 32⟩, [])
set_option maxRecDepth 100000 in
theorem mok_m3_add : MOK m3_add 1 := ⟨(wt_4 166 (by decide +kernel) rfl), (wt_1 7 (by decide +kernel) rfl), ⟨by decide +kernel, by decide +kernel⟩, by decide +kernel⟩
def m3_empty : MI := (⟨RX3, "empty", "()V"⟩, prog_5_method_4_code, 1, none, ⟨1, 0, 0, 32⟩, [])
set_option maxRecDepth 100000 in
theorem mok_m3_empty : MOK m3_empty 0 := ⟨(wt_2 219 (by decide +kernel) rfl), (wt_1 7 (by decide +kernel) rfl), ⟨by decide +kernel, by decide +kernel⟩, by decide +kernel⟩
def m3_codeAt : MI := (⟨RX3, "codeAt", "(I)I"⟩, prog_5_method_5_code, 2, (some .int), ⟨1, 0, 0, 32⟩, [])
set_option maxRecDepth 100000 in
theorem mok_m3_codeAt : MOK m3_codeAt 1 := ⟨(wt_2 235 (by decide +kernel) rfl), (wt_1 7 (by decide +kernel) rfl), ⟨by decide +kernel, by decide +kernel⟩, by decide +kernel⟩
def m4_addPixel : MI := (⟨RX4, "addPixel", "(I)Z"⟩, prog_6_method_6_code, 2, (some .boolean), ⟨1, 0, 0, 32⟩, [])
set_option maxRecDepth 100000 in
theorem mok_m4_addPixel : MOK m4_addPixel 1 := ⟨(wt_3 12 (by decide +kernel) rfl), (wt_1 8 (by decide +kernel) rfl), ⟨by decide +kernel, by decide +kernel⟩, by decide +kernel⟩
def m4_isDigitBehind : MI := (⟨RX4, "isDigitBehind", "(III)Z"⟩, prog_6_method_9_code, 5, (some .boolean), ⟨1, 0, 0, 32⟩, [])
set_option maxRecDepth 100000 in
theorem mok_m4_isDigitBehind : MOK m4_isDigitBehind 3 := ⟨(wt_3 20 (by decide +kernel) rfl), (wt_1 8 (by decide +kernel) rfl), ⟨by decide +kernel, by decide +kernel⟩, by decide +kernel⟩
def m4_addToNumber : MI := (⟨RX4, "addToNumber", "(I)Z"⟩, prog_6_method_8_code, 2, (some .boolean), ⟨2, 0, 0, 56⟩, [])
set_option maxRecDepth 100000 in
theorem mok_m4_addToNumber : MOK m4_addToNumber 1 := ⟨(wt_3 24 (by decide +kernel) rfl), (wt_1 8 (by decide +kernel) rfl), ⟨by decide +kernel, by decide +kernel⟩, by decide +kernel⟩
def m4_addToPlace : MI := (⟨RX4, "addToPlace", "(I)Z"⟩, prog_6_method_7_code, 2, (some .boolean), ⟨2, 0, 0, 56⟩, [])
set_option maxRecDepth 100000 in
theorem mok_m4_addToPlace : MOK m4_addToPlace 1 := ⟨(wt_3 16 (by decide +kernel) rfl), (wt_1 8 (by decide +kernel) rfl), ⟨by decide +kernel, by decide +kernel⟩, by decide +kernel⟩
def m4_begin : MI := (⟨RX4, "begin", "(I)Z"⟩, prog_6_method_5_code, 2, (some .boolean), ⟨1, 0, 0, 32⟩, [])
set_option maxRecDepth 100000 in
theorem mok_m4_begin : MOK m4_begin 1 := ⟨(wt_3 8 (by decide +kernel) rfl), (wt_1 8 (by decide +kernel) rfl), ⟨by decide +kernel, by decide +kernel⟩, by decide +kernel⟩
def m4_isComplete : MI := (⟨RX4, "isComplete", "()Z"⟩, prog_6_method_3_code, 1, (some .boolean), ⟨1, 0, 0, 32⟩, [])
set_option maxRecDepth 100000 in
theorem mok_m4_isComplete : MOK m4_isComplete 0 := ⟨(wt_3 3 (by decide +kernel) rfl), (wt_1 8 (by decide +kernel) rfl), ⟨by decide +kernel, by decide +kernel⟩, by decide +kernel⟩
def m4_restart : MI := (⟨RX4, "restart", "()V"⟩, prog_6_method_2_code, 1, none, ⟨1, 0, 0, 32⟩, [])
set_option maxRecDepth 100000 in
theorem mok_m4_restart : MOK m4_restart 0 := ⟨(wt_2 231 (by decide +kernel) rfl), (wt_1 8 (by decide +kernel) rfl), ⟨by decide +kernel, by decide +kernel⟩, by decide +kernel⟩
def m4_accept : MI := (⟨RX4, "accept", "(I)Z"⟩, prog_6_method_4_code, 3, (some .boolean), ⟨3, 0, 0, 77⟩, [])
set_option maxRecDepth 100000 in
theorem mok_m4_accept : MOK m4_accept 1 := ⟨(wt_2 239 (by decide +kernel) rfl), (wt_1 8 (by decide +kernel) rfl), ⟨by decide +kernel, by decide +kernel⟩, by decide +kernel⟩
def m3_firstWrong : MI := (⟨RX3, "firstWrong", "()I"⟩, prog_5_method_6_code, 2, (some .int), ⟨4, 0, 0, 99⟩, [])
set_option maxRecDepth 100000 in
theorem mok_m3_firstWrong : MOK m3_firstWrong 0 := ⟨(wt_2 227 (by decide +kernel) rfl), (wt_1 7 (by decide +kernel) rfl), ⟨by decide +kernel, by decide +kernel⟩, by decide +kernel⟩
def m3_isComplete : MI := (⟨RX3, "isComplete", "()Z"⟩, prog_5_method_7_code, 1, (some .boolean), ⟨5, 0, 0, 120⟩, [])
set_option maxRecDepth 100000 in
theorem mok_m3_isComplete : MOK m3_isComplete 0 := ⟨(wt_4 177 (by decide +kernel) rfl), (wt_1 7 (by decide +kernel) rfl), ⟨by decide +kernel, by decide +kernel⟩, by decide +kernel⟩
def m3_endsPart : MI := (⟨RX3, "endsPart", "(I)Z"⟩, prog_5_method_8_code, 2, (some .boolean), ⟨2, 0, 0, 53⟩, [])
set_option maxRecDepth 100000 in
theorem mok_m3_endsPart : MOK m3_endsPart 1 := ⟨(wt_4 186 (by decide +kernel) rfl), (wt_1 7 (by decide +kernel) rfl), ⟨by decide +kernel, by decide +kernel⟩, by decide +kernel⟩
def m5_init : MI := (⟨RX5, "<init>", "()V"⟩, prog_7_method_1_code, 1, none, ⟨1, 0, 0, 32⟩, [])
set_option maxRecDepth 100000 in
theorem mok_m5_init : MOK m5_init 0 := ⟨(wt_1 221 (by decide +kernel) rfl), (wt_1 10 (by decide +kernel) rfl), ⟨by decide +kernel, by decide +kernel⟩, by decide +kernel⟩
def m8_at : MI := (⟨RX8, "at", "(I)I"⟩, prog_10_method_5_code, 2, (some .int), ⟨1, 0, 0, 32⟩, [])
set_option maxRecDepth 100000 in
theorem mok_m8_at : MOK m8_at 1 := ⟨(wt_2 163 (by decide +kernel) rfl), (wt_1 4 (by decide +kernel) rfl), ⟨by decide +kernel, by decide +kernel⟩, by decide +kernel⟩
def m5_next : MI := (⟨RX5, "next", "(LRunFaxes$Stream;)I"⟩, prog_7_method_4_code, 3, (some .int), ⟨2, 0, 0, 53⟩, [])
set_option maxRecDepth 100000 in
theorem mok_m5_next : MOK m5_next 1 := ⟨(wt_2 171 (by decide +kernel) rfl), (wt_1 10 (by decide +kernel) rfl), ⟨by decide +kernel, by decide +kernel⟩, by decide +kernel⟩
def m5_nextOfKernel : MI := (⟨RX5, "nextOfKernel", "(LRunFaxes$Stream;)I"⟩, prog_7_method_5_code, 4, (some .int), ⟨3, 0, 0, 75⟩, [])
set_option maxRecDepth 100000 in
theorem mok_m5_nextOfKernel : MOK m5_nextOfKernel 1 := ⟨(wt_2 184 (by decide +kernel) rfl), (wt_1 10 (by decide +kernel) rfl), ⟨by decide +kernel, by decide +kernel⟩, by decide +kernel⟩
def m5_pixelsByFours : MI := (⟨RX5, "pixelsByFours", "(LRunFaxes$Stream;I)J"⟩, prog_7_method_6_code, 9, (some .long), ⟨4, 0, 0, 98⟩, [])
set_option maxRecDepth 100000 in
theorem mok_m5_pixelsByFours : MOK m5_pixelsByFours 2 := ⟨(wt_2 180 (by decide +kernel) rfl), (wt_1 10 (by decide +kernel) rfl), ⟨by decide +kernel, by decide +kernel⟩, by decide +kernel⟩
def m5_pixelsByRuns : MI := (⟨RX5, "pixelsByRuns", "(LRunFaxes$Stream;I)J"⟩, prog_7_method_7_code, 11, (some .long), ⟨4, 0, 0, 98⟩, [])
set_option maxRecDepth 100000 in
theorem mok_m5_pixelsByRuns : MOK m5_pixelsByRuns 2 := ⟨(wt_2 188 (by decide +kernel) rfl), (wt_1 10 (by decide +kernel) rfl), ⟨by decide +kernel, by decide +kernel⟩, by decide +kernel⟩
def m6_has : MI := (⟨RX6, "has", "(I)Z"⟩, prog_8_method_3_code, 2, (some .boolean), ⟨1, 0, 0, 32⟩, [])
set_option maxRecDepth 100000 in
theorem mok_m6_has : MOK m6_has 1 := ⟨(wt_2 176 (by decide +kernel) rfl), (wt_1 5 (by decide +kernel) rfl), ⟨by decide +kernel, by decide +kernel⟩, by decide +kernel⟩
def m6_rowOf : MI := (⟨RX6, "rowOf", "(I)J"⟩, prog_8_method_4_code, 2, (some .long), ⟨2, 0, 0, 53⟩, [])
set_option maxRecDepth 100000 in
theorem mok_m6_rowOf : MOK m6_rowOf 1 := ⟨(wt_2 192 (by decide +kernel) rfl), (wt_1 5 (by decide +kernel) rfl), ⟨by decide +kernel, by decide +kernel⟩, by decide +kernel⟩
def m6_take : MI := (⟨RX6, "take", "(IJ)V"⟩, prog_8_method_5_code, 4, none, ⟨1, 0, 0, 32⟩, [])
set_option maxRecDepth 100000 in
theorem mok_m6_take : MOK m6_take 2 := ⟨(wt_2 197 (by decide +kernel) rfl), (wt_1 5 (by decide +kernel) rfl), ⟨by decide +kernel, by decide +kernel⟩, by decide +kernel⟩
def m5_readCode : MI := (⟨RX5, "readCode", "(LRunFaxes$Stream;ILRunFaxes$Reception;)V"⟩, prog_7_method_3_code, 9, none, ⟨5, 0, 0, 128⟩, [])
set_option maxRecDepth 100000 in
theorem mok_m5_readCode : MOK m5_readCode 3 := ⟨(wt_2 167 (by decide +kernel) rfl), (wt_1 10 (by decide +kernel) rfl), ⟨by decide +kernel, by decide +kernel⟩, by decide +kernel⟩
def m6_empty : MI := (⟨RX6, "empty", "()V"⟩, prog_8_method_2_code, 1, none, ⟨1, 0, 0, 32⟩, [])
set_option maxRecDepth 100000 in
theorem mok_m6_empty : MOK m6_empty 0 := ⟨(wt_2 151 (by decide +kernel) rfl), (wt_1 5 (by decide +kernel) rfl), ⟨by decide +kernel, by decide +kernel⟩, by decide +kernel⟩
def m6_note : MI := (⟨RX6, "note", "(II)V"⟩, prog_8_method_8_code, 3, none, ⟨1, 0, 0, 32⟩, [])
set_option maxRecDepth 100000 in
theorem mok_m6_note : MOK m6_note 2 := ⟨(wt_2 201 (by decide +kernel) rfl), (wt_1 5 (by decide +kernel) rfl), ⟨by decide +kernel, by decide +kernel⟩, by decide +kernel⟩
def m8_isMarker : MI := (⟨RX8, "isMarker", "(I)Z"⟩, prog_10_method_10_code, 2, (some .boolean), ⟨2, 0, 0, 53⟩, [])
set_option maxRecDepth 100000 in
theorem mok_m8_isMarker : MOK m8_isMarker 1 := ⟨(wt_2 159 (by decide +kernel) rfl), (wt_1 4 (by decide +kernel) rfl), ⟨by decide +kernel, by decide +kernel⟩, by decide +kernel⟩
def m8_markerFrom : MI := (⟨RX8, "markerFrom", "(I)I"⟩, prog_10_method_11_code, 3, (some .int), ⟨3, 0, 0, 74⟩, [])
set_option maxRecDepth 100000 in
theorem mok_m8_markerFrom : MOK m8_markerFrom 1 := ⟨(wt_2 155 (by decide +kernel) rfl), (wt_1 4 (by decide +kernel) rfl), ⟨by decide +kernel, by decide +kernel⟩, by decide +kernel⟩
def m5_readAll : MI := (⟨RX5, "readAll", "(LRunFaxes$Stream;ILRunFaxes$Reception;)V"⟩, prog_7_method_2_code, 6, none, ⟨6, 0, 0, 156⟩, [])
set_option maxRecDepth 100000 in
theorem mok_m5_readAll : MOK m5_readAll 3 := ⟨(wt_2 147 (by decide +kernel) rfl), (wt_1 10 (by decide +kernel) rfl), ⟨by decide +kernel, by decide +kernel⟩, by decide +kernel⟩
def mJ6_bitCount : MI := (⟨"java/lang/Integer", "bitCount", "(I)I"⟩, prog_18_method_49_code, 1, (some .int), ⟨1, 0, 0, 32⟩, [])
set_option maxRecDepth 100000 in
theorem mok_mJ6_bitCount : MOK mJ6_bitCount 1 := ⟨(wt_2 208 (by decide +kernel) rfl), (wt_1 20 (by decide +kernel) rfl), ⟨by decide +kernel, by decide +kernel⟩, by decide +kernel⟩
def m6_count : MI := (⟨RX6, "count", "()I"⟩, prog_8_method_6_code, 1, (some .int), ⟨2, 0, 0, 52⟩, [])
set_option maxRecDepth 100000 in
theorem mok_m6_count : MOK m6_count 0 := ⟨(wt_2 205 (by decide +kernel) rfl), (wt_1 5 (by decide +kernel) rfl), ⟨by decide +kernel, by decide +kernel⟩, by decide +kernel⟩
def m6_countAlike : MI := (⟨RX6, "countAlike", "(LRunFaxes$Page;)I"⟩, prog_8_method_7_code, 4, (some .int), ⟨3, 0, 0, 74⟩, [])
set_option maxRecDepth 100000 in
theorem mok_m6_countAlike : MOK m6_countAlike 1 := ⟨(wt_3 88 (by decide +kernel) rfl), (wt_1 5 (by decide +kernel) rfl), ⟨by decide +kernel, by decide +kernel⟩, by decide +kernel⟩
def m6_hasError : MI := (⟨RX6, "hasError", "(I)Z"⟩, prog_8_method_9_code, 2, (some .boolean), ⟨1, 0, 0, 32⟩, [])
set_option maxRecDepth 100000 in
theorem mok_m6_hasError : MOK m6_hasError 1 := ⟨(wt_3 153 (by decide +kernel) rfl), (wt_1 5 (by decide +kernel) rfl), ⟨by decide +kernel, by decide +kernel⟩, by decide +kernel⟩
def m6_placeOf : MI := (⟨RX6, "placeOf", "(I)I"⟩, prog_8_method_10_code, 2, (some .int), ⟨2, 0, 0, 53⟩, [])
set_option maxRecDepth 100000 in
theorem mok_m6_placeOf : MOK m6_placeOf 1 := ⟨(wt_3 149 (by decide +kernel) rfl), (wt_1 5 (by decide +kernel) rfl), ⟨by decide +kernel, by decide +kernel⟩, by decide +kernel⟩
def m6_reasonOf : MI := (⟨RX6, "reasonOf", "(I)I"⟩, prog_8_method_11_code, 2, (some .int), ⟨2, 0, 0, 53⟩, [])
set_option maxRecDepth 100000 in
theorem mok_m6_reasonOf : MOK m6_reasonOf 1 := ⟨(wt_3 157 (by decide +kernel) rfl), (wt_1 5 (by decide +kernel) rfl), ⟨by decide +kernel, by decide +kernel⟩, by decide +kernel⟩
def m8_empty : MI := (⟨RX8, "empty", "()V"⟩, prog_10_method_2_code, 1, none, ⟨1, 0, 0, 32⟩, [])
set_option maxRecDepth 100000 in
theorem mok_m8_empty : MOK m8_empty 0 := ⟨(wt_2 69 (by decide +kernel) rfl), (wt_1 4 (by decide +kernel) rfl), ⟨by decide +kernel, by decide +kernel⟩, by decide +kernel⟩
def m8_has : MI := (⟨RX8, "has", "(I)Z"⟩, prog_10_method_3_code, 2, (some .boolean), ⟨1, 0, 0, 32⟩, [])
set_option maxRecDepth 100000 in
theorem mok_m8_has : MOK m8_has 1 := ⟨(wt_4 118 (by decide +kernel) rfl), (wt_1 4 (by decide +kernel) rfl), ⟨by decide +kernel, by decide +kernel⟩, by decide +kernel⟩
def m8_isFull : MI := (⟨RX8, "isFull", "()Z"⟩, prog_10_method_4_code, 1, (some .boolean), ⟨1, 0, 0, 32⟩, [])
set_option maxRecDepth 100000 in
theorem mok_m8_isFull : MOK m8_isFull 0 := ⟨(wt_2 135 (by decide +kernel) rfl), (wt_1 4 (by decide +kernel) rfl), ⟨by decide +kernel, by decide +kernel⟩, by decide +kernel⟩
def m8_put : MI := (⟨RX8, "put", "(II)Z"⟩, prog_10_method_6_code, 3, (some .boolean), ⟨1, 0, 0, 32⟩, [])
set_option maxRecDepth 100000 in
theorem mok_m8_put : MOK m8_put 2 := ⟨(wt_2 139 (by decide +kernel) rfl), (wt_1 4 (by decide +kernel) rfl), ⟨by decide +kernel, by decide +kernel⟩, by decide +kernel⟩
def m8_addAll : MI := (⟨RX8, "addAll", "([II)V"⟩, prog_10_method_7_code, 4, none, ⟨2, 0, 0, 54⟩, [])
set_option maxRecDepth 100000 in
theorem mok_m8_addAll : MOK m8_addAll 2 := ⟨(wt_2 131 (by decide +kernel) rfl), (wt_1 4 (by decide +kernel) rfl), ⟨by decide +kernel, by decide +kernel⟩, by decide +kernel⟩
def m8_takeOut : MI := (⟨RX8, "takeOut", "(I)V"⟩, prog_10_method_8_code, 3, none, ⟨2, 0, 0, 54⟩, [])
set_option maxRecDepth 100000 in
theorem mok_m8_takeOut : MOK m8_takeOut 1 := ⟨(wt_4 135 (by decide +kernel) rfl), (wt_1 4 (by decide +kernel) rfl), ⟨by decide +kernel, by decide +kernel⟩, by decide +kernel⟩
def m8_putAhead : MI := (⟨RX8, "putAhead", "(II)V"⟩, prog_10_method_9_code, 4, none, ⟨2, 0, 0, 54⟩, [])
set_option maxRecDepth 100000 in
theorem mok_m8_putAhead : MOK m8_putAhead 2 := ⟨(wt_4 149 (by decide +kernel) rfl), (wt_1 4 (by decide +kernel) rfl), ⟨by decide +kernel, by decide +kernel⟩, by decide +kernel⟩
def m8_countMarkers : MI := (⟨RX8, "countMarkers", "()I"⟩, prog_10_method_12_code, 3, (some .int), ⟨3, 0, 0, 74⟩, [])
set_option maxRecDepth 100000 in
theorem mok_m8_countMarkers : MOK m8_countMarkers 0 := ⟨(wt_3 76 (by decide +kernel) rfl), (wt_1 4 (by decide +kernel) rfl), ⟨by decide +kernel, by decide +kernel⟩, by decide +kernel⟩
def m9_init : MI := (⟨RX9, "<init>", "()V"⟩, prog_1_method_1_code, 1, none, ⟨4, 76, 4277, 93⟩, [])
set_option maxRecDepth 100000 in
theorem mok_m9_init : MOK m9_init 0 := ⟨(wt_1 27 (by decide +kernel) rfl), (wt_1 1 (by decide +kernel) rfl), ⟨by decide +kernel, by decide +kernel⟩, by decide +kernel⟩
def m9_setWidth : MI := (⟨RX9, "setWidth", "(I)I"⟩, prog_1_method_2_code, 3, (some .int), ⟨6, 1, 6, 117⟩, [])
set_option maxRecDepth 100000 in
theorem mok_m9_setWidth : MOK m9_setWidth 1 := ⟨(wt_3 173 (by decide +kernel) rfl), (wt_1 1 (by decide +kernel) rfl), ⟨by decide +kernel, by decide +kernel⟩, by decide +kernel⟩
def m9_needPixels : MI := (⟨RX9, "needPixels", "(J)V"⟩, prog_1_method_54_code, 3, none, ⟨6, 1, 6, 84⟩, [])
set_option maxRecDepth 100000 in
theorem mok_m9_needPixels : MOK m9_needPixels 1 := ⟨(wt_4 18 (by decide +kernel) rfl), (wt_1 1 (by decide +kernel) rfl), ⟨by decide +kernel, by decide +kernel⟩, by decide +kernel⟩
def m9_addLine : MI := (⟨RX9, "addLine", "(J)I"⟩, prog_1_method_3_code, 3, (some .int), ⟨7, 2, 12, 117⟩, [])
set_option maxRecDepth 100000 in
theorem mok_m9_addLine : MOK m9_addLine 1 := ⟨(wt_4 14 (by decide +kernel) rfl), (wt_1 1 (by decide +kernel) rfl), ⟨by decide +kernel, by decide +kernel⟩, by decide +kernel⟩
def m9_needLine : MI := (⟨RX9, "needLine", "(I)V"⟩, prog_1_method_50_code, 2, none, ⟨6, 1, 6, 84⟩, [])
set_option maxRecDepth 100000 in
theorem mok_m9_needLine : MOK m9_needLine 1 := ⟨(wt_4 59 (by decide +kernel) rfl), (wt_1 1 (by decide +kernel) rfl), ⟨by decide +kernel, by decide +kernel⟩, by decide +kernel⟩
def m9_setLine : MI := (⟨RX9, "setLine", "(IJ)J"⟩, prog_1_method_4_code, 6, (some .long), ⟨7, 2, 12, 117⟩, [])
set_option maxRecDepth 100000 in
theorem mok_m9_setLine : MOK m9_setLine 2 := ⟨(wt_4 55 (by decide +kernel) rfl), (wt_1 1 (by decide +kernel) rfl), ⟨by decide +kernel, by decide +kernel⟩, by decide +kernel⟩
def m9_dropLast : MI := (⟨RX9, "dropLast", "()I"⟩, prog_1_method_5_code, 1, (some .int), ⟨6, 1, 6, 117⟩, [])
set_option maxRecDepth 100000 in
theorem mok_m9_dropLast : MOK m9_dropLast 0 := ⟨(wt_4 90 (by decide +kernel) rfl), (wt_1 1 (by decide +kernel) rfl), ⟨by decide +kernel, by decide +kernel⟩, by decide +kernel⟩
def m9_setStyle : MI := (⟨RX9, "setStyle", "(I)I"⟩, prog_1_method_6_code, 3, (some .int), ⟨6, 1, 6, 117⟩, [])
set_option maxRecDepth 100000 in
theorem mok_m9_setStyle : MOK m9_setStyle 1 := ⟨(wt_4 102 (by decide +kernel) rfl), (wt_1 1 (by decide +kernel) rfl), ⟨by decide +kernel, by decide +kernel⟩, by decide +kernel⟩
def m9_countedFours : MI := (⟨RX9, "countedFours", "(JI)I"⟩, prog_1_method_68_code, 5, (some .int), ⟨1, 0, 0, 32⟩, [])
set_option maxRecDepth 100000 in
theorem mok_m9_countedFours : MOK m9_countedFours 2 := ⟨(wt_2 88 (by decide +kernel) rfl), (wt_1 1 (by decide +kernel) rfl), ⟨by decide +kernel, by decide +kernel⟩, by decide +kernel⟩
def m9_bordersOf : MI := (⟨RX9, "bordersOf", "(JI)J"⟩, prog_1_method_65_code, 3, (some .long), ⟨1, 0, 0, 32⟩, [])
set_option maxRecDepth 100000 in
theorem mok_m9_bordersOf : MOK m9_bordersOf 2 := ⟨(wt_2 95 (by decide +kernel) rfl), (wt_1 1 (by decide +kernel) rfl), ⟨by decide +kernel, by decide +kernel⟩, by decide +kernel⟩
def m9_numbersOfRun : MI := (⟨RX9, "numbersOfRun", "(I)I"⟩, prog_1_method_70_code, 1, (some .int), ⟨1, 0, 0, 32⟩, [])
set_option maxRecDepth 100000 in
theorem mok_m9_numbersOfRun : MOK m9_numbersOfRun 1 := ⟨(wt_2 101 (by decide +kernel) rfl), (wt_1 1 (by decide +kernel) rfl), ⟨by decide +kernel, by decide +kernel⟩, by decide +kernel⟩
def m9_countedRuns : MI := (⟨RX9, "countedRuns", "(JI)I"⟩, prog_1_method_69_code, 8, (some .int), ⟨2, 0, 0, 54⟩, [])
set_option maxRecDepth 100000 in
theorem mok_m9_countedRuns : MOK m9_countedRuns 2 := ⟨(wt_2 92 (by decide +kernel) rfl), (wt_1 1 (by decide +kernel) rfl), ⟨by decide +kernel, by decide +kernel⟩, by decide +kernel⟩
def m9_countedLength : MI := (⟨RX9, "countedLength", "(II)I"⟩, prog_1_method_67_code, 7, (some .int), ⟨3, 0, 0, 81⟩, [])
set_option maxRecDepth 100000 in
theorem mok_m9_countedLength : MOK m9_countedLength 2 := ⟨(wt_2 77 (by decide +kernel) rfl), (wt_1 1 (by decide +kernel) rfl), ⟨by decide +kernel, by decide +kernel⟩, by decide +kernel⟩
def m9_modeToSend : MI := (⟨RX9, "modeToSend", "(I)I"⟩, prog_1_method_63_code, 6, (some .int), ⟨4, 0, 0, 107⟩, [])
set_option maxRecDepth 100000 in
theorem mok_m9_modeToSend : MOK m9_modeToSend 1 := ⟨(wt_2 73 (by decide +kernel) rfl), (wt_1 1 (by decide +kernel) rfl), ⟨by decide +kernel, by decide +kernel⟩, by decide +kernel⟩
def m9_sendPage : MI := (⟨RX9, "sendPage", "()V"⟩, prog_1_method_61_code, 2, none, ⟨5, 0, 0, 132⟩, [])
set_option maxRecDepth 100000 in
theorem mok_m9_sendPage : MOK m9_sendPage 0 := ⟨(wt_2 65 (by decide +kernel) rfl), (wt_1 1 (by decide +kernel) rfl), ⟨by decide +kernel, by decide +kernel⟩, by decide +kernel⟩
def m9_send : MI := (⟨RX9, "send", "()I"⟩, prog_1_method_7_code, 1, (some .int), ⟨6, 0, 0, 153⟩, [])
set_option maxRecDepth 100000 in
theorem mok_m9_send : MOK m9_send 0 := ⟨(wt_2 23 (by decide +kernel) rfl), (wt_1 1 (by decide +kernel) rfl), ⟨by decide +kernel, by decide +kernel⟩, by decide +kernel⟩
def m9_needNumber : MI := (⟨RX9, "needNumber", "(I)V"⟩, prog_1_method_55_code, 1, none, ⟨6, 1, 6, 84⟩, [])
set_option maxRecDepth 100000 in
theorem mok_m9_needNumber : MOK m9_needNumber 1 := ⟨(wt_4 122 (by decide +kernel) rfl), (wt_1 1 (by decide +kernel) rfl), ⟨by decide +kernel, by decide +kernel⟩, by decide +kernel⟩
def m9_needPlace : MI := (⟨RX9, "needPlace", "(I)V"⟩, prog_1_method_52_code, 2, none, ⟨6, 1, 6, 84⟩, [])
set_option maxRecDepth 100000 in
theorem mok_m9_needPlace : MOK m9_needPlace 1 := ⟨(wt_4 114 (by decide +kernel) rfl), (wt_1 1 (by decide +kernel) rfl), ⟨by decide +kernel, by decide +kernel⟩, by decide +kernel⟩
def m9_replace : MI := (⟨RX9, "replace", "(II)I"⟩, prog_1_method_8_code, 4, (some .int), ⟨7, 2, 12, 117⟩, [])
set_option maxRecDepth 100000 in
theorem mok_m9_replace : MOK m9_replace 2 := ⟨(wt_4 110 (by decide +kernel) rfl), (wt_1 1 (by decide +kernel) rfl), ⟨by decide +kernel, by decide +kernel⟩, by decide +kernel⟩
def m9_lose : MI := (⟨RX9, "lose", "(I)I"⟩, prog_1_method_9_code, 3, (some .int), ⟨7, 1, 6, 117⟩, [])
set_option maxRecDepth 100000 in
theorem mok_m9_lose : MOK m9_lose 1 := ⟨(wt_4 131 (by decide +kernel) rfl), (wt_1 1 (by decide +kernel) rfl), ⟨by decide +kernel, by decide +kernel⟩, by decide +kernel⟩
def m9_gain : MI := (⟨RX9, "gain", "(II)I"⟩, prog_1_method_10_code, 3, (some .int), ⟨7, 2, 12, 117⟩, [])
set_option maxRecDepth 100000 in
theorem mok_m9_gain : MOK m9_gain 2 := ⟨(wt_4 143 (by decide +kernel) rfl), (wt_1 1 (by decide +kernel) rfl), ⟨by decide +kernel, by decide +kernel⟩, by decide +kernel⟩
def m9_receive : MI := (⟨RX9, "receive", "()I"⟩, prog_1_method_11_code, 1, (some .int), ⟨7, 0, 0, 181⟩, [])
set_option maxRecDepth 100000 in
theorem mok_m9_receive : MOK m9_receive 0 := ⟨(wt_2 143 (by decide +kernel) rfl), (wt_1 1 (by decide +kernel) rfl), ⟨by decide +kernel, by decide +kernel⟩, by decide +kernel⟩
def m9_append : MI := (⟨RX9, "append", "(I)I"⟩, prog_1_method_12_code, 2, (some .int), ⟨6, 1, 6, 84⟩, [])
set_option maxRecDepth 100000 in
theorem mok_m9_append : MOK m9_append 1 := ⟨(wt_4 156 (by decide +kernel) rfl), (wt_1 1 (by decide +kernel) rfl), ⟨by decide +kernel, by decide +kernel⟩, by decide +kernel⟩
def m9_clearBuffer : MI := (⟨RX9, "clearBuffer", "()I"⟩, prog_1_method_13_code, 2, (some .int), ⟨2, 0, 0, 52⟩, [])
set_option maxRecDepth 100000 in
theorem mok_m9_clearBuffer : MOK m9_clearBuffer 0 := ⟨(wt_2 215 (by decide +kernel) rfl), (wt_1 1 (by decide +kernel) rfl), ⟨by decide +kernel, by decide +kernel⟩, by decide +kernel⟩
def m9_firstError : MI := (⟨RX9, "firstError", "()I"⟩, prog_1_method_14_code, 1, (some .int), ⟨5, 0, 0, 120⟩, [])
set_option maxRecDepth 100000 in
theorem mok_m9_firstError : MOK m9_firstError 0 := ⟨(wt_2 223 (by decide +kernel) rfl), (wt_1 1 (by decide +kernel) rfl), ⟨by decide +kernel, by decide +kernel⟩, by decide +kernel⟩
def m9_perform : MI := (⟨RX9, "perform", "(LRunFaxes$PartScanner;)Z"⟩, prog_1_method_62_code, 2, (some .boolean), ⟨7, 0, 0, 181⟩, [])
set_option maxRecDepth 100000 in
theorem mok_m9_perform : MOK m9_perform 1 := ⟨(wt_4 190 (by decide +kernel) rfl), (wt_1 1 (by decide +kernel) rfl), ⟨by decide +kernel, by decide +kernel⟩, by decide +kernel⟩
def m9_play : MI := (⟨RX9, "play", "()I"⟩, prog_1_method_15_code, 5, (some .int), ⟨8, 1, 6, 202⟩, [])
set_option maxRecDepth 100000 in
theorem mok_m9_play : MOK m9_play 0 := ⟨(wt_4 173 (by decide +kernel) rfl), (wt_1 1 (by decide +kernel) rfl), ⟨by decide +kernel, by decide +kernel⟩, by decide +kernel⟩
def m9_hasStopped : MI := (⟨RX9, "hasStopped", "()Z"⟩, prog_1_method_16_code, 1, (some .boolean), ⟨1, 0, 0, 32⟩, [])
set_option maxRecDepth 100000 in
theorem mok_m9_hasStopped : MOK m9_hasStopped 0 := ⟨(wt_3 28 (by decide +kernel) rfl), (wt_1 1 (by decide +kernel) rfl), ⟨by decide +kernel, by decide +kernel⟩, by decide +kernel⟩
def m9_stoppedPart : MI := (⟨RX9, "stoppedPart", "()I"⟩, prog_1_method_17_code, 1, (some .int), ⟨6, 1, 6, 84⟩, [])
set_option maxRecDepth 100000 in
theorem mok_m9_stoppedPart : MOK m9_stoppedPart 0 := ⟨(wt_4 197 (by decide +kernel) rfl), (wt_1 1 (by decide +kernel) rfl), ⟨by decide +kernel, by decide +kernel⟩, by decide +kernel⟩
def m9_undo : MI := (⟨RX9, "undo", "()I"⟩, prog_1_method_18_code, 1, (some .int), ⟨6, 1, 6, 117⟩, [])
set_option maxRecDepth 100000 in
theorem mok_m9_undo : MOK m9_undo 0 := ⟨(wt_4 205 (by decide +kernel) rfl), (wt_1 1 (by decide +kernel) rfl), ⟨by decide +kernel, by decide +kernel⟩, by decide +kernel⟩
def m9_keep : MI := (⟨RX9, "keep", "()I"⟩, prog_1_method_19_code, 1, (some .int), ⟨4, 0, 0, 95⟩, [])
set_option maxRecDepth 100000 in
theorem mok_m9_keep : MOK m9_keep 0 := ⟨(wt_3 32 (by decide +kernel) rfl), (wt_1 1 (by decide +kernel) rfl), ⟨by decide +kernel, by decide +kernel⟩, by decide +kernel⟩
def m9_restore : MI := (⟨RX9, "restore", "()I"⟩, prog_1_method_20_code, 1, (some .int), ⟨6, 1, 6, 117⟩, [])
set_option maxRecDepth 100000 in
theorem mok_m9_restore : MOK m9_restore 0 := ⟨(wt_4 217 (by decide +kernel) rfl), (wt_1 1 (by decide +kernel) rfl), ⟨by decide +kernel, by decide +kernel⟩, by decide +kernel⟩
def m9_savedStates : MI := (⟨RX9, "savedStates", "()I"⟩, prog_1_method_21_code, 1, (some .int), ⟨1, 0, 0, 32⟩, [])
set_option maxRecDepth 100000 in
theorem mok_m9_savedStates : MOK m9_savedStates 0 := ⟨(wt_3 37 (by decide +kernel) rfl), (wt_1 1 (by decide +kernel) rfl), ⟨by decide +kernel, by decide +kernel⟩, by decide +kernel⟩
def m9_width : MI := (⟨RX9, "width", "()I"⟩, prog_1_method_22_code, 1, (some .int), ⟨1, 0, 0, 32⟩, [])
set_option maxRecDepth 100000 in
theorem mok_m9_width : MOK m9_width 0 := ⟨(wt_3 41 (by decide +kernel) rfl), (wt_1 1 (by decide +kernel) rfl), ⟨by decide +kernel, by decide +kernel⟩, by decide +kernel⟩
def m9_lines : MI := (⟨RX9, "lines", "()I"⟩, prog_1_method_23_code, 1, (some .int), ⟨1, 0, 0, 32⟩, [])
set_option maxRecDepth 100000 in
theorem mok_m9_lines : MOK m9_lines 0 := ⟨(wt_3 45 (by decide +kernel) rfl), (wt_1 1 (by decide +kernel) rfl), ⟨by decide +kernel, by decide +kernel⟩, by decide +kernel⟩
def m9_style : MI := (⟨RX9, "style", "()I"⟩, prog_1_method_24_code, 1, (some .int), ⟨1, 0, 0, 32⟩, [])
set_option maxRecDepth 100000 in
theorem mok_m9_style : MOK m9_style 0 := ⟨(wt_3 49 (by decide +kernel) rfl), (wt_1 1 (by decide +kernel) rfl), ⟨by decide +kernel, by decide +kernel⟩, by decide +kernel⟩
def m9_pixelsOf : MI := (⟨RX9, "pixelsOf", "(I)J"⟩, prog_1_method_25_code, 2, (some .long), ⟨7, 1, 6, 105⟩, [])
set_option maxRecDepth 100000 in
theorem mok_m9_pixelsOf : MOK m9_pixelsOf 1 := ⟨(wt_4 225 (by decide +kernel) rfl), (wt_1 1 (by decide +kernel) rfl), ⟨by decide +kernel, by decide +kernel⟩, by decide +kernel⟩
def m9_isBlack : MI := (⟨RX9, "isBlack", "(II)Z"⟩, prog_1_method_26_code, 3, (some .boolean), ⟨6, 1, 6, 84⟩, [])
set_option maxRecDepth 100000 in
theorem mok_m9_isBlack : MOK m9_isBlack 2 := ⟨(wt_4 232 (by decide +kernel) rfl), (wt_1 1 (by decide +kernel) rfl), ⟨by decide +kernel, by decide +kernel⟩, by decide +kernel⟩
def mJ13_bitCount : MI := (⟨"java/lang/Long", "bitCount", "(J)I"⟩, prog_19_method_50_code, 2, (some .int), ⟨1, 0, 0, 32⟩, [])
set_option maxRecDepth 100000 in
theorem mok_mJ13_bitCount : MOK mJ13_bitCount 1 := ⟨(wt_3 57 (by decide +kernel) rfl), (wt_1 21 (by decide +kernel) rfl), ⟨by decide +kernel, by decide +kernel⟩, by decide +kernel⟩
def m9_runsOf : MI := (⟨RX9, "runsOf", "(I)I"⟩, prog_1_method_27_code, 2, (some .int), ⟨7, 1, 6, 105⟩, [])
set_option maxRecDepth 100000 in
theorem mok_m9_runsOf : MOK m9_runsOf 1 := ⟨(wt_5 0 (by decide +kernel) rfl), (wt_1 1 (by decide +kernel) rfl), ⟨by decide +kernel, by decide +kernel⟩, by decide +kernel⟩
def m9_longestBetween : MI := (⟨RX9, "longestBetween", "(JI)I"⟩, prog_1_method_66_code, 6, (some .int), ⟨2, 0, 0, 54⟩, [])
set_option maxRecDepth 100000 in
theorem mok_m9_longestBetween : MOK m9_longestBetween 2 := ⟨(wt_3 135 (by decide +kernel) rfl), (wt_1 1 (by decide +kernel) rfl), ⟨by decide +kernel, by decide +kernel⟩, by decide +kernel⟩
def m9_longestRun : MI := (⟨RX9, "longestRun", "(I)I"⟩, prog_1_method_28_code, 2, (some .int), ⟨7, 1, 6, 105⟩, [])
set_option maxRecDepth 100000 in
theorem mok_m9_longestRun : MOK m9_longestRun 1 := ⟨(wt_5 7 (by decide +kernel) rfl), (wt_1 1 (by decide +kernel) rfl), ⟨by decide +kernel, by decide +kernel⟩, by decide +kernel⟩
def m9_blackPixels : MI := (⟨RX9, "blackPixels", "()I"⟩, prog_1_method_29_code, 3, (some .int), ⟨2, 0, 0, 53⟩, [])
set_option maxRecDepth 100000 in
theorem mok_m9_blackPixels : MOK m9_blackPixels 0 := ⟨(wt_3 53 (by decide +kernel) rfl), (wt_1 1 (by decide +kernel) rfl), ⟨by decide +kernel, by decide +kernel⟩, by decide +kernel⟩
def m9_needMode : MI := (⟨RX9, "needMode", "(I)V"⟩, prog_1_method_56_code, 1, none, ⟨6, 1, 6, 84⟩, [])
set_option maxRecDepth 100000 in
theorem mok_m9_needMode : MOK m9_needMode 1 := ⟨(wt_5 17 (by decide +kernel) rfl), (wt_1 1 (by decide +kernel) rfl), ⟨by decide +kernel, by decide +kernel⟩, by decide +kernel⟩
def m9_codeLength : MI := (⟨RX9, "codeLength", "(II)I"⟩, prog_1_method_30_code, 3, (some .int), ⟨7, 2, 12, 127⟩, [])
set_option maxRecDepth 100000 in
theorem mok_m9_codeLength : MOK m9_codeLength 2 := ⟨(wt_5 14 (by decide +kernel) rfl), (wt_1 1 (by decide +kernel) rfl), ⟨by decide +kernel, by decide +kernel⟩, by decide +kernel⟩
def m9_codeLengthByCounting : MI := (⟨RX9, "codeLengthByCounting", "(II)I"⟩, prog_1_method_31_code, 3, (some .int), ⟨7, 2, 12, 107⟩, [])
set_option maxRecDepth 100000 in
theorem mok_m9_codeLengthByCounting : MOK m9_codeLengthByCounting 2 := ⟨(wt_5 25 (by decide +kernel) rfl), (wt_1 1 (by decide +kernel) rfl), ⟨by decide +kernel, by decide +kernel⟩, by decide +kernel⟩
def m9_modeOf : MI := (⟨RX9, "modeOf", "(I)I"⟩, prog_1_method_32_code, 2, (some .int), ⟨7, 1, 6, 132⟩, [])
set_option maxRecDepth 100000 in
theorem mok_m9_modeOf : MOK m9_modeOf 1 := ⟨(wt_5 32 (by decide +kernel) rfl), (wt_1 1 (by decide +kernel) rfl), ⟨by decide +kernel, by decide +kernel⟩, by decide +kernel⟩
def m9_checkOf : MI := (⟨RX9, "checkOf", "(II)I"⟩, prog_1_method_33_code, 3, (some .int), ⟨7, 2, 12, 127⟩, [])
set_option maxRecDepth 100000 in
theorem mok_m9_checkOf : MOK m9_checkOf 2 := ⟨(wt_5 39 (by decide +kernel) rfl), (wt_1 1 (by decide +kernel) rfl), ⟨by decide +kernel, by decide +kernel⟩, by decide +kernel⟩
def m9_wouldSend : MI := (⟨RX9, "wouldSend", "()I"⟩, prog_1_method_34_code, 3, (some .int), ⟨5, 0, 0, 132⟩, [])
set_option maxRecDepth 100000 in
theorem mok_m9_wouldSend : MOK m9_wouldSend 0 := ⟨(wt_3 64 (by decide +kernel) rfl), (wt_1 1 (by decide +kernel) rfl), ⟨by decide +kernel, by decide +kernel⟩, by decide +kernel⟩
def m9_streamLength : MI := (⟨RX9, "streamLength", "()I"⟩, prog_1_method_35_code, 1, (some .int), ⟨1, 0, 0, 32⟩, [])
set_option maxRecDepth 100000 in
theorem mok_m9_streamLength : MOK m9_streamLength 0 := ⟨(wt_3 68 (by decide +kernel) rfl), (wt_1 1 (by decide +kernel) rfl), ⟨by decide +kernel, by decide +kernel⟩, by decide +kernel⟩
def m9_numberAt : MI := (⟨RX9, "numberAt", "(I)I"⟩, prog_1_method_36_code, 2, (some .int), ⟨7, 1, 6, 105⟩, [])
set_option maxRecDepth 100000 in
theorem mok_m9_numberAt : MOK m9_numberAt 1 := ⟨(wt_5 46 (by decide +kernel) rfl), (wt_1 1 (by decide +kernel) rfl), ⟨by decide +kernel, by decide +kernel⟩, by decide +kernel⟩
def m9_markers : MI := (⟨RX9, "markers", "()I"⟩, prog_1_method_37_code, 1, (some .int), ⟨4, 0, 0, 96⟩, [])
set_option maxRecDepth 100000 in
theorem mok_m9_markers : MOK m9_markers 0 := ⟨(wt_3 72 (by decide +kernel) rfl), (wt_1 1 (by decide +kernel) rfl), ⟨by decide +kernel, by decide +kernel⟩, by decide +kernel⟩
def m9_needLineOfAnyPage : MI := (⟨RX9, "needLineOfAnyPage", "(I)V"⟩, prog_1_method_51_code, 1, none, ⟨6, 1, 6, 84⟩, [])
set_option maxRecDepth 100000 in
theorem mok_m9_needLineOfAnyPage : MOK m9_needLineOfAnyPage 1 := ⟨(wt_5 56 (by decide +kernel) rfl), (wt_1 1 (by decide +kernel) rfl), ⟨by decide +kernel, by decide +kernel⟩, by decide +kernel⟩
def m9_isReceived : MI := (⟨RX9, "isReceived", "(I)Z"⟩, prog_1_method_38_code, 2, (some .boolean), ⟨7, 1, 6, 104⟩, [])
set_option maxRecDepth 100000 in
theorem mok_m9_isReceived : MOK m9_isReceived 1 := ⟨(wt_5 53 (by decide +kernel) rfl), (wt_1 1 (by decide +kernel) rfl), ⟨by decide +kernel, by decide +kernel⟩, by decide +kernel⟩
def m9_receivedPixels : MI := (⟨RX9, "receivedPixels", "(I)J"⟩, prog_1_method_39_code, 2, (some .long), ⟨7, 2, 12, 104⟩, [])
set_option maxRecDepth 100000 in
theorem mok_m9_receivedPixels : MOK m9_receivedPixels 1 := ⟨(wt_5 64 (by decide +kernel) rfl), (wt_1 1 (by decide +kernel) rfl), ⟨by decide +kernel, by decide +kernel⟩, by decide +kernel⟩
def m9_received : MI := (⟨RX9, "received", "()I"⟩, prog_1_method_40_code, 1, (some .int), ⟨3, 0, 0, 72⟩, [])
set_option maxRecDepth 100000 in
theorem mok_m9_received : MOK m9_received 0 := ⟨(wt_3 80 (by decide +kernel) rfl), (wt_1 1 (by decide +kernel) rfl), ⟨by decide +kernel, by decide +kernel⟩, by decide +kernel⟩
def m9_right : MI := (⟨RX9, "right", "()I"⟩, prog_1_method_41_code, 1, (some .int), ⟨4, 0, 0, 97⟩, [])
set_option maxRecDepth 100000 in
theorem mok_m9_right : MOK m9_right 0 := ⟨(wt_3 84 (by decide +kernel) rfl), (wt_1 1 (by decide +kernel) rfl), ⟨by decide +kernel, by decide +kernel⟩, by decide +kernel⟩
def m9_errors : MI := (⟨RX9, "errors", "()I"⟩, prog_1_method_42_code, 1, (some .int), ⟨1, 0, 0, 32⟩, [])
set_option maxRecDepth 100000 in
theorem mok_m9_errors : MOK m9_errors 0 := ⟨(wt_3 94 (by decide +kernel) rfl), (wt_1 1 (by decide +kernel) rfl), ⟨by decide +kernel, by decide +kernel⟩, by decide +kernel⟩
def m9_needError : MI := (⟨RX9, "needError", "(I)V"⟩, prog_1_method_53_code, 2, none, ⟨6, 1, 6, 84⟩, [])
set_option maxRecDepth 100000 in
theorem mok_m9_needError : MOK m9_needError 1 := ⟨(wt_5 76 (by decide +kernel) rfl), (wt_1 1 (by decide +kernel) rfl), ⟨by decide +kernel, by decide +kernel⟩, by decide +kernel⟩
def m9_errorPlace : MI := (⟨RX9, "errorPlace", "(I)I"⟩, prog_1_method_43_code, 2, (some .int), ⟨7, 1, 6, 105⟩, [])
set_option maxRecDepth 100000 in
theorem mok_m9_errorPlace : MOK m9_errorPlace 1 := ⟨(wt_5 72 (by decide +kernel) rfl), (wt_1 1 (by decide +kernel) rfl), ⟨by decide +kernel, by decide +kernel⟩, by decide +kernel⟩
def m9_errorReason : MI := (⟨RX9, "errorReason", "(I)I"⟩, prog_1_method_44_code, 2, (some .int), ⟨7, 1, 6, 105⟩, [])
set_option maxRecDepth 100000 in
theorem mok_m9_errorReason : MOK m9_errorReason 1 := ⟨(wt_5 85 (by decide +kernel) rfl), (wt_1 1 (by decide +kernel) rfl), ⟨by decide +kernel, by decide +kernel⟩, by decide +kernel⟩
def m9_wouldReceive : MI := (⟨RX9, "wouldReceive", "()I"⟩, prog_1_method_45_code, 1, (some .int), ⟨7, 0, 0, 181⟩, [])
set_option maxRecDepth 100000 in
theorem mok_m9_wouldReceive : MOK m9_wouldReceive 0 := ⟨(wt_3 98 (by decide +kernel) rfl), (wt_1 1 (by decide +kernel) rfl), ⟨by decide +kernel, by decide +kernel⟩, by decide +kernel⟩
def m9_wouldBeRight : MI := (⟨RX9, "wouldBeRight", "()I"⟩, prog_1_method_46_code, 1, (some .int), ⟨7, 0, 0, 181⟩, [])
set_option maxRecDepth 100000 in
theorem mok_m9_wouldBeRight : MOK m9_wouldBeRight 0 := ⟨(wt_3 102 (by decide +kernel) rfl), (wt_1 1 (by decide +kernel) rfl), ⟨by decide +kernel, by decide +kernel⟩, by decide +kernel⟩
def m9_rightIfReplaced : MI := (⟨RX9, "rightIfReplaced", "(II)I"⟩, prog_1_method_47_code, 4, (some .int), ⟨7, 2, 12, 181⟩, [])
set_option maxRecDepth 100000 in
theorem mok_m9_rightIfReplaced : MOK m9_rightIfReplaced 2 := ⟨(wt_5 92 (by decide +kernel) rfl), (wt_1 1 (by decide +kernel) rfl), ⟨by decide +kernel, by decide +kernel⟩, by decide +kernel⟩
def m9_codedShare : MI := (⟨RX9, "codedShare", "()D"⟩, prog_1_method_48_code, 2, (some .double), ⟨6, 0, 0, 154⟩, [])
set_option maxRecDepth 100000 in
theorem mok_m9_codedShare : MOK m9_codedShare 0 := ⟨(wt_3 106 (by decide +kernel) rfl), (wt_1 1 (by decide +kernel) rfl), ⟨by decide +kernel, by decide +kernel⟩, by decide +kernel⟩
def m9_bitsOf : MI := (⟨RX9, "bitsOf", "(D)J"⟩, prog_1_method_60_code, 8, (some .long), ⟨1, 0, 0, 32⟩, [])
set_option maxRecDepth 100000 in
theorem mok_m9_bitsOf : MOK m9_bitsOf 1 := ⟨(wt_3 161 (by decide +kernel) rfl), (wt_1 1 (by decide +kernel) rfl), ⟨by decide +kernel, by decide +kernel⟩, by decide +kernel⟩
def m9_mix : MI := (⟨RX9, "mix", "(JJ)J"⟩, prog_1_method_57_code, 4, (some .long), ⟨1, 0, 0, 32⟩, [])
set_option maxRecDepth 100000 in
theorem mok_m9_mix : MOK m9_mix 2 := ⟨(wt_3 116 (by decide +kernel) rfl), (wt_1 1 (by decide +kernel) rfl), ⟨by decide +kernel, by decide +kernel⟩, by decide +kernel⟩
def m9_mixLine : MI := (⟨RX9, "mixLine", "(JI)J"⟩, prog_1_method_58_code, 9, (some .long), ⟨5, 0, 0, 132⟩, [])
set_option maxRecDepth 100000 in
theorem mok_m9_mixLine : MOK m9_mixLine 2 := ⟨(wt_3 132 (by decide +kernel) rfl), (wt_1 1 (by decide +kernel) rfl), ⟨by decide +kernel, by decide +kernel⟩, by decide +kernel⟩
def m9_mixReception : MI := (⟨RX9, "mixReception", "(J)J"⟩, prog_1_method_59_code, 7, (some .long), ⟨3, 0, 0, 74⟩, [])
set_option maxRecDepth 100000 in
theorem mok_m9_mixReception : MOK m9_mixReception 1 := ⟨(wt_3 143 (by decide +kernel) rfl), (wt_1 1 (by decide +kernel) rfl), ⟨by decide +kernel, by decide +kernel⟩, by decide +kernel⟩
def m9_digest : MI := (⟨RX9, "digest", "()J"⟩, prog_1_method_49_code, 4, (some .long), ⟨8, 0, 0, 201⟩, [])
set_option maxRecDepth 100000 in
theorem mok_m9_digest : MOK m9_digest 0 := ⟨(wt_3 111 (by decide +kernel) rfl), (wt_1 1 (by decide +kernel) rfl), ⟨by decide +kernel, by decide +kernel⟩, by decide +kernel⟩
def m10_init : MI := (⟨RX10, "<init>", "()V"⟩, prog_12_method_1_code, 1, none, ⟨1, 8, 4862, 32⟩, [])
set_option maxRecDepth 100000 in
theorem mok_m10_init : MOK m10_init 0 := ⟨(wt_5 97 (by decide +kernel) rfl), (wt_1 11 (by decide +kernel) rfl), ⟨by decide +kernel, by decide +kernel⟩, by decide +kernel⟩
def m10_thrown : MI := (⟨RX10, "thrown", "()I"⟩, prog_12_method_2_code, 1, (some .int), ⟨1, 0, 0, 32⟩, [])
set_option maxRecDepth 100000 in
theorem mok_m10_thrown : MOK m10_thrown 0 := ⟨(wt_5 166 (by decide +kernel) rfl), (wt_1 11 (by decide +kernel) rfl), ⟨by decide +kernel, by decide +kernel⟩, by decide +kernel⟩
def m10_fails : MI := (⟨RX10, "fails", "(I)I"⟩, prog_12_method_3_code, 2, (some .int), ⟨1, 0, 0, 32⟩, [])
set_option maxRecDepth 100000 in
theorem mok_m10_fails : MOK m10_fails 1 := ⟨(wt_5 177 (by decide +kernel) rfl), (wt_1 11 (by decide +kernel) rfl), ⟨by decide +kernel, by decide +kernel⟩, by decide +kernel⟩
def m10_in : MI := (⟨RX10, "in", "(III)Z"⟩, prog_12_method_4_code, 3, (some .boolean), ⟨1, 0, 0, 32⟩, [])
set_option maxRecDepth 100000 in
theorem mok_m10_in : MOK m10_in 3 := ⟨(wt_5 173 (by decide +kernel) rfl), (wt_1 11 (by decide +kernel) rfl), ⟨by decide +kernel, by decide +kernel⟩, by decide +kernel⟩
def m10_isLine : MI := (⟨RX10, "isLine", "(I)Z"⟩, prog_12_method_5_code, 2, (some .boolean), ⟨2, 0, 0, 54⟩, [])
set_option maxRecDepth 100000 in
theorem mok_m10_isLine : MOK m10_isLine 1 := ⟨(wt_5 205 (by decide +kernel) rfl), (wt_1 11 (by decide +kernel) rfl), ⟨by decide +kernel, by decide +kernel⟩, by decide +kernel⟩
def m10_isPlace : MI := (⟨RX10, "isPlace", "(I)Z"⟩, prog_12_method_6_code, 2, (some .boolean), ⟨2, 0, 0, 54⟩, [])
set_option maxRecDepth 100000 in
theorem mok_m10_isPlace : MOK m10_isPlace 1 := ⟨(wt_6 17 (by decide +kernel) rfl), (wt_1 11 (by decide +kernel) rfl), ⟨by decide +kernel, by decide +kernel⟩, by decide +kernel⟩
def m10_isMode : MI := (⟨RX10, "isMode", "(I)Z"⟩, prog_12_method_7_code, 1, (some .boolean), ⟨2, 0, 0, 54⟩, [])
set_option maxRecDepth 100000 in
theorem mok_m10_isMode : MOK m10_isMode 1 := ⟨(wt_6 206 (by decide +kernel) rfl), (wt_1 11 (by decide +kernel) rfl), ⟨by decide +kernel, by decide +kernel⟩, by decide +kernel⟩
def m10_isNumber : MI := (⟨RX10, "isNumber", "(I)Z"⟩, prog_12_method_8_code, 1, (some .boolean), ⟨2, 0, 0, 54⟩, [])
set_option maxRecDepth 100000 in
theorem mok_m10_isNumber : MOK m10_isNumber 1 := ⟨(wt_6 20 (by decide +kernel) rfl), (wt_1 11 (by decide +kernel) rfl), ⟨by decide +kernel, by decide +kernel⟩, by decide +kernel⟩
def m10_asLong : MI := (⟨RX10, "asLong", "(I)J"⟩, prog_12_method_9_code, 1, (some .long), ⟨1, 0, 0, 32⟩, [])
set_option maxRecDepth 100000 in
theorem mok_m10_asLong : MOK m10_asLong 1 := ⟨(wt_5 208 (by decide +kernel) rfl), (wt_1 11 (by decide +kernel) rfl), ⟨by decide +kernel, by decide +kernel⟩, by decide +kernel⟩
def m10_bits : MI := (⟨RX10, "bits", "(I)I"⟩, prog_12_method_10_code, 3, (some .int), ⟨1, 0, 0, 32⟩, [])
set_option maxRecDepth 100000 in
theorem mok_m10_bits : MOK m10_bits 1 := ⟨(wt_6 83 (by decide +kernel) rfl), (wt_1 11 (by decide +kernel) rfl), ⟨by decide +kernel, by decide +kernel⟩, by decide +kernel⟩
def m10_records : MI := (⟨RX10, "records", "()V"⟩, prog_12_method_11_code, 2, none, ⟨1, 0, 0, 32⟩, [])
set_option maxRecDepth 100000 in
theorem mok_m10_records : MOK m10_records 0 := ⟨(wt_5 181 (by decide +kernel) rfl), (wt_1 11 (by decide +kernel) rfl), ⟨by decide +kernel, by decide +kernel⟩, by decide +kernel⟩
def m10_putAside : MI := (⟨RX10, "putAside", "()V"⟩, prog_12_method_12_code, 2, none, ⟨1, 0, 0, 32⟩, [])
set_option maxRecDepth 100000 in
theorem mok_m10_putAside : MOK m10_putAside 0 := ⟨(wt_7 61 (by decide +kernel) rfl), (wt_1 11 (by decide +kernel) rfl), ⟨by decide +kernel, by decide +kernel⟩, by decide +kernel⟩
def m10_takeBack : MI := (⟨RX10, "takeBack", "()V"⟩, prog_12_method_13_code, 2, none, ⟨1, 0, 0, 32⟩, [])
set_option maxRecDepth 100000 in
theorem mok_m10_takeBack : MOK m10_takeBack 0 := ⟨(wt_7 65 (by decide +kernel) rfl), (wt_1 11 (by decide +kernel) rfl), ⟨by decide +kernel, by decide +kernel⟩, by decide +kernel⟩
def m10_findsRuns : MI := (⟨RX10, "findsRuns", "(I)V"⟩, prog_12_method_14_code, 4, none, ⟨1, 0, 0, 32⟩, [])
set_option maxRecDepth 100000 in
theorem mok_m10_findsRuns : MOK m10_findsRuns 1 := ⟨(wt_6 9 (by decide +kernel) rfl), (wt_1 11 (by decide +kernel) rfl), ⟨by decide +kernel, by decide +kernel⟩, by decide +kernel⟩
def m10_writes : MI := (⟨RX10, "writes", "(I)V"⟩, prog_12_method_15_code, 2, none, ⟨1, 0, 0, 32⟩, [])
set_option maxRecDepth 100000 in
theorem mok_m10_writes : MOK m10_writes 1 := ⟨(wt_6 1 (by decide +kernel) rfl), (wt_1 11 (by decide +kernel) rfl), ⟨by decide +kernel, by decide +kernel⟩, by decide +kernel⟩
def m10_writesRuns : MI := (⟨RX10, "writesRuns", "(I)V"⟩, prog_12_method_16_code, 3, none, ⟨2, 0, 0, 55⟩, [])
set_option maxRecDepth 100000 in
theorem mok_m10_writesRuns : MOK m10_writesRuns 1 := ⟨(wt_6 5 (by decide +kernel) rfl), (wt_1 11 (by decide +kernel) rfl), ⟨by decide +kernel, by decide +kernel⟩, by decide +kernel⟩
def m10_writesFours : MI := (⟨RX10, "writesFours", "(I)V"⟩, prog_12_method_17_code, 5, none, ⟨2, 0, 0, 53⟩, [])
set_option maxRecDepth 100000 in
theorem mok_m10_writesFours : MOK m10_writesFours 1 := ⟨(wt_5 237 (by decide +kernel) rfl), (wt_1 11 (by decide +kernel) rfl), ⟨by decide +kernel, by decide +kernel⟩, by decide +kernel⟩
def m10_codes : MI := (⟨RX10, "codes", "(II)I"⟩, prog_12_method_18_code, 4, (some .int), ⟨3, 0, 0, 77⟩, [])
set_option maxRecDepth 100000 in
theorem mok_m10_codes : MOK m10_codes 2 := ⟨(wt_5 233 (by decide +kernel) rfl), (wt_1 11 (by decide +kernel) rfl), ⟨by decide +kernel, by decide +kernel⟩, by decide +kernel⟩
def m10_check : MI := (⟨RX10, "check", "(II)I"⟩, prog_12_method_19_code, 3, (some .int), ⟨4, 0, 0, 100⟩, [])
set_option maxRecDepth 100000 in
theorem mok_m10_check : MOK m10_check 2 := ⟨(wt_6 222 (by decide +kernel) rfl), (wt_1 11 (by decide +kernel) rfl), ⟨by decide +kernel, by decide +kernel⟩, by decide +kernel⟩
def m10_bestMode : MI := (⟨RX10, "bestMode", "(I)I"⟩, prog_12_method_20_code, 4, (some .int), ⟨4, 0, 0, 100⟩, [])
set_option maxRecDepth 100000 in
theorem mok_m10_bestMode : MOK m10_bestMode 1 := ⟨(wt_5 229 (by decide +kernel) rfl), (wt_1 11 (by decide +kernel) rfl), ⟨by decide +kernel, by decide +kernel⟩, by decide +kernel⟩
def m10_sendsMany : MI := (⟨RX10, "sendsMany", "()I"⟩, prog_12_method_21_code, 3, (some .int), ⟨5, 0, 0, 123⟩, [])
set_option maxRecDepth 100000 in
theorem mok_m10_sendsMany : MOK m10_sendsMany 0 := ⟨(wt_6 230 (by decide +kernel) rfl), (wt_1 11 (by decide +kernel) rfl), ⟨by decide +kernel, by decide +kernel⟩, by decide +kernel⟩
def m10_stream : MI := (⟨RX10, "stream", "(I)I"⟩, prog_12_method_22_code, 2, (some .int), ⟨1, 0, 0, 32⟩, [])
set_option maxRecDepth 100000 in
theorem mok_m10_stream : MOK m10_stream 1 := ⟨(wt_6 48 (by decide +kernel) rfl), (wt_1 11 (by decide +kernel) rfl), ⟨by decide +kernel, by decide +kernel⟩, by decide +kernel⟩
def m10_takes : MI := (⟨RX10, "takes", "()I"⟩, prog_12_method_23_code, 2, (some .int), ⟨2, 0, 0, 53⟩, [])
set_option maxRecDepth 100000 in
theorem mok_m10_takes : MOK m10_takes 0 := ⟨(wt_6 56 (by decide +kernel) rfl), (wt_1 11 (by decide +kernel) rfl), ⟨by decide +kernel, by decide +kernel⟩, by decide +kernel⟩
def m10_takesKernel : MI := (⟨RX10, "takesKernel", "()I"⟩, prog_12_method_24_code, 3, (some .int), ⟨3, 0, 0, 74⟩, [])
set_option maxRecDepth 100000 in
theorem mok_m10_takesKernel : MOK m10_takesKernel 0 := ⟨(wt_6 64 (by decide +kernel) rfl), (wt_1 11 (by decide +kernel) rfl), ⟨by decide +kernel, by decide +kernel⟩, by decide +kernel⟩
def m10_takesRun : MI := (⟨RX10, "takesRun", "()I"⟩, prog_12_method_25_code, 4, (some .int), ⟨4, 0, 0, 96⟩, [])
set_option maxRecDepth 100000 in
theorem mok_m10_takesRun : MOK m10_takesRun 0 := ⟨(wt_6 72 (by decide +kernel) rfl), (wt_1 11 (by decide +kernel) rfl), ⟨by decide +kernel, by decide +kernel⟩, by decide +kernel⟩
def m10_takesRuns : MI := (⟨RX10, "takesRuns", "()V"⟩, prog_12_method_26_code, 5, none, ⟨5, 0, 0, 119⟩, [])
set_option maxRecDepth 100000 in
theorem mok_m10_takesRuns : MOK m10_takesRuns 0 := ⟨(wt_6 68 (by decide +kernel) rfl), (wt_1 11 (by decide +kernel) rfl), ⟨by decide +kernel, by decide +kernel⟩, by decide +kernel⟩
def m10_takesFours : MI := (⟨RX10, "takesFours", "()V"⟩, prog_12_method_27_code, 5, none, ⟨4, 0, 0, 96⟩, [])
set_option maxRecDepth 100000 in
theorem mok_m10_takesFours : MOK m10_takesFours 0 := ⟨(wt_6 60 (by decide +kernel) rfl), (wt_1 11 (by decide +kernel) rfl), ⟨by decide +kernel, by decide +kernel⟩, by decide +kernel⟩
def m10_takesCode : MI := (⟨RX10, "takesCode", "()I"⟩, prog_12_method_28_code, 6, (some .int), ⟨6, 0, 0, 143⟩, [])
set_option maxRecDepth 100000 in
theorem mok_m10_takesCode : MOK m10_takesCode 0 := ⟨(wt_6 52 (by decide +kernel) rfl), (wt_1 11 (by decide +kernel) rfl), ⟨by decide +kernel, by decide +kernel⟩, by decide +kernel⟩
def m10_isMarker : MI := (⟨RX10, "isMarker", "(I)Z"⟩, prog_12_method_29_code, 2, (some .boolean), ⟨2, 0, 0, 53⟩, [])
set_option maxRecDepth 100000 in
theorem mok_m10_isMarker : MOK m10_isMarker 1 := ⟨(wt_6 44 (by decide +kernel) rfl), (wt_1 11 (by decide +kernel) rfl), ⟨by decide +kernel, by decide +kernel⟩, by decide +kernel⟩
def m10_notes : MI := (⟨RX10, "notes", "(II)V"⟩, prog_12_method_30_code, 3, none, ⟨1, 0, 0, 32⟩, [])
set_option maxRecDepth 100000 in
theorem mok_m10_notes : MOK m10_notes 2 := ⟨(wt_6 76 (by decide +kernel) rfl), (wt_1 11 (by decide +kernel) rfl), ⟨by decide +kernel, by decide +kernel⟩, by decide +kernel⟩
def m10_gotMany : MI := (⟨RX10, "gotMany", "()I"⟩, prog_12_method_31_code, 1, (some .int), ⟨2, 0, 0, 54⟩, [])
set_option maxRecDepth 100000 in
theorem mok_m10_gotMany : MOK m10_gotMany 0 := ⟨(wt_6 80 (by decide +kernel) rfl), (wt_1 11 (by decide +kernel) rfl), ⟨by decide +kernel, by decide +kernel⟩, by decide +kernel⟩
def m10_forgets : MI := (⟨RX10, "forgets", "()V"⟩, prog_12_method_33_code, 2, none, ⟨1, 0, 0, 32⟩, [])
set_option maxRecDepth 100000 in
theorem mok_m10_forgets : MOK m10_forgets 0 := ⟨(wt_5 185 (by decide +kernel) rfl), (wt_1 11 (by decide +kernel) rfl), ⟨by decide +kernel, by decide +kernel⟩, by decide +kernel⟩
def m10_readsStream : MI := (⟨RX10, "readsStream", "()I"⟩, prog_12_method_32_code, 3, (some .int), ⟨7, 0, 0, 168⟩, [])
set_option maxRecDepth 100000 in
theorem mok_m10_readsStream : MOK m10_readsStream 0 := ⟨(wt_6 40 (by decide +kernel) rfl), (wt_1 11 (by decide +kernel) rfl), ⟨by decide +kernel, by decide +kernel⟩, by decide +kernel⟩
def m10_rightMany : MI := (⟨RX10, "rightMany", "()I"⟩, prog_12_method_34_code, 3, (some .int), ⟨1, 0, 0, 32⟩, [])
set_option maxRecDepth 100000 in
theorem mok_m10_rightMany : MOK m10_rightMany 0 := ⟨(wt_7 33 (by decide +kernel) rfl), (wt_1 11 (by decide +kernel) rfl), ⟨by decide +kernel, by decide +kernel⟩, by decide +kernel⟩
def m10_setWidth : MI := (⟨RX10, "setWidth", "(I)I"⟩, prog_12_method_35_code, 3, (some .int), ⟨2, 0, 0, 54⟩, [])
set_option maxRecDepth 100000 in
theorem mok_m10_setWidth : MOK m10_setWidth 1 := ⟨(wt_5 170 (by decide +kernel) rfl), (wt_1 11 (by decide +kernel) rfl), ⟨by decide +kernel, by decide +kernel⟩, by decide +kernel⟩
def m10_arePixels : MI := (⟨RX10, "arePixels", "(J)Z"⟩, prog_12_method_36_code, 3, (some .boolean), ⟨1, 0, 0, 32⟩, [])
set_option maxRecDepth 100000 in
theorem mok_m10_arePixels : MOK m10_arePixels 1 := ⟨(wt_5 193 (by decide +kernel) rfl), (wt_1 11 (by decide +kernel) rfl), ⟨by decide +kernel, by decide +kernel⟩, by decide +kernel⟩
def m10_addsLine : MI := (⟨RX10, "addsLine", "(I)I"⟩, prog_12_method_37_code, 2, (some .int), ⟨1, 0, 0, 32⟩, [])
set_option maxRecDepth 100000 in
theorem mok_m10_addsLine : MOK m10_addsLine 1 := ⟨(wt_5 197 (by decide +kernel) rfl), (wt_1 11 (by decide +kernel) rfl), ⟨by decide +kernel, by decide +kernel⟩, by decide +kernel⟩
def m10_addLine : MI := (⟨RX10, "addLine", "(J)I"⟩, prog_12_method_38_code, 3, (some .int), ⟨2, 0, 0, 54⟩, [])
set_option maxRecDepth 100000 in
theorem mok_m10_addLine : MOK m10_addLine 1 := ⟨(wt_5 189 (by decide +kernel) rfl), (wt_1 11 (by decide +kernel) rfl), ⟨by decide +kernel, by decide +kernel⟩, by decide +kernel⟩
def m10_setLine : MI := (⟨RX10, "setLine", "(IJ)J"⟩, prog_12_method_39_code, 6, (some .long), ⟨3, 0, 0, 75⟩, [])
set_option maxRecDepth 100000 in
theorem mok_m10_setLine : MOK m10_setLine 2 := ⟨(wt_5 201 (by decide +kernel) rfl), (wt_1 11 (by decide +kernel) rfl), ⟨by decide +kernel, by decide +kernel⟩, by decide +kernel⟩
def m10_dropLast : MI := (⟨RX10, "dropLast", "()I"⟩, prog_12_method_40_code, 1, (some .int), ⟨2, 0, 0, 53⟩, [])
set_option maxRecDepth 100000 in
theorem mok_m10_dropLast : MOK m10_dropLast 0 := ⟨(wt_5 213 (by decide +kernel) rfl), (wt_1 11 (by decide +kernel) rfl), ⟨by decide +kernel, by decide +kernel⟩, by decide +kernel⟩
def m10_setStyle : MI := (⟨RX10, "setStyle", "(I)I"⟩, prog_12_method_41_code, 3, (some .int), ⟨2, 0, 0, 54⟩, [])
set_option maxRecDepth 100000 in
theorem mok_m10_setStyle : MOK m10_setStyle 1 := ⟨(wt_5 217 (by decide +kernel) rfl), (wt_1 11 (by decide +kernel) rfl), ⟨by decide +kernel, by decide +kernel⟩, by decide +kernel⟩
def m10_sends : MI := (⟨RX10, "sends", "()I"⟩, prog_12_method_42_code, 3, (some .int), ⟨5, 0, 0, 123⟩, [])
set_option maxRecDepth 100000 in
theorem mok_m10_sends : MOK m10_sends 0 := ⟨(wt_5 225 (by decide +kernel) rfl), (wt_1 11 (by decide +kernel) rfl), ⟨by decide +kernel, by decide +kernel⟩, by decide +kernel⟩
def m10_send : MI := (⟨RX10, "send", "()I"⟩, prog_12_method_43_code, 1, (some .int), ⟨6, 0, 0, 145⟩, [])
set_option maxRecDepth 100000 in
theorem mok_m10_send : MOK m10_send 0 := ⟨(wt_5 221 (by decide +kernel) rfl), (wt_1 11 (by decide +kernel) rfl), ⟨by decide +kernel, by decide +kernel⟩, by decide +kernel⟩
def m10_replaces : MI := (⟨RX10, "replaces", "(II)I"⟩, prog_12_method_44_code, 4, (some .int), ⟨1, 0, 0, 32⟩, [])
set_option maxRecDepth 100000 in
theorem mok_m10_replaces : MOK m10_replaces 2 := ⟨(wt_6 24 (by decide +kernel) rfl), (wt_1 11 (by decide +kernel) rfl), ⟨by decide +kernel, by decide +kernel⟩, by decide +kernel⟩
def m10_replace : MI := (⟨RX10, "replace", "(II)I"⟩, prog_12_method_45_code, 3, (some .int), ⟨3, 0, 0, 75⟩, [])
set_option maxRecDepth 100000 in
theorem mok_m10_replace : MOK m10_replace 2 := ⟨(wt_6 13 (by decide +kernel) rfl), (wt_1 11 (by decide +kernel) rfl), ⟨by decide +kernel, by decide +kernel⟩, by decide +kernel⟩
def m10_lose : MI := (⟨RX10, "lose", "(I)I"⟩, prog_12_method_46_code, 4, (some .int), ⟨3, 0, 0, 75⟩, [])
set_option maxRecDepth 100000 in
theorem mok_m10_lose : MOK m10_lose 1 := ⟨(wt_6 28 (by decide +kernel) rfl), (wt_1 11 (by decide +kernel) rfl), ⟨by decide +kernel, by decide +kernel⟩, by decide +kernel⟩
def m10_gain : MI := (⟨RX10, "gain", "(II)I"⟩, prog_12_method_47_code, 4, (some .int), ⟨3, 0, 0, 74⟩, [])
set_option maxRecDepth 100000 in
theorem mok_m10_gain : MOK m10_gain 2 := ⟨(wt_6 32 (by decide +kernel) rfl), (wt_1 11 (by decide +kernel) rfl), ⟨by decide +kernel, by decide +kernel⟩, by decide +kernel⟩
def m10_receive : MI := (⟨RX10, "receive", "()I"⟩, prog_12_method_48_code, 1, (some .int), ⟨8, 0, 0, 190⟩, [])
set_option maxRecDepth 100000 in
theorem mok_m10_receive : MOK m10_receive 0 := ⟨(wt_6 36 (by decide +kernel) rfl), (wt_1 11 (by decide +kernel) rfl), ⟨by decide +kernel, by decide +kernel⟩, by decide +kernel⟩
def m10_append : MI := (⟨RX10, "append", "(I)I"⟩, prog_12_method_49_code, 2, (some .int), ⟨2, 0, 0, 54⟩, [])
set_option maxRecDepth 100000 in
theorem mok_m10_append : MOK m10_append 1 := ⟨(wt_6 87 (by decide +kernel) rfl), (wt_1 11 (by decide +kernel) rfl), ⟨by decide +kernel, by decide +kernel⟩, by decide +kernel⟩
def m10_clearBuffer : MI := (⟨RX10, "clearBuffer", "()I"⟩, prog_12_method_50_code, 2, (some .int), ⟨1, 0, 0, 32⟩, [])
set_option maxRecDepth 100000 in
theorem mok_m10_clearBuffer : MOK m10_clearBuffer 0 := ⟨(wt_6 91 (by decide +kernel) rfl), (wt_1 11 (by decide +kernel) rfl), ⟨by decide +kernel, by decide +kernel⟩, by decide +kernel⟩
def m10_sign : MI := (⟨RX10, "sign", "()I"⟩, prog_12_method_51_code, 1, (some .int), ⟨1, 0, 0, 32⟩, [])
set_option maxRecDepth 100000 in
theorem mok_m10_sign : MOK m10_sign 0 := ⟨(wt_6 107 (by decide +kernel) rfl), (wt_1 11 (by decide +kernel) rfl), ⟨by decide +kernel, by decide +kernel⟩, by decide +kernel⟩
def m10_reads : MI := (⟨RX10, "reads", "(II)I"⟩, prog_12_method_52_code, 4, (some .int), ⟨2, 0, 0, 54⟩, [])
set_option maxRecDepth 100000 in
theorem mok_m10_reads : MOK m10_reads 2 := ⟨(wt_6 119 (by decide +kernel) rfl), (wt_1 11 (by decide +kernel) rfl), ⟨by decide +kernel, by decide +kernel⟩, by decide +kernel⟩
def m10_number : MI := (⟨RX10, "number", "(I)I"⟩, prog_12_method_53_code, 3, (some .int), ⟨3, 0, 0, 77⟩, [])
set_option maxRecDepth 100000 in
theorem mok_m10_number : MOK m10_number 1 := ⟨(wt_6 115 (by decide +kernel) rfl), (wt_1 11 (by decide +kernel) rfl), ⟨by decide +kernel, by decide +kernel⟩, by decide +kernel⟩
def m10_readsPixels : MI := (⟨RX10, "readsPixels", "(I)V"⟩, prog_12_method_54_code, 4, none, ⟨2, 0, 0, 52⟩, [])
set_option maxRecDepth 100000 in
theorem mok_m10_readsPixels : MOK m10_readsPixels 1 := ⟨(wt_6 111 (by decide +kernel) rfl), (wt_1 11 (by decide +kernel) rfl), ⟨by decide +kernel, by decide +kernel⟩, by decide +kernel⟩
def m10_readsPart : MI := (⟨RX10, "readsPart", "()V"⟩, prog_12_method_55_code, 3, none, ⟨4, 0, 0, 99⟩, [])
set_option maxRecDepth 100000 in
theorem mok_m10_readsPart : MOK m10_readsPart 0 := ⟨(wt_6 103 (by decide +kernel) rfl), (wt_1 11 (by decide +kernel) rfl), ⟨by decide +kernel, by decide +kernel⟩, by decide +kernel⟩
def m10_readsPage : MI := (⟨RX10, "readsPage", "()Z"⟩, prog_12_method_56_code, 1, (some .boolean), ⟨5, 0, 0, 121⟩, [])
set_option maxRecDepth 100000 in
theorem mok_m10_readsPage : MOK m10_readsPage 0 := ⟨(wt_6 99 (by decide +kernel) rfl), (wt_1 11 (by decide +kernel) rfl), ⟨by decide +kernel, by decide +kernel⟩, by decide +kernel⟩
def m10_firstError : MI := (⟨RX10, "firstError", "()I"⟩, prog_12_method_57_code, 1, (some .int), ⟨6, 0, 0, 141⟩, [])
set_option maxRecDepth 100000 in
theorem mok_m10_firstError : MOK m10_firstError 0 := ⟨(wt_6 95 (by decide +kernel) rfl), (wt_1 11 (by decide +kernel) rfl), ⟨by decide +kernel, by decide +kernel⟩, by decide +kernel⟩
def m10_does : MI := (⟨RX10, "does", "(I)Z"⟩, prog_12_method_58_code, 3, (some .boolean), ⟨8, 0, 0, 190⟩, [])
set_option maxRecDepth 100000 in
theorem mok_m10_does : MOK m10_does 1 := ⟨(wt_6 127 (by decide +kernel) rfl), (wt_1 11 (by decide +kernel) rfl), ⟨by decide +kernel, by decide +kernel⟩, by decide +kernel⟩
def m10_play : MI := (⟨RX10, "play", "()I"⟩, prog_12_method_59_code, 2, (some .int), ⟨9, 0, 0, 212⟩, [])
set_option maxRecDepth 100000 in
theorem mok_m10_play : MOK m10_play 0 := ⟨(wt_6 123 (by decide +kernel) rfl), (wt_1 11 (by decide +kernel) rfl), ⟨by decide +kernel, by decide +kernel⟩, by decide +kernel⟩
def m10_hasStopped : MI := (⟨RX10, "hasStopped", "()Z"⟩, prog_12_method_60_code, 1, (some .boolean), ⟨1, 0, 0, 32⟩, [])
set_option maxRecDepth 100000 in
theorem mok_m10_hasStopped : MOK m10_hasStopped 0 := ⟨(wt_6 131 (by decide +kernel) rfl), (wt_1 11 (by decide +kernel) rfl), ⟨by decide +kernel, by decide +kernel⟩, by decide +kernel⟩
def m10_stoppedPart : MI := (⟨RX10, "stoppedPart", "()I"⟩, prog_12_method_61_code, 1, (some .int), ⟨2, 0, 0, 53⟩, [])
set_option maxRecDepth 100000 in
theorem mok_m10_stoppedPart : MOK m10_stoppedPart 0 := ⟨(wt_6 135 (by decide +kernel) rfl), (wt_1 11 (by decide +kernel) rfl), ⟨by decide +kernel, by decide +kernel⟩, by decide +kernel⟩
def m10_undo : MI := (⟨RX10, "undo", "()I"⟩, prog_12_method_62_code, 2, (some .int), ⟨2, 0, 0, 53⟩, [])
set_option maxRecDepth 100000 in
theorem mok_m10_undo : MOK m10_undo 0 := ⟨(wt_6 139 (by decide +kernel) rfl), (wt_1 11 (by decide +kernel) rfl), ⟨by decide +kernel, by decide +kernel⟩, by decide +kernel⟩
def m10_keep : MI := (⟨RX10, "keep", "()I"⟩, prog_12_method_63_code, 2, (some .int), ⟨1, 0, 0, 32⟩, [])
set_option maxRecDepth 100000 in
theorem mok_m10_keep : MOK m10_keep 0 := ⟨(wt_6 143 (by decide +kernel) rfl), (wt_1 11 (by decide +kernel) rfl), ⟨by decide +kernel, by decide +kernel⟩, by decide +kernel⟩
def m10_restore : MI := (⟨RX10, "restore", "()I"⟩, prog_12_method_64_code, 2, (some .int), ⟨2, 0, 0, 53⟩, [])
set_option maxRecDepth 100000 in
theorem mok_m10_restore : MOK m10_restore 0 := ⟨(wt_6 147 (by decide +kernel) rfl), (wt_1 11 (by decide +kernel) rfl), ⟨by decide +kernel, by decide +kernel⟩, by decide +kernel⟩
def m10_savedStates : MI := (⟨RX10, "savedStates", "()I"⟩, prog_12_method_65_code, 1, (some .int), ⟨1, 0, 0, 32⟩, [])
set_option maxRecDepth 100000 in
theorem mok_m10_savedStates : MOK m10_savedStates 0 := ⟨(wt_6 151 (by decide +kernel) rfl), (wt_1 11 (by decide +kernel) rfl), ⟨by decide +kernel, by decide +kernel⟩, by decide +kernel⟩
def m10_width : MI := (⟨RX10, "width", "()I"⟩, prog_12_method_66_code, 1, (some .int), ⟨1, 0, 0, 32⟩, [])
set_option maxRecDepth 100000 in
theorem mok_m10_width : MOK m10_width 0 := ⟨(wt_6 155 (by decide +kernel) rfl), (wt_1 11 (by decide +kernel) rfl), ⟨by decide +kernel, by decide +kernel⟩, by decide +kernel⟩
def m10_lines : MI := (⟨RX10, "lines", "()I"⟩, prog_12_method_67_code, 1, (some .int), ⟨1, 0, 0, 32⟩, [])
set_option maxRecDepth 100000 in
theorem mok_m10_lines : MOK m10_lines 0 := ⟨(wt_6 159 (by decide +kernel) rfl), (wt_1 11 (by decide +kernel) rfl), ⟨by decide +kernel, by decide +kernel⟩, by decide +kernel⟩
def m10_style : MI := (⟨RX10, "style", "()I"⟩, prog_12_method_68_code, 1, (some .int), ⟨1, 0, 0, 32⟩, [])
set_option maxRecDepth 100000 in
theorem mok_m10_style : MOK m10_style 0 := ⟨(wt_6 163 (by decide +kernel) rfl), (wt_1 11 (by decide +kernel) rfl), ⟨by decide +kernel, by decide +kernel⟩, by decide +kernel⟩
def m10_pixelsOf : MI := (⟨RX10, "pixelsOf", "(I)J"⟩, prog_12_method_69_code, 2, (some .long), ⟨3, 0, 0, 75⟩, [])
set_option maxRecDepth 100000 in
theorem mok_m10_pixelsOf : MOK m10_pixelsOf 1 := ⟨(wt_6 167 (by decide +kernel) rfl), (wt_1 11 (by decide +kernel) rfl), ⟨by decide +kernel, by decide +kernel⟩, by decide +kernel⟩
def m10_isBlack : MI := (⟨RX10, "isBlack", "(II)Z"⟩, prog_12_method_70_code, 3, (some .boolean), ⟨3, 0, 0, 75⟩, [])
set_option maxRecDepth 100000 in
theorem mok_m10_isBlack : MOK m10_isBlack 2 := ⟨(wt_6 171 (by decide +kernel) rfl), (wt_1 11 (by decide +kernel) rfl), ⟨by decide +kernel, by decide +kernel⟩, by decide +kernel⟩
def m10_manyRuns : MI := (⟨RX10, "manyRuns", "(I)I"⟩, prog_12_method_71_code, 2, (some .int), ⟨2, 0, 0, 55⟩, [])
set_option maxRecDepth 100000 in
theorem mok_m10_manyRuns : MOK m10_manyRuns 1 := ⟨(wt_6 179 (by decide +kernel) rfl), (wt_1 11 (by decide +kernel) rfl), ⟨by decide +kernel, by decide +kernel⟩, by decide +kernel⟩
def m10_runsOf : MI := (⟨RX10, "runsOf", "(I)I"⟩, prog_12_method_72_code, 2, (some .int), ⟨3, 0, 0, 76⟩, [])
set_option maxRecDepth 100000 in
theorem mok_m10_runsOf : MOK m10_runsOf 1 := ⟨(wt_6 175 (by decide +kernel) rfl), (wt_1 11 (by decide +kernel) rfl), ⟨by decide +kernel, by decide +kernel⟩, by decide +kernel⟩
def m10_longest : MI := (⟨RX10, "longest", "(I)I"⟩, prog_12_method_73_code, 4, (some .int), ⟨2, 0, 0, 55⟩, [])
set_option maxRecDepth 100000 in
theorem mok_m10_longest : MOK m10_longest 1 := ⟨(wt_6 187 (by decide +kernel) rfl), (wt_1 11 (by decide +kernel) rfl), ⟨by decide +kernel, by decide +kernel⟩, by decide +kernel⟩
def m10_longestRun : MI := (⟨RX10, "longestRun", "(I)I"⟩, prog_12_method_74_code, 2, (some .int), ⟨3, 0, 0, 78⟩, [])
set_option maxRecDepth 100000 in
theorem mok_m10_longestRun : MOK m10_longestRun 1 := ⟨(wt_6 183 (by decide +kernel) rfl), (wt_1 11 (by decide +kernel) rfl), ⟨by decide +kernel, by decide +kernel⟩, by decide +kernel⟩
def m10_black : MI := (⟨RX10, "black", "()I"⟩, prog_12_method_75_code, 3, (some .int), ⟨2, 0, 0, 54⟩, [])
set_option maxRecDepth 100000 in
theorem mok_m10_black : MOK m10_black 0 := ⟨(wt_6 195 (by decide +kernel) rfl), (wt_1 11 (by decide +kernel) rfl), ⟨by decide +kernel, by decide +kernel⟩, by decide +kernel⟩
def m10_blackPixels : MI := (⟨RX10, "blackPixels", "()I"⟩, prog_12_method_76_code, 1, (some .int), ⟨3, 0, 0, 76⟩, [])
set_option maxRecDepth 100000 in
theorem mok_m10_blackPixels : MOK m10_blackPixels 0 := ⟨(wt_6 191 (by decide +kernel) rfl), (wt_1 11 (by decide +kernel) rfl), ⟨by decide +kernel, by decide +kernel⟩, by decide +kernel⟩
def m10_tellsLength : MI := (⟨RX10, "tellsLength", "(II)I"⟩, prog_12_method_77_code, 3, (some .int), ⟨4, 0, 0, 100⟩, [])
set_option maxRecDepth 100000 in
theorem mok_m10_tellsLength : MOK m10_tellsLength 2 := ⟨(wt_6 203 (by decide +kernel) rfl), (wt_1 11 (by decide +kernel) rfl), ⟨by decide +kernel, by decide +kernel⟩, by decide +kernel⟩
def m10_codeLength : MI := (⟨RX10, "codeLength", "(II)I"⟩, prog_12_method_78_code, 3, (some .int), ⟨5, 0, 0, 122⟩, [])
set_option maxRecDepth 100000 in
theorem mok_m10_codeLength : MOK m10_codeLength 2 := ⟨(wt_6 199 (by decide +kernel) rfl), (wt_1 11 (by decide +kernel) rfl), ⟨by decide +kernel, by decide +kernel⟩, by decide +kernel⟩
def m10_codeLengthByCounting : MI := (⟨RX10, "codeLengthByCounting", "(II)I"⟩, prog_12_method_79_code, 3, (some .int), ⟨5, 0, 0, 122⟩, [])
set_option maxRecDepth 100000 in
theorem mok_m10_codeLengthByCounting : MOK m10_codeLengthByCounting 2 := ⟨(wt_6 210 (by decide +kernel) rfl), (wt_1 11 (by decide +kernel) rfl), ⟨by decide +kernel, by decide +kernel⟩, by decide +kernel⟩
def m10_modeOf : MI := (⟨RX10, "modeOf", "(I)I"⟩, prog_12_method_80_code, 2, (some .int), ⟨5, 0, 0, 123⟩, [])
set_option maxRecDepth 100000 in
theorem mok_m10_modeOf : MOK m10_modeOf 1 := ⟨(wt_6 214 (by decide +kernel) rfl), (wt_1 11 (by decide +kernel) rfl), ⟨by decide +kernel, by decide +kernel⟩, by decide +kernel⟩
def m10_checkOf : MI := (⟨RX10, "checkOf", "(II)I"⟩, prog_12_method_81_code, 3, (some .int), ⟨5, 0, 0, 122⟩, [])
set_option maxRecDepth 100000 in
theorem mok_m10_checkOf : MOK m10_checkOf 2 := ⟨(wt_6 218 (by decide +kernel) rfl), (wt_1 11 (by decide +kernel) rfl), ⟨by decide +kernel, by decide +kernel⟩, by decide +kernel⟩
def m10_wouldSend : MI := (⟨RX10, "wouldSend", "()I"⟩, prog_12_method_82_code, 1, (some .int), ⟨6, 0, 0, 145⟩, [])
set_option maxRecDepth 100000 in
theorem mok_m10_wouldSend : MOK m10_wouldSend 0 := ⟨(wt_6 226 (by decide +kernel) rfl), (wt_1 11 (by decide +kernel) rfl), ⟨by decide +kernel, by decide +kernel⟩, by decide +kernel⟩
def m10_streamLength : MI := (⟨RX10, "streamLength", "()I"⟩, prog_12_method_83_code, 1, (some .int), ⟨1, 0, 0, 32⟩, [])
set_option maxRecDepth 100000 in
theorem mok_m10_streamLength : MOK m10_streamLength 0 := ⟨(wt_6 234 (by decide +kernel) rfl), (wt_1 11 (by decide +kernel) rfl), ⟨by decide +kernel, by decide +kernel⟩, by decide +kernel⟩
def m10_numberAt : MI := (⟨RX10, "numberAt", "(I)I"⟩, prog_12_method_84_code, 2, (some .int), ⟨3, 0, 0, 75⟩, [])
set_option maxRecDepth 100000 in
theorem mok_m10_numberAt : MOK m10_numberAt 1 := ⟨(wt_6 238 (by decide +kernel) rfl), (wt_1 11 (by decide +kernel) rfl), ⟨by decide +kernel, by decide +kernel⟩, by decide +kernel⟩
def m10_markerMany : MI := (⟨RX10, "markerMany", "()I"⟩, prog_12_method_85_code, 3, (some .int), ⟨3, 0, 0, 74⟩, [])
set_option maxRecDepth 100000 in
theorem mok_m10_markerMany : MOK m10_markerMany 0 := ⟨(wt_7 6 (by decide +kernel) rfl), (wt_1 11 (by decide +kernel) rfl), ⟨by decide +kernel, by decide +kernel⟩, by decide +kernel⟩
def m10_markers : MI := (⟨RX10, "markers", "()I"⟩, prog_12_method_86_code, 1, (some .int), ⟨4, 0, 0, 96⟩, [])
set_option maxRecDepth 100000 in
theorem mok_m10_markers : MOK m10_markers 0 := ⟨(wt_7 2 (by decide +kernel) rfl), (wt_1 11 (by decide +kernel) rfl), ⟨by decide +kernel, by decide +kernel⟩, by decide +kernel⟩
def m10_isAnyLine : MI := (⟨RX10, "isAnyLine", "(I)Z"⟩, prog_12_method_87_code, 1, (some .boolean), ⟨2, 0, 0, 54⟩, [])
set_option maxRecDepth 100000 in
theorem mok_m10_isAnyLine : MOK m10_isAnyLine 1 := ⟨(wt_7 13 (by decide +kernel) rfl), (wt_1 11 (by decide +kernel) rfl), ⟨by decide +kernel, by decide +kernel⟩, by decide +kernel⟩
def m10_isGot : MI := (⟨RX10, "isGot", "(I)Z"⟩, prog_12_method_88_code, 2, (some .boolean), ⟨1, 0, 0, 32⟩, [])
set_option maxRecDepth 100000 in
theorem mok_m10_isGot : MOK m10_isGot 1 := ⟨(wt_7 17 (by decide +kernel) rfl), (wt_1 11 (by decide +kernel) rfl), ⟨by decide +kernel, by decide +kernel⟩, by decide +kernel⟩
def m10_isReceived : MI := (⟨RX10, "isReceived", "(I)Z"⟩, prog_12_method_89_code, 2, (some .boolean), ⟨3, 0, 0, 74⟩, [])
set_option maxRecDepth 100000 in
theorem mok_m10_isReceived : MOK m10_isReceived 1 := ⟨(wt_7 10 (by decide +kernel) rfl), (wt_1 11 (by decide +kernel) rfl), ⟨by decide +kernel, by decide +kernel⟩, by decide +kernel⟩
def m10_receivedPixels : MI := (⟨RX10, "receivedPixels", "(I)J"⟩, prog_12_method_90_code, 2, (some .long), ⟨3, 0, 0, 74⟩, [])
set_option maxRecDepth 100000 in
theorem mok_m10_receivedPixels : MOK m10_receivedPixels 1 := ⟨(wt_7 21 (by decide +kernel) rfl), (wt_1 11 (by decide +kernel) rfl), ⟨by decide +kernel, by decide +kernel⟩, by decide +kernel⟩
def m10_received : MI := (⟨RX10, "received", "()I"⟩, prog_12_method_91_code, 1, (some .int), ⟨3, 0, 0, 74⟩, [])
set_option maxRecDepth 100000 in
theorem mok_m10_received : MOK m10_received 0 := ⟨(wt_7 25 (by decide +kernel) rfl), (wt_1 11 (by decide +kernel) rfl), ⟨by decide +kernel, by decide +kernel⟩, by decide +kernel⟩
def m10_right : MI := (⟨RX10, "right", "()I"⟩, prog_12_method_92_code, 1, (some .int), ⟨2, 0, 0, 54⟩, [])
set_option maxRecDepth 100000 in
theorem mok_m10_right : MOK m10_right 0 := ⟨(wt_7 29 (by decide +kernel) rfl), (wt_1 11 (by decide +kernel) rfl), ⟨by decide +kernel, by decide +kernel⟩, by decide +kernel⟩
def m10_errors : MI := (⟨RX10, "errors", "()I"⟩, prog_12_method_93_code, 1, (some .int), ⟨1, 0, 0, 32⟩, [])
set_option maxRecDepth 100000 in
theorem mok_m10_errors : MOK m10_errors 0 := ⟨(wt_7 37 (by decide +kernel) rfl), (wt_1 11 (by decide +kernel) rfl), ⟨by decide +kernel, by decide +kernel⟩, by decide +kernel⟩
def m10_error : MI := (⟨RX10, "error", "(II)I"⟩, prog_12_method_94_code, 3, (some .int), ⟨2, 0, 0, 54⟩, [])
set_option maxRecDepth 100000 in
theorem mok_m10_error : MOK m10_error 2 := ⟨(wt_7 45 (by decide +kernel) rfl), (wt_1 11 (by decide +kernel) rfl), ⟨by decide +kernel, by decide +kernel⟩, by decide +kernel⟩
def m10_errorPlace : MI := (⟨RX10, "errorPlace", "(I)I"⟩, prog_12_method_95_code, 2, (some .int), ⟨3, 0, 0, 76⟩, [])
set_option maxRecDepth 100000 in
theorem mok_m10_errorPlace : MOK m10_errorPlace 1 := ⟨(wt_7 41 (by decide +kernel) rfl), (wt_1 11 (by decide +kernel) rfl), ⟨by decide +kernel, by decide +kernel⟩, by decide +kernel⟩
def m10_errorReason : MI := (⟨RX10, "errorReason", "(I)I"⟩, prog_12_method_96_code, 2, (some .int), ⟨3, 0, 0, 76⟩, [])
set_option maxRecDepth 100000 in
theorem mok_m10_errorReason : MOK m10_errorReason 1 := ⟨(wt_7 49 (by decide +kernel) rfl), (wt_1 11 (by decide +kernel) rfl), ⟨by decide +kernel, by decide +kernel⟩, by decide +kernel⟩
def m10_wouldGet : MI := (⟨RX10, "wouldGet", "()I"⟩, prog_12_method_97_code, 2, (some .int), ⟨8, 0, 0, 190⟩, [])
set_option maxRecDepth 100000 in
theorem mok_m10_wouldGet : MOK m10_wouldGet 0 := ⟨(wt_7 57 (by decide +kernel) rfl), (wt_1 11 (by decide +kernel) rfl), ⟨by decide +kernel, by decide +kernel⟩, by decide +kernel⟩
def m10_wouldReceive : MI := (⟨RX10, "wouldReceive", "()I"⟩, prog_12_method_98_code, 1, (some .int), ⟨9, 0, 0, 211⟩, [])
set_option maxRecDepth 100000 in
theorem mok_m10_wouldReceive : MOK m10_wouldReceive 0 := ⟨(wt_7 53 (by decide +kernel) rfl), (wt_1 11 (by decide +kernel) rfl), ⟨by decide +kernel, by decide +kernel⟩, by decide +kernel⟩
def m10_wouldRight : MI := (⟨RX10, "wouldRight", "()I"⟩, prog_12_method_99_code, 2, (some .int), ⟨8, 0, 0, 190⟩, [])
set_option maxRecDepth 100000 in
theorem mok_m10_wouldRight : MOK m10_wouldRight 0 := ⟨(wt_7 73 (by decide +kernel) rfl), (wt_1 11 (by decide +kernel) rfl), ⟨by decide +kernel, by decide +kernel⟩, by decide +kernel⟩
def m10_wouldBeRight : MI := (⟨RX10, "wouldBeRight", "()I"⟩, prog_12_method_100_code, 1, (some .int), ⟨9, 0, 0, 211⟩, [])
set_option maxRecDepth 100000 in
theorem mok_m10_wouldBeRight : MOK m10_wouldBeRight 0 := ⟨(wt_7 69 (by decide +kernel) rfl), (wt_1 11 (by decide +kernel) rfl), ⟨by decide +kernel, by decide +kernel⟩, by decide +kernel⟩
def m10_rightIfReplaced : MI := (⟨RX10, "rightIfReplaced", "(II)I"⟩, prog_12_method_101_code, 5, (some .int), ⟨9, 0, 0, 211⟩, [])
set_option maxRecDepth 100000 in
theorem mok_m10_rightIfReplaced : MOK m10_rightIfReplaced 2 := ⟨(wt_7 77 (by decide +kernel) rfl), (wt_1 11 (by decide +kernel) rfl), ⟨by decide +kernel, by decide +kernel⟩, by decide +kernel⟩
def m10_share : MI := (⟨RX10, "share", "()D"⟩, prog_12_method_102_code, 1, (some .double), ⟨6, 0, 0, 145⟩, [])
set_option maxRecDepth 100000 in
theorem mok_m10_share : MOK m10_share 0 := ⟨(wt_7 85 (by decide +kernel) rfl), (wt_1 11 (by decide +kernel) rfl), ⟨by decide +kernel, by decide +kernel⟩, by decide +kernel⟩
def m10_codedShare : MI := (⟨RX10, "codedShare", "()D"⟩, prog_12_method_103_code, 1, (some .double), ⟨7, 0, 0, 165⟩, [])
set_option maxRecDepth 100000 in
theorem mok_m10_codedShare : MOK m10_codedShare 0 := ⟨(wt_7 81 (by decide +kernel) rfl), (wt_1 11 (by decide +kernel) rfl), ⟨by decide +kernel, by decide +kernel⟩, by decide +kernel⟩
def m10_digestLine : MI := (⟨RX10, "digestLine", "(JI)J"⟩, prog_12_method_104_code, 7, (some .long), ⟨5, 0, 0, 123⟩, [])
set_option maxRecDepth 100000 in
theorem mok_m10_digestLine : MOK m10_digestLine 2 := ⟨(wt_7 95 (by decide +kernel) rfl), (wt_1 11 (by decide +kernel) rfl), ⟨by decide +kernel, by decide +kernel⟩, by decide +kernel⟩
def mJxe99ae_isNaN : MI := (⟨"java/lang/Double", "isNaN", "(D)Z"⟩, prog_13_method_6_code, 2, (some .boolean), ⟨1, 0, 0, 32⟩, [])
set_option maxRecDepth 100000 in
theorem mok_mJxe99ae_isNaN : MOK mJxe99ae_isNaN 1 := ⟨(wt_7 101 (by decide +kernel) rfl), (wt_1 22 (by decide +kernel) rfl), ⟨by decide +kernel, by decide +kernel⟩, by decide +kernel⟩
def mJxe99ae_doubleToLongBits : MI := (⟨"java/lang/Double", "doubleToLongBits", "(D)J"⟩, prog_13_method_23_code, 2, (some .long), ⟨2, 0, 0, 53⟩, [])
set_option maxRecDepth 100000 in
theorem mok_mJxe99ae_doubleToLongBits : MOK mJxe99ae_doubleToLongBits 1 := ⟨(wt_7 98 (by decide +kernel) rfl), (wt_1 22 (by decide +kernel) rfl), ⟨by decide +kernel, by decide +kernel⟩, by decide +kernel⟩
def m10_digest : MI := (⟨RX10, "digest", "()J"⟩, prog_12_method_105_code, 4, (some .long), ⟨9, 0, 0, 211⟩, [])
set_option maxRecDepth 100000 in
theorem mok_m10_digest : MOK m10_digest 0 := ⟨(wt_7 89 (by decide +kernel) rfl), (wt_1 11 (by decide +kernel) rfl), ⟨by decide +kernel, by decide +kernel⟩, by decide +kernel⟩
def mL_setWidth : MI := (⟨"RunFaxesLaw", "setWidth", "(LRunFaxes;I[J)I"⟩, method_3_code, 4, (some .int), ⟨7, 1, 6, 139⟩, [((0, 9, 12, 13), eIA)])
set_option maxRecDepth 100000 in
theorem mok_mL_setWidth : MOK mL_setWidth 3 := ⟨(wt_3 168 (by decide +kernel) rfl), (wt_1 0 (by decide +kernel) rfl), ⟨by decide +kernel, by decide +kernel⟩, by decide +kernel⟩
def mL_addLine : MI := (⟨"RunFaxesLaw", "addLine", "(LRunFaxes;J[J)I"⟩, method_4_code, 5, (some .int), ⟨8, 2, 12, 139⟩, [((0, 9, 12, 13), eIA), ((0, 9, 16, 19), eIS)])
set_option maxRecDepth 100000 in
theorem mok_mL_addLine : MOK mL_addLine 3 := ⟨(wt_4 9 (by decide +kernel) rfl), (wt_1 0 (by decide +kernel) rfl), ⟨by decide +kernel, by decide +kernel⟩, by decide +kernel⟩
def mL_setLine : MI := (⟨"RunFaxesLaw", "setLine", "(LRunFaxes;IJ[J)I"⟩, method_5_code, 6, (some .int), ⟨8, 2, 12, 142⟩, [((0, 10, 13, 25), eIO), ((0, 10, 17, 13), eIA)])
set_option maxRecDepth 100000 in
theorem mok_mL_setLine : MOK mL_setLine 4 := ⟨(wt_4 50 (by decide +kernel) rfl), (wt_1 0 (by decide +kernel) rfl), ⟨by decide +kernel, by decide +kernel⟩, by decide +kernel⟩
def mL_dropLast : MI := (⟨"RunFaxesLaw", "dropLast", "(LRunFaxes;[J)I"⟩, method_6_code, 3, (some .int), ⟨7, 1, 6, 137⟩, [((0, 8, 11, 19), eIS)])
set_option maxRecDepth 100000 in
theorem mok_mL_dropLast : MOK mL_dropLast 2 := ⟨(wt_4 86 (by decide +kernel) rfl), (wt_1 0 (by decide +kernel) rfl), ⟨by decide +kernel, by decide +kernel⟩, by decide +kernel⟩
def mL_setStyle : MI := (⟨"RunFaxesLaw", "setStyle", "(LRunFaxes;I[J)I"⟩, method_7_code, 4, (some .int), ⟨7, 1, 6, 139⟩, [((0, 9, 12, 13), eIA)])
set_option maxRecDepth 100000 in
theorem mok_mL_setStyle : MOK mL_setStyle 3 := ⟨(wt_4 98 (by decide +kernel) rfl), (wt_1 0 (by decide +kernel) rfl), ⟨by decide +kernel, by decide +kernel⟩, by decide +kernel⟩
def mL_replace : MI := (⟨"RunFaxesLaw", "replace", "(LRunFaxes;II[J)I"⟩, method_8_code, 5, (some .int), ⟨8, 2, 12, 140⟩, [((0, 10, 13, 25), eIO), ((0, 10, 17, 13), eIA)])
set_option maxRecDepth 100000 in
theorem mok_mL_replace : MOK mL_replace 4 := ⟨(wt_4 106 (by decide +kernel) rfl), (wt_1 0 (by decide +kernel) rfl), ⟨by decide +kernel, by decide +kernel⟩, by decide +kernel⟩
def mL_lose : MI := (⟨"RunFaxesLaw", "lose", "(LRunFaxes;I[J)I"⟩, method_9_code, 4, (some .int), ⟨8, 1, 6, 139⟩, [((0, 9, 12, 25), eIO)])
set_option maxRecDepth 100000 in
theorem mok_mL_lose : MOK mL_lose 3 := ⟨(wt_4 127 (by decide +kernel) rfl), (wt_1 0 (by decide +kernel) rfl), ⟨by decide +kernel, by decide +kernel⟩, by decide +kernel⟩
def mL_gain : MI := (⟨"RunFaxesLaw", "gain", "(LRunFaxes;II[J)I"⟩, method_10_code, 5, (some .int), ⟨8, 2, 12, 139⟩, [((0, 10, 13, 25), eIO), ((0, 10, 17, 13), eIA), ((0, 10, 21, 19), eIS)])
set_option maxRecDepth 100000 in
theorem mok_mL_gain : MOK mL_gain 4 := ⟨(wt_4 139 (by decide +kernel) rfl), (wt_1 0 (by decide +kernel) rfl), ⟨by decide +kernel, by decide +kernel⟩, by decide +kernel⟩
def mL_append : MI := (⟨"RunFaxesLaw", "append", "(LRunFaxes;I[J)I"⟩, method_11_code, 4, (some .int), ⟨7, 1, 6, 105⟩, [((0, 9, 12, 13), eIA), ((0, 9, 15, 19), eIS)])
set_option maxRecDepth 100000 in
theorem mok_mL_append : MOK mL_append 3 := ⟨(wt_4 152 (by decide +kernel) rfl), (wt_1 0 (by decide +kernel) rfl), ⟨by decide +kernel, by decide +kernel⟩, by decide +kernel⟩
def mL_play : MI := (⟨"RunFaxesLaw", "play", "(LRunFaxes;[J)I"⟩, method_12_code, 3, (some .int), ⟨9, 1, 6, 226⟩, [((0, 8, 11, 13), eIA)])
set_option maxRecDepth 100000 in
theorem mok_mL_play : MOK mL_play 2 := ⟨(wt_4 169 (by decide +kernel) rfl), (wt_1 0 (by decide +kernel) rfl), ⟨by decide +kernel, by decide +kernel⟩, by decide +kernel⟩
def mL_stoppedPart : MI := (⟨"RunFaxesLaw", "stoppedPart", "(LRunFaxes;[J)I"⟩, method_13_code, 3, (some .int), ⟨7, 1, 6, 104⟩, [((0, 8, 11, 19), eIS)])
set_option maxRecDepth 100000 in
theorem mok_mL_stoppedPart : MOK mL_stoppedPart 2 := ⟨(wt_4 193 (by decide +kernel) rfl), (wt_1 0 (by decide +kernel) rfl), ⟨by decide +kernel, by decide +kernel⟩, by decide +kernel⟩
def mL_undo : MI := (⟨"RunFaxesLaw", "undo", "(LRunFaxes;[J)I"⟩, method_14_code, 3, (some .int), ⟨7, 1, 6, 137⟩, [((0, 8, 11, 19), eIS)])
set_option maxRecDepth 100000 in
theorem mok_mL_undo : MOK mL_undo 2 := ⟨(wt_4 201 (by decide +kernel) rfl), (wt_1 0 (by decide +kernel) rfl), ⟨by decide +kernel, by decide +kernel⟩, by decide +kernel⟩
def mL_restore : MI := (⟨"RunFaxesLaw", "restore", "(LRunFaxes;[J)I"⟩, method_15_code, 3, (some .int), ⟨7, 1, 6, 137⟩, [((0, 8, 11, 19), eIS)])
set_option maxRecDepth 100000 in
theorem mok_mL_restore : MOK mL_restore 2 := ⟨(wt_4 213 (by decide +kernel) rfl), (wt_1 0 (by decide +kernel) rfl), ⟨by decide +kernel, by decide +kernel⟩, by decide +kernel⟩
def mL_pixelsOf : MI := (⟨"RunFaxesLaw", "pixelsOf", "(LRunFaxes;I[J)I"⟩, method_16_code, 4, (some .int), ⟨8, 1, 6, 126⟩, [((0, 8, 11, 25), eIO)])
set_option maxRecDepth 100000 in
theorem mok_mL_pixelsOf : MOK mL_pixelsOf 3 := ⟨(wt_4 221 (by decide +kernel) rfl), (wt_1 0 (by decide +kernel) rfl), ⟨by decide +kernel, by decide +kernel⟩, by decide +kernel⟩
def mL_isBlack : MI := (⟨"RunFaxesLaw", "isBlack", "(LRunFaxes;II[J)I"⟩, method_17_code, 5, (some .int), ⟨7, 1, 6, 106⟩, [((0, 17, 20, 25), eIO)])
set_option maxRecDepth 100000 in
theorem mok_mL_isBlack : MOK mL_isBlack 4 := ⟨(wt_4 228 (by decide +kernel) rfl), (wt_1 0 (by decide +kernel) rfl), ⟨by decide +kernel, by decide +kernel⟩, by decide +kernel⟩
def mL_runsOf : MI := (⟨"RunFaxesLaw", "runsOf", "(LRunFaxes;I[J)I"⟩, method_18_code, 4, (some .int), ⟨8, 1, 6, 126⟩, [((0, 9, 12, 25), eIO)])
set_option maxRecDepth 100000 in
theorem mok_mL_runsOf : MOK mL_runsOf 3 := ⟨(wt_4 236 (by decide +kernel) rfl), (wt_1 0 (by decide +kernel) rfl), ⟨by decide +kernel, by decide +kernel⟩, by decide +kernel⟩
def mL_longestRun : MI := (⟨"RunFaxesLaw", "longestRun", "(LRunFaxes;I[J)I"⟩, method_19_code, 4, (some .int), ⟨8, 1, 6, 126⟩, [((0, 9, 12, 25), eIO)])
set_option maxRecDepth 100000 in
theorem mok_mL_longestRun : MOK mL_longestRun 3 := ⟨(wt_5 3 (by decide +kernel) rfl), (wt_1 0 (by decide +kernel) rfl), ⟨by decide +kernel, by decide +kernel⟩, by decide +kernel⟩
def mL_codeLength : MI := (⟨"RunFaxesLaw", "codeLength", "(LRunFaxes;II[J)I"⟩, method_20_code, 5, (some .int), ⟨8, 2, 12, 149⟩, [((0, 10, 13, 25), eIO), ((0, 10, 17, 13), eIA)])
set_option maxRecDepth 100000 in
theorem mok_mL_codeLength : MOK mL_codeLength 4 := ⟨(wt_5 10 (by decide +kernel) rfl), (wt_1 0 (by decide +kernel) rfl), ⟨by decide +kernel, by decide +kernel⟩, by decide +kernel⟩
def mL_codeLengthByCounting : MI := (⟨"RunFaxesLaw", "codeLengthByCounting", "(LRunFaxes;II[J)I"⟩, method_21_code, 5, (some .int), ⟨8, 2, 12, 129⟩, [((0, 10, 13, 25), eIO), ((0, 10, 17, 13), eIA)])
set_option maxRecDepth 100000 in
theorem mok_mL_codeLengthByCounting : MOK mL_codeLengthByCounting 4 := ⟨(wt_5 21 (by decide +kernel) rfl), (wt_1 0 (by decide +kernel) rfl), ⟨by decide +kernel, by decide +kernel⟩, by decide +kernel⟩
def mL_modeOf : MI := (⟨"RunFaxesLaw", "modeOf", "(LRunFaxes;I[J)I"⟩, method_22_code, 4, (some .int), ⟨8, 1, 6, 153⟩, [((0, 9, 12, 25), eIO)])
set_option maxRecDepth 100000 in
theorem mok_mL_modeOf : MOK mL_modeOf 3 := ⟨(wt_5 28 (by decide +kernel) rfl), (wt_1 0 (by decide +kernel) rfl), ⟨by decide +kernel, by decide +kernel⟩, by decide +kernel⟩
def mL_checkOf : MI := (⟨"RunFaxesLaw", "checkOf", "(LRunFaxes;II[J)I"⟩, method_23_code, 5, (some .int), ⟨8, 2, 12, 149⟩, [((0, 10, 13, 25), eIO), ((0, 10, 17, 13), eIA)])
set_option maxRecDepth 100000 in
theorem mok_mL_checkOf : MOK mL_checkOf 4 := ⟨(wt_5 35 (by decide +kernel) rfl), (wt_1 0 (by decide +kernel) rfl), ⟨by decide +kernel, by decide +kernel⟩, by decide +kernel⟩
def mL_numberAt : MI := (⟨"RunFaxesLaw", "numberAt", "(LRunFaxes;I[J)I"⟩, method_24_code, 4, (some .int), ⟨8, 1, 6, 126⟩, [((0, 9, 12, 25), eIO)])
set_option maxRecDepth 100000 in
theorem mok_mL_numberAt : MOK mL_numberAt 3 := ⟨(wt_5 42 (by decide +kernel) rfl), (wt_1 0 (by decide +kernel) rfl), ⟨by decide +kernel, by decide +kernel⟩, by decide +kernel⟩
def mL_isReceived : MI := (⟨"RunFaxesLaw", "isReceived", "(LRunFaxes;I[J)I"⟩, method_25_code, 4, (some .int), ⟨8, 1, 6, 125⟩, [((0, 16, 19, 25), eIO)])
set_option maxRecDepth 100000 in
theorem mok_mL_isReceived : MOK mL_isReceived 3 := ⟨(wt_5 49 (by decide +kernel) rfl), (wt_1 0 (by decide +kernel) rfl), ⟨by decide +kernel, by decide +kernel⟩, by decide +kernel⟩
def mL_receivedPixels : MI := (⟨"RunFaxesLaw", "receivedPixels", "(LRunFaxes;I[J)I"⟩, method_26_code, 4, (some .int), ⟨8, 2, 12, 125⟩, [((0, 8, 11, 25), eIO), ((0, 8, 14, 19), eIS)])
set_option maxRecDepth 100000 in
theorem mok_mL_receivedPixels : MOK mL_receivedPixels 3 := ⟨(wt_5 60 (by decide +kernel) rfl), (wt_1 0 (by decide +kernel) rfl), ⟨by decide +kernel, by decide +kernel⟩, by decide +kernel⟩
def mL_errorPlace : MI := (⟨"RunFaxesLaw", "errorPlace", "(LRunFaxes;I[J)I"⟩, method_27_code, 4, (some .int), ⟨8, 1, 6, 126⟩, [((0, 9, 12, 25), eIO)])
set_option maxRecDepth 100000 in
theorem mok_mL_errorPlace : MOK mL_errorPlace 3 := ⟨(wt_5 68 (by decide +kernel) rfl), (wt_1 0 (by decide +kernel) rfl), ⟨by decide +kernel, by decide +kernel⟩, by decide +kernel⟩
def mL_errorReason : MI := (⟨"RunFaxesLaw", "errorReason", "(LRunFaxes;I[J)I"⟩, method_28_code, 4, (some .int), ⟨8, 1, 6, 126⟩, [((0, 9, 12, 25), eIO)])
set_option maxRecDepth 100000 in
theorem mok_mL_errorReason : MOK mL_errorReason 3 := ⟨(wt_5 81 (by decide +kernel) rfl), (wt_1 0 (by decide +kernel) rfl), ⟨by decide +kernel, by decide +kernel⟩, by decide +kernel⟩
def mL_rightIfReplaced : MI := (⟨"RunFaxesLaw", "rightIfReplaced", "(LRunFaxes;II[J)I"⟩, method_29_code, 5, (some .int), ⟨8, 2, 12, 204⟩, [((0, 10, 13, 25), eIO), ((0, 10, 17, 13), eIA)])
set_option maxRecDepth 100000 in
theorem mok_mL_rightIfReplaced : MOK mL_rightIfReplaced 4 := ⟨(wt_5 88 (by decide +kernel) rfl), (wt_1 0 (by decide +kernel) rfl), ⟨by decide +kernel, by decide +kernel⟩, by decide +kernel⟩
set_option maxRecDepth 100000 in
theorem lo_0_3 : LkO RX0 3 := ⟨(wt_1 197 (by decide +kernel) rfl), (wt_1 29 (by decide +kernel) rfl), (wt_1 30 (by decide +kernel) rfl)⟩
set_option maxRecDepth 100000 in
theorem la_0 : LkA 0 .int := Or.inl ⟨rfl, rfl, (wt_1 76 (by decide +kernel) rfl)⟩
set_option maxRecDepth 100000 in
theorem lp_0_9i : LkP RX0 "<init>" 9 0 0 := ⟨_, _, _, rfl, by decide, Or.inr ⟨rfl, rfl, rfl, (wt_1 198 (by decide +kernel) rfl)⟩⟩
set_option maxRecDepth 100000 in
theorem lp_0_15 (nm : String) : LkP RX0 nm 15 0 1 := ⟨_, _, _, rfl, by decide, Or.inl ⟨rfl, Or.inl (wt_1 199 (by decide +kernel) rfl)⟩⟩
set_option maxRecDepth 100000 in
theorem lp_0_19i : LkP RX0 "<init>" 19 0 2 := ⟨_, _, _, rfl, by decide, Or.inr ⟨rfl, rfl, rfl, (wt_1 200 (by decide +kernel) rfl)⟩⟩
set_option maxRecDepth 100000 in
theorem lp_0_22 (nm : String) : LkP RX0 nm 22 0 3 := ⟨_, _, _, rfl, by decide, Or.inl ⟨rfl, Or.inl (wt_1 202 (by decide +kernel) rfl)⟩⟩
set_option maxRecDepth 100000 in
theorem lp_0_25 (nm : String) : LkP RX0 nm 25 0 4 := ⟨_, _, _, rfl, by decide, Or.inl ⟨rfl, Or.inl (wt_1 204 (by decide +kernel) rfl)⟩⟩
set_option maxRecDepth 100000 in
theorem lf_0_15 : LkF RX0 15 0 1 := ⟨_, _, _, rfl, by decide, Or.inl (wt_1 199 (by decide +kernel) rfl)⟩
set_option maxRecDepth 100000 in
theorem lf_0_9 : LkF RX0 9 0 0 := ⟨_, _, _, rfl, by decide, Or.inl (wt_1 198 (by decide +kernel) rfl)⟩
set_option maxRecDepth 100000 in
theorem lc_0_48 : LkSN RX0 48 m9_blackAt := ⟨⟨"RunFaxes", (nt_2 111 (by decide +kernel) rfl)⟩, (wt_2 97 (by decide +kernel) rfl)⟩
set_option maxRecDepth 100000 in
theorem lc_0_52 : LkV RX0 52 m0_addToKernel := ⟨(wt_2 112 (by decide +kernel) rfl), (wt_2 114 (by decide +kernel) rfl), (ws_i 14 (by decide +kernel) rfl)⟩
set_option maxRecDepth 100000 in
theorem lc_0_55 : LkV RX0 55 m0_addRun := ⟨(wt_2 120 (by decide +kernel) rfl), (wt_2 122 (by decide +kernel) rfl), (ws_i 16 (by decide +kernel) rfl)⟩
set_option maxRecDepth 100000 in
theorem lf_0_22 : LkF RX0 22 0 3 := ⟨_, _, _, rfl, by decide, Or.inl (wt_1 202 (by decide +kernel) rfl)⟩
set_option maxRecDepth 100000 in
theorem lf_0_19 : LkF RX0 19 0 2 := ⟨_, _, _, rfl, by decide, Or.inl (wt_1 200 (by decide +kernel) rfl)⟩
set_option maxRecDepth 100000 in
theorem lf_2_18 : LkF RX2 18 2 2 := ⟨_, _, _, rfl, by decide, Or.inl (wt_1 48 (by decide +kernel) rfl)⟩
set_option maxRecDepth 100000 in
theorem lf_2_21 : LkF RX2 21 2 3 := ⟨_, _, _, rfl, by decide, Or.inl (wt_1 51 (by decide +kernel) rfl)⟩
set_option maxRecDepth 100000 in
theorem lc_2_25 : LkV RX2 25 m2_rowOf := ⟨(wt_2 82 (by decide +kernel) rfl), (wt_2 84 (by decide +kernel) rfl), (ws_i 11 (by decide +kernel) rfl)⟩
set_option maxRecDepth 100000 in
theorem lc_0_28 : LkVN RX0 28 m2_toCode := ⟨⟨"RunFaxes", (nt_2 106 (by decide +kernel) rfl)⟩, (wt_2 80 (by decide +kernel) rfl), (ws_i 10 (by decide +kernel) rfl)⟩
set_option maxRecDepth 100000 in
theorem lf_0_34 : LkF RX0 34 2 0 := ⟨_, _, _, rfl, by decide, Or.inr ⟨"RunFaxes", (nt_1 44 (by decide +kernel) rfl)⟩⟩
set_option maxRecDepth 100000 in
theorem lc_0_37 : LkV RX0 37 m0_kernelByFours := ⟨(wt_2 107 (by decide +kernel) rfl), (wt_2 109 (by decide +kernel) rfl), (ws_i 13 (by decide +kernel) rfl)⟩
set_option maxRecDepth 100000 in
theorem lc_0_41 : LkV RX0 41 m0_kernelByRuns := ⟨(wt_2 116 (by decide +kernel) rfl), (wt_2 118 (by decide +kernel) rfl), (ws_i 15 (by decide +kernel) rfl)⟩
set_option maxRecDepth 100000 in
theorem lc_0_44 : LkV RX0 44 m0_put := ⟨(wt_2 124 (by decide +kernel) rfl), (wt_2 126 (by decide +kernel) rfl), (ws_i 17 (by decide +kernel) rfl)⟩
set_option maxRecDepth 100000 in
theorem lf_0_25 : LkF RX0 25 0 4 := ⟨_, _, _, rfl, by decide, Or.inl (wt_1 204 (by decide +kernel) rfl)⟩
set_option maxRecDepth 100000 in
theorem lo_2_3 : LkO RX2 3 := ⟨(wt_1 42 (by decide +kernel) rfl), (wt_1 29 (by decide +kernel) rfl), (wt_1 30 (by decide +kernel) rfl)⟩
set_option maxRecDepth 100000 in
theorem lp_2_9 (nm : String) : LkP RX2 nm 9 2 0 := ⟨_, _, _, rfl, by decide, Or.inl ⟨rfl, Or.inl (wt_1 43 (by decide +kernel) rfl)⟩⟩
set_option maxRecDepth 100000 in
theorem lp_2_15 (nm : String) : LkP RX2 nm 15 2 1 := ⟨_, _, _, rfl, by decide, Or.inl ⟨rfl, Or.inl (wt_1 46 (by decide +kernel) rfl)⟩⟩
set_option maxRecDepth 100000 in
theorem lp_2_18 (nm : String) : LkP RX2 nm 18 2 2 := ⟨_, _, _, rfl, by decide, Or.inl ⟨rfl, Or.inl (wt_1 48 (by decide +kernel) rfl)⟩⟩
set_option maxRecDepth 100000 in
theorem la_1 : LkA 1 .long := Or.inr ⟨rfl, rfl, (wt_1 61 (by decide +kernel) rfl)⟩
set_option maxRecDepth 100000 in
theorem lp_2_21i : LkP RX2 "<init>" 21 2 3 := ⟨_, _, _, rfl, by decide, Or.inr ⟨rfl, rfl, rfl, (wt_1 51 (by decide +kernel) rfl)⟩⟩
set_option maxRecDepth 100000 in
theorem lo_6_3 : LkO RX6 3 := ⟨(wt_1 82 (by decide +kernel) rfl), (wt_1 29 (by decide +kernel) rfl), (wt_1 30 (by decide +kernel) rfl)⟩
set_option maxRecDepth 100000 in
theorem lp_6_9 (nm : String) : LkP RX6 nm 9 6 0 := ⟨_, _, _, rfl, by decide, Or.inl ⟨rfl, Or.inl (wt_1 83 (by decide +kernel) rfl)⟩⟩
set_option maxRecDepth 100000 in
theorem lp_6_15i : LkP RX6 "<init>" 15 6 1 := ⟨_, _, _, rfl, by decide, Or.inr ⟨rfl, rfl, rfl, (wt_1 84 (by decide +kernel) rfl)⟩⟩
set_option maxRecDepth 100000 in
theorem lp_6_19 (nm : String) : LkP RX6 nm 19 6 2 := ⟨_, _, _, rfl, by decide, Or.inl ⟨rfl, Or.inl (wt_1 85 (by decide +kernel) rfl)⟩⟩
set_option maxRecDepth 100000 in
theorem lp_6_22i : LkP RX6 "<init>" 22 6 3 := ⟨_, _, _, rfl, by decide, Or.inr ⟨rfl, rfl, rfl, (wt_1 87 (by decide +kernel) rfl)⟩⟩
set_option maxRecDepth 100000 in
theorem lp_6_26i : LkP RX6 "<init>" 26 6 4 := ⟨_, _, _, rfl, by decide, Or.inr ⟨rfl, rfl, rfl, (wt_1 88 (by decide +kernel) rfl)⟩⟩
set_option maxRecDepth 100000 in
theorem lo_8_3 : LkO RX8 3 := ⟨(wt_1 67 (by decide +kernel) rfl), (wt_1 29 (by decide +kernel) rfl), (wt_1 30 (by decide +kernel) rfl)⟩
set_option maxRecDepth 100000 in
theorem lp_8_9 (nm : String) : LkP RX8 nm 9 8 0 := ⟨_, _, _, rfl, by decide, Or.inl ⟨rfl, Or.inl (wt_1 68 (by decide +kernel) rfl)⟩⟩
set_option maxRecDepth 100000 in
theorem lp_8_15i : LkP RX8 "<init>" 15 8 1 := ⟨_, _, _, rfl, by decide, Or.inr ⟨rfl, rfl, rfl, (wt_1 70 (by decide +kernel) rfl)⟩⟩
set_option maxRecDepth 100000 in
theorem lo_7_1 : LkO RX7 1 := ⟨(wt_1 36 (by decide +kernel) rfl), (wt_1 29 (by decide +kernel) rfl), (wt_1 30 (by decide +kernel) rfl)⟩
set_option maxRecDepth 100000 in
theorem ln_7_7 : LkN RX7 7 2 := ⟨_, _, _, rfl, (wt_1 37 (by decide +kernel) rfl), (wt_1 38 (by decide +kernel) rfl), (wt_1 3 (by decide +kernel) rfl)⟩
set_option maxRecDepth 100000 in
theorem lc_7_9 : LkIN RX7 9 m2_init := ⟨⟨"RunFaxes", (nt_1 39 (by decide +kernel) rfl)⟩, (wt_1 40 (by decide +kernel) rfl), rfl, rfl⟩
set_option maxRecDepth 100000 in
theorem lp_7_10i : LkP RX7 "<init>" 10 7 0 := ⟨_, _, _, rfl, by decide, Or.inr ⟨rfl, rfl, rfl, (wt_1 100 (by decide +kernel) rfl)⟩⟩
set_option maxRecDepth 100000 in
theorem ln_7_16 : LkN RX7 16 8 := ⟨_, _, _, rfl, (wt_1 62 (by decide +kernel) rfl), (wt_1 63 (by decide +kernel) rfl), (wt_1 4 (by decide +kernel) rfl)⟩
set_option maxRecDepth 100000 in
theorem lc_7_18 : LkIN RX7 18 m8_init := ⟨⟨"RunFaxes", (nt_1 64 (by decide +kernel) rfl)⟩, (wt_1 65 (by decide +kernel) rfl), rfl, rfl⟩
set_option maxRecDepth 100000 in
theorem lp_7_19i : LkP RX7 "<init>" 19 7 1 := ⟨_, _, _, rfl, by decide, Or.inr ⟨rfl, rfl, rfl, (wt_1 102 (by decide +kernel) rfl)⟩⟩
set_option maxRecDepth 100000 in
theorem ln_7_23 : LkN RX7 23 6 := ⟨_, _, _, rfl, (wt_1 77 (by decide +kernel) rfl), (wt_1 78 (by decide +kernel) rfl), (wt_1 5 (by decide +kernel) rfl)⟩
set_option maxRecDepth 100000 in
theorem lc_7_25 : LkIN RX7 25 m6_init := ⟨⟨"RunFaxes", (nt_1 79 (by decide +kernel) rfl)⟩, (wt_1 80 (by decide +kernel) rfl), rfl, rfl⟩
set_option maxRecDepth 100000 in
theorem lp_7_26i : LkP RX7 "<init>" 26 7 2 := ⟨_, _, _, rfl, by decide, Or.inr ⟨rfl, rfl, rfl, (wt_1 104 (by decide +kernel) rfl)⟩⟩
set_option maxRecDepth 100000 in
theorem lp_7_30 (nm : String) : LkP RX7 nm 30 7 3 := ⟨_, _, _, rfl, by decide, Or.inl ⟨rfl, Or.inl (wt_1 106 (by decide +kernel) rfl)⟩⟩
set_option maxRecDepth 100000 in
theorem lp_7_34 (nm : String) : LkP RX7 nm 34 7 4 := ⟨_, _, _, rfl, by decide, Or.inl ⟨rfl, Or.inl (wt_1 108 (by decide +kernel) rfl)⟩⟩
set_option maxRecDepth 100000 in
theorem lo_1_3 : LkO RX1 3 := ⟨(wt_1 126 (by decide +kernel) rfl), (wt_1 29 (by decide +kernel) rfl), (wt_1 30 (by decide +kernel) rfl)⟩
set_option maxRecDepth 100000 in
theorem lp_1_9 (nm : String) : LkP RX1 nm 9 1 0 := ⟨_, _, _, rfl, by decide, Or.inl ⟨rfl, Or.inl (wt_1 130 (by decide +kernel) rfl)⟩⟩
set_option maxRecDepth 100000 in
theorem lp_1_15 (nm : String) : LkP RX1 nm 15 1 1 := ⟨_, _, _, rfl, by decide, Or.inl ⟨rfl, Or.inl (wt_1 132 (by decide +kernel) rfl)⟩⟩
set_option maxRecDepth 100000 in
theorem lq_1_18 : LkQ RX1 18 := (wt_1 127 (by decide +kernel) rfl)
set_option maxRecDepth 100000 in
theorem lp_1_20i : LkP RX1 "<init>" 20 1 2 := ⟨_, _, _, rfl, by decide, Or.inr ⟨rfl, rfl, rfl, (wt_1 133 (by decide +kernel) rfl)⟩⟩
set_option maxRecDepth 100000 in
theorem lf_1_20 : LkF RX1 20 1 2 := ⟨_, _, _, rfl, by decide, Or.inl (wt_1 133 (by decide +kernel) rfl)⟩
set_option maxRecDepth 100000 in
theorem ln_1_18 : LkN RX1 18 7 := ⟨_, _, _, rfl, (wt_1 127 (by decide +kernel) rfl), (wt_1 32 (by decide +kernel) rfl), (wt_1 2 (by decide +kernel) rfl)⟩
set_option maxRecDepth 100000 in
theorem lc_1_24 : LkIN RX1 24 m7_init := ⟨⟨"RunFaxes", (nt_1 129 (by decide +kernel) rfl)⟩, (wt_1 34 (by decide +kernel) rfl), rfl, rfl⟩
set_option maxRecDepth 100000 in
theorem lf_1_15 : LkF RX1 15 1 1 := ⟨_, _, _, rfl, by decide, Or.inl (wt_1 132 (by decide +kernel) rfl)⟩
set_option maxRecDepth 100000 in
theorem lm_9_435 : LkM RX9 435 Lib.Math.min.name Lib.Math.min.code := ⟨(wt_2 43 (by decide +kernel) rfl), (wt_2 44 (by decide +kernel) rfl), (wt_1 16 (by decide +kernel) rfl), (wt_2 45 (by decide +kernel) rfl)⟩
set_option maxRecDepth 100000 in
theorem ly_9_438 : LkY RX9 438 := ⟨(wt_2 46 (by decide +kernel) rfl), (wt_2 48 (by decide +kernel) rfl), (wt_2 47 (by decide +kernel) rfl), (wt_1 17 (by decide +kernel) rfl)⟩
set_option maxRecDepth 100000 in
theorem lf_2_9 : LkF RX2 9 2 0 := ⟨_, _, _, rfl, by decide, Or.inl (wt_1 43 (by decide +kernel) rfl)⟩
set_option maxRecDepth 100000 in
theorem lf_2_15 : LkF RX2 15 2 1 := ⟨_, _, _, rfl, by decide, Or.inl (wt_1 46 (by decide +kernel) rfl)⟩
set_option maxRecDepth 100000 in
theorem lc_2_29 : LkSN RX2 29 m9_copyLongs := ⟨⟨"RunFaxes", (nt_2 40 (by decide +kernel) rfl)⟩, (wt_2 41 (by decide +kernel) rfl)⟩
set_option maxRecDepth 100000 in
theorem lf_6_9 : LkF RX6 9 6 0 := ⟨_, _, _, rfl, by decide, Or.inl (wt_1 83 (by decide +kernel) rfl)⟩
set_option maxRecDepth 100000 in
theorem lf_6_15 : LkF RX6 15 6 1 := ⟨_, _, _, rfl, by decide, Or.inl (wt_1 84 (by decide +kernel) rfl)⟩
set_option maxRecDepth 100000 in
theorem lc_6_52 : LkSN RX6 52 m9_copyLongs := ⟨⟨"RunFaxes", (nt_2 60 (by decide +kernel) rfl)⟩, (wt_2 41 (by decide +kernel) rfl)⟩
set_option maxRecDepth 100000 in
theorem lf_6_19 : LkF RX6 19 6 2 := ⟨_, _, _, rfl, by decide, Or.inl (wt_1 85 (by decide +kernel) rfl)⟩
set_option maxRecDepth 100000 in
theorem lf_6_22 : LkF RX6 22 6 3 := ⟨_, _, _, rfl, by decide, Or.inl (wt_1 87 (by decide +kernel) rfl)⟩
set_option maxRecDepth 100000 in
theorem lc_6_56 : LkSN RX6 56 m9_copyInts := ⟨⟨"RunFaxes", (nt_2 61 (by decide +kernel) rfl)⟩, (wt_2 54 (by decide +kernel) rfl)⟩
set_option maxRecDepth 100000 in
theorem lf_6_26 : LkF RX6 26 6 4 := ⟨_, _, _, rfl, by decide, Or.inl (wt_1 88 (by decide +kernel) rfl)⟩
set_option maxRecDepth 100000 in
theorem lf_8_9 : LkF RX8 9 8 0 := ⟨_, _, _, rfl, by decide, Or.inl (wt_1 68 (by decide +kernel) rfl)⟩
set_option maxRecDepth 100000 in
theorem lf_8_15 : LkF RX8 15 8 1 := ⟨_, _, _, rfl, by decide, Or.inl (wt_1 70 (by decide +kernel) rfl)⟩
set_option maxRecDepth 100000 in
theorem lc_8_38 : LkSN RX8 38 m9_copyInts := ⟨⟨"RunFaxes", (nt_2 53 (by decide +kernel) rfl)⟩, (wt_2 54 (by decide +kernel) rfl)⟩
set_option maxRecDepth 100000 in
theorem lf_7_10 : LkF RX7 10 7 0 := ⟨_, _, _, rfl, by decide, Or.inl (wt_1 100 (by decide +kernel) rfl)⟩
set_option maxRecDepth 100000 in
theorem lc_7_38 : LkVN RX7 38 m2_copyFrom := ⟨⟨"RunFaxes", (nt_2 36 (by decide +kernel) rfl)⟩, (wt_2 38 (by decide +kernel) rfl), (ws_i 3 (by decide +kernel) rfl)⟩
set_option maxRecDepth 100000 in
theorem lf_7_19 : LkF RX7 19 7 1 := ⟨_, _, _, rfl, by decide, Or.inl (wt_1 102 (by decide +kernel) rfl)⟩
set_option maxRecDepth 100000 in
theorem lc_7_42 : LkVN RX7 42 m8_copyFrom := ⟨⟨"RunFaxes", (nt_2 49 (by decide +kernel) rfl)⟩, (wt_2 51 (by decide +kernel) rfl), (ws_i 4 (by decide +kernel) rfl)⟩
set_option maxRecDepth 100000 in
theorem lf_7_26 : LkF RX7 26 7 2 := ⟨_, _, _, rfl, by decide, Or.inl (wt_1 104 (by decide +kernel) rfl)⟩
set_option maxRecDepth 100000 in
theorem lc_7_45 : LkVN RX7 45 m6_copyFrom := ⟨⟨"RunFaxes", (nt_2 56 (by decide +kernel) rfl)⟩, (wt_2 58 (by decide +kernel) rfl), (ws_i 5 (by decide +kernel) rfl)⟩
set_option maxRecDepth 100000 in
theorem lf_7_30 : LkF RX7 30 7 3 := ⟨_, _, _, rfl, by decide, Or.inl (wt_1 106 (by decide +kernel) rfl)⟩
set_option maxRecDepth 100000 in
theorem lf_7_34 : LkF RX7 34 7 4 := ⟨_, _, _, rfl, by decide, Or.inl (wt_1 108 (by decide +kernel) rfl)⟩
set_option maxRecDepth 100000 in
theorem lf_1_9 : LkF RX1 9 1 0 := ⟨_, _, _, rfl, by decide, Or.inl (wt_1 130 (by decide +kernel) rfl)⟩
set_option maxRecDepth 100000 in
theorem lc_1_25 : LkV RX1 25 m1_slot := ⟨(wt_2 28 (by decide +kernel) rfl), (wt_2 30 (by decide +kernel) rfl), (ws_i 1 (by decide +kernel) rfl)⟩
set_option maxRecDepth 100000 in
theorem lc_1_29 : LkVN RX1 29 m7_copyFrom := ⟨⟨"RunFaxes", (nt_2 32 (by decide +kernel) rfl)⟩, (wt_2 34 (by decide +kernel) rfl), (ws_i 2 (by decide +kernel) rfl)⟩
set_option maxRecDepth 100000 in
theorem lo_4_3 : LkO RX4 3 := ⟨(wt_1 152 (by decide +kernel) rfl), (wt_1 29 (by decide +kernel) rfl), (wt_1 30 (by decide +kernel) rfl)⟩
set_option maxRecDepth 100000 in
theorem lp_4_11 (nm : String) : LkP RX4 nm 11 4 0 := ⟨_, _, _, rfl, by decide, Or.inl ⟨rfl, Or.inl (wt_1 153 (by decide +kernel) rfl)⟩⟩
set_option maxRecDepth 100000 in
theorem lp_4_15 (nm : String) : LkP RX4 nm 15 4 1 := ⟨_, _, _, rfl, by decide, Or.inl ⟨rfl, Or.inl (wt_1 154 (by decide +kernel) rfl)⟩⟩
set_option maxRecDepth 100000 in
theorem lp_4_18 (nm : String) : LkP RX4 nm 18 4 2 := ⟨_, _, _, rfl, by decide, Or.inl ⟨rfl, Or.inl (wt_1 156 (by decide +kernel) rfl)⟩⟩
set_option maxRecDepth 100000 in
theorem lp_4_21 (nm : String) : LkP RX4 nm 21 4 3 := ⟨_, _, _, rfl, by decide, Or.inl ⟨rfl, Or.inl (wt_1 158 (by decide +kernel) rfl)⟩⟩
set_option maxRecDepth 100000 in
theorem lp_4_25 (nm : String) : LkP RX4 nm 25 4 4 := ⟨_, _, _, rfl, by decide, Or.inl ⟨rfl, Or.inl (wt_1 160 (by decide +kernel) rfl)⟩⟩
set_option maxRecDepth 100000 in
theorem lp_4_28 (nm : String) : LkP RX4 nm 28 4 5 := ⟨_, _, _, rfl, by decide, Or.inl ⟨rfl, Or.inl (wt_1 161 (by decide +kernel) rfl)⟩⟩
set_option maxRecDepth 100000 in
theorem lp_4_31 (nm : String) : LkP RX4 nm 31 4 6 := ⟨_, _, _, rfl, by decide, Or.inl ⟨rfl, Or.inl (wt_1 163 (by decide +kernel) rfl)⟩⟩
set_option maxRecDepth 100000 in
theorem lo_3_3 : LkO RX3 3 := ⟨(wt_1 146 (by decide +kernel) rfl), (wt_1 29 (by decide +kernel) rfl), (wt_1 30 (by decide +kernel) rfl)⟩
set_option maxRecDepth 100000 in
theorem lp_3_9i : LkP RX3 "<init>" 9 3 0 := ⟨_, _, _, rfl, by decide, Or.inr ⟨rfl, rfl, rfl, (wt_1 180 (by decide +kernel) rfl)⟩⟩
set_option maxRecDepth 100000 in
theorem lp_3_15 (nm : String) : LkP RX3 nm 15 3 1 := ⟨_, _, _, rfl, by decide, Or.inl ⟨rfl, Or.inl (wt_1 181 (by decide +kernel) rfl)⟩⟩
set_option maxRecDepth 100000 in
theorem ln_3_19 : LkN RX3 19 4 := ⟨_, _, _, rfl, (wt_1 147 (by decide +kernel) rfl), (wt_1 148 (by decide +kernel) rfl), (wt_1 8 (by decide +kernel) rfl)⟩
set_option maxRecDepth 100000 in
theorem lc_3_21 : LkIN RX3 21 m4_init := ⟨⟨"RunFaxes", (nt_1 149 (by decide +kernel) rfl)⟩, (wt_1 150 (by decide +kernel) rfl), rfl, rfl⟩
set_option maxRecDepth 100000 in
theorem lp_3_22i : LkP RX3 "<init>" 22 3 2 := ⟨_, _, _, rfl, by decide, Or.inr ⟨rfl, rfl, rfl, (wt_1 183 (by decide +kernel) rfl)⟩⟩
set_option maxRecDepth 100000 in
theorem lf_3_15 : LkF RX3 15 3 1 := ⟨_, _, _, rfl, by decide, Or.inl (wt_1 181 (by decide +kernel) rfl)⟩
set_option maxRecDepth 100000 in
theorem lf_3_9 : LkF RX3 9 3 0 := ⟨_, _, _, rfl, by decide, Or.inl (wt_1 180 (by decide +kernel) rfl)⟩
set_option maxRecDepth 100000 in
theorem lf_4_18 : LkF RX4 18 4 2 := ⟨_, _, _, rfl, by decide, Or.inl (wt_1 156 (by decide +kernel) rfl)⟩
set_option maxRecDepth 100000 in
theorem lf_4_21 : LkF RX4 21 4 3 := ⟨_, _, _, rfl, by decide, Or.inl (wt_1 158 (by decide +kernel) rfl)⟩
set_option maxRecDepth 100000 in
theorem lf_4_25 : LkF RX4 25 4 4 := ⟨_, _, _, rfl, by decide, Or.inl (wt_1 160 (by decide +kernel) rfl)⟩
set_option maxRecDepth 100000 in
theorem lf_4_31 : LkF RX4 31 4 6 := ⟨_, _, _, rfl, by decide, Or.inl (wt_1 163 (by decide +kernel) rfl)⟩
set_option maxRecDepth 100000 in
theorem lc_4_54 : LkV RX4 54 m4_isDigitBehind := ⟨(wt_3 17 (by decide +kernel) rfl), (wt_3 19 (by decide +kernel) rfl), (ws_i 45 (by decide +kernel) rfl)⟩
set_option maxRecDepth 100000 in
theorem lf_4_28 : LkF RX4 28 4 5 := ⟨_, _, _, rfl, by decide, Or.inl (wt_1 161 (by decide +kernel) rfl)⟩
set_option maxRecDepth 100000 in
theorem lf_4_11 : LkF RX4 11 4 0 := ⟨_, _, _, rfl, by decide, Or.inl (wt_1 153 (by decide +kernel) rfl)⟩
set_option maxRecDepth 100000 in
theorem lc_4_34 : LkV RX4 34 m4_isComplete := ⟨(wt_3 0 (by decide +kernel) rfl), (wt_3 2 (by decide +kernel) rfl), (ws_i 41 (by decide +kernel) rfl)⟩
set_option maxRecDepth 100000 in
theorem lc_4_38 : LkV RX4 38 m4_restart := ⟨(wt_3 4 (by decide +kernel) rfl), (wt_2 230 (by decide +kernel) rfl), (ws_i 38 (by decide +kernel) rfl)⟩
set_option maxRecDepth 100000 in
theorem lc_4_41 : LkV RX4 41 m4_begin := ⟨(wt_3 5 (by decide +kernel) rfl), (wt_3 7 (by decide +kernel) rfl), (ws_i 42 (by decide +kernel) rfl)⟩
set_option maxRecDepth 100000 in
theorem lc_4_45 : LkV RX4 45 m4_addPixel := ⟨(wt_3 9 (by decide +kernel) rfl), (wt_3 11 (by decide +kernel) rfl), (ws_i 43 (by decide +kernel) rfl)⟩
set_option maxRecDepth 100000 in
theorem lc_4_48 : LkV RX4 48 m4_addToPlace := ⟨(wt_3 13 (by decide +kernel) rfl), (wt_3 15 (by decide +kernel) rfl), (ws_i 44 (by decide +kernel) rfl)⟩
set_option maxRecDepth 100000 in
theorem lc_4_51 : LkV RX4 51 m4_addToNumber := ⟨(wt_3 21 (by decide +kernel) rfl), (wt_3 23 (by decide +kernel) rfl), (ws_i 46 (by decide +kernel) rfl)⟩
set_option maxRecDepth 100000 in
theorem lf_3_22 : LkF RX3 22 3 2 := ⟨_, _, _, rfl, by decide, Or.inl (wt_1 183 (by decide +kernel) rfl)⟩
set_option maxRecDepth 100000 in
theorem lc_3_26 : LkVN RX3 26 m4_restart := ⟨⟨"RunFaxes", (nt_2 228 (by decide +kernel) rfl)⟩, (wt_2 230 (by decide +kernel) rfl), (ws_i 38 (by decide +kernel) rfl)⟩
set_option maxRecDepth 100000 in
theorem lc_3_29 : LkV RX3 29 m3_codeAt := ⟨(wt_2 232 (by decide +kernel) rfl), (wt_2 234 (by decide +kernel) rfl), (ws_i 39 (by decide +kernel) rfl)⟩
set_option maxRecDepth 100000 in
theorem lc_3_33 : LkVN RX3 33 m4_accept := ⟨⟨"RunFaxes", (nt_2 236 (by decide +kernel) rfl)⟩, (wt_2 238 (by decide +kernel) rfl), (ws_i 40 (by decide +kernel) rfl)⟩
set_option maxRecDepth 100000 in
theorem lc_3_37 : LkV RX3 37 m3_firstWrong := ⟨(wt_4 178 (by decide +kernel) rfl), (wt_2 226 (by decide +kernel) rfl), (ws_i 37 (by decide +kernel) rfl)⟩
set_option maxRecDepth 100000 in
theorem lc_3_41 : LkVN RX3 41 m4_isComplete := ⟨⟨"RunFaxes", (nt_4 179 (by decide +kernel) rfl)⟩, (wt_3 2 (by decide +kernel) rfl), (ws_i 41 (by decide +kernel) rfl)⟩
set_option maxRecDepth 100000 in
theorem lo_5_3 : LkO RX5 3 := ⟨(wt_1 222 (by decide +kernel) rfl), (wt_1 29 (by decide +kernel) rfl), (wt_1 30 (by decide +kernel) rfl)⟩
set_option maxRecDepth 100000 in
theorem lp_5_9 (nm : String) : LkP RX5 nm 9 5 0 := ⟨_, _, _, rfl, by decide, Or.inl ⟨rfl, Or.inl (wt_1 223 (by decide +kernel) rfl)⟩⟩
set_option maxRecDepth 100000 in
theorem lp_5_15 (nm : String) : LkP RX5 nm 15 5 1 := ⟨_, _, _, rfl, by decide, Or.inl ⟨rfl, Or.inl (wt_1 224 (by decide +kernel) rfl)⟩⟩
set_option maxRecDepth 100000 in
theorem lp_5_18 (nm : String) : LkP RX5 nm 18 5 2 := ⟨_, _, _, rfl, by decide, Or.inl ⟨rfl, Or.inl (wt_1 225 (by decide +kernel) rfl)⟩⟩
set_option maxRecDepth 100000 in
theorem lf_5_9 : LkF RX5 9 5 0 := ⟨_, _, _, rfl, by decide, Or.inl (wt_1 223 (by decide +kernel) rfl)⟩
set_option maxRecDepth 100000 in
theorem lc_5_63 : LkVN RX5 63 m8_at := ⟨⟨"RunFaxes", (nt_2 172 (by decide +kernel) rfl)⟩, (wt_2 162 (by decide +kernel) rfl), (ws_i 25 (by decide +kernel) rfl)⟩
set_option maxRecDepth 100000 in
theorem lc_5_40 : LkV RX5 40 m5_next := ⟨(wt_2 168 (by decide +kernel) rfl), (wt_2 170 (by decide +kernel) rfl), (ws_i 27 (by decide +kernel) rfl)⟩
set_option maxRecDepth 100000 in
theorem lf_5_15 : LkF RX5 15 5 1 := ⟨_, _, _, rfl, by decide, Or.inl (wt_1 224 (by decide +kernel) rfl)⟩
set_option maxRecDepth 100000 in
theorem lf_5_18 : LkF RX5 18 5 2 := ⟨_, _, _, rfl, by decide, Or.inl (wt_1 225 (by decide +kernel) rfl)⟩
set_option maxRecDepth 100000 in
theorem lc_5_66 : LkV RX5 66 m5_nextOfKernel := ⟨(wt_2 181 (by decide +kernel) rfl), (wt_2 183 (by decide +kernel) rfl), (ws_i 30 (by decide +kernel) rfl)⟩
set_option maxRecDepth 100000 in
theorem lc_6_29 : LkV RX6 29 m6_has := ⟨(wt_2 193 (by decide +kernel) rfl), (wt_2 175 (by decide +kernel) rfl), (ws_i 28 (by decide +kernel) rfl)⟩
set_option maxRecDepth 100000 in
theorem lc_5_44 : LkVN RX5 44 m6_has := ⟨⟨"RunFaxes", (nt_2 173 (by decide +kernel) rfl)⟩, (wt_2 175 (by decide +kernel) rfl), (ws_i 28 (by decide +kernel) rfl)⟩
set_option maxRecDepth 100000 in
theorem lc_5_48 : LkV RX5 48 m5_pixelsByFours := ⟨(wt_2 177 (by decide +kernel) rfl), (wt_2 179 (by decide +kernel) rfl), (ws_i 29 (by decide +kernel) rfl)⟩
set_option maxRecDepth 100000 in
theorem lc_5_52 : LkV RX5 52 m5_pixelsByRuns := ⟨(wt_2 185 (by decide +kernel) rfl), (wt_2 187 (by decide +kernel) rfl), (ws_i 31 (by decide +kernel) rfl)⟩
set_option maxRecDepth 100000 in
theorem lc_5_55 : LkVN RX5 55 m6_rowOf := ⟨⟨"RunFaxes", (nt_2 189 (by decide +kernel) rfl)⟩, (wt_2 191 (by decide +kernel) rfl), (ws_i 32 (by decide +kernel) rfl)⟩
set_option maxRecDepth 100000 in
theorem lc_5_59 : LkVN RX5 59 m6_take := ⟨⟨"RunFaxes", (nt_2 194 (by decide +kernel) rfl)⟩, (wt_2 196 (by decide +kernel) rfl), (ws_i 33 (by decide +kernel) rfl)⟩
set_option maxRecDepth 100000 in
theorem lc_8_31 : LkV RX8 31 m8_at := ⟨(wt_2 160 (by decide +kernel) rfl), (wt_2 162 (by decide +kernel) rfl), (ws_i 25 (by decide +kernel) rfl)⟩
set_option maxRecDepth 100000 in
theorem lc_8_35 : LkV RX8 35 m8_isMarker := ⟨(wt_2 156 (by decide +kernel) rfl), (wt_2 158 (by decide +kernel) rfl), (ws_i 24 (by decide +kernel) rfl)⟩
set_option maxRecDepth 100000 in
theorem lc_5_21 : LkVN RX5 21 m6_empty := ⟨⟨"RunFaxes", (nt_2 148 (by decide +kernel) rfl)⟩, (wt_2 150 (by decide +kernel) rfl), (ws_i 22 (by decide +kernel) rfl)⟩
set_option maxRecDepth 100000 in
theorem lc_5_26 : LkVN RX5 26 m8_markerFrom := ⟨⟨"RunFaxes", (nt_2 152 (by decide +kernel) rfl)⟩, (wt_2 154 (by decide +kernel) rfl), (ws_i 23 (by decide +kernel) rfl)⟩
set_option maxRecDepth 100000 in
theorem lc_5_32 : LkV RX5 32 m5_readCode := ⟨(wt_2 164 (by decide +kernel) rfl), (wt_2 166 (by decide +kernel) rfl), (ws_i 26 (by decide +kernel) rfl)⟩
set_option maxRecDepth 100000 in
theorem lc_5_36 : LkVN RX5 36 m6_note := ⟨⟨"RunFaxes", (nt_2 198 (by decide +kernel) rfl)⟩, (wt_2 200 (by decide +kernel) rfl), (ws_i 34 (by decide +kernel) rfl)⟩
set_option maxRecDepth 100000 in
theorem lc_6_33 : LkS RX6 33 mJ6_bitCount := ⟨(wt_2 206 (by decide +kernel) rfl), (wt_2 207 (by decide +kernel) rfl)⟩
set_option maxRecDepth 100000 in
theorem lf_6_39 : LkF RX6 39 2 2 := ⟨_, _, _, rfl, by decide, Or.inr ⟨"RunFaxes", (nt_1 50 (by decide +kernel) rfl)⟩⟩
set_option maxRecDepth 100000 in
theorem lc_6_44 : LkV RX6 44 m6_rowOf := ⟨(wt_3 89 (by decide +kernel) rfl), (wt_2 191 (by decide +kernel) rfl), (ws_i 32 (by decide +kernel) rfl)⟩
set_option maxRecDepth 100000 in
theorem lc_6_48 : LkVN RX6 48 m2_rowOf := ⟨⟨"RunFaxes", (nt_3 90 (by decide +kernel) rfl)⟩, (wt_2 84 (by decide +kernel) rfl), (ws_i 11 (by decide +kernel) rfl)⟩
set_option maxRecDepth 100000 in
theorem lc_6_49 : LkV RX6 49 m6_hasError := ⟨(wt_3 150 (by decide +kernel) rfl), (wt_3 152 (by decide +kernel) rfl), (ws_i 52 (by decide +kernel) rfl)⟩
set_option maxRecDepth 100000 in
theorem lc_8_19 : LkV RX8 19 m8_isFull := ⟨(wt_2 132 (by decide +kernel) rfl), (wt_2 134 (by decide +kernel) rfl), (ws_i 19 (by decide +kernel) rfl)⟩
set_option maxRecDepth 100000 in
theorem lc_8_23 : LkV RX8 23 m8_put := ⟨(wt_2 136 (by decide +kernel) rfl), (wt_2 138 (by decide +kernel) rfl), (ws_i 20 (by decide +kernel) rfl)⟩
set_option maxRecDepth 100000 in
theorem lc_8_27 : LkV RX8 27 m8_has := ⟨(wt_4 136 (by decide +kernel) rfl), (wt_4 117 (by decide +kernel) rfl), (ws_i 65 (by decide +kernel) rfl)⟩
set_option maxRecDepth 100000 in
theorem lo_9_3 : LkO RX9 3 := ⟨(wt_1 28 (by decide +kernel) rfl), (wt_1 29 (by decide +kernel) rfl), (wt_1 30 (by decide +kernel) rfl)⟩
set_option maxRecDepth 100000 in
theorem ln_9_9 : LkN RX9 9 7 := ⟨_, _, _, rfl, (wt_1 31 (by decide +kernel) rfl), (wt_1 32 (by decide +kernel) rfl), (wt_1 2 (by decide +kernel) rfl)⟩
set_option maxRecDepth 100000 in
theorem lc_9_11 : LkIN RX9 11 m7_init := ⟨⟨"RunFaxes", (nt_1 33 (by decide +kernel) rfl)⟩, (wt_1 34 (by decide +kernel) rfl), rfl, rfl⟩
set_option maxRecDepth 100000 in
theorem lp_9_12i : LkP RX9 "<init>" 12 9 0 := ⟨_, _, _, rfl, by decide, Or.inr ⟨rfl, rfl, rfl, (wt_1 235 (by decide +kernel) rfl)⟩⟩
set_option maxRecDepth 100000 in
theorem lp_9_16i : LkP RX9 "<init>" 16 9 1 := ⟨_, _, _, rfl, by decide, Or.inr ⟨rfl, rfl, rfl, (wt_1 236 (by decide +kernel) rfl)⟩⟩
set_option maxRecDepth 100000 in
theorem lp_9_19 (nm : String) : LkP RX9 nm 19 9 2 := ⟨_, _, _, rfl, by decide, Or.inl ⟨rfl, Or.inl (wt_1 237 (by decide +kernel) rfl)⟩⟩
set_option maxRecDepth 100000 in
theorem ln_9_23 : LkN RX9 23 1 := ⟨_, _, _, rfl, (wt_1 121 (by decide +kernel) rfl), (wt_1 122 (by decide +kernel) rfl), (wt_1 6 (by decide +kernel) rfl)⟩
set_option maxRecDepth 100000 in
theorem lc_9_25 : LkIN RX9 25 m1_init := ⟨⟨"RunFaxes", (nt_1 123 (by decide +kernel) rfl)⟩, (wt_1 124 (by decide +kernel) rfl), rfl, rfl⟩
set_option maxRecDepth 100000 in
theorem lp_9_26i : LkP RX9 "<init>" 26 9 3 := ⟨_, _, _, rfl, by decide, Or.inr ⟨rfl, rfl, rfl, (wt_1 238 (by decide +kernel) rfl)⟩⟩
set_option maxRecDepth 100000 in
theorem ln_9_30 : LkN RX9 30 3 := ⟨_, _, _, rfl, (wt_1 141 (by decide +kernel) rfl), (wt_1 142 (by decide +kernel) rfl), (wt_1 7 (by decide +kernel) rfl)⟩
set_option maxRecDepth 100000 in
theorem lc_9_32 : LkIN RX9 32 m3_init := ⟨⟨"RunFaxes", (nt_1 143 (by decide +kernel) rfl)⟩, (wt_1 144 (by decide +kernel) rfl), rfl, rfl⟩
set_option maxRecDepth 100000 in
theorem lp_9_33i : LkP RX9 "<init>" 33 9 4 := ⟨_, _, _, rfl, by decide, Or.inr ⟨rfl, rfl, rfl, (wt_1 239 (by decide +kernel) rfl)⟩⟩
set_option maxRecDepth 100000 in
theorem ln_9_37 : LkN RX9 37 0 := ⟨_, _, _, rfl, (wt_1 192 (by decide +kernel) rfl), (wt_1 193 (by decide +kernel) rfl), (wt_1 9 (by decide +kernel) rfl)⟩
set_option maxRecDepth 100000 in
theorem lc_9_39 : LkIN RX9 39 m0_init := ⟨⟨"RunFaxes", (nt_1 194 (by decide +kernel) rfl)⟩, (wt_1 195 (by decide +kernel) rfl), rfl, rfl⟩
set_option maxRecDepth 100000 in
theorem lp_9_40i : LkP RX9 "<init>" 40 9 5 := ⟨_, _, _, rfl, by decide, Or.inr ⟨rfl, rfl, rfl, (wt_2 0 (by decide +kernel) rfl)⟩⟩
set_option maxRecDepth 100000 in
theorem ln_9_44 : LkN RX9 44 5 := ⟨_, _, _, rfl, (wt_1 217 (by decide +kernel) rfl), (wt_1 218 (by decide +kernel) rfl), (wt_1 10 (by decide +kernel) rfl)⟩
set_option maxRecDepth 100000 in
theorem lc_9_46 : LkIN RX9 46 m5_init := ⟨⟨"RunFaxes", (nt_1 219 (by decide +kernel) rfl)⟩, (wt_1 220 (by decide +kernel) rfl), rfl, rfl⟩
set_option maxRecDepth 100000 in
theorem lp_9_47i : LkP RX9 "<init>" 47 9 6 := ⟨_, _, _, rfl, by decide, Or.inr ⟨rfl, rfl, rfl, (wt_2 1 (by decide +kernel) rfl)⟩⟩
set_option maxRecDepth 100000 in
theorem ln_9_51 : LkN RX9 51 6 := ⟨_, _, _, rfl, (wt_1 233 (by decide +kernel) rfl), (wt_1 78 (by decide +kernel) rfl), (wt_1 5 (by decide +kernel) rfl)⟩
set_option maxRecDepth 100000 in
theorem lc_9_53 : LkIN RX9 53 m6_init := ⟨⟨"RunFaxes", (nt_1 234 (by decide +kernel) rfl)⟩, (wt_1 80 (by decide +kernel) rfl), rfl, rfl⟩
set_option maxRecDepth 100000 in
theorem lp_9_54i : LkP RX9 "<init>" 54 9 7 := ⟨_, _, _, rfl, by decide, Or.inr ⟨rfl, rfl, rfl, (wt_2 2 (by decide +kernel) rfl)⟩⟩
set_option maxRecDepth 100000 in
theorem at_9_60 : AtOK RX9 58 60 62 eIA "a width is 8 to 32" := ⟨by decide +kernel, (wt_3 174 (by decide +kernel) rfl), (wt_1 15 (by decide +kernel) rfl), st_3 215 (by decide +kernel), at_ws AT_eIA_62, at_ot AT_eIA_62⟩
set_option maxRecDepth 100000 in
theorem lf_9_26 : LkF RX9 26 9 3 := ⟨_, _, _, rfl, by decide, Or.inl (wt_1 238 (by decide +kernel) rfl)⟩
set_option maxRecDepth 100000 in
theorem lf_9_12 : LkF RX9 12 9 0 := ⟨_, _, _, rfl, by decide, Or.inl (wt_1 235 (by decide +kernel) rfl)⟩
set_option maxRecDepth 100000 in
theorem lc_9_65 : LkVN RX9 65 m1_push := ⟨⟨"RunFaxes", (nt_2 24 (by decide +kernel) rfl)⟩, (wt_2 26 (by decide +kernel) rfl), (ws_i 0 (by decide +kernel) rfl)⟩
set_option maxRecDepth 100000 in
theorem lf_9_69 : LkF RX9 69 7 0 := ⟨_, _, _, rfl, by decide, Or.inr ⟨"RunFaxes", (nt_1 101 (by decide +kernel) rfl)⟩⟩
set_option maxRecDepth 100000 in
theorem lf_9_73 : LkF RX9 73 2 0 := ⟨_, _, _, rfl, by decide, Or.inr ⟨"RunFaxes", (nt_1 45 (by decide +kernel) rfl)⟩⟩
set_option maxRecDepth 100000 in
theorem lc_9_79 : LkVN RX9 79 m2_emptyWith := ⟨⟨"RunFaxes", (nt_4 2 (by decide +kernel) rfl)⟩, (wt_4 4 (by decide +kernel) rfl), (ws_i 55 (by decide +kernel) rfl)⟩
set_option maxRecDepth 100000 in
theorem lf_9_83 : LkF RX9 83 7 1 := ⟨_, _, _, rfl, by decide, Or.inr ⟨"RunFaxes", (nt_1 103 (by decide +kernel) rfl)⟩⟩
set_option maxRecDepth 100000 in
theorem lc_9_87 : LkVN RX9 87 m8_empty := ⟨⟨"RunFaxes", (nt_2 66 (by decide +kernel) rfl)⟩, (wt_2 68 (by decide +kernel) rfl), (ws_i 7 (by decide +kernel) rfl)⟩
set_option maxRecDepth 100000 in
theorem lf_9_92 : LkF RX9 92 7 2 := ⟨_, _, _, rfl, by decide, Or.inr ⟨"RunFaxes", (nt_1 105 (by decide +kernel) rfl)⟩⟩
set_option maxRecDepth 100000 in
theorem lc_9_95 : LkVN RX9 95 m6_empty := ⟨⟨"RunFaxes", (nt_4 6 (by decide +kernel) rfl)⟩, (wt_2 150 (by decide +kernel) rfl), (ws_i 22 (by decide +kernel) rfl)⟩
set_option maxRecDepth 100000 in
theorem lc_9_374 : LkVN RX9 374 m2_fits := ⟨⟨"RunFaxes", (nt_4 19 (by decide +kernel) rfl)⟩, (wt_4 21 (by decide +kernel) rfl), (ws_i 57 (by decide +kernel) rfl)⟩
set_option maxRecDepth 100000 in
theorem at_9_377 : AtOK RX9 58 377 62 eIA "a pixel from the width on is black" := ⟨by decide +kernel, (wt_3 174 (by decide +kernel) rfl), (wt_1 15 (by decide +kernel) rfl), st_4 23 (by decide +kernel), at_ws AT_eIA_62, at_ot AT_eIA_62⟩
set_option maxRecDepth 100000 in
theorem lc_9_96 : LkV RX9 96 m9_needPixels := ⟨(wt_4 15 (by decide +kernel) rfl), (wt_4 17 (by decide +kernel) rfl), (ws_i 56 (by decide +kernel) rfl)⟩
set_option maxRecDepth 100000 in
theorem lc_9_100 : LkVN RX9 100 m2_isFull := ⟨⟨"RunFaxes", (nt_4 24 (by decide +kernel) rfl)⟩, (wt_4 26 (by decide +kernel) rfl), (ws_i 58 (by decide +kernel) rfl)⟩
set_option maxRecDepth 100000 in
theorem at_9_106 : AtOK RX9 104 106 108 eIS "the page has 10 lines" := ⟨by decide +kernel, (wt_4 28 (by decide +kernel) rfl), (wt_1 18 (by decide +kernel) rfl), st_4 37 (by decide +kernel), at_ws AT_eIS_108, at_ot AT_eIS_108⟩
set_option maxRecDepth 100000 in
theorem lc_9_109 : LkVN RX9 109 m2_addRow := ⟨⟨"RunFaxes", (nt_4 44 (by decide +kernel) rfl)⟩, (wt_4 46 (by decide +kernel) rfl), (ws_i 59 (by decide +kernel) rfl)⟩
set_option maxRecDepth 100000 in
theorem lf_9_113 : LkF RX9 113 2 2 := ⟨_, _, _, rfl, by decide, Or.inr ⟨"RunFaxes", (nt_1 49 (by decide +kernel) rfl)⟩⟩
set_option maxRecDepth 100000 in
theorem lc_9_239 : LkVN RX9 239 m2_has := ⟨⟨"RunFaxes", (nt_4 60 (by decide +kernel) rfl)⟩, (wt_4 62 (by decide +kernel) rfl), (ws_i 61 (by decide +kernel) rfl)⟩
set_option maxRecDepth 100000 in
theorem at_9_364 : AtOK RX9 160 364 164 eIO "no such line" := ⟨by decide +kernel, (wt_4 64 (by decide +kernel) rfl), (wt_1 19 (by decide +kernel) rfl), st_4 73 (by decide +kernel), at_ws AT_eIO_164, at_ot AT_eIO_164⟩
set_option maxRecDepth 100000 in
theorem lc_9_116 : LkV RX9 116 m9_needLine := ⟨(wt_4 56 (by decide +kernel) rfl), (wt_4 58 (by decide +kernel) rfl), (ws_i 60 (by decide +kernel) rfl)⟩
set_option maxRecDepth 100000 in
theorem lc_9_119 : LkVN RX9 119 m2_rowOf := ⟨⟨"RunFaxes", (nt_3 54 (by decide +kernel) rfl)⟩, (wt_2 84 (by decide +kernel) rfl), (ws_i 11 (by decide +kernel) rfl)⟩
set_option maxRecDepth 100000 in
theorem lc_9_123 : LkVN RX9 123 m2_putRow := ⟨⟨"RunFaxes", (nt_4 80 (by decide +kernel) rfl)⟩, (wt_4 82 (by decide +kernel) rfl), (ws_i 62 (by decide +kernel) rfl)⟩
set_option maxRecDepth 100000 in
theorem at_9_127 : AtOK RX9 104 127 108 eIS "the page has no line" := ⟨by decide +kernel, (wt_4 28 (by decide +kernel) rfl), (wt_1 18 (by decide +kernel) rfl), st_4 91 (by decide +kernel), at_ws AT_eIS_108, at_ot AT_eIS_108⟩
set_option maxRecDepth 100000 in
theorem lc_9_129 : LkVN RX9 129 m2_dropRow := ⟨⟨"RunFaxes", (nt_4 92 (by decide +kernel) rfl)⟩, (wt_4 94 (by decide +kernel) rfl), (ws_i 63 (by decide +kernel) rfl)⟩
set_option maxRecDepth 100000 in
theorem at_9_132 : AtOK RX9 58 132 62 eIA "a style is 0 to 3" := ⟨by decide +kernel, (wt_3 174 (by decide +kernel) rfl), (wt_1 15 (by decide +kernel) rfl), st_4 103 (by decide +kernel), at_ws AT_eIA_62, at_ot AT_eIA_62⟩
set_option maxRecDepth 100000 in
theorem lf_9_134 : LkF RX9 134 2 1 := ⟨_, _, _, rfl, by decide, Or.inr ⟨"RunFaxes", (nt_1 47 (by decide +kernel) rfl)⟩⟩
set_option maxRecDepth 100000 in
theorem lp_9_134 (nm : String) : LkP RX9 nm 134 2 1 := ⟨_, _, _, rfl, by decide, Or.inl ⟨rfl, Or.inr ⟨"RunFaxes", (nt_1 47 (by decide +kernel) rfl)⟩⟩⟩
set_option maxRecDepth 100000 in
theorem lc_9_248 : LkS RX9 248 m9_bordersOf := ⟨(wt_2 93 (by decide +kernel) rfl), (wt_2 94 (by decide +kernel) rfl)⟩
set_option maxRecDepth 100000 in
theorem lc_9_244 : LkS RX9 244 m9_blackAt := ⟨(wt_2 96 (by decide +kernel) rfl), (wt_2 97 (by decide +kernel) rfl)⟩
set_option maxRecDepth 100000 in
theorem lc_9_432 : LkS RX9 432 m9_numbersOfRun := ⟨(wt_2 99 (by decide +kernel) rfl), (wt_2 100 (by decide +kernel) rfl)⟩
set_option maxRecDepth 100000 in
theorem lc_9_420 : LkVN RX9 420 m2_toCode := ⟨⟨"RunFaxes", (nt_2 78 (by decide +kernel) rfl)⟩, (wt_2 80 (by decide +kernel) rfl), (ws_i 10 (by decide +kernel) rfl)⟩
set_option maxRecDepth 100000 in
theorem lc_9_424 : LkS RX9 424 m9_countedFours := ⟨(wt_2 86 (by decide +kernel) rfl), (wt_2 87 (by decide +kernel) rfl)⟩
set_option maxRecDepth 100000 in
theorem lc_9_427 : LkS RX9 427 m9_countedRuns := ⟨(wt_2 90 (by decide +kernel) rfl), (wt_2 91 (by decide +kernel) rfl)⟩
set_option maxRecDepth 100000 in
theorem lc_9_270 : LkV RX9 270 m9_countedLength := ⟨(wt_2 74 (by decide +kernel) rfl), (wt_2 76 (by decide +kernel) rfl), (ws_i 9 (by decide +kernel) rfl)⟩
set_option maxRecDepth 100000 in
theorem lf_9_40 : LkF RX9 40 9 5 := ⟨_, _, _, rfl, by decide, Or.inl (wt_2 0 (by decide +kernel) rfl)⟩
set_option maxRecDepth 100000 in
theorem lc_9_274 : LkV RX9 274 m9_modeToSend := ⟨(wt_2 70 (by decide +kernel) rfl), (wt_2 72 (by decide +kernel) rfl), (ws_i 8 (by decide +kernel) rfl)⟩
set_option maxRecDepth 100000 in
theorem lc_9_265 : LkVN RX9 265 m0_write := ⟨⟨"RunFaxes", (nt_2 102 (by decide +kernel) rfl)⟩, (wt_2 104 (by decide +kernel) rfl), (ws_i 12 (by decide +kernel) rfl)⟩
set_option maxRecDepth 100000 in
theorem lf_9_391 : LkF RX9 391 0 2 := ⟨_, _, _, rfl, by decide, Or.inr ⟨"RunFaxes", (nt_1 201 (by decide +kernel) rfl)⟩⟩
set_option maxRecDepth 100000 in
theorem lf_9_269 : LkF RX9 269 0 3 := ⟨_, _, _, rfl, by decide, Or.inr ⟨"RunFaxes", (nt_1 203 (by decide +kernel) rfl)⟩⟩
set_option maxRecDepth 100000 in
theorem lc_9_395 : LkVN RX9 395 m8_addAll := ⟨⟨"RunFaxes", (nt_2 128 (by decide +kernel) rfl)⟩, (wt_2 130 (by decide +kernel) rfl), (ws_i 18 (by decide +kernel) rfl)⟩
set_option maxRecDepth 100000 in
theorem lc_9_137 : LkV RX9 137 m9_sendPage := ⟨(wt_2 62 (by decide +kernel) rfl), (wt_2 64 (by decide +kernel) rfl), (ws_i 6 (by decide +kernel) rfl)⟩
set_option maxRecDepth 100000 in
theorem lf_9_140 : LkF RX9 140 8 0 := ⟨_, _, _, rfl, by decide, Or.inr ⟨"RunFaxes", (nt_1 69 (by decide +kernel) rfl)⟩⟩
set_option maxRecDepth 100000 in
theorem at_9_379 : AtOK RX9 58 379 62 eIA "a number is 0 to 15" := ⟨by decide +kernel, (wt_3 174 (by decide +kernel) rfl), (wt_1 15 (by decide +kernel) rfl), st_4 123 (by decide +kernel), at_ws AT_eIA_62, at_ot AT_eIA_62⟩
set_option maxRecDepth 100000 in
theorem lc_9_368 : LkVN RX9 368 m8_has := ⟨⟨"RunFaxes", (nt_4 115 (by decide +kernel) rfl)⟩, (wt_4 117 (by decide +kernel) rfl), (ws_i 65 (by decide +kernel) rfl)⟩
set_option maxRecDepth 100000 in
theorem at_9_162 : AtOK RX9 160 162 164 eIO "no such place" := ⟨by decide +kernel, (wt_4 64 (by decide +kernel) rfl), (wt_1 19 (by decide +kernel) rfl), st_4 119 (by decide +kernel), at_ws AT_eIO_164, at_ot AT_eIO_164⟩
set_option maxRecDepth 100000 in
theorem lc_9_143 : LkV RX9 143 m9_needPlace := ⟨(wt_4 111 (by decide +kernel) rfl), (wt_4 113 (by decide +kernel) rfl), (ws_i 64 (by decide +kernel) rfl)⟩
set_option maxRecDepth 100000 in
theorem lc_9_146 : LkS RX9 146 m9_needNumber := ⟨(wt_4 120 (by decide +kernel) rfl), (wt_4 121 (by decide +kernel) rfl)⟩
set_option maxRecDepth 100000 in
theorem lc_9_149 : LkVN RX9 149 m8_at := ⟨⟨"RunFaxes", (nt_3 139 (by decide +kernel) rfl)⟩, (wt_2 162 (by decide +kernel) rfl), (ws_i 25 (by decide +kernel) rfl)⟩
set_option maxRecDepth 100000 in
theorem lc_9_153 : LkVN RX9 153 m8_put := ⟨⟨"RunFaxes", (nt_4 124 (by decide +kernel) rfl)⟩, (wt_2 138 (by decide +kernel) rfl), (ws_i 20 (by decide +kernel) rfl)⟩
set_option maxRecDepth 100000 in
theorem lc_9_157 : LkVN RX9 157 m8_takeOut := ⟨⟨"RunFaxes", (nt_4 132 (by decide +kernel) rfl)⟩, (wt_4 134 (by decide +kernel) rfl), (ws_i 66 (by decide +kernel) rfl)⟩
set_option maxRecDepth 100000 in
theorem lc_9_165 : LkVN RX9 165 m8_isFull := ⟨⟨"RunFaxes", (nt_4 144 (by decide +kernel) rfl)⟩, (wt_2 134 (by decide +kernel) rfl), (ws_i 19 (by decide +kernel) rfl)⟩
set_option maxRecDepth 100000 in
theorem at_9_166 : AtOK RX9 104 166 108 eIS "the stream has 500 numbers" := ⟨by decide +kernel, (wt_4 28 (by decide +kernel) rfl), (wt_1 18 (by decide +kernel) rfl), st_4 145 (by decide +kernel), at_ws AT_eIS_108, at_ot AT_eIS_108⟩
set_option maxRecDepth 100000 in
theorem lc_9_168 : LkVN RX9 168 m8_putAhead := ⟨⟨"RunFaxes", (nt_4 146 (by decide +kernel) rfl)⟩, (wt_4 148 (by decide +kernel) rfl), (ws_i 67 (by decide +kernel) rfl)⟩
set_option maxRecDepth 100000 in
theorem lf_9_47 : LkF RX9 47 9 6 := ⟨_, _, _, rfl, by decide, Or.inl (wt_2 1 (by decide +kernel) rfl)⟩
set_option maxRecDepth 100000 in
theorem lc_9_172 : LkVN RX9 172 m5_readAll := ⟨⟨"RunFaxes", (nt_2 144 (by decide +kernel) rfl)⟩, (wt_2 146 (by decide +kernel) rfl), (ws_i 21 (by decide +kernel) rfl)⟩
set_option maxRecDepth 100000 in
theorem lc_9_176 : LkVN RX9 176 m6_count := ⟨⟨"RunFaxes", (nt_2 202 (by decide +kernel) rfl)⟩, (wt_2 204 (by decide +kernel) rfl), (ws_i 35 (by decide +kernel) rfl)⟩
set_option maxRecDepth 100000 in
theorem at_9_179 : AtOK RX9 58 179 62 eIA "a character code is 33 to 126" := ⟨by decide +kernel, (wt_3 174 (by decide +kernel) rfl), (wt_1 15 (by decide +kernel) rfl), st_4 157 (by decide +kernel), at_ws AT_eIA_62, at_ot AT_eIA_62⟩
set_option maxRecDepth 100000 in
theorem lf_9_33 : LkF RX9 33 9 4 := ⟨_, _, _, rfl, by decide, Or.inl (wt_1 239 (by decide +kernel) rfl)⟩
set_option maxRecDepth 100000 in
theorem lc_9_181 : LkVN RX9 181 m3_isFull := ⟨⟨"RunFaxes", (nt_4 158 (by decide +kernel) rfl)⟩, (wt_4 160 (by decide +kernel) rfl), (ws_i 68 (by decide +kernel) rfl)⟩
set_option maxRecDepth 100000 in
theorem at_9_182 : AtOK RX9 104 182 108 eIS "the buffer has 60 characters" := ⟨by decide +kernel, (wt_4 28 (by decide +kernel) rfl), (wt_1 18 (by decide +kernel) rfl), st_4 162 (by decide +kernel), at_ws AT_eIS_108, at_ot AT_eIS_108⟩
set_option maxRecDepth 100000 in
theorem lc_9_184 : LkVN RX9 184 m3_add := ⟨⟨"RunFaxes", (nt_4 163 (by decide +kernel) rfl)⟩, (wt_4 165 (by decide +kernel) rfl), (ws_i 69 (by decide +kernel) rfl)⟩
set_option maxRecDepth 100000 in
theorem lf_9_187 : LkF RX9 187 3 1 := ⟨_, _, _, rfl, by decide, Or.inr ⟨"RunFaxes", (nt_1 182 (by decide +kernel) rfl)⟩⟩
set_option maxRecDepth 100000 in
theorem lc_9_188 : LkVN RX9 188 m3_empty := ⟨⟨"RunFaxes", (nt_2 216 (by decide +kernel) rfl)⟩, (wt_2 218 (by decide +kernel) rfl), (ws_i 36 (by decide +kernel) rfl)⟩
set_option maxRecDepth 100000 in
theorem lc_9_189 : LkVN RX9 189 m3_firstWrong := ⟨⟨"RunFaxes", (nt_2 224 (by decide +kernel) rfl)⟩, (wt_2 226 (by decide +kernel) rfl), (ws_i 37 (by decide +kernel) rfl)⟩
set_option maxRecDepth 100000 in
theorem lf_9_399 : LkF RX9 399 4 1 := ⟨_, _, _, rfl, by decide, Or.inr ⟨"RunFaxes", (nt_1 155 (by decide +kernel) rfl)⟩⟩
set_option maxRecDepth 100000 in
theorem lf_9_402 : LkF RX9 402 4 2 := ⟨_, _, _, rfl, by decide, Or.inr ⟨"RunFaxes", (nt_1 157 (by decide +kernel) rfl)⟩⟩
set_option maxRecDepth 100000 in
theorem lf_9_405 : LkF RX9 405 4 3 := ⟨_, _, _, rfl, by decide, Or.inr ⟨"RunFaxes", (nt_1 159 (by decide +kernel) rfl)⟩⟩
set_option maxRecDepth 100000 in
theorem lf_9_409 : LkF RX9 409 4 5 := ⟨_, _, _, rfl, by decide, Or.inr ⟨"RunFaxes", (nt_1 162 (by decide +kernel) rfl)⟩⟩
set_option maxRecDepth 100000 in
theorem lf_9_412 : LkF RX9 412 4 6 := ⟨_, _, _, rfl, by decide, Or.inr ⟨"RunFaxes", (nt_1 164 (by decide +kernel) rfl)⟩⟩
set_option maxRecDepth 100000 in
theorem lc_9_192 : LkVN RX9 192 m3_isComplete := ⟨⟨"RunFaxes", (nt_4 174 (by decide +kernel) rfl)⟩, (wt_4 176 (by decide +kernel) rfl), (ws_i 70 (by decide +kernel) rfl)⟩
set_option maxRecDepth 100000 in
theorem at_9_195 : AtOK RX9 58 195 62 eIA "the buffer is no page as a text" := ⟨by decide +kernel, (wt_3 174 (by decide +kernel) rfl), (wt_1 15 (by decide +kernel) rfl), st_4 180 (by decide +kernel), at_ws AT_eIA_62, at_ot AT_eIA_62⟩
set_option maxRecDepth 100000 in
theorem lf_9_197 : LkF RX9 197 3 2 := ⟨_, _, _, rfl, by decide, Or.inr ⟨"RunFaxes", (nt_1 184 (by decide +kernel) rfl)⟩⟩
set_option maxRecDepth 100000 in
theorem lc_9_201 : LkVN RX9 201 m4_restart := ⟨⟨"RunFaxes", (nt_4 181 (by decide +kernel) rfl)⟩, (wt_2 230 (by decide +kernel) rfl), (ws_i 38 (by decide +kernel) rfl)⟩
set_option maxRecDepth 100000 in
theorem lc_9_206 : LkVN RX9 206 m3_codeAt := ⟨⟨"RunFaxes", (nt_3 165 (by decide +kernel) rfl)⟩, (wt_2 234 (by decide +kernel) rfl), (ws_i 39 (by decide +kernel) rfl)⟩
set_option maxRecDepth 100000 in
theorem lc_9_209 : LkVN RX9 209 m4_accept := ⟨⟨"RunFaxes", (nt_4 182 (by decide +kernel) rfl)⟩, (wt_2 238 (by decide +kernel) rfl), (ws_i 40 (by decide +kernel) rfl)⟩
set_option maxRecDepth 100000 in
theorem lc_9_213 : LkVN RX9 213 m3_endsPart := ⟨⟨"RunFaxes", (nt_4 183 (by decide +kernel) rfl)⟩, (wt_4 185 (by decide +kernel) rfl), (ws_i 71 (by decide +kernel) rfl)⟩
set_option maxRecDepth 100000 in
theorem lc_9_216 : LkV RX9 216 m9_perform := ⟨(wt_4 187 (by decide +kernel) rfl), (wt_4 189 (by decide +kernel) rfl), (ws_i 72 (by decide +kernel) rfl)⟩
set_option maxRecDepth 100000 in
theorem lp_9_220 (nm : String) : LkP RX9 nm 220 7 3 := ⟨_, _, _, rfl, by decide, Or.inl ⟨rfl, Or.inr ⟨"RunFaxes", (nt_1 107 (by decide +kernel) rfl)⟩⟩⟩
set_option maxRecDepth 100000 in
theorem lp_9_223 (nm : String) : LkP RX9 nm 223 7 4 := ⟨_, _, _, rfl, by decide, Or.inl ⟨rfl, Or.inr ⟨"RunFaxes", (nt_1 109 (by decide +kernel) rfl)⟩⟩⟩
set_option maxRecDepth 100000 in
theorem lf_9_220 : LkF RX9 220 7 3 := ⟨_, _, _, rfl, by decide, Or.inr ⟨"RunFaxes", (nt_1 107 (by decide +kernel) rfl)⟩⟩
set_option maxRecDepth 100000 in
theorem at_9_226 : AtOK RX9 104 226 108 eIS "the latest text did not stop" := ⟨by decide +kernel, (wt_4 28 (by decide +kernel) rfl), (wt_1 18 (by decide +kernel) rfl), st_4 198 (by decide +kernel), at_ws AT_eIS_108, at_ot AT_eIS_108⟩
set_option maxRecDepth 100000 in
theorem lf_9_223 : LkF RX9 223 7 4 := ⟨_, _, _, rfl, by decide, Or.inr ⟨"RunFaxes", (nt_1 109 (by decide +kernel) rfl)⟩⟩
set_option maxRecDepth 100000 in
theorem lf_9_228 : LkF RX9 228 1 0 := ⟨_, _, _, rfl, by decide, Or.inr ⟨"RunFaxes", (nt_1 131 (by decide +kernel) rfl)⟩⟩
set_option maxRecDepth 100000 in
theorem at_9_229 : AtOK RX9 104 229 108 eIS "no state is saved" := ⟨by decide +kernel, (wt_4 28 (by decide +kernel) rfl), (wt_1 18 (by decide +kernel) rfl), st_4 206 (by decide +kernel), at_ws AT_eIS_108, at_ot AT_eIS_108⟩
set_option maxRecDepth 100000 in
theorem lc_9_231 : LkVN RX9 231 m1_popInto := ⟨⟨"RunFaxes", (nt_4 207 (by decide +kernel) rfl)⟩, (wt_4 209 (by decide +kernel) rfl), (ws_i 73 (by decide +kernel) rfl)⟩
set_option maxRecDepth 100000 in
theorem lf_9_16 : LkF RX9 16 9 1 := ⟨_, _, _, rfl, by decide, Or.inl (wt_1 236 (by decide +kernel) rfl)⟩
set_option maxRecDepth 100000 in
theorem lc_9_234 : LkVN RX9 234 m7_copyFrom := ⟨⟨"RunFaxes", (nt_3 33 (by decide +kernel) rfl)⟩, (wt_2 34 (by decide +kernel) rfl), (ws_i 2 (by decide +kernel) rfl)⟩
set_option maxRecDepth 100000 in
theorem lf_9_19 : LkF RX9 19 9 2 := ⟨_, _, _, rfl, by decide, Or.inl (wt_1 237 (by decide +kernel) rfl)⟩
set_option maxRecDepth 100000 in
theorem at_9_237 : AtOK RX9 104 237 108 eIS "there is no snapshot" := ⟨by decide +kernel, (wt_4 28 (by decide +kernel) rfl), (wt_1 18 (by decide +kernel) rfl), st_4 218 (by decide +kernel), at_ws AT_eIS_108, at_ot AT_eIS_108⟩
set_option maxRecDepth 100000 in
theorem at_9_242 : AtOK RX9 160 242 164 eIO "no such line or pixel" := ⟨by decide +kernel, (wt_4 64 (by decide +kernel) rfl), (wt_1 19 (by decide +kernel) rfl), st_4 233 (by decide +kernel), at_ws AT_eIO_164, at_ot AT_eIO_164⟩
set_option maxRecDepth 100000 in
theorem lc_9_252 : LkS RX9 252 mJ13_bitCount := ⟨(wt_3 55 (by decide +kernel) rfl), (wt_3 56 (by decide +kernel) rfl)⟩
set_option maxRecDepth 100000 in
theorem lm_9_415 : LkM RX9 415 Lib.Math.max.name Lib.Math.max.code := ⟨(wt_3 136 (by decide +kernel) rfl), (wt_3 137 (by decide +kernel) rfl), (wt_1 16 (by decide +kernel) rfl), (wt_3 138 (by decide +kernel) rfl)⟩
set_option maxRecDepth 100000 in
theorem lc_9_258 : LkS RX9 258 m9_longestBetween := ⟨(wt_3 133 (by decide +kernel) rfl), (wt_3 134 (by decide +kernel) rfl)⟩
set_option maxRecDepth 100000 in
theorem at_9_381 : AtOK RX9 58 381 62 eIA "a mode is 0 to 2" := ⟨by decide +kernel, (wt_3 174 (by decide +kernel) rfl), (wt_1 15 (by decide +kernel) rfl), st_5 18 (by decide +kernel), at_ws AT_eIA_62, at_ot AT_eIA_62⟩
set_option maxRecDepth 100000 in
theorem lc_9_262 : LkS RX9 262 m9_needMode := ⟨(wt_5 15 (by decide +kernel) rfl), (wt_5 16 (by decide +kernel) rfl)⟩
set_option maxRecDepth 100000 in
theorem lf_9_277 : LkF RX9 277 0 4 := ⟨_, _, _, rfl, by decide, Or.inr ⟨"RunFaxes", (nt_1 205 (by decide +kernel) rfl)⟩⟩
set_option maxRecDepth 100000 in
theorem lc_9_280 : LkVN RX9 280 m8_countMarkers := ⟨⟨"RunFaxes", (nt_3 73 (by decide +kernel) rfl)⟩, (wt_3 75 (by decide +kernel) rfl), (ws_i 47 (by decide +kernel) rfl)⟩
set_option maxRecDepth 100000 in
theorem at_9_366 : AtOK RX9 160 366 164 eIO "no page has such a line" := ⟨by decide +kernel, (wt_4 64 (by decide +kernel) rfl), (wt_1 19 (by decide +kernel) rfl), st_5 57 (by decide +kernel), at_ws AT_eIO_164, at_ot AT_eIO_164⟩
set_option maxRecDepth 100000 in
theorem lc_9_283 : LkS RX9 283 m9_needLineOfAnyPage := ⟨(wt_5 54 (by decide +kernel) rfl), (wt_5 55 (by decide +kernel) rfl)⟩
set_option maxRecDepth 100000 in
theorem lc_9_286 : LkVN RX9 286 m6_has := ⟨⟨"RunFaxes", (nt_3 144 (by decide +kernel) rfl)⟩, (wt_2 175 (by decide +kernel) rfl), (ws_i 28 (by decide +kernel) rfl)⟩
set_option maxRecDepth 100000 in
theorem at_9_287 : AtOK RX9 104 287 108 eIS "the line is not received" := ⟨by decide +kernel, (wt_4 28 (by decide +kernel) rfl), (wt_1 18 (by decide +kernel) rfl), st_5 65 (by decide +kernel), at_ws AT_eIS_108, at_ot AT_eIS_108⟩
set_option maxRecDepth 100000 in
theorem lc_9_289 : LkVN RX9 289 m6_rowOf := ⟨⟨"RunFaxes", (nt_3 145 (by decide +kernel) rfl)⟩, (wt_2 191 (by decide +kernel) rfl), (ws_i 32 (by decide +kernel) rfl)⟩
set_option maxRecDepth 100000 in
theorem lc_9_290 : LkVN RX9 290 m6_countAlike := ⟨⟨"RunFaxes", (nt_3 85 (by decide +kernel) rfl)⟩, (wt_3 87 (by decide +kernel) rfl), (ws_i 48 (by decide +kernel) rfl)⟩
set_option maxRecDepth 100000 in
theorem lf_9_294 : LkF RX9 294 6 2 := ⟨_, _, _, rfl, by decide, Or.inr ⟨"RunFaxes", (nt_1 86 (by decide +kernel) rfl)⟩⟩
set_option maxRecDepth 100000 in
theorem lc_9_369 : LkVN RX9 369 m6_hasError := ⟨⟨"RunFaxes", (nt_5 77 (by decide +kernel) rfl)⟩, (wt_3 152 (by decide +kernel) rfl), (ws_i 52 (by decide +kernel) rfl)⟩
set_option maxRecDepth 100000 in
theorem at_9_372 : AtOK RX9 160 372 164 eIO "no such error" := ⟨by decide +kernel, (wt_4 64 (by decide +kernel) rfl), (wt_1 19 (by decide +kernel) rfl), st_5 78 (by decide +kernel), at_ws AT_eIO_164, at_ot AT_eIO_164⟩
set_option maxRecDepth 100000 in
theorem lc_9_297 : LkV RX9 297 m9_needError := ⟨(wt_5 73 (by decide +kernel) rfl), (wt_5 75 (by decide +kernel) rfl), (ws_i 74 (by decide +kernel) rfl)⟩
set_option maxRecDepth 100000 in
theorem lc_9_300 : LkVN RX9 300 m6_placeOf := ⟨⟨"RunFaxes", (nt_3 146 (by decide +kernel) rfl)⟩, (wt_3 148 (by decide +kernel) rfl), (ws_i 51 (by decide +kernel) rfl)⟩
set_option maxRecDepth 100000 in
theorem lc_9_303 : LkVN RX9 303 m6_reasonOf := ⟨⟨"RunFaxes", (nt_3 154 (by decide +kernel) rfl)⟩, (wt_3 156 (by decide +kernel) rfl), (ws_i 53 (by decide +kernel) rfl)⟩
set_option maxRecDepth 100000 in
theorem lf_9_54 : LkF RX9 54 9 7 := ⟨_, _, _, rfl, by decide, Or.inl (wt_2 2 (by decide +kernel) rfl)⟩
set_option maxRecDepth 100000 in
theorem lc_9_306 : LkV RX9 306 m9_wouldSend := ⟨(wt_3 107 (by decide +kernel) rfl), (wt_3 62 (by decide +kernel) rfl), (wt_3 63 (by decide +kernel) rfl)⟩
set_option maxRecDepth 100000 in
theorem lc_9_313 : LkS RX9 313 m9_mix := ⟨(wt_3 114 (by decide +kernel) rfl), (wt_3 115 (by decide +kernel) rfl)⟩
set_option maxRecDepth 100000 in
theorem lc_9_311 : LkV RX9 311 m9_width := ⟨(wt_3 113 (by decide +kernel) rfl), (wt_3 39 (by decide +kernel) rfl), (wt_3 40 (by decide +kernel) rfl)⟩
set_option maxRecDepth 100000 in
theorem lc_9_317 : LkV RX9 317 m9_lines := ⟨(wt_3 118 (by decide +kernel) rfl), (wt_3 43 (by decide +kernel) rfl), (wt_3 44 (by decide +kernel) rfl)⟩
set_option maxRecDepth 100000 in
theorem lc_9_320 : LkV RX9 320 m9_style := ⟨(wt_3 119 (by decide +kernel) rfl), (wt_3 47 (by decide +kernel) rfl), (wt_3 48 (by decide +kernel) rfl)⟩
set_option maxRecDepth 100000 in
theorem lc_9_322 : LkV RX9 322 m9_blackPixels := ⟨(wt_3 120 (by decide +kernel) rfl), (wt_3 51 (by decide +kernel) rfl), (wt_3 52 (by decide +kernel) rfl)⟩
set_option maxRecDepth 100000 in
theorem lc_9_325 : LkV RX9 325 m9_streamLength := ⟨(wt_3 121 (by decide +kernel) rfl), (wt_3 66 (by decide +kernel) rfl), (wt_3 67 (by decide +kernel) rfl)⟩
set_option maxRecDepth 100000 in
theorem lc_9_328 : LkV RX9 328 m9_markers := ⟨(wt_3 122 (by decide +kernel) rfl), (wt_3 70 (by decide +kernel) rfl), (wt_3 71 (by decide +kernel) rfl)⟩
set_option maxRecDepth 100000 in
theorem lc_9_331 : LkV RX9 331 m9_received := ⟨(wt_3 123 (by decide +kernel) rfl), (wt_3 78 (by decide +kernel) rfl), (wt_3 79 (by decide +kernel) rfl)⟩
set_option maxRecDepth 100000 in
theorem lc_9_334 : LkV RX9 334 m9_right := ⟨(wt_3 124 (by decide +kernel) rfl), (wt_3 82 (by decide +kernel) rfl), (wt_3 83 (by decide +kernel) rfl)⟩
set_option maxRecDepth 100000 in
theorem lc_9_337 : LkV RX9 337 m9_errors := ⟨(wt_3 125 (by decide +kernel) rfl), (wt_3 92 (by decide +kernel) rfl), (wt_3 93 (by decide +kernel) rfl)⟩
set_option maxRecDepth 100000 in
theorem lc_9_340 : LkV RX9 340 m9_wouldReceive := ⟨(wt_3 126 (by decide +kernel) rfl), (wt_3 96 (by decide +kernel) rfl), (wt_3 97 (by decide +kernel) rfl)⟩
set_option maxRecDepth 100000 in
theorem lc_9_343 : LkV RX9 343 m9_wouldBeRight := ⟨(wt_3 127 (by decide +kernel) rfl), (wt_3 100 (by decide +kernel) rfl), (wt_3 101 (by decide +kernel) rfl)⟩
set_option maxRecDepth 100000 in
theorem lc_9_346 : LkV RX9 346 m9_savedStates := ⟨(wt_3 128 (by decide +kernel) rfl), (wt_3 35 (by decide +kernel) rfl), (wt_3 36 (by decide +kernel) rfl)⟩
set_option maxRecDepth 100000 in
theorem lc_9_349 : LkV RX9 349 m9_mixLine := ⟨(wt_3 129 (by decide +kernel) rfl), (wt_3 131 (by decide +kernel) rfl), (ws_i 49 (by decide +kernel) rfl)⟩
set_option maxRecDepth 100000 in
theorem lc_9_352 : LkV RX9 352 m9_mixReception := ⟨(wt_3 140 (by decide +kernel) rfl), (wt_3 142 (by decide +kernel) rfl), (ws_i 50 (by decide +kernel) rfl)⟩
set_option maxRecDepth 100000 in
theorem lc_9_356 : LkV RX9 356 m9_codedShare := ⟨(wt_3 158 (by decide +kernel) rfl), (wt_3 104 (by decide +kernel) rfl), (wt_3 105 (by decide +kernel) rfl)⟩
set_option maxRecDepth 100000 in
theorem lc_9_360 : LkS RX9 360 m9_bitsOf := ⟨(wt_3 159 (by decide +kernel) rfl), (wt_3 160 (by decide +kernel) rfl)⟩
set_option maxRecDepth 100000 in
theorem lo_10_1 : LkO RX10 1 := ⟨(wt_5 98 (by decide +kernel) rfl), (wt_1 29 (by decide +kernel) rfl), (wt_1 30 (by decide +kernel) rfl)⟩
set_option maxRecDepth 100000 in
theorem lp_10_7i : LkP RX10 "<init>" 7 10 1 := ⟨_, _, _, rfl, by decide, Or.inr ⟨rfl, rfl, rfl, (wt_5 100 (by decide +kernel) rfl)⟩⟩
set_option maxRecDepth 100000 in
theorem lp_10_13i : LkP RX10 "<init>" 13 10 2 := ⟨_, _, _, rfl, by decide, Or.inr ⟨rfl, rfl, rfl, (wt_5 101 (by decide +kernel) rfl)⟩⟩
set_option maxRecDepth 100000 in
theorem lp_10_16i : LkP RX10 "<init>" 16 10 3 := ⟨_, _, _, rfl, by decide, Or.inr ⟨rfl, rfl, rfl, (wt_5 102 (by decide +kernel) rfl)⟩⟩
set_option maxRecDepth 100000 in
theorem lp_10_19i : LkP RX10 "<init>" 19 10 5 := ⟨_, _, _, rfl, by decide, Or.inr ⟨rfl, rfl, rfl, (wt_5 104 (by decide +kernel) rfl)⟩⟩
set_option maxRecDepth 100000 in
theorem lp_10_22i : LkP RX10 "<init>" 22 10 7 := ⟨_, _, _, rfl, by decide, Or.inr ⟨rfl, rfl, rfl, (wt_5 106 (by decide +kernel) rfl)⟩⟩
set_option maxRecDepth 100000 in
theorem lp_10_25i : LkP RX10 "<init>" 25 10 11 := ⟨_, _, _, rfl, by decide, Or.inr ⟨rfl, rfl, rfl, (wt_5 110 (by decide +kernel) rfl)⟩⟩
set_option maxRecDepth 100000 in
theorem lp_10_28i : LkP RX10 "<init>" 28 10 13 := ⟨_, _, _, rfl, by decide, Or.inr ⟨rfl, rfl, rfl, (wt_5 112 (by decide +kernel) rfl)⟩⟩
set_option maxRecDepth 100000 in
theorem lp_10_31i : LkP RX10 "<init>" 31 10 15 := ⟨_, _, _, rfl, by decide, Or.inr ⟨rfl, rfl, rfl, (wt_5 114 (by decide +kernel) rfl)⟩⟩
set_option maxRecDepth 100000 in
theorem lp_10_34 (nm : String) : LkP RX10 nm 34 10 0 := ⟨_, _, _, rfl, by decide, Or.inl ⟨rfl, Or.inl (wt_5 99 (by decide +kernel) rfl)⟩⟩
set_option maxRecDepth 100000 in
theorem lf_10_7 : LkF RX10 7 10 1 := ⟨_, _, _, rfl, by decide, Or.inl (wt_5 100 (by decide +kernel) rfl)⟩
set_option maxRecDepth 100000 in
theorem lf_10_34 : LkF RX10 34 10 0 := ⟨_, _, _, rfl, by decide, Or.inl (wt_5 99 (by decide +kernel) rfl)⟩
set_option maxRecDepth 100000 in
theorem lc_10_38 : LkS RX10 38 m10_in := ⟨(wt_5 171 (by decide +kernel) rfl), (wt_5 172 (by decide +kernel) rfl)⟩
set_option maxRecDepth 100000 in
theorem lf_10_44 : LkF RX10 44 10 4 := ⟨_, _, _, rfl, by decide, Or.inl (wt_5 103 (by decide +kernel) rfl)⟩
set_option maxRecDepth 100000 in
theorem lf_10_16 : LkF RX10 16 10 3 := ⟨_, _, _, rfl, by decide, Or.inl (wt_5 102 (by decide +kernel) rfl)⟩
set_option maxRecDepth 100000 in
theorem lp_10_44 (nm : String) : LkP RX10 nm 44 10 4 := ⟨_, _, _, rfl, by decide, Or.inl ⟨rfl, Or.inl (wt_5 103 (by decide +kernel) rfl)⟩⟩
set_option maxRecDepth 100000 in
theorem lf_10_13 : LkF RX10 13 10 2 := ⟨_, _, _, rfl, by decide, Or.inl (wt_5 101 (by decide +kernel) rfl)⟩
set_option maxRecDepth 100000 in
theorem lp_10_47 (nm : String) : LkP RX10 nm 47 10 14 := ⟨_, _, _, rfl, by decide, Or.inl ⟨rfl, Or.inl (wt_5 113 (by decide +kernel) rfl)⟩⟩
set_option maxRecDepth 100000 in
theorem lf_10_28 : LkF RX10 28 10 13 := ⟨_, _, _, rfl, by decide, Or.inl (wt_5 112 (by decide +kernel) rfl)⟩
set_option maxRecDepth 100000 in
theorem lf_10_47 : LkF RX10 47 10 14 := ⟨_, _, _, rfl, by decide, Or.inl (wt_5 113 (by decide +kernel) rfl)⟩
set_option maxRecDepth 100000 in
theorem lf_10_31 : LkF RX10 31 10 15 := ⟨_, _, _, rfl, by decide, Or.inl (wt_5 114 (by decide +kernel) rfl)⟩
set_option maxRecDepth 100000 in
theorem lf_10_50 : LkF RX10 50 10 16 := ⟨_, _, _, rfl, by decide, Or.inl (wt_5 115 (by decide +kernel) rfl)⟩
set_option maxRecDepth 100000 in
theorem lp_10_50 (nm : String) : LkP RX10 nm 50 10 16 := ⟨_, _, _, rfl, by decide, Or.inl ⟨rfl, Or.inl (wt_5 115 (by decide +kernel) rfl)⟩⟩
set_option maxRecDepth 100000 in
theorem lf_10_53 : LkF RX10 53 10 17 := ⟨_, _, _, rfl, by decide, Or.inl (wt_5 116 (by decide +kernel) rfl)⟩
set_option maxRecDepth 100000 in
theorem lp_10_53 (nm : String) : LkP RX10 nm 53 10 17 := ⟨_, _, _, rfl, by decide, Or.inl ⟨rfl, Or.inl (wt_5 116 (by decide +kernel) rfl)⟩⟩
set_option maxRecDepth 100000 in
theorem lc_10_56 : LkV RX10 56 m10_findsRuns := ⟨(wt_6 6 (by decide +kernel) rfl), (wt_6 8 (by decide +kernel) rfl), (ws_i 87 (by decide +kernel) rfl)⟩
set_option maxRecDepth 100000 in
theorem lc_10_60 : LkV RX10 60 m10_writes := ⟨(wt_5 238 (by decide +kernel) rfl), (wt_6 0 (by decide +kernel) rfl), (ws_i 85 (by decide +kernel) rfl)⟩
set_option maxRecDepth 100000 in
theorem lc_10_63 : LkV RX10 63 m10_writesFours := ⟨(wt_5 234 (by decide +kernel) rfl), (wt_5 236 (by decide +kernel) rfl), (ws_i 84 (by decide +kernel) rfl)⟩
set_option maxRecDepth 100000 in
theorem lc_10_66 : LkV RX10 66 m10_writesRuns := ⟨(wt_6 2 (by decide +kernel) rfl), (wt_6 4 (by decide +kernel) rfl), (ws_i 86 (by decide +kernel) rfl)⟩
set_option maxRecDepth 100000 in
theorem lc_10_69 : LkV RX10 69 m10_codes := ⟨(wt_5 230 (by decide +kernel) rfl), (wt_5 232 (by decide +kernel) rfl), (ws_i 83 (by decide +kernel) rfl)⟩
set_option maxRecDepth 100000 in
theorem lc_10_73 : LkV RX10 73 m10_bestMode := ⟨(wt_5 226 (by decide +kernel) rfl), (wt_5 228 (by decide +kernel) rfl), (ws_i 82 (by decide +kernel) rfl)⟩
set_option maxRecDepth 100000 in
theorem lf_10_77 : LkF RX10 77 10 18 := ⟨_, _, _, rfl, by decide, Or.inl (wt_5 117 (by decide +kernel) rfl)⟩
set_option maxRecDepth 100000 in
theorem lc_10_80 : LkV RX10 80 m10_stream := ⟨(wt_6 45 (by decide +kernel) rfl), (wt_6 47 (by decide +kernel) rfl), (ws_i 92 (by decide +kernel) rfl)⟩
set_option maxRecDepth 100000 in
theorem lf_10_83 : LkF RX10 83 10 19 := ⟨_, _, _, rfl, by decide, Or.inl (wt_5 118 (by decide +kernel) rfl)⟩
set_option maxRecDepth 100000 in
theorem lp_10_83 (nm : String) : LkP RX10 nm 83 10 19 := ⟨_, _, _, rfl, by decide, Or.inl ⟨rfl, Or.inl (wt_5 118 (by decide +kernel) rfl)⟩⟩
set_option maxRecDepth 100000 in
theorem lp_10_77 (nm : String) : LkP RX10 nm 77 10 18 := ⟨_, _, _, rfl, by decide, Or.inl ⟨rfl, Or.inl (wt_5 117 (by decide +kernel) rfl)⟩⟩
set_option maxRecDepth 100000 in
theorem lc_10_86 : LkV RX10 86 m10_takes := ⟨(wt_6 53 (by decide +kernel) rfl), (wt_6 55 (by decide +kernel) rfl), (ws_i 94 (by decide +kernel) rfl)⟩
set_option maxRecDepth 100000 in
theorem lc_10_90 : LkV RX10 90 m10_takesKernel := ⟨(wt_6 61 (by decide +kernel) rfl), (wt_6 63 (by decide +kernel) rfl), (ws_i 96 (by decide +kernel) rfl)⟩
set_option maxRecDepth 100000 in
theorem lc_10_93 : LkV RX10 93 m10_takesRun := ⟨(wt_6 69 (by decide +kernel) rfl), (wt_6 71 (by decide +kernel) rfl), (ws_i 98 (by decide +kernel) rfl)⟩
set_option maxRecDepth 100000 in
theorem lf_10_96 : LkF RX10 96 10 20 := ⟨_, _, _, rfl, by decide, Or.inl (wt_5 119 (by decide +kernel) rfl)⟩
set_option maxRecDepth 100000 in
theorem lp_10_96 (nm : String) : LkP RX10 nm 96 10 20 := ⟨_, _, _, rfl, by decide, Or.inl ⟨rfl, Or.inl (wt_5 119 (by decide +kernel) rfl)⟩⟩
set_option maxRecDepth 100000 in
theorem lc_10_99 : LkV RX10 99 m10_takesFours := ⟨(wt_6 57 (by decide +kernel) rfl), (wt_6 59 (by decide +kernel) rfl), (ws_i 95 (by decide +kernel) rfl)⟩
set_option maxRecDepth 100000 in
theorem lc_10_102 : LkV RX10 102 m10_takesRuns := ⟨(wt_6 65 (by decide +kernel) rfl), (wt_6 67 (by decide +kernel) rfl), (ws_i 97 (by decide +kernel) rfl)⟩
set_option maxRecDepth 100000 in
theorem lc_10_105 : LkS RX10 105 m10_bits := ⟨(wt_6 81 (by decide +kernel) rfl), (wt_6 82 (by decide +kernel) rfl)⟩
set_option maxRecDepth 100000 in
theorem lc_10_108 : LkV RX10 108 m10_forgets := ⟨(wt_5 182 (by decide +kernel) rfl), (wt_5 184 (by decide +kernel) rfl), (ws_i 77 (by decide +kernel) rfl)⟩
set_option maxRecDepth 100000 in
theorem lc_10_111 : LkV RX10 111 m10_isMarker := ⟨(wt_6 41 (by decide +kernel) rfl), (wt_6 43 (by decide +kernel) rfl), (ws_i 91 (by decide +kernel) rfl)⟩
set_option maxRecDepth 100000 in
theorem lc_10_115 : LkV RX10 115 m10_takesCode := ⟨(wt_6 49 (by decide +kernel) rfl), (wt_6 51 (by decide +kernel) rfl), (ws_i 93 (by decide +kernel) rfl)⟩
set_option maxRecDepth 100000 in
theorem lc_10_118 : LkV RX10 118 m10_notes := ⟨(wt_6 73 (by decide +kernel) rfl), (wt_6 75 (by decide +kernel) rfl), (ws_i 99 (by decide +kernel) rfl)⟩
set_option maxRecDepth 100000 in
theorem lc_10_122 : LkV RX10 122 m10_gotMany := ⟨(wt_6 77 (by decide +kernel) rfl), (wt_6 79 (by decide +kernel) rfl), (ws_i 100 (by decide +kernel) rfl)⟩
set_option maxRecDepth 100000 in
theorem lc_10_125 : LkV RX10 125 m10_fails := ⟨(wt_5 174 (by decide +kernel) rfl), (wt_5 176 (by decide +kernel) rfl), (ws_i 75 (by decide +kernel) rfl)⟩
set_option maxRecDepth 100000 in
theorem lc_10_128 : LkV RX10 128 m10_records := ⟨(wt_5 178 (by decide +kernel) rfl), (wt_5 180 (by decide +kernel) rfl), (ws_i 76 (by decide +kernel) rfl)⟩
set_option maxRecDepth 100000 in
theorem lc_10_131 : LkV RX10 131 m10_arePixels := ⟨(wt_5 190 (by decide +kernel) rfl), (wt_5 192 (by decide +kernel) rfl), (ws_i 78 (by decide +kernel) rfl)⟩
set_option maxRecDepth 100000 in
theorem lc_10_135 : LkV RX10 135 m10_addsLine := ⟨(wt_5 194 (by decide +kernel) rfl), (wt_5 196 (by decide +kernel) rfl), (ws_i 79 (by decide +kernel) rfl)⟩
set_option maxRecDepth 100000 in
theorem lc_10_138 : LkV RX10 138 m10_isLine := ⟨(wt_5 202 (by decide +kernel) rfl), (wt_5 204 (by decide +kernel) rfl), (ws_i 80 (by decide +kernel) rfl)⟩
set_option maxRecDepth 100000 in
theorem lc_10_141 : LkS RX10 141 m10_asLong := ⟨(wt_5 206 (by decide +kernel) rfl), (wt_5 207 (by decide +kernel) rfl)⟩
set_option maxRecDepth 100000 in
theorem lc_10_145 : LkV RX10 145 m10_sends := ⟨(wt_5 222 (by decide +kernel) rfl), (wt_5 224 (by decide +kernel) rfl), (ws_i 81 (by decide +kernel) rfl)⟩
set_option maxRecDepth 100000 in
theorem lc_10_148 : LkV RX10 148 m10_isPlace := ⟨(wt_6 14 (by decide +kernel) rfl), (wt_6 16 (by decide +kernel) rfl), (ws_i 88 (by decide +kernel) rfl)⟩
set_option maxRecDepth 100000 in
theorem lc_10_151 : LkS RX10 151 m10_isNumber := ⟨(wt_6 18 (by decide +kernel) rfl), (wt_6 19 (by decide +kernel) rfl)⟩
set_option maxRecDepth 100000 in
theorem lc_10_154 : LkV RX10 154 m10_replaces := ⟨(wt_6 21 (by decide +kernel) rfl), (wt_6 23 (by decide +kernel) rfl), (ws_i 89 (by decide +kernel) rfl)⟩
set_option maxRecDepth 100000 in
theorem lc_10_157 : LkV RX10 157 m10_readsStream := ⟨(wt_6 37 (by decide +kernel) rfl), (wt_6 39 (by decide +kernel) rfl), (ws_i 90 (by decide +kernel) rfl)⟩
set_option maxRecDepth 100000 in
theorem lf_10_160 : LkF RX10 160 10 8 := ⟨_, _, _, rfl, by decide, Or.inl (wt_5 107 (by decide +kernel) rfl)⟩
set_option maxRecDepth 100000 in
theorem lf_10_22 : LkF RX10 22 10 7 := ⟨_, _, _, rfl, by decide, Or.inl (wt_5 106 (by decide +kernel) rfl)⟩
set_option maxRecDepth 100000 in
theorem lp_10_160 (nm : String) : LkP RX10 nm 160 10 8 := ⟨_, _, _, rfl, by decide, Or.inl ⟨rfl, Or.inl (wt_5 107 (by decide +kernel) rfl)⟩⟩
set_option maxRecDepth 100000 in
theorem lf_10_163 : LkF RX10 163 10 9 := ⟨_, _, _, rfl, by decide, Or.inl (wt_5 108 (by decide +kernel) rfl)⟩
set_option maxRecDepth 100000 in
theorem lf_10_166 : LkF RX10 166 10 10 := ⟨_, _, _, rfl, by decide, Or.inl (wt_5 109 (by decide +kernel) rfl)⟩
set_option maxRecDepth 100000 in
theorem lc_10_170 : LkV RX10 170 m10_sign := ⟨(wt_6 104 (by decide +kernel) rfl), (wt_6 106 (by decide +kernel) rfl), (ws_i 103 (by decide +kernel) rfl)⟩
set_option maxRecDepth 100000 in
theorem lp_10_166 (nm : String) : LkP RX10 nm 166 10 10 := ⟨_, _, _, rfl, by decide, Or.inl ⟨rfl, Or.inl (wt_5 109 (by decide +kernel) rfl)⟩⟩
set_option maxRecDepth 100000 in
theorem lp_10_163 (nm : String) : LkP RX10 nm 163 10 9 := ⟨_, _, _, rfl, by decide, Or.inl ⟨rfl, Or.inl (wt_5 108 (by decide +kernel) rfl)⟩⟩
set_option maxRecDepth 100000 in
theorem lc_10_173 : LkV RX10 173 m10_reads := ⟨(wt_6 116 (by decide +kernel) rfl), (wt_6 118 (by decide +kernel) rfl), (ws_i 106 (by decide +kernel) rfl)⟩
set_option maxRecDepth 100000 in
theorem lf_10_25 : LkF RX10 25 10 11 := ⟨_, _, _, rfl, by decide, Or.inl (wt_5 110 (by decide +kernel) rfl)⟩
set_option maxRecDepth 100000 in
theorem lf_10_176 : LkF RX10 176 10 12 := ⟨_, _, _, rfl, by decide, Or.inl (wt_5 111 (by decide +kernel) rfl)⟩
set_option maxRecDepth 100000 in
theorem lc_10_179 : LkV RX10 179 m10_readsPixels := ⟨(wt_6 108 (by decide +kernel) rfl), (wt_6 110 (by decide +kernel) rfl), (ws_i 104 (by decide +kernel) rfl)⟩
set_option maxRecDepth 100000 in
theorem lc_10_182 : LkV RX10 182 m10_number := ⟨(wt_6 112 (by decide +kernel) rfl), (wt_6 114 (by decide +kernel) rfl), (ws_i 105 (by decide +kernel) rfl)⟩
set_option maxRecDepth 100000 in
theorem lp_10_176 (nm : String) : LkP RX10 nm 176 10 12 := ⟨_, _, _, rfl, by decide, Or.inl ⟨rfl, Or.inl (wt_5 111 (by decide +kernel) rfl)⟩⟩
set_option maxRecDepth 100000 in
theorem lc_10_185 : LkV RX10 185 m10_readsPart := ⟨(wt_6 100 (by decide +kernel) rfl), (wt_6 102 (by decide +kernel) rfl), (ws_i 102 (by decide +kernel) rfl)⟩
set_option maxRecDepth 100000 in
theorem lc_10_188 : LkV RX10 188 m10_readsPage := ⟨(wt_6 96 (by decide +kernel) rfl), (wt_6 98 (by decide +kernel) rfl), (ws_i 101 (by decide +kernel) rfl)⟩
set_option maxRecDepth 100000 in
theorem lc_10_192 : LkV RX10 192 m10_does := ⟨(wt_6 124 (by decide +kernel) rfl), (wt_6 126 (by decide +kernel) rfl), (ws_i 107 (by decide +kernel) rfl)⟩
set_option maxRecDepth 100000 in
theorem lf_10_19 : LkF RX10 19 10 5 := ⟨_, _, _, rfl, by decide, Or.inl (wt_5 104 (by decide +kernel) rfl)⟩
set_option maxRecDepth 100000 in
theorem lp_10_195 (nm : String) : LkP RX10 nm 195 10 6 := ⟨_, _, _, rfl, by decide, Or.inl ⟨rfl, Or.inl (wt_5 105 (by decide +kernel) rfl)⟩⟩
set_option maxRecDepth 100000 in
theorem lf_10_195 : LkF RX10 195 10 6 := ⟨_, _, _, rfl, by decide, Or.inl (wt_5 105 (by decide +kernel) rfl)⟩
set_option maxRecDepth 100000 in
theorem lc_10_198 : LkV RX10 198 m10_manyRuns := ⟨(wt_6 176 (by decide +kernel) rfl), (wt_6 178 (by decide +kernel) rfl), (ws_i 108 (by decide +kernel) rfl)⟩
set_option maxRecDepth 100000 in
theorem lc_10_201 : LkV RX10 201 m10_longest := ⟨(wt_6 184 (by decide +kernel) rfl), (wt_6 186 (by decide +kernel) rfl), (ws_i 109 (by decide +kernel) rfl)⟩
set_option maxRecDepth 100000 in
theorem lc_10_204 : LkV RX10 204 m10_black := ⟨(wt_6 192 (by decide +kernel) rfl), (wt_6 194 (by decide +kernel) rfl), (ws_i 110 (by decide +kernel) rfl)⟩
set_option maxRecDepth 100000 in
theorem lc_10_207 : LkS RX10 207 m10_isMode := ⟨(wt_6 204 (by decide +kernel) rfl), (wt_6 205 (by decide +kernel) rfl)⟩
set_option maxRecDepth 100000 in
theorem lc_10_210 : LkV RX10 210 m10_tellsLength := ⟨(wt_6 200 (by decide +kernel) rfl), (wt_6 202 (by decide +kernel) rfl), (ws_i 111 (by decide +kernel) rfl)⟩
set_option maxRecDepth 100000 in
theorem lc_10_213 : LkV RX10 213 m10_check := ⟨(wt_6 219 (by decide +kernel) rfl), (wt_6 221 (by decide +kernel) rfl), (ws_i 112 (by decide +kernel) rfl)⟩
set_option maxRecDepth 100000 in
theorem lc_10_216 : LkV RX10 216 m10_sendsMany := ⟨(wt_6 227 (by decide +kernel) rfl), (wt_6 229 (by decide +kernel) rfl), (ws_i 113 (by decide +kernel) rfl)⟩
set_option maxRecDepth 100000 in
theorem lc_10_219 : LkV RX10 219 m10_markerMany := ⟨(wt_7 3 (by decide +kernel) rfl), (wt_7 5 (by decide +kernel) rfl), (ws_i 114 (by decide +kernel) rfl)⟩
set_option maxRecDepth 100000 in
theorem lc_10_222 : LkS RX10 222 m10_isAnyLine := ⟨(wt_7 11 (by decide +kernel) rfl), (wt_7 12 (by decide +kernel) rfl)⟩
set_option maxRecDepth 100000 in
theorem lc_10_225 : LkV RX10 225 m10_isGot := ⟨(wt_7 14 (by decide +kernel) rfl), (wt_7 16 (by decide +kernel) rfl), (ws_i 115 (by decide +kernel) rfl)⟩
set_option maxRecDepth 100000 in
theorem lc_10_228 : LkV RX10 228 m10_rightMany := ⟨(wt_7 30 (by decide +kernel) rfl), (wt_7 32 (by decide +kernel) rfl), (ws_i 116 (by decide +kernel) rfl)⟩
set_option maxRecDepth 100000 in
theorem lc_10_231 : LkV RX10 231 m10_error := ⟨(wt_7 42 (by decide +kernel) rfl), (wt_7 44 (by decide +kernel) rfl), (ws_i 117 (by decide +kernel) rfl)⟩
set_option maxRecDepth 100000 in
theorem lc_10_234 : LkV RX10 234 m10_putAside := ⟨(wt_7 58 (by decide +kernel) rfl), (wt_7 60 (by decide +kernel) rfl), (ws_i 119 (by decide +kernel) rfl)⟩
set_option maxRecDepth 100000 in
theorem lc_10_237 : LkV RX10 237 m10_takeBack := ⟨(wt_7 62 (by decide +kernel) rfl), (wt_7 64 (by decide +kernel) rfl), (ws_i 120 (by decide +kernel) rfl)⟩
set_option maxRecDepth 100000 in
theorem lc_10_240 : LkV RX10 240 m10_wouldGet := ⟨(wt_7 54 (by decide +kernel) rfl), (wt_7 56 (by decide +kernel) rfl), (ws_i 118 (by decide +kernel) rfl)⟩
set_option maxRecDepth 100000 in
theorem lc_10_243 : LkV RX10 243 m10_wouldRight := ⟨(wt_7 70 (by decide +kernel) rfl), (wt_7 72 (by decide +kernel) rfl), (ws_i 121 (by decide +kernel) rfl)⟩
set_option maxRecDepth 100000 in
theorem lc_10_246 : LkV RX10 246 m10_share := ⟨(wt_7 82 (by decide +kernel) rfl), (wt_7 84 (by decide +kernel) rfl), (ws_i 122 (by decide +kernel) rfl)⟩
set_option maxRecDepth 100000 in
theorem lc_JDouble_122 : LkS "java/lang/Double" 122 mJxe99ae_isNaN := ⟨(wt_7 99 (by decide +kernel) rfl), (wt_7 100 (by decide +kernel) rfl)⟩
set_option maxRecDepth 100000 in
theorem lr_JDouble_134 : LkR "java/lang/Double" 134 := ⟨(wt_7 102 (by decide +kernel) rfl), (wt_7 104 (by decide +kernel) rfl), (wt_7 103 (by decide +kernel) rfl), (wt_1 22 (by decide +kernel) rfl)⟩
set_option maxRecDepth 100000 in
theorem lc_10_254 : LkV RX10 254 m10_digestLine := ⟨(wt_7 92 (by decide +kernel) rfl), (wt_7 94 (by decide +kernel) rfl), (ws_i 123 (by decide +kernel) rfl)⟩
set_option maxRecDepth 100000 in
theorem lc_10_258 : LkS RX10 258 mJxe99ae_doubleToLongBits := ⟨(wt_7 96 (by decide +kernel) rfl), (wt_7 97 (by decide +kernel) rfl)⟩
set_option maxRecDepth 100000 in
theorem lc_L_7 : LkV "RunFaxesLaw" 7 m9_setWidth := ⟨(wt_3 170 (by decide +kernel) rfl), (wt_3 171 (by decide +kernel) rfl), (wt_3 172 (by decide +kernel) rfl)⟩
set_option maxRecDepth 100000 in
theorem lc_L_15 : LkV "RunFaxesLaw" 15 m9_addLine := ⟨(wt_4 11 (by decide +kernel) rfl), (wt_4 12 (by decide +kernel) rfl), (wt_4 13 (by decide +kernel) rfl)⟩
set_option maxRecDepth 100000 in
theorem lc_L_21 : LkV "RunFaxesLaw" 21 m9_setLine := ⟨(wt_4 52 (by decide +kernel) rfl), (wt_4 53 (by decide +kernel) rfl), (wt_4 54 (by decide +kernel) rfl)⟩
set_option maxRecDepth 100000 in
theorem lc_L_27 : LkV "RunFaxesLaw" 27 m9_dropLast := ⟨(wt_4 87 (by decide +kernel) rfl), (wt_4 88 (by decide +kernel) rfl), (wt_4 89 (by decide +kernel) rfl)⟩
set_option maxRecDepth 100000 in
theorem lc_L_31 : LkV "RunFaxesLaw" 31 m9_setStyle := ⟨(wt_4 99 (by decide +kernel) rfl), (wt_4 100 (by decide +kernel) rfl), (wt_4 101 (by decide +kernel) rfl)⟩
set_option maxRecDepth 100000 in
theorem lc_L_34 : LkV "RunFaxesLaw" 34 m9_replace := ⟨(wt_4 107 (by decide +kernel) rfl), (wt_4 108 (by decide +kernel) rfl), (wt_4 109 (by decide +kernel) rfl)⟩
set_option maxRecDepth 100000 in
theorem lc_L_38 : LkV "RunFaxesLaw" 38 m9_lose := ⟨(wt_4 128 (by decide +kernel) rfl), (wt_4 129 (by decide +kernel) rfl), (wt_4 130 (by decide +kernel) rfl)⟩
set_option maxRecDepth 100000 in
theorem lc_L_41 : LkV "RunFaxesLaw" 41 m9_gain := ⟨(wt_4 140 (by decide +kernel) rfl), (wt_4 141 (by decide +kernel) rfl), (wt_4 142 (by decide +kernel) rfl)⟩
set_option maxRecDepth 100000 in
theorem lc_L_44 : LkV "RunFaxesLaw" 44 m9_append := ⟨(wt_4 153 (by decide +kernel) rfl), (wt_4 154 (by decide +kernel) rfl), (wt_4 155 (by decide +kernel) rfl)⟩
set_option maxRecDepth 100000 in
theorem lc_L_47 : LkV "RunFaxesLaw" 47 m9_play := ⟨(wt_4 170 (by decide +kernel) rfl), (wt_4 171 (by decide +kernel) rfl), (wt_4 172 (by decide +kernel) rfl)⟩
set_option maxRecDepth 100000 in
theorem lc_L_50 : LkV "RunFaxesLaw" 50 m9_stoppedPart := ⟨(wt_4 194 (by decide +kernel) rfl), (wt_4 195 (by decide +kernel) rfl), (wt_4 196 (by decide +kernel) rfl)⟩
set_option maxRecDepth 100000 in
theorem lc_L_53 : LkV "RunFaxesLaw" 53 m9_undo := ⟨(wt_4 202 (by decide +kernel) rfl), (wt_4 203 (by decide +kernel) rfl), (wt_4 204 (by decide +kernel) rfl)⟩
set_option maxRecDepth 100000 in
theorem lc_L_56 : LkV "RunFaxesLaw" 56 m9_restore := ⟨(wt_4 214 (by decide +kernel) rfl), (wt_4 215 (by decide +kernel) rfl), (wt_4 216 (by decide +kernel) rfl)⟩
set_option maxRecDepth 100000 in
theorem lc_L_59 : LkV "RunFaxesLaw" 59 m9_pixelsOf := ⟨(wt_4 222 (by decide +kernel) rfl), (wt_4 223 (by decide +kernel) rfl), (wt_4 224 (by decide +kernel) rfl)⟩
set_option maxRecDepth 100000 in
theorem lc_L_63 : LkV "RunFaxesLaw" 63 m9_isBlack := ⟨(wt_4 229 (by decide +kernel) rfl), (wt_4 230 (by decide +kernel) rfl), (wt_4 231 (by decide +kernel) rfl)⟩
set_option maxRecDepth 100000 in
theorem lc_L_67 : LkV "RunFaxesLaw" 67 m9_runsOf := ⟨(wt_4 237 (by decide +kernel) rfl), (wt_4 238 (by decide +kernel) rfl), (wt_4 239 (by decide +kernel) rfl)⟩
set_option maxRecDepth 100000 in
theorem lc_L_70 : LkV "RunFaxesLaw" 70 m9_longestRun := ⟨(wt_5 4 (by decide +kernel) rfl), (wt_5 5 (by decide +kernel) rfl), (wt_5 6 (by decide +kernel) rfl)⟩
set_option maxRecDepth 100000 in
theorem lc_L_73 : LkV "RunFaxesLaw" 73 m9_codeLength := ⟨(wt_5 11 (by decide +kernel) rfl), (wt_5 12 (by decide +kernel) rfl), (wt_5 13 (by decide +kernel) rfl)⟩
set_option maxRecDepth 100000 in
theorem lc_L_76 : LkV "RunFaxesLaw" 76 m9_codeLengthByCounting := ⟨(wt_5 22 (by decide +kernel) rfl), (wt_5 23 (by decide +kernel) rfl), (wt_5 24 (by decide +kernel) rfl)⟩
set_option maxRecDepth 100000 in
theorem lc_L_79 : LkV "RunFaxesLaw" 79 m9_modeOf := ⟨(wt_5 29 (by decide +kernel) rfl), (wt_5 30 (by decide +kernel) rfl), (wt_5 31 (by decide +kernel) rfl)⟩
set_option maxRecDepth 100000 in
theorem lc_L_82 : LkV "RunFaxesLaw" 82 m9_checkOf := ⟨(wt_5 36 (by decide +kernel) rfl), (wt_5 37 (by decide +kernel) rfl), (wt_5 38 (by decide +kernel) rfl)⟩
set_option maxRecDepth 100000 in
theorem lc_L_85 : LkV "RunFaxesLaw" 85 m9_numberAt := ⟨(wt_5 43 (by decide +kernel) rfl), (wt_5 44 (by decide +kernel) rfl), (wt_5 45 (by decide +kernel) rfl)⟩
set_option maxRecDepth 100000 in
theorem lc_L_88 : LkV "RunFaxesLaw" 88 m9_isReceived := ⟨(wt_5 50 (by decide +kernel) rfl), (wt_5 51 (by decide +kernel) rfl), (wt_5 52 (by decide +kernel) rfl)⟩
set_option maxRecDepth 100000 in
theorem lc_L_92 : LkV "RunFaxesLaw" 92 m9_receivedPixels := ⟨(wt_5 61 (by decide +kernel) rfl), (wt_5 62 (by decide +kernel) rfl), (wt_5 63 (by decide +kernel) rfl)⟩
set_option maxRecDepth 100000 in
theorem lc_L_95 : LkV "RunFaxesLaw" 95 m9_errorPlace := ⟨(wt_5 69 (by decide +kernel) rfl), (wt_5 70 (by decide +kernel) rfl), (wt_5 71 (by decide +kernel) rfl)⟩
set_option maxRecDepth 100000 in
theorem lc_L_98 : LkV "RunFaxesLaw" 98 m9_errorReason := ⟨(wt_5 82 (by decide +kernel) rfl), (wt_5 83 (by decide +kernel) rfl), (wt_5 84 (by decide +kernel) rfl)⟩
set_option maxRecDepth 100000 in
theorem lc_L_101 : LkV "RunFaxesLaw" 101 m9_rightIfReplaced := ⟨(wt_5 89 (by decide +kernel) rfl), (wt_5 90 (by decide +kernel) rfl), (wt_5 91 (by decide +kernel) rfl)⟩

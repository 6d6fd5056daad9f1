/-! A HELPER THAT READS THE SCRIPT -/
def PcS (Γ : Amb) (sb sL : Nat) (sx : Nat → Int32) (args : List Value) (z : Option Nat) (w : PW) : Array Value → State → Prop := fun a s => PcOf Γ args z w a s ∧ XS Γ.2.2.2 sb sL sx s
def SpS (Γ : Amb) (sb sL : Nat) (sx : Nat → Int32) (k : MI) (args : List Value) (z : Option Nat) (w : PW) (Q : Option Value → Option Nat → PW → Prop) : Prop :=
  Met Γ.1.1 (mi_y k) (mi_hd k :: WS) (mi_rm k) (PcS Γ sb sL sx args z w) (QcOf Γ Q) (mi_rm k).cells (mi_rm k).slots (AA Γ.2.2.2)
theorem PcS.blind (Γ : Amb) (sb sL : Nat) (sx : Nat → Int32) (args : List Value) (z : Option Nat) (w : PW) : FrameBlind (PcS Γ sb sL sx args z w) := by
  intro a U g mk h
  obtain ⟨h1, h2, h3⟩ := h
  exact ⟨PcOf.blind Γ args z w a U g mk h1, va_X.moved (u := U) (U := U.calling g mk a) (Vm.Alike.refl U.vm) h2, h3⟩
theorem entryS (Γ : Amb) (sb sL : Nat) (sx : Nat → Int32) (K : MI) (hpl : plainName (mi_y K).cls = true) (hh0 : mi_h K = []) (args : List Value) (hlen : (lg_sl args).length ≤ mi_l K) (z : Option Nat) (w : PW) (Q : Option Value → Option Nat → PW → Prop)
    (h : GL Γ K Q (fun _ _ => False) sb sL sx 0 (EL (mi_l K) args) [] z w 0 0) : SpS Γ sb sL sx K args z w Q := by
  have body : ∀ (p : Program) (e : Env) (s : State) (m : MethodId) (as : Array Value) (below : List Frame) (meth : Method) (c : Code) (s₁ : State), BodyLoose p Γ.1.1 (mi_y K) (headSpec (mi_hd K :: WS) (mi_rm K)) (mi_c K) (mi_l K) (mi_r K) e s m as below meth c s₁ → c.maxLocals = mi_l K → c.exceptionTable.toList = tableOf ((mi_h K).map (fun q => q.1)) → PcS Γ sb sL sx args z w as s →
      W p Γ.1.1 e (mi_rm K) s m as below meth c s.heap [] 0 0 (vx_MQ below (QcOf Γ Q) (XcOf Γ (fun _ _ => False)) as s (mi_rm K).cells (mi_rm K).slots (AA Γ.2.2.2)) (entryFrame m as (mi_l K)) := by
    intro p e s m as below meth c s₁ B hml htab hp
    obtain ⟨⟨rfl, hb0, hW, hK, hST⟩, hX⟩ := hp
    have hts := atoms_spec (ws := mi_hd K :: WS) B.pre
    have hown : s.vm.findClass (mi_y K).cls = some m.cls := findClass_of_methodNamed B.named
    rw [lg_entry_eq]
    refine h p e s m _ below meth c _ ⟨B.exec, B.bytes, hml, hown, (name_of_methodNamed B.named B.method).1, B.notSynchronized, htab, fun w hw => hts w (List.mem_cons_of_mem _ hw), hK, hST, hb0, ?_, Or.inr ⟨Γ.1.2, rfl⟩⟩ hX s.heap [] _ (entry_LH args _ hlen) hW va_S.rf
    intro ri v pc H locs A z w hd ht hQ hW hS
    exact vx_ret (cx_ret B.exec B.bytes B.returns B.notSynchronized hown ri v pc H locs A z w hd ht hQ hW hS)
  unfold SpS
  refine met_of_vx (XC := XcOf Γ (fun _ _ => False)) ?_ (fun E s t q => by obtain ⟨w', q, -⟩ := q; exact q)
  have hh : mi_hd K = Cond.code (mi_y K) (mi_c K) (mi_l K) (mi_r K) := by simp only [mi_hd, hh0]
  rw [hh] at body ⊢
  refine vx_ofW hpl rfl (fun p e s m as below meth c s₁ B hml hx hp => body p e s m as below meth c s₁ B hml ?_ hp)
  rw [hh0]
  have : c.exceptionTable.toList = [] := List.eq_nil_iff_forall_not_mem.mpr (fun x hx' => hx x hx')
  rw [this]; rfl
theorem sp_of_x {Γ : Amb} {k : MI} {args : List Value} {z : Option Nat} {w : PW} {Q : Option Value → Option Nat → PW → Prop} (h : SpX Γ k args z w Q (fun _ _ => False)) : Sp Γ k args z w Q :=
  met_of_vx h (fun E s t q => by obtain ⟨w', q, -⟩ := q; exact q)
theorem gl_widen {Γ : Amb} {K : MI} {Q : Option Value → Option Nat → PW → Prop} {QX : String → PW → Prop} {sb sL : Nat} {sx : Nat → Int32} {pc : Nat} {ls : LSL} {st : List Value} {z : Option Nat} {w : PW} {cs ss cs' ss' : Nat} (hc : cs ≤ cs') (hs : ss ≤ ss') (k : GL Γ K Q QX sb sL sx pc ls st z w cs' ss') : GL Γ K Q QX sb sL sx pc ls st z w cs ss :=
  fun p e s m args below meth c FP C CS H locs A hA hW hS => W.widen hc hs (k p e s m args below meth c FP C CS H locs A hA hW hS)
section CELL
variable {Γ : Amb} {K k : MI} {Q : Option Value → Option Nat → PW → Prop} {QX : String → PW → Prop} {sb sL : Nat} {sx : Nat → Int32} {pc : Nat} {ls : LSL} {st rest As : List Value} {z : Option Nat} {w : PW} {cs ss idx n : Nat}
theorem gk_callL (hm : MOK k n) (hr : RMok K k) (hh : mi_h k = []) (hl : LkS (mi_y K).cls idx k) (hdg : decode (mi_c K) pc = .ok (.invokestatic idx, 3)) (hst : st = As.reverse ++ rest) (hn : As.length = n) (hcat : (rest.map fun v => v.category).sum ≤ 8)
    (hc : cs + (mi_rm k).cells ≤ (mi_rm K).cells ∧ ss + (mi_rm k).slots ≤ (mi_rm K).slots) (kk : SpS Γ sb sL sx k As z w (fun r z' w' => GL Γ K Q QX sb sL sx (pc + 3) ls (r.toList ++ rest) z' w' (cs + (mi_rm k).cells) (ss + (mi_rm k).slots))) : GL Γ K Q QX sb sL sx pc ls st z w cs ss := by
  intro p e s m args below meth c FP C CS H locs A hA hW hS
  have C' := C
  obtain ⟨hx, hb, hml, hown, hin, hlk, htab, hts, hK, hST, hb0, -, -⟩ := C'
  obtain ⟨hX, hbl, hbb⟩ := id CS
  have hp0 := gz_pre C hW hS As
  have hp : PreS s H (PcS Γ sb sL sx As z w) As := by
    refine ⟨PcS.blind Γ sb sL sx As z w, fun U hU hw => ⟨hp0.2 U hU hw, va_X.kept (va_X.moved hw.alike hX) ?_, ?_, hbb⟩⟩
    · rw [hU]; exact hS.2.1 sb hbl (Nat.not_le.mpr hbb)
    · rw [hU]; exact Nat.lt_of_lt_of_le hbl hS.1
  subst hst
  obtain ⟨l1, l2⟩ := hl
  exact call_go (Γ := Γ) (va_runS (g := F0 m pc A _) (As := As) (rest := rest) ⟨hx, hb, hml, hown, hts⟩ kk ⟨gz_callB C hm hr hh l1, hts _ l2⟩ hp rfl hn hA.1 rfl (by simpa [JFrame.monitorRoom] using hcat) hdg hc) hS (fun r z' w' H1 locs1 hg hW1 hS1 => hg p e s m args below meth c FP C CS H1 locs1 A hA hW1 hS1)
end CELL
def cellV (sL : Nat) (sx : Nat → Int32) (i : Nat) : Int32 := if i < sL then sx i else nI (7919 * (i + 3)) * nI (i + 11)
theorem spS_cell {Γ : Amb} {sb sL : Nat} {sx : Nat → Int32} {w : PW} {Q : Option Value → Option Nat → PW → Prop} {i : Nat} (hi : i < 2147483648) (hL : sL < 2147483648) (hQ : Q (some (.int (cellV sL sx i))) none w) : SpS Γ sb sL sx mL_cell [.ref sb, .int (nI i)] none w Q := by
  unfold cellV at hQ
  refine entryS Γ sb sL sx mL_cell rfl rfl _ (Nat.le_of_ble_eq_true rfl) _ _ _ ?_
  refine wpL_ok kdL_cell 400 0 bbL_cell_0 _ _ _ _ _ _ ooL_cell_0 ?_
  simp only [List.getElem?_cons_zero, List.getElem?_cons_succ, fv4, Nat.reduceAdd, Nat.reduceSub, wpL, pst, stpL, LG, lput, ls_tl, two, bc, EL, pad, popN, csum, Option.toList, List.cons_append, List.nil_append, List.set_cons_zero, List.set_cons_succ, List.length_cons, List.length_nil, true_and, and_true, Nat.reduceLT, Nat.reduceLeDiff, Nat.zero_le, Nat.le_refl, RI_i, RI_z0, RI_z1, Int32.reduceOfInt, Int8.reduceOfInt, Int16.reduceOfInt, Int64.reduceOfInt, Int8.toInt32_ofNat, Int16.toInt32_ofNat, Int.reduceNeg, Int32.ofInt_neg, Int8.ofInt_neg, Int16.ofInt_neg, Int32.toInt64_ofNat, Int32.reduceToNatClampNeg, Fin.isValue, Fin.val_one, Fin.val_zero, Fin.val_two, Int64.reduceOfNat, Int32.reduceOfNat, hdl, cutc, Nat.reduceEqDiff, reduceIte, FV, tyC, tyX0, tyX1, tyX2, tyX3, tyX4, tyX5, tyX6, tyX7, tyX8, tyX9, tyX10, Nat.reduceMul, c_le, c_lt, c_eq, c_in, c_cl, c_add, c_rem, c_ofN, Int32.add_zero, Int32.zero_add, c_lt0, c_ge0, c_le0, c_gt0, c_e0, c_m1, c_m1', false_implies, true_implies, implies_true, not_false_eq_true, not_true_eq_false, Nat.not_lt_zero, up_s, up_1, up_m, ffL_cell, bbL_cell_0, bbL_cell_12, bbL_cell_24, cl_3, ca_3, cl_11, ca_11, cl_7919, ca_7919, hi, hL, c_ofN]
  exact ⟨fun hh => by rw [if_neg (by omega)] at hQ; exact hQ, fun hh => ⟨by omega, by rw [if_pos (by omega)] at hQ; exact hQ⟩⟩

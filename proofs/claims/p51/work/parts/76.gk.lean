/-! THE LAW'S BODY: it reads its script, which lies below our addresses -/
def XS (b0 sb sL : Nat) (sx : Nat → Int32) (s : State) : Prop := va_X sb sL sx s s.heap ∧ sb < s.heap.size ∧ sb < b0
def GL (Γ : Amb) (K : MI) (Q : Option Value → Option Nat → PW → Prop) (QX : String → PW → Prop) (sb sL : Nat) (sx : Nat → Int32) (pc : Nat) (ls : LSL) (st : List Value) (z : Option Nat) (w : PW) (cs ss : Nat) : Prop :=
  ∀ (p : Program) (e : Env) (s : State) (m : MethodId) (args : Array Value) (below : List Frame) (meth : Method) (c : Code) (FP : State → Prop), CX Γ K Q QX p e s m args below meth c FP → XS Γ.2.2.2 sb sL sx s →
  ∀ (H : Heap) (locs : List Loc) (A : Array Slot), LH A (mi_l K) ls → WD Γ z w H → va_S (AA Γ.2.2.2) s.heap H locs → W p Γ.1.1 e (mi_rm K) s m args below meth c H locs cs ss FP (F0 m pc A st)
section GK
variable {Γ : Amb} {K : MI} {Q : Option Value → Option Nat → PW → Prop} {QX : String → PW → Prop} {sb sL : Nat} {sx : Nat → Int32} {pc tgt : Nat} {ls : LSL} {st rest : List Value} {z : Option Nat} {w : PW} {cs ss : Nat} {idx x y a n : Nat} {off : Int} {i : Int32}
variable {k : MI} {As : List Value} {ci : Nat} {fs : List Value}
theorem gk_back (kk : GL Γ K Q QX sb sL sx pc ls st none w cs ss) : GL Γ K Q QX sb sL sx pc ls st z w cs ss := fun p e s m args below meth c FP C CS H locs A hA hW hS => kk p e s m args below meth c FP C CS H locs A hA hW.back hS
theorem gk_sld (hdg : decode (mi_c K) pc = .ok (.iaload, 1)) (hi : vp_in i sL) (kk : GL Γ K Q QX sb sL sx (pc + 1) ls (.int (sx i.toNatClampNeg) :: rest) z w cs ss) : GL Γ K Q QX sb sL sx pc ls (.int i :: .ref sb :: rest) z w cs ss := by
  intro p e s m args below meth c FP C CS H locs A hA hW hS
  obtain ⟨hx, hb, -⟩ := id C
  obtain ⟨hX, hbl, hb0⟩ := id CS
  exact va_sld hx hb hX hbl (Nat.not_le.mpr hb0) hS hi hdg (kk p e s m args below meth c FP C CS H locs A hA hW hS)
theorem gk_slen (hdg : decode (mi_c K) pc = .ok (.arraylength, 1)) (kk : GL Γ K Q QX sb sL sx (pc + 1) ls (.int (Int32.ofNat sL) :: rest) z w cs ss) : GL Γ K Q QX sb sL sx pc ls (.ref sb :: rest) z w cs ss := by
  intro p e s m args below meth c FP C CS H locs A hA hW hS
  obtain ⟨hx, hb, -⟩ := id C
  obtain ⟨hX, hbl, hb0⟩ := id CS
  exact va_slen hx hb hX hbl (Nat.not_le.mpr hb0) hS hdg (kk p e s m args below meth c FP C CS H locs A hA hW hS)
theorem gk_goto (hdg : decode (mi_c K) pc = .ok (.goto off, 3)) (ht : (pc : Int) + off = (tgt : Int)) (kk : GL Γ K Q QX sb sL sx tgt ls st z w cs ss) : GL Γ K Q QX sb sL sx pc ls st z w cs ss := by
  intro p e s m args below meth c FP C CS H locs A hA hW hS
  obtain ⟨hx, hb, -⟩ := id C
  exact lv_goto hx hb hdg ht (kk p e s m args below meth c FP C CS H locs A hA hW hS)
theorem gk_icmp {op : Jvm.ClassFile.Cond} {u v : Int32} (hdg : decode (mi_c K) pc = .ok (.if_icmp op off, 3)) (ht : (pc : Int) + off = (tgt : Int)) (kt : bc op u v → GL Γ K Q QX sb sL sx tgt ls rest z w cs ss) (kf : ¬ bc op u v → GL Γ K Q QX sb sL sx (pc + 3) ls rest z w cs ss) : GL Γ K Q QX sb sL sx pc ls (.int v :: .int u :: rest) z w cs ss := by
  intro p e s m args below meth c FP C CS H locs A hA hW hS
  obtain ⟨hx, hb, -⟩ := id C
  have k1 := fun h => kt h p e s m args below meth c FP C CS H locs A hA hW hS
  have k2 := fun h => kf h p e s m args below meth c FP C CS H locs A hA hW hS
  cases op
  · exact lv_icmp_eq hx hb hdg ht k1 k2
  · exact lv_icmp_ne hx hb hdg ht k1 (fun h => k2 (fun q => q h))
  · exact lv_icmp_lt hx hb hdg ht k1 k2
  · exact lv_icmp_ge hx hb hdg ht k1 k2
  · exact lv_icmp_gt hx hb hdg ht k1 k2
  · exact lv_icmp_le hx hb hdg ht k1 k2
theorem gk_if {op : Jvm.ClassFile.Cond} {u : Int32} (hdg : decode (mi_c K) pc = .ok (.ifCond op off, 3)) (ht : (pc : Int) + off = (tgt : Int)) (kt : bc op u 0 → GL Γ K Q QX sb sL sx tgt ls rest z w cs ss) (kf : ¬ bc op u 0 → GL Γ K Q QX sb sL sx (pc + 3) ls rest z w cs ss) : GL Γ K Q QX sb sL sx pc ls (.int u :: rest) z w cs ss := by
  intro p e s m args below meth c FP C CS H locs A hA hW hS
  obtain ⟨hx, hb, -⟩ := id C
  have k1 := fun h => kt h p e s m args below meth c FP C CS H locs A hA hW hS
  have k2 := fun h => kf h p e s m args below meth c FP C CS H locs A hA hW hS
  cases op
  · exact lv_if_eq hx hb hdg ht k1 k2
  · exact lv_if_ne hx hb hdg ht k1 (fun h => k2 (fun q => q h))
  · exact lv_if_lt hx hb hdg ht k1 k2
  · exact lv_if_ge hx hb hdg ht k1 k2
  · exact lv_if_gt hx hb hdg ht k1 k2
  · exact lv_if_le hx hb hdg ht k1 k2
theorem gk_ret {ri : Instr} {v : Option Value} (hdg : decode (mi_c K) pc = .ok (ri, 1)) (ht : RT (mi_r K) ri v) (hc : cs ≤ (mi_rm K).cells ∧ ss ≤ (mi_rm K).slots) (hQ : Q v z w) : GL Γ K Q QX sb sL sx pc ls v.toList z w cs ss := by
  intro p e s m args below meth c FP C CS H locs A hA hW hS
  obtain ⟨hx, hb, hml, hown, hin, hlk, htab, hts, hK, hST, hb0, hret, -⟩ := id C
  exact W.widen hc.1 hc.2 (hret ri v pc H locs A z w hdg ht hQ hW hS)
theorem gk_tsw {dflt lo hi : Int} {offs : Array Int} {ln d : Nat} {v : Int32} (hdg : decode (mi_c K) pc = .ok (.tableswitch dflt lo hi offs, ln)) (hsz : lo + offs.toList.length = hi + 1) (hd : (pc : Int) + dflt = (d : Int)) (hp : offs.toList.all (fun o => decide (0 ≤ (pc : Int) + o)) = true)
    (kk : tsw (fun t => GL Γ K Q QX sb sL sx t ls rest z w cs ss) pc v.toInt lo offs.toList d) : GL Γ K Q QX sb sL sx pc ls (.int v :: rest) z w cs ss := by
  intro p e s m args below meth c FP C CS H locs A hA hW hS
  obtain ⟨hx, hb, -⟩ := id C
  by_cases hv : v.toInt < lo ∨ hi < v.toInt
  · exact lv_tableOut hx hb hdg hv hd (tsw_out _ _ kk (by omega) p e s m args below meth c FP C CS H locs A hA hW hS)
  · have hj : (v.toInt - lo).toNat < offs.toList.length := by omega
    have ho := List.getElem?_eq_getElem hj
    have ho2 : offs[(v.toInt - lo).toNat]? = some (offs.toList[(v.toInt - lo).toNat]) := by rw [← Array.getElem?_toList]; exact ho
    have hpos := of_decide_eq_true (List.all_eq_true.mp hp _ (List.getElem_mem hj))
    exact lv_tableIn hx hb hdg (fun q => hv (Or.inl q)) (fun q => hv (Or.inr q)) ho2 (tgt := ((pc : Int) + offs.toList[(v.toInt - lo).toNat]).toNat) (by omega) (tsw_in _ _ kk _ _ ho (by omega) p e s m args below meth c FP C CS H locs A hA hW hS)
theorem gk_ldc2 {v : Int64} (hl : Jvm.Cond.constantLong (mi_y K).cls idx v ∈ WS) (hdg : decode (mi_c K) pc = .ok (.ldc2_w idx, 3)) (kk : GL Γ K Q QX sb sL sx (pc + 3) ls (.long v :: st) z w cs ss) : GL Γ K Q QX sb sL sx pc ls st z w cs ss := by
  intro p e s m args below meth c FP C CS H locs A hA hW hS
  obtain ⟨hx, hb, hml, hown, hin, hlk, htab, hts, -⟩ := id C
  exact lv_ldc2 hx hb hown (hts _ hl) hdg (kk p e s m args below meth c FP C CS H locs A hA hW hS)
theorem gk_dconst0 (hdg : decode (mi_c K) pc = .ok (.dconst 0, 1)) (kk : GL Γ K Q QX sb sL sx (pc + 1) ls (.double FP.dconst0 :: st) z w cs ss) : GL Γ K Q QX sb sL sx pc ls st z w cs ss := by
  intro p e s m args below meth c FP C CS H locs A hA hW hS
  obtain ⟨hx, hb, -⟩ := id C
  exact lv_dconst0 hx hb hdg (kk p e s m args below meth c FP C CS H locs A hA hW hS)
theorem gk_laload {f : Nat → Int64} (hdg : decode (mi_c K) pc = .ok (.laload, 1)) (ha : w a = some (.inl (1, n, .inr (.inl f)))) (hi : vp_in i n) (kk : GL Γ K Q QX sb sL sx (pc + 1) ls (.long (f i.toNatClampNeg) :: rest) z w cs ss) : GL Γ K Q QX sb sL sx pc ls (.int i :: .ref a :: rest) z w cs ss := by
  intro p e s m args below meth c FP C CS H locs A hA hW hS
  obtain ⟨hx, hb, hml, hown, hin, hlk, htab, hts, hK, hST, hb0, -, -⟩ := id C
  obtain ⟨L, k, hP, hk⟩ := hW.get ha
  exact va_lald hx hb hK hP k 1 hk (tys1 _) hi hdg (kk p e s m args below meth c FP C CS H locs A hA hW hS)
theorem gk_new {h : Nat} (hl : LkN (mi_y K).cls idx x) (hdg : decode (mi_c K) pc = .ok (.new idx, 3)) (hc : cs + 1 ≤ (mi_rm K).cells ∧ ss + (dfl x).length ≤ (mi_rm K).slots) (kk : GL Γ K Q QX sb sL sx (pc + 3) ls (.ref h :: st) (some (h + 1)) (up w h (.inr (x, dfl x))) (cs + 1) (ss + (dfl x).length)) : GL Γ K Q QX sb sL sx pc ls st (some h) w cs ss := by
  intro p e s m args below meth c FP C CS H locs A hA hW hS
  obtain ⟨hx, hb, hml, hown, hin, hlk, htab, hts, hK, hST, hb0, -, -⟩ := id C
  obtain ⟨Cn, T, N, hq, l1, l2, l3⟩ := hl
  obtain ⟨h1, h2, h3⟩ := cls_ty x (cls_lt hq) Cn T N hq
  have hdf : dfl x = (List.range N).map (fun k => defaultValue (tyC x k)) := by simp only [dfl, hq]
  have hdl : (dfl x).length = N := by rw [hdf]; simp
  rw [hdl] at hc kk
  have hKn := hK.1 x _ hq
  have hhz : H.size = h := by obtain ⟨L, -, -, -, h4⟩ := hW; exact h4 h rfl
  subst hhz
  refine W.newcK hx hb hown (hts _ l1) (hts _ l2) (hts _ l3) rfl hdg hc.1 hc.2 hKn.2.1 rfl fun H1 kC hkC e1 z1 o1 => ?_
  refine kk p e s m args below meth c FP C CS H1 locs A hA (hW.push (Nat.le_trans hb0 hS.1) (e := .inr (x, dfl x)) ?_ z1 o1) ⟨Nat.le_trans hS.1 (by omega), fun x h1 h2 => (o1 x (Nat.lt_of_lt_of_le h1 hS.1)).trans (hS.2.1 x h1 h2), hS.2.2⟩
  refine ⟨_, hq, (u_born (tyC x) hts (cls_ws _ (List.mem_of_getElem? hq)) hKn hkC e1 h1).to (fun j hj => ?_)⟩
  simp [vp_V, hdf, hj]
theorem gk_newarray {h t : Nat} {aty : ArrayType} {m0 : Int32} (hl : LkA t aty) (hdg : decode (mi_c K) pc = .ok (.newarray aty, 2)) (hn : ¬ m0 < 0) (hN : m0.toNatClampNeg = n) (hsm : n ≤ 4096) (hc : cs + 1 ≤ (mi_rm K).cells ∧ ss + n ≤ (mi_rm K).slots) (kk : GL Γ K Q QX sb sL sx (pc + 2) ls (.ref h :: st) (some (h + 1)) (up w h (nar t n)) (cs + 1) (ss + n)) : GL Γ K Q QX sb sL sx pc ls (.int m0 :: st) (some h) w cs ss := by
  intro p e s m args below meth c FP C CS H locs A hA hW hS
  obtain ⟨hx, hb, hml, hown, hin, hlk, htab, hts, hK, hST, hb0, -, -⟩ := id C
  have hhz : H.size = h := by obtain ⟨L, -, -, -, h4⟩ := hW; exact h4 h rfl
  subst hhz
  rcases hl with ⟨rfl, rfl, hl⟩ | ⟨rfl, rfl, hl⟩
  · refine va_newaK hx hb (atype := .int) (hts _ hl) rfl hdg rfl hn hN (show n * 4 ≤ 536870912 by omega) hc.1 hc.2 rfl fun H1 cA e1 z1 o1 hAr hNm => ?_
    have hcA : Γ.2.2.1 0 = cA := Option.some.inj ((show s.vm.findClass _ = some (Γ.2.2.1 0) from (hK.2 0 _ (tys0 _)).2).symm.trans hNm)
    refine kk p e s m args below meth c FP C CS H1 locs A hA (hW.push (Nat.le_trans hb0 hS.1) (e := nar 0 n) ?_ (by omega) (fun q hq => o1 q (by omega))) ⟨Nat.le_trans hS.1 (by omega), fun x h1 h2 => (o1 x (by have := hS.1; omega)).trans (hS.2.1 x h1 h2), hS.2.2⟩
    show H1[H.size]? = some (vp_cell (Γ.2.2.1 0) _)
    rw [hcA, e1]
    show some _ = some (vp_cell cA (n, .inl (fun _ => 0)))
    rw [vp_cell_i]
    rfl
  · refine va_newaK hx hb (atype := .long) (hts _ hl) rfl hdg rfl hn hN (show n * 8 ≤ 536870912 by omega) hc.1 hc.2 rfl fun H1 cA e1 z1 o1 hAr hNm => ?_
    have hcA : Γ.2.2.1 1 = cA := Option.some.inj ((show s.vm.findClass _ = some (Γ.2.2.1 1) from (hK.2 1 _ (tys1 _)).2).symm.trans hNm)
    refine kk p e s m args below meth c FP C CS H1 locs A hA (hW.push (Nat.le_trans hb0 hS.1) (e := nar 1 n) ?_ (by omega) (fun q hq => o1 q (by omega))) ⟨Nat.le_trans hS.1 (by omega), fun x h1 h2 => (o1 x (by have := hS.1; omega)).trans (hS.2.1 x h1 h2), hS.2.2⟩
    show H1[H.size]? = some (vp_cell (Γ.2.2.1 1) _)
    rw [hcA, e1]
    show some _ = some (vp_cell cA (n, .inr (.inl (fun _ => 0))))
    rw [vp_cell_l]
    rfl
theorem gk_callV (hm : MOK k n) (hr : RMok K k) (hh : mi_h k = []) (hl : LkV (mi_y K).cls idx k ∨ LkVN (mi_y K).cls idx k) (hdg : decode (mi_c K) pc = .ok (.invokevirtual idx, 3)) (hst : st = As.reverse ++ .ref a :: rest) (hn : As.length = n) (hcat : (rest.map fun v => v.category).sum ≤ 8) (ha : w a = some (.inr (ci, fs))) (hci : (vwCl[ci]?).map (fun q => q.1) = some (mi_y k).cls)
    (hc : cs + (mi_rm k).cells ≤ (mi_rm K).cells ∧ ss + (mi_rm k).slots ≤ (mi_rm K).slots) (kk : Sp Γ k (.ref a :: As) z w (fun r z' w' => GL Γ K Q QX sb sL sx (pc + 3) ls (r.toList ++ rest) z' w' (cs + (mi_rm k).cells) (ss + (mi_rm k).slots))) : GL Γ K Q QX sb sL sx pc ls st z w cs ss := by
  intro p e s m args below meth c FP C CS H locs A hA hW hS
  have C' := C
  obtain ⟨hx, hb, hml, hown, hin, hlk, htab, hts, hK, hST, hb0, -, -⟩ := C'
  have hp := gz_pre C hW hS (.ref a :: As)
  have hv : PreV s H (mi_y k).cls a (PcOf Γ (.ref a :: As) z w) As := ⟨hp.1, gz_recv C hW ha hci, hp.2⟩
  subst hst
  rcases hl with ⟨l1, l2, l3⟩ | ⟨⟨host, l1⟩, l2, l3⟩
  · exact call_go (Γ := Γ) (va_runV (g := F0 m pc A _) (As := As) (rest := rest) ⟨hx, hb, hml, hown, hts⟩ kk ⟨gz_callB C hm hr hh l1, hts _ l2, hts _ l3⟩ hv rfl hn hA.1 rfl (by simpa [JFrame.monitorRoom] using hcat) hdg hc) hS (fun r z' w' H1 locs1 hg hW1 hS1 => hg p e s m args below meth c FP C CS H1 locs1 A hA hW1 hS1)
  · exact call_go (Γ := Γ) (va_runVN (g := F0 m pc A _) (As := As) (rest := rest) ⟨hx, hb, hml, hown, hts⟩ kk ⟨gz_callN C hm hr hh l1, hts _ l2, hts _ l3⟩ hv rfl hn hA.1 rfl (by simpa [JFrame.monitorRoom] using hcat) hdg hc) hS (fun r z' w' H1 locs1 hg hW1 hS1 => hg p e s m args below meth c FP C CS H1 locs1 A hA hW1 hS1)
theorem gk_callS (hm : MOK k n) (hr : RMok K k) (hh : mi_h k = []) (hl : LkS (mi_y K).cls idx k ∨ LkSN (mi_y K).cls idx k) (hdg : decode (mi_c K) pc = .ok (.invokestatic idx, 3)) (hst : st = As.reverse ++ rest) (hn : As.length = n) (hcat : (rest.map fun v => v.category).sum ≤ 8)
    (hc : cs + (mi_rm k).cells ≤ (mi_rm K).cells ∧ ss + (mi_rm k).slots ≤ (mi_rm K).slots) (kk : Sp Γ k As z w (fun r z' w' => GL Γ K Q QX sb sL sx (pc + 3) ls (r.toList ++ rest) z' w' (cs + (mi_rm k).cells) (ss + (mi_rm k).slots))) : GL Γ K Q QX sb sL sx pc ls st z w cs ss := by
  intro p e s m args below meth c FP C CS H locs A hA hW hS
  have C' := C
  obtain ⟨hx, hb, hml, hown, hin, hlk, htab, hts, hK, hST, hb0, -, -⟩ := C'
  have hp := gz_pre C hW hS As
  subst hst
  rcases hl with ⟨l1, l2⟩ | ⟨⟨host, l1⟩, l2⟩
  · exact call_go (Γ := Γ) (va_runS (g := F0 m pc A _) (As := As) (rest := rest) ⟨hx, hb, hml, hown, hts⟩ kk ⟨gz_callB C hm hr hh l1, hts _ l2⟩ hp rfl hn hA.1 rfl (by simpa [JFrame.monitorRoom] using hcat) hdg hc) hS (fun r z' w' H1 locs1 hg hW1 hS1 => hg p e s m args below meth c FP C CS H1 locs1 A hA hW1 hS1)
  · exact call_go (Γ := Γ) (va_runSN (g := F0 m pc A _) (As := As) (rest := rest) ⟨hx, hb, hml, hown, hts⟩ kk ⟨gz_callN C hm hr hh l1, hts _ l2, trivial⟩ hp rfl hn hA.1 rfl (by simpa [JFrame.monitorRoom] using hcat) hdg hc) hS (fun r z' w' H1 locs1 hg hW1 hS1 => hg p e s m args below meth c FP C CS H1 locs1 A hA hW1 hS1)
theorem gk_callSW (hm : MOK k n) (hr : RMok K k) {q0 : (Nat × Nat × Nat × Nat) × String} {t0 : List ((Nat × Nat × Nat × Nat) × String)} (hh : mi_h k = q0 :: t0) (hl : LkS (mi_y K).cls idx k) (hdg : decode (mi_c K) pc = .ok (.invokestatic idx, 3)) (hst : st = As.reverse ++ rest) (hn : As.length = n) (hcat : (rest.map fun v => v.category).sum ≤ 8)
    (hc : cs + (mi_rm k).cells ≤ (mi_rm K).cells ∧ ss + (mi_rm k).slots ≤ (mi_rm K).slots) (kk : Sp Γ k As z w (fun r z' w' => GL Γ K Q QX sb sL sx (pc + 3) ls (r.toList ++ rest) z' w' (cs + (mi_rm k).cells) (ss + (mi_rm k).slots))) : GL Γ K Q QX sb sL sx pc ls st z w cs ss := by
  intro p e s m args below meth c FP C CS H locs A hA hW hS
  have C' := C
  obtain ⟨hx, hb, hml, hown, hin, hlk, htab, hts, hK, hST, hb0, -, -⟩ := C'
  have hp := gz_pre C hW hS As
  obtain ⟨h1, h2, h3, h4⟩ := hm
  have hd : mi_hd k = .codeWith (mi_y k) (mi_c k) (mi_l k) (mi_r k) ((mi_h k).map (fun q => q.1)) := by simp only [mi_hd, hh]
  subst hst
  have cw : vx_CSW (mi_rm K) s args (mi_y K).cls idx (mi_y k) (mi_c k) (mi_l k) (mi_r k) ((mi_h k).map (fun q => q.1)) (mi_hd k :: WS) (mi_rm k) (mi_rm k).cells (mi_rm k).slots n := by
    refine ⟨⟨rfl, rfl, hr.1, hr.2, pay_in hts (good_ws h1), by rw [← hd]; exact List.mem_cons_self⟩, by rw [← hd]; exact hts _ h1, hts _ h2, h3, fun sig hs => ?_, hts _ hl.1, hts _ hl.2⟩
    rw [hs] at h4
    simpa using h4.symm
  exact call_go (Γ := Γ) (vx_runSW (g := F0 m pc A _) (As := As) (rest := rest) ⟨hx, hb, hml, hown, hts⟩ kk cw hp rfl hn hA.1 rfl (by simpa [JFrame.monitorRoom] using hcat) hdg hc) hS (fun r z' w' H1 locs1 hg hW1 hS1 => hg p e s m args below meth c FP C CS H1 locs1 A hA hW1 hS1)
theorem gk_callI (hm : MOK k n) (hr : RMok K k) (hh : mi_h k = []) (hl : LkI (mi_y K).cls idx k ∨ LkIN (mi_y K).cls idx k) (hdg : decode (mi_c K) pc = .ok (.invokespecial idx, 3)) (hst : st = As.reverse ++ .ref a :: rest) (hn : As.length = n) (hcat : (rest.map fun v => v.category).sum ≤ 8)
    (hc : cs + (mi_rm k).cells ≤ (mi_rm K).cells ∧ ss + (mi_rm k).slots ≤ (mi_rm K).slots) (kk : Sp Γ k (.ref a :: As) z w (fun r z' w' => GL Γ K Q QX sb sL sx (pc + 3) ls (r.toList ++ rest) z' w' (cs + (mi_rm k).cells) (ss + (mi_rm k).slots))) : GL Γ K Q QX sb sL sx pc ls st z w cs ss := by
  intro p e s m args below meth c FP C CS H locs A hA hW hS
  have C' := C
  obtain ⟨hx, hb, hml, hown, hin, hlk, htab, hts, hK, hST, hb0, -, -⟩ := C'
  have hp := gz_pre C hW hS (.ref a :: As)
  subst hst
  rcases hl with ⟨l1, l2, l3, l4⟩ | ⟨⟨host, l1⟩, l2, l3, l4⟩
  · have cb := gz_callB C hm hr hh l1
    rw [l4] at cb
    exact call_go (Γ := Γ) (va_runI (g := F0 m pc A _) (As := As) (rest := rest) ⟨hx, hb, hml, hown, hts⟩ kk ⟨cb, l3, hts _ l2⟩ hp rfl hn hA.1 rfl (by simpa [JFrame.monitorRoom] using hcat) hdg hc) hS (fun r z' w' H1 locs1 hg hW1 hS1 => hg p e s m args below meth c FP C CS H1 locs1 A hA hW1 hS1)
  · have cb := gz_callN C hm hr hh l1
    rw [l4] at cb
    exact call_go (Γ := Γ) (va_runIN (g := F0 m pc A _) (As := As) (rest := rest) ⟨hx, hb, hml, hown, hts⟩ kk ⟨cb, l3, hts _ l2⟩ hp rfl hn hA.1 rfl (by simpa [JFrame.monitorRoom] using hcat) hdg hc) hS (fun r z' w' H1 locs1 hg hW1 hS1 => hg p e s m args below meth c FP C CS H1 locs1 A hA hW1 hS1)
set_option maxHeartbeats 4000000 in
theorem gk_pst {ls' : LSL} {st' : List Value} {ln : Nat} {ins : Instr}
    (hdg : decode (mi_c K) pc = .ok (ins, ln)) (hln : ln = ilen ins) (hs : sOK (mi_l K) ins = true) (h : pst ins ls st = some (ls', st')) (kk : GL Γ K Q QX sb sL sx (pc + ln) ls' st' z w cs ss) : GL Γ K Q QX sb sL sx pc ls st z w cs ss := by
  intro p e s m args below meth c FP C CS H locs A hA hW hS
  obtain ⟨hx, hb, hml, -⟩ := id C
  have kk' : ∀ A', LH A' (mi_l K) ls' → W p Γ.1.1 e (mi_rm K) s m args below meth c H locs cs ss FP (F0 m (pc + ln) A' st') := fun A' hA' => kk p e s m args below meth c FP C CS H locs A' hA' hW hS
  cases ins <;> simp only [pst] at h <;> first | (cases h; done) | skip
  case aload_n k => split at h <;> cases h; subst hln; exact lv_aload_n hx hb hdg rfl (LG_at hA (by assumption)) (kk' A hA)
  case aload k => split at h <;> cases h; subst hln; exact lv_aload hx hb hdg (LG_at hA (by assumption)) (kk' A hA)
  case iload_n k => split at h <;> cases h; subst hln; exact lv_iload_n hx hb hdg rfl (LG_at hA (by assumption)) (kk' A hA)
  case iload k => split at h <;> cases h; subst hln; exact lv_iload hx hb hdg (LG_at hA (by assumption)) (kk' A hA)
  case lload_n k => split at h <;> cases h; subst hln; exact lv_lload_n hx hb hdg rfl (LG_at hA (by assumption)) (kk' A hA)
  case lload k => split at h <;> cases h; subst hln; exact lv_lload hx hb hdg (LG_at hA (by assumption)) (kk' A hA)
  case dload_n k => split at h <;> cases h; subst hln; exact lv_dload_n hx hb hdg rfl (LG_at hA (by assumption)) (kk' A hA)
  case dload k => split at h <;> cases h; subst hln; exact lv_dload hx hb hdg (LG_at hA (by assumption)) (kk' A hA)
  case istore_n k => split at h <;> cases h; subst hln; exact lv_istore_n hx hb hdg rfl (la_has hA) (of_decide_eq_true hs) rfl (fun A' h' => kk' A' (lput_one (A := A) rfl h'))
  case istore k => split at h <;> cases h; subst hln; exact lv_istore hx hb hdg (la_has hA) (of_decide_eq_true hs) rfl (fun A' h' => kk' A' (lput_one (A := A) rfl h'))
  case astore_n k => split at h <;> cases h; subst hln; exact lv_astore_n hx hb hdg rfl (la_has hA) (of_decide_eq_true hs) rfl (fun A' h' => kk' A' (lput_one (A := A) rfl h'))
  case astore k => split at h <;> cases h; subst hln; exact lv_astore hx hb hdg (la_has hA) (of_decide_eq_true hs) rfl (fun A' h' => kk' A' (lput_one (A := A) rfl h'))
  case lstore_n k => split at h <;> cases h; subst hln; exact lv_lstore_n hx hb hdg rfl (la_has hA) (of_decide_eq_true hs) rfl (fun A' h' => kk' A' (lput_two (A := A) rfl h'))
  case lstore k => split at h <;> cases h; subst hln; exact lv_lstore hx hb hdg (la_has hA) (of_decide_eq_true hs) rfl (fun A' h' => kk' A' (lput_two (A := A) rfl h'))
  case dstore_n k => split at h <;> cases h; subst hln; exact lv_dstore_n hx hb hdg rfl (la_has hA) (of_decide_eq_true hs) rfl (fun A' h' => kk' A' (lput_two (A := A) rfl h'))
  case dstore k => split at h <;> cases h; subst hln; exact lv_dstore hx hb hdg (la_has hA) (of_decide_eq_true hs) rfl (fun A' h' => kk' A' (lput_two (A := A) rfl h'))
  case iinc k n =>
    split at h <;> cases h
    rename_i x hx1
    subst hln
    have hm : (k, Value.int x) ∈ la 0 ls := (la_mem ls 0 k _).mpr ⟨k, by omega, by
      simp only [LG] at hx1
      split at hx1
      · rename_i o ho; rw [ho, hx1]
      · cases hx1⟩
    obtain ⟨i, hi⟩ := List.getElem?_of_mem hm
    exact lv_iinc hx hb hdg (la_has hA) (k := i) hi rfl (of_decide_eq_true hs) rfl (fun A' h' => kk' A' (lput_one (A := A) rfl h'))
  case iconst n => cases h; subst hln; exact lv_iconst hx hb hdg rfl (kk' A hA)
  case bipush n => cases h; subst hln; exact lv_bipush hx hb hdg rfl (kk' A hA)
  case sipush n => cases h; subst hln; exact lv_sipush hx hb hdg rfl (kk' A hA)
  case lconst n => cases h; subst hln; exact lv_lconst hx hb hdg rfl (kk' A hA)
  case aconst_null => cases h; subst hln; exact lv_null hx hb hdg (kk' A hA)
  case pop => split at h <;> (try cases h); split at h <;> cases h; subst hln; exact lv_pop hx hb hdg (two_f (by assumption)) (kk' A hA)
  case dup => split at h <;> (try cases h); split at h <;> cases h; subst hln; exact lv_dup hx hb hdg (two_f (by assumption)) (kk' A hA)
  case dup2 => split at h <;> (try cases h); split at h <;> cases h; subst hln; exact lv_dup2_11 hx hb hdg (two_f (by assumption)) (two_f (by assumption)) (kk' A hA)
  case iadd => split at h <;> cases h; subst hln; exact lv_iadd hx hb hdg (kk' A hA)
  case isub => split at h <;> cases h; subst hln; exact lv_isub hx hb hdg (kk' A hA)
  case imul => split at h <;> cases h; subst hln; exact lv_imul hx hb hdg (kk' A hA)
  case iand => split at h <;> cases h; subst hln; exact lv_iand hx hb hdg (kk' A hA)
  case ior => split at h <;> cases h; subst hln; exact lv_ior hx hb hdg (kk' A hA)
  case ixor => split at h <;> cases h; subst hln; exact lv_ixor hx hb hdg (kk' A hA)
  case ishl => split at h <;> cases h; subst hln; exact lv_ishl hx hb hdg (kk' A hA)
  case ishr => split at h <;> cases h; subst hln; exact lv_ishr hx hb hdg (kk' A hA)
  case iushr => split at h <;> cases h; subst hln; exact lv_iushr hx hb hdg rfl (kk' A hA)
  case ladd => split at h <;> cases h; subst hln; exact lv_ladd hx hb hdg (kk' A hA)
  case lsub => split at h <;> cases h; subst hln; exact lv_lsub hx hb hdg (kk' A hA)
  case lmul => split at h <;> cases h; subst hln; exact lv_lmul hx hb hdg (kk' A hA)
  case land => split at h <;> cases h; subst hln; exact lv_land hx hb hdg (kk' A hA)
  case lor => split at h <;> cases h; subst hln; exact lv_lor hx hb hdg (kk' A hA)
  case lxor => split at h <;> cases h; subst hln; exact lv_lxor hx hb hdg (kk' A hA)
  case lcmp => split at h <;> cases h; subst hln; exact W.lcmp hx hb hdg (kk' A hA)
  case lshl => split at h <;> cases h; subst hln; exact lv_lshl hx hb hdg rfl (kk' A hA)
  case lushr => split at h <;> cases h; subst hln; exact lv_lushr hx hb hdg rfl (kk' A hA)
  case i2l => split at h <;> cases h; subst hln; exact lv_i2l hx hb hdg rfl (kk' A hA)
  case l2i => split at h <;> cases h; subst hln; exact lv_l2i hx hb hdg rfl (kk' A hA)
  case i2d => split at h <;> cases h; subst hln; exact lv_i2d hx hb hdg (kk' A hA)
  case d2l => split at h <;> cases h; subst hln; exact lv_d2l hx hb hdg (kk' A hA)
  case dcmp op => split at h <;> cases h; subst hln; exact lv_dcmp hx hb hdg (kk' A hA)

/-- an instruction of the law's body that isn't pure -/
def stpL (Γ : Amb) (K : MI) (Q : Option Value → Option Nat → PW → Prop) (sb sL : Nat) (sx : Nat → Int32) (ins : Instr) (x y u : Nat) (v : Int) (k : MI) (pc : Nat) (ls : LSL) (st : List Value) (z : Option Nat) (w : PW) (cs ss : Nat) (nx nc : NX) (jp : Nat → NX) : Prop := match ins with
  | .arraylength => (match st with
    | .ref a :: r => a = sb ∧ nx ls (.int (Int32.ofNat sL) :: r) z w cs ss
    | _ => False)
  | .iaload => (match st with
    | .int i :: .ref a :: r => a = sb ∧ vp_in i sL ∧ nx ls (.int (sx i.toNatClampNeg) :: r) z w cs ss
    | _ => False)
  | .laload => (match st with
    | .int i :: .ref a :: r => (match w a with
      | some (.inl (1, n, .inr (.inl f))) => vp_in i n ∧ nx ls (.long (f i.toNatClampNeg) :: r) z w cs ss
      | _ => False)
    | _ => False)
  | .new _ => (match z with
    | some h => cs + 1 ≤ (mi_rm K).cells ∧ ss + (dfl x).length ≤ (mi_rm K).slots ∧ nx ls (.ref h :: st) (some (h + 1)) (up w h (.inr (x, dfl x))) (cs + 1) (ss + (dfl x).length)
    | none => False)
  | .newarray _ => (match st with
    | .int m0 :: r => (match z with
      | some h => ¬ m0 < 0 ∧ m0.toNatClampNeg ≤ 4096 ∧ cs + 1 ≤ (mi_rm K).cells ∧ ss + m0.toNatClampNeg ≤ (mi_rm K).slots ∧ nx ls (.ref h :: r) (some (h + 1)) (up w h (nar x m0.toNatClampNeg)) (cs + 1) (ss + m0.toNatClampNeg)
      | none => False)
    | _ => False)
  | .ldc2_w _ => (match u with
    | 0 => nx ls (.long (Int64.ofInt v) :: st) z w cs ss
    | _ => False)
  | .dconst n => (match n.val with
    | 0 => nx ls (.double FP.dconst0 :: st) z w cs ss
    | _ => False)
  | .goto _ => jp x ls st z w cs ss
  | .if_icmp op _ => (match st with
    | .int b :: .int a :: r => (bc op a b → jp x ls r z w cs ss) ∧ (¬ bc op a b → nx ls r z w cs ss)
    | _ => False)
  | .ifCond op _ => (match st with
    | .int a :: r => (bc op a 0 → jp x ls r z w cs ss) ∧ (¬ bc op a 0 → nx ls r z w cs ss)
    | _ => False)
  | .tableswitch _ lo _ offs => (match st with
    | .int a :: r => tsw (fun t => jp t ls r z w cs ss) pc a.toInt lo offs.toList x
    | _ => False)
  | .ireturn => (match st with
    | [.int a] => RI (mi_r K) a ∧ cs ≤ (mi_rm K).cells ∧ ss ≤ (mi_rm K).slots ∧ Q (some (.int a)) z w
    | _ => False)
  | .invokevirtual _ => (match popN x [] st with
    | some (As, .ref a :: r) => (match w a with
      | some (.inr (ci, _)) => ci = y ∧ csum r ≤ 8 ∧ cs + (mi_rm k).cells ≤ (mi_rm K).cells ∧ ss + (mi_rm k).slots ≤ (mi_rm K).slots ∧ (match u with
        | 0 => Sp Γ k (.ref a :: As) z w (fun q z' w' => nc ls (q.toList ++ r) z' w' (cs + (mi_rm k).cells) (ss + (mi_rm k).slots))
        | _ => False)
      | _ => False)
    | _ => False)
  | .invokespecial _ => (match u with
    | 0 => (match popN x [] st with
      | some (As, .ref a :: r) => csum r ≤ 8 ∧ cs + (mi_rm k).cells ≤ (mi_rm K).cells ∧ ss + (mi_rm k).slots ≤ (mi_rm K).slots ∧ Sp Γ k (.ref a :: As) z w (fun q z' w' => nc ls (q.toList ++ r) z' w' (cs + (mi_rm k).cells) (ss + (mi_rm k).slots))
      | _ => False)
    | _ => False)
  | .invokestatic _ => (match u with
    | 0 => (match popN x [] st with
      | some (As, r) => csum r ≤ 8 ∧ cs + (mi_rm k).cells ≤ (mi_rm K).cells ∧ ss + (mi_rm k).slots ≤ (mi_rm K).slots ∧ Sp Γ k As z w (fun q z' w' => nc ls (q.toList ++ r) z' w' (cs + (mi_rm k).cells) (ss + (mi_rm k).slots))
      | none => False)
    | _ => False)
  | _ => False
set_option maxHeartbeats 4000000 in
theorem stpL_ok {ln : Nat} {ins : Instr} {x y u : Nat} {v : Int} {k : MI} {nx nc : NX} {jp : Nat → NX}
    (hok : okI K pc (ln, ins, x, y, u, v, k)) (hnx : ∀ ls st z w cs ss, nx ls st z w cs ss → GL Γ K Q QX sb sL sx (pc + ln) ls st z w cs ss) (hnc : ∀ ls st z w cs ss, nc ls st z w cs ss → GL Γ K Q QX sb sL sx (pc + ln) ls st z w cs ss) (hjp : ∀ t ls st z w cs ss, jp t ls st z w cs ss → GL Γ K Q QX sb sL sx t ls st z w cs ss)
    (h : stpL Γ K Q sb sL sx ins x y u v k pc ls st z w cs ss nx nc jp) : GL Γ K Q QX sb sL sx pc ls st z w cs ss := by
  cases ins <;> simp only [stpL] at h <;> first | exact h.elim | simp only [okI, lnOK, ilen, okX] at hok
  case arraylength =>
    obtain ⟨hdg, rfl, -, -⟩ := hok
    split at h <;> try exact h.elim
    obtain ⟨rfl, h⟩ := h
    exact gk_slen hdg (hnx _ _ _ _ _ _ h)
  case iaload =>
    obtain ⟨hdg, rfl, -, -⟩ := hok
    split at h <;> try exact h.elim
    obtain ⟨rfl, h1, h⟩ := h
    exact gk_sld hdg h1 (hnx _ _ _ _ _ _ h)
  case laload =>
    obtain ⟨hdg, rfl, -, -⟩ := hok
    split at h <;> try exact h.elim
    split at h <;> try exact h.elim
    exact gk_laload hdg (by assumption) h.1 (hnx _ _ _ _ _ _ h.2)
  case new idx =>
    obtain ⟨hdg, rfl, -, hl⟩ := hok
    split at h <;> try exact h.elim
    exact gk_new hl hdg ⟨h.1, h.2.1⟩ (hnx _ _ _ _ _ _ h.2.2)
  case newarray aty =>
    obtain ⟨hdg, rfl, -, hl⟩ := hok
    split at h <;> try exact h.elim
    split at h <;> try exact h.elim
    obtain ⟨h1, h2, h3, h4, h5⟩ := h
    exact gk_newarray hl hdg h1 rfl h2 ⟨h3, h4⟩ (hnx _ _ _ _ _ _ h5)
  case ldc2_w idx =>
    obtain ⟨hdg, rfl, -, hl⟩ := hok
    split at h
    · exact gk_ldc2 hl hdg (hnx _ _ _ _ _ _ h)
    · exact h.elim
  case dconst n =>
    obtain ⟨hdg, rfl, -, hl⟩ := hok
    split at h
    · rename_i hn
      have : n = 0 := by first | exact hn | exact Fin.ext hn | omega
      subst this
      exact gk_dconst0 hdg (hnx _ _ _ _ _ _ h)
    · exact h.elim
  case goto off =>
    obtain ⟨hdg, rfl, -, hl⟩ := hok
    exact gk_goto hdg hl (hjp _ _ _ _ _ _ _ h)
  case if_icmp op off =>
    obtain ⟨hdg, rfl, -, hl⟩ := hok
    split at h <;> try exact h.elim
    exact gk_icmp hdg hl (fun q => hjp _ _ _ _ _ _ _ (h.1 q)) (fun q => hnx _ _ _ _ _ _ (h.2 q))
  case ifCond op off =>
    obtain ⟨hdg, rfl, -, hl⟩ := hok
    split at h <;> try exact h.elim
    exact gk_if hdg hl (fun q => hjp _ _ _ _ _ _ _ (h.1 q)) (fun q => hnx _ _ _ _ _ _ (h.2 q))
  case tableswitch dflt lo hi offs =>
    obtain ⟨hdg, -, -, h1, h2, h3⟩ := hok
    split at h <;> try exact h.elim
    rename_i a r
    refine gk_tsw hdg h1 h2 h3 ?_
    have key : ∀ (l : List Int) (k : Int) (d : Nat) (vv : Int), tsw (fun t => jp t ls r z w cs ss) pc vv k l d → tsw (fun t => GL Γ K Q QX sb sL sx t ls r z w cs ss) pc vv k l d := by
      intro l
      induction l with
      | nil => intro k d vv h; exact hjp _ _ _ _ _ _ _ h
      | cons a t ih => intro k d vv h; exact ⟨fun q => hjp _ _ _ _ _ _ _ (h.1 q), fun q => ih _ _ _ (h.2 q)⟩
    exact key _ _ _ _ h
  case ireturn =>
    obtain ⟨hdg, rfl, -, -⟩ := hok
    split at h <;> try exact h.elim
    exact gk_ret (v := some (.int _)) hdg h.1 ⟨h.2.1, h.2.2.1⟩ h.2.2.2
  case invokevirtual idx =>
    obtain ⟨hdg, rfl, -, hm, hr, hh, hy, hl⟩ := hok
    split at h <;> try exact h.elim
    rename_i As a r hp
    split at h <;> try exact h.elim
    rename_i ci fs hw
    obtain ⟨rfl, hc, h1, h2, h⟩ := h
    obtain ⟨Bs, e1, e2, e3⟩ := popN_spec _ _ _ _ _ hp
    rw [List.append_nil] at e1
    subst e1
    split at h
    · exact gk_callV hm hr hh hl hdg e2 e3 (by rw [csum_eq]; exact hc) hw hy ⟨h1, h2⟩ (Sp.mono h (fun _ _ _ q => hnc _ _ _ _ _ _ q))
    · exact h.elim
  case invokespecial idx =>
    split at h
    · obtain ⟨hdg, rfl, -, hm, hr, hh, hl⟩ := hok
      split at h <;> try exact h.elim
      rename_i As a r hp
      obtain ⟨hc, h1, h2, h⟩ := h
      obtain ⟨Bs, e1, e2, e3⟩ := popN_spec _ _ _ _ _ hp
      rw [List.append_nil] at e1
      subst e1
      exact gk_callI hm hr hh hl hdg e2 e3 (by rw [csum_eq]; exact hc) ⟨h1, h2⟩ (Sp.mono h (fun _ _ _ q => hnc _ _ _ _ _ _ q))
    · exact h.elim
  case invokestatic idx =>
    obtain ⟨hdg, rfl, -, hl⟩ := hok
    split at h
    · split at h <;> try exact h.elim
      rename_i As r hp
      obtain ⟨Bs, e1, e2, e3⟩ := popN_spec _ _ _ _ _ hp
      rw [List.append_nil] at e1
      subst e1
      obtain ⟨hc, h1, h2, h⟩ := h
      obtain ⟨hm, hr, hh, hl⟩ := hl
      exact gk_callS hm hr hh hl hdg e2 e3 (by rw [csum_eq]; exact hc) ⟨h1, h2⟩ (Sp.mono h (fun _ _ _ q => hnc _ _ _ _ _ _ q))
    · exact h.elim
/-- a stretch of the law's code from pc on; cd: where jumps may be followed -/
def wpL (Γ : Amb) (K : MI) (Q : Option Value → Option Nat → PW → Prop) (QX : String → PW → Prop) (sb sL : Nat) (sx : Nat → Int32) (cd : Nat → Option (List PI)) : Nat → Nat → List PI → LSL → List Value → Option Nat → PW → Nat → Nat → Prop
  | 0, pc, _, ls, st, z, w, cs, ss => GL Γ K Q QX sb sL sx pc ls st z w cs ss
  | f + 1, pc, [], ls, st, z, w, cs, ss => (match cd pc with
    | some is' => wpL Γ K Q QX sb sL sx cd f pc is' ls st z w cs ss
    | none => GL Γ K Q QX sb sL sx pc ls st z w cs ss)
  | f + 1, pc, (ln, ins, x, y, u, v, k) :: is, ls, st, z, w, cs, ss => (match pst ins ls st with
    | some q => wpL Γ K Q QX sb sL sx cd f (pc + ln) is q.1 q.2 z w cs ss
    | none => stpL Γ K Q sb sL sx ins x y u v k pc ls st z w cs ss (fun ls st z w cs ss => wpL Γ K Q QX sb sL sx cd f (pc + ln) is ls st z w cs ss) (fun ls st z w cs ss => wpL Γ K Q QX sb sL sx cd f (pc + ln) (holdL is) ls st z w cs ss) (fun t ls st z w cs ss => (match cd t with
      | some is' => wpL Γ K Q QX sb sL sx cd f t is' ls st z w cs ss
      | none => GL Γ K Q QX sb sL sx t ls st z w cs ss)))
theorem wpL_ok {cd : Nat → Option (List PI)} (hcd : ∀ t is, cd t = some is → okL K t is) : ∀ (f pc : Nat) (is : List PI) (ls : LSL) (st : List Value) (z : Option Nat) (w : PW) (cs ss : Nat), okL K pc is → wpL Γ K Q QX sb sL sx cd f pc is ls st z w cs ss → GL Γ K Q QX sb sL sx pc ls st z w cs ss := by
  intro f
  induction f with
  | zero => intro pc is ls st z w cs ss _ h; exact h
  | succ f ih =>
    intro pc is ls st z w cs ss hok h
    cases is with
    | nil =>
      simp only [wpL] at h
      split at h
      · rename_i is' hc
        exact ih _ _ _ _ _ _ _ _ (hcd _ _ hc) h
      · exact h
    | cons i is =>
      obtain ⟨ln, ins, x, y, u, v, k⟩ := i
      obtain ⟨h1, h2⟩ := hok
      simp only [wpL] at h
      split at h
      · rename_i q hq
        have hx := ih _ _ _ _ _ _ _ _ h2 h
        have hd : decode (mi_c K) pc = .ok (ins, ln) ∧ ln = ilen ins ∧ sOK (mi_l K) ins = true := by
          cases ins <;> first | exact ⟨h1.1, h1.2.1, h1.2.2.1⟩ | (simp only [pst] at hq; cases hq)
        exact gk_pst hd.1 hd.2.1 hd.2.2 hq hx
      · refine stpL_ok h1 (fun _ _ _ _ _ _ q => ih _ _ _ _ _ _ _ _ h2 q) (fun _ _ _ _ _ _ q => ih _ (holdL is) _ _ _ _ _ _ h2 q) (fun t _ _ _ _ _ _ q => ?_) h
        split at q
        · rename_i is' hc
          exact ih _ _ _ _ _ _ _ _ (hcd _ _ hc) q
        · exact q
theorem tsw_all {jp : Nat → Prop} {pc d : Nat} {v : Int} : ∀ (r : List Int) (k : Int), (∀ o ∈ r, jp ((pc : Int) + o).toNat) → jp d → tsw jp pc v k r d := by
  intro r
  induction r with
  | nil => intro k _ h; exact h
  | cons a t ih => intro k h hd; exact ⟨fun _ => h a List.mem_cons_self, fun _ => ih (k + 1) (fun o ho => h o (List.mem_cons_of_mem _ ho)) hd⟩
end GK

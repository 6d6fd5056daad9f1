/-! CALLS -/
theorem Sp.mono {Γ : Amb} {k : MI} {args : List Value} {z : Option Nat} {w : PW} {Q Q' : Option Value → Option Nat → PW → Prop} (h : Sp Γ k args z w Q) (hq : ∀ r z' w', Q r z' w' → Q' r z' w') : Sp Γ k args z w Q' := by
  unfold Sp Met at *
  refine MetFree.mono h (fun _ _ h => h) (fun _ _ _ _ _ h => h) (fun a s o t _ hh => ?_)
  obtain ⟨⟨r, z', w', h1, h2, h3⟩, h4⟩ := hh
  exact ⟨⟨r, z', w', h1, hq _ _ _ h2, h3⟩, h4⟩
theorem SpX.mono {Γ : Amb} {k : MI} {args : List Value} {z : Option Nat} {w : PW} {Q Q' : Option Value → Option Nat → PW → Prop} {QX QX' : String → PW → Prop} (h : SpX Γ k args z w Q QX) (hq : ∀ r z' w', Q r z' w' → Q' r z' w') (hx : ∀ E w', QX E w' → QX' E w') : SpX Γ k args z w Q' QX' := by
  unfold SpX vx_Met at *
  refine MetFree.mono h (fun _ _ h => h) (fun _ _ _ _ _ h => h) (fun a s o t _ hh => by
    rcases hh with ⟨⟨r, z', w', h1, h2, h3⟩, h4⟩ | ⟨q, h1, E, x, L, ⟨w', h2, h2'⟩, h3⟩
    · exact Or.inl ⟨⟨r, z', w', h1, hq _ _ _ h2, h3⟩, h4⟩
    · exact Or.inr ⟨q, h1, E, x, L, ⟨w', hx _ _ h2, h2'⟩, h3⟩)
/-- a method that can be called -/
def MOK (k : MI) (n : Nat) : Prop := mi_hd k ∈ WS ∧ Jvm.Cond.initialized (mi_y k).cls ∈ WS ∧ ((mi_y k).cls ≠ "java/lang/invoke/MethodHandle" ∧ (mi_y k).cls ≠ "java/lang/invoke/VarHandle") ∧ (parseMethodDescriptor (mi_y k).desc).map (fun d => d.parameters.length) = some n
def RMok (K k : MI) : Prop := (mi_rm k).frames + 1 ≤ (mi_rm K).frames ∧ 8 + (mi_l k + 11) + (mi_rm k).locals ≤ (mi_rm K).locals
/-- links: virtual, virtual to a nest mate, static, static to a nest mate, special, special to a nest mate -/
def LkV (own : String) (idx : Nat) (k : MI) : Prop := Jvm.Cond.methodLink own idx (mi_y k) ∈ WS ∧ Jvm.Cond.instanceMethod (mi_y k) ∈ WS ∧ Jvm.Cond.selects (mi_y k).cls (mi_y k) (mi_y k) ∈ WS
def LkVN (own : String) (idx : Nat) (k : MI) : Prop := (∃ host, Jvm.Cond.methodLinkNest own idx (mi_y k) host ∈ NS) ∧ Jvm.Cond.instanceMethod (mi_y k) ∈ WS ∧ Jvm.Cond.selects (mi_y k).cls (mi_y k) (mi_y k) ∈ WS
def LkS (own : String) (idx : Nat) (k : MI) : Prop := Jvm.Cond.methodLink own idx (mi_y k) ∈ WS ∧ Jvm.Cond.static (mi_y k) ∈ WS
def LkSN (own : String) (idx : Nat) (k : MI) : Prop := (∃ host, Jvm.Cond.methodLinkNest own idx (mi_y k) host ∈ NS) ∧ Jvm.Cond.static (mi_y k) ∈ WS
def LkI (own : String) (idx : Nat) (k : MI) : Prop := Jvm.Cond.methodLink own idx (mi_y k) ∈ WS ∧ Jvm.Cond.instanceMethod (mi_y k) ∈ WS ∧ (mi_y k).name = "<init>" ∧ mi_r k = none
def LkIN (own : String) (idx : Nat) (k : MI) : Prop := (∃ host, Jvm.Cond.methodLinkNest own idx (mi_y k) host ∈ NS) ∧ Jvm.Cond.instanceMethod (mi_y k) ∈ WS ∧ (mi_y k).name = "<init>" ∧ mi_r k = none
theorem WS_good {w : Jvm.Cond} (h : w ∈ WS) : (w.onTables && w.keeps) = true ∨ ∃ ty, w = .arrayClass ty := good_of_word (List.mem_filter.mp h).2
theorem good_ws {k : MI} (h : mi_hd k ∈ WS) : GoodIn WS (mi_hd k :: WS) := fun w hw => by
  rcases List.mem_cons.mp hw with rfl | hw
  · exact ⟨h, WS_good h⟩
  · exact ⟨hw, WS_good hw⟩
section CALL
variable {p : Program} {l : Launch} {e : Env} {R : Room} {s : State} {m : MethodId} {args : Array Value} {below : List Frame} {meth : Method} {c : Code} {H : Heap} {locs : List Loc} {cells slots mc ms : Nat} {FP : State → Prop} {pc : Nat} {A : Array Slot} {rest st0 : List Value} {a : Array Value} {Γ : Amb}
theorem call_go {Q : Option Value → Option Nat → PW → Prop} (hr : va_Run p l e R s m args below meth c H locs cells slots mc ms (F0 m pc A st0) rest (QcOf Γ Q a) (AA Γ.2.2.2)) (hS : va_S (AA Γ.2.2.2) s.heap H locs)
    (kk : ∀ (r : Option Value) (z : Option Nat) (w : PW) (H1 : Heap) (locs1 : List Loc), Q r z w → WD Γ z w H1 → va_S (AA Γ.2.2.2) s.heap H1 locs1 → W p l e R s m args below meth c H1 locs1 (cells + mc) (slots + ms) FP (F0 m (pc + 3) A (r.toList ++ rest))) : W p l e R s m args below meth c H locs cells slots FP (F0 m pc A st0) := by
  intro T hT X
  obtain ⟨v, st₀, t, T', L, h0, X', hL, e1, e2, ⟨r, z, w, hv, hQ, hW, hz, hk⟩, st⟩ := hr T hT X
  cases hv
  rw [h0] at hz hk
  obtain ⟨t2, a1, b1⟩ := kk _ z w T'.heap (locs ++ L) hQ (by rw [e1]; exact hW)
    ⟨Nat.le_trans hS.1 (by rw [e1]; exact hz), fun q h1 h2 => by rw [e1, hk q (Nat.lt_of_lt_of_le h1 hS.1) h2]; exact hS.2.1 q h1 h2, fun q hq => by
      rcases List.mem_append.mp hq with h | h
      · exact hS.2.2 q h
      · exact hL q h⟩ T' rfl X'
  exact ⟨t2, st t2 a1, b1⟩
theorem callX_go {Q : Option Value → Option Nat → PW → Prop} {QX : String → PW → Prop} (hr : vx_Run p l e R s m args below meth c H locs cells slots mc ms (F0 m pc A st0) rest (QcOf Γ Q a) (XcOf Γ QX) (AA Γ.2.2.2)) (hS : va_S (AA Γ.2.2.2) s.heap H locs)
    (kx : ∀ (E : String) (w : PW) (x : Cell) (q : Addr) (H1 : Heap) (locs1 : List Loc), QX E w → WD Γ none w H1 → va_S (AA Γ.2.2.2) s.heap H1 locs1 → H1[q]? = some x → x.vm = .none → s.vm.findClass E = some x.cls → vx_W p l e R s m args below meth c H1 locs1 (cells + mc) (slots + ms) FP (F0 m pc A rest) q)
    (kk : ∀ (r : Option Value) (z : Option Nat) (w : PW) (H1 : Heap) (locs1 : List Loc), Q r z w → WD Γ z w H1 → va_S (AA Γ.2.2.2) s.heap H1 locs1 → W p l e R s m args below meth c H1 locs1 (cells + mc) (slots + ms) FP (F0 m (pc + 3) A (r.toList ++ rest))) : W p l e R s m args below meth c H locs cells slots FP (F0 m pc A st0) := by
  intro T hT X
  have keep : ∀ {st₀ t T' : State} {L : List Loc}, st₀.heap = H → T'.heap = t.heap → (∀ q ∈ L, AA Γ.2.2.2 q.base) → va_F (AA Γ.2.2.2) st₀ t → va_S (AA Γ.2.2.2) s.heap T'.heap (locs ++ L) := by
    intro st₀ t T' L h0 e1 hL ⟨hz, hk⟩
    rw [h0] at hz hk
    exact ⟨Nat.le_trans hS.1 (by rw [e1]; exact hz), fun q h1 h2 => by rw [e1, hk q (Nat.lt_of_lt_of_le h1 hS.1) h2]; exact hS.2.1 q h1 h2, fun q hq => by
      rcases List.mem_append.mp hq with h | h
      · exact hS.2.2 q h
      · exact hL q h⟩
  rcases hr T hT X with ⟨v, st₀, t, T', L, h0, X', hL, e1, e2, ⟨r, z, w, hv, hQ, hW, hF⟩, st⟩ | ⟨q, st₀, t, T', L, E, x, h0, X', hL, e1, e2, ⟨w, hQ, hW, hF⟩, hq, hv, hc, st⟩
  · cases hv
    obtain ⟨t2, a1, b1⟩ := kk _ z w T'.heap (locs ++ L) hQ (by rw [e1]; exact hW) (keep h0 e1 hL hF) T' rfl X'
    exact ⟨t2, st t2 a1, b1⟩
  · obtain ⟨t2, a1, b1⟩ := kx E w x q T'.heap (locs ++ L) hQ (by rw [e1]; exact hW) (keep h0 e1 hL hF) (by rw [e1]; exact hq) hv hc T' rfl X'
    exact ⟨t2, st.trans a1, b1⟩
end CALL
theorem GX.use {Γ : Amb} {K : MI} {Q : Option Value → Option Nat → PW → Prop} {QX : String → PW → Prop} {E : String} {pc : Nat} {ls : LSL} {st : List Value} {w : PW} {cs ss : Nat} (h : GX Γ K Q QX E pc ls st w cs ss) : GX Γ K Q QX E pc ls st w cs ss := h
section GCALL
variable {Γ : Amb} {K : MI} {Q : Option Value → Option Nat → PW → Prop} {QX : String → PW → Prop} {pc : Nat} {ls : LSL} {st : List Value} {z : Option Nat} {w : PW} {cs ss : Nat}
variable {k : MI} {n idx : Nat} {As rest : List Value} {a ci : Nat} {fs : List Value}
/-- what a callee's start asks -/
theorem gz_pre {p : Program} {e : Env} {s : State} {m : MethodId} {args : Array Value} {below : List Frame} {meth : Method} {c : Code} {FP : State → Prop} (C : CX Γ K Q QX p e s m args below meth c FP) {H : Heap} {locs : List Loc} (hW : WD Γ z w H) (hS : va_S (AA Γ.2.2.2) s.heap H locs) (vs : List Value) :
    PreS s H (PcOf Γ vs z w) vs := by
  obtain ⟨-, -, -, -, -, -, -, -, hK, hST, hb0, -⟩ := C
  refine ⟨PcOf.blind Γ vs z w, fun U hU hw => ⟨rfl, ?_, ?_, va_K.moved hw.alike hK, ?_⟩⟩
  · rw [hU]; exact Nat.le_trans hb0 hS.1
  · rw [hU]; exact hW
  · rw [hU]; exact hST.warm hw ⟨hS.1, hS.2.1⟩
theorem gz_recv {p : Program} {e : Env} {s : State} {m : MethodId} {args : Array Value} {below : List Frame} {meth : Method} {c : Code} {FP : State → Prop} (C : CX Γ K Q QX p e s m args below meth c FP) {H : Heap} (hW : WD Γ z w H) (ha : w a = some (.inr (ci, fs))) {C1 : String} (hci : (vwCl[ci]?).map (fun q => q.1) = some C1) :
    ∃ cell : Cell, H[a]? = some cell ∧ cell.vm.isStatics = false ∧ s.vm.findClass C1 = some cell.cls := by
  obtain ⟨-, -, -, -, -, -, -, -, hK, -⟩ := C
  obtain ⟨L, k, hP, hk⟩ := hW.get ha
  cases hq : vwCl[ci]? with
  | none => rw [hq] at hci; cases hci
  | some q =>
    rw [hq] at hci
    have : q.1 = C1 := by simpa using hci
    subst this
    exact va_recv hK hP (ci := ci) (q0 := k) hq hk
theorem gz_callB {p : Program} {e : Env} {s : State} {m : MethodId} {args : Array Value} {below : List Frame} {meth : Method} {c : Code} {FP : State → Prop} (C : CX Γ K Q QX p e s m args below meth c FP) (hm : MOK k n) (hr : RMok K k) (hh : mi_h k = []) (hl : Jvm.Cond.methodLink (mi_y K).cls idx (mi_y k) ∈ WS) :
    CallB (mi_rm K) s args (mi_y K).cls idx (mi_y k) (mi_c k) (mi_l k) (mi_r k) (mi_hd k :: WS) (mi_rm k) (mi_rm k).cells (mi_rm k).slots n := by
  obtain ⟨-, -, -, -, -, -, -, hts, -⟩ := C
  obtain ⟨h1, h2, h3, h4⟩ := hm
  have hd : mi_hd k = .code (mi_y k) (mi_c k) (mi_l k) (mi_r k) := by simp only [mi_hd, hh]
  refine ⟨rfl, rfl, hr.1, hr.2, pay_in hts (good_ws h1), by rw [← hd]; exact List.mem_cons_self, by rw [← hd]; exact hts _ h1, hts _ h2, h3, fun sig hs => ?_, hts _ hl⟩
  rw [hs] at h4
  simpa using h4.symm
theorem gz_callN {p : Program} {e : Env} {s : State} {m : MethodId} {args : Array Value} {below : List Frame} {meth : Method} {c : Code} {FP : State → Prop} (C : CX Γ K Q QX p e s m args below meth c FP) (hm : MOK k n) (hr : RMok K k) (hh : mi_h k = []) {host : String} (hl : Jvm.Cond.methodLinkNest (mi_y K).cls idx (mi_y k) host ∈ NS) :
    va_CN (mi_rm K) s args (mi_y K).cls idx (mi_y k) host (mi_c k) (mi_l k) (mi_r k) (mi_hd k :: WS) (mi_rm k) (mi_rm k).cells (mi_rm k).slots n := by
  obtain ⟨-, -, -, -, -, -, -, hts, -, hST, -⟩ := C
  obtain ⟨h1, h2, h3, h4⟩ := hm
  have hd : mi_hd k = .code (mi_y k) (mi_c k) (mi_l k) (mi_r k) := by simp only [mi_hd, hh]
  refine ⟨⟨rfl, rfl, hr.1, hr.2, pay_in hts (good_ws h1), by rw [← hd]; exact List.mem_cons_self⟩, by rw [← hd]; exact hts _ h1, hts _ h2, h3, fun sig hs => ?_, va_Nw.use rfl (hST.2.2.2.1 _ hl)⟩
  rw [hs] at h4
  simpa using h4.symm
theorem g_callV (hm : MOK k n) (hr : RMok K k) (hh : mi_h k = []) (hl : LkV (mi_y K).cls idx k ∨ LkVN (mi_y K).cls idx k) (hdg : decode (mi_c K) pc = .ok (.invokevirtual idx, 3)) (hst : st = As.reverse ++ .ref a :: rest) (hn : As.length = n) (hcat : (rest.map fun v => v.category).sum ≤ 8) (ha : w a = some (.inr (ci, fs))) (hci : (vwCl[ci]?).map (fun q => q.1) = some (mi_y k).cls)
    (hc : cs + (mi_rm k).cells ≤ (mi_rm K).cells ∧ ss + (mi_rm k).slots ≤ (mi_rm K).slots) (kk : Sp Γ k (.ref a :: As) z w (fun r z' w' => G Γ K Q QX (pc + 3) ls (r.toList ++ rest) z' w' (cs + (mi_rm k).cells) (ss + (mi_rm k).slots))) : G Γ K Q QX pc ls st z w cs ss := by
  intro p e s m args below meth c FP C H locs A hA hW hS
  have C' := C
  obtain ⟨hx, hb, hml, hown, hin, hlk, htab, hts, hK, hST, hb0, -, -⟩ := C'
  have hp := gz_pre C hW hS (.ref a :: As)
  have hv : PreV s H (mi_y k).cls a (PcOf Γ (.ref a :: As) z w) As := ⟨hp.1, gz_recv C hW ha hci, hp.2⟩
  subst hst
  rcases hl with ⟨l1, l2, l3⟩ | ⟨⟨host, l1⟩, l2, l3⟩
  · exact call_go (Γ := Γ) (va_runV (g := F0 m pc A _) (As := As) (rest := rest) ⟨hx, hb, hml, hown, hts⟩ kk ⟨gz_callB C hm hr hh l1, hts _ l2, hts _ l3⟩ hv rfl hn hA.1 rfl (by simpa [JFrame.monitorRoom] using hcat) hdg hc) hS (fun r z' w' H1 locs1 hg hW1 hS1 => hg p e s m args below meth c FP C H1 locs1 A hA hW1 hS1)
  · exact call_go (Γ := Γ) (va_runVN (g := F0 m pc A _) (As := As) (rest := rest) ⟨hx, hb, hml, hown, hts⟩ kk ⟨gz_callN C hm hr hh l1, hts _ l2, hts _ l3⟩ hv rfl hn hA.1 rfl (by simpa [JFrame.monitorRoom] using hcat) hdg hc) hS (fun r z' w' H1 locs1 hg hW1 hS1 => hg p e s m args below meth c FP C H1 locs1 A hA hW1 hS1)
theorem g_callS (hm : MOK k n) (hr : RMok K k) (hh : mi_h k = []) (hl : LkS (mi_y K).cls idx k ∨ LkSN (mi_y K).cls idx k) (hdg : decode (mi_c K) pc = .ok (.invokestatic idx, 3)) (hst : st = As.reverse ++ rest) (hn : As.length = n) (hcat : (rest.map fun v => v.category).sum ≤ 8)
    (hc : cs + (mi_rm k).cells ≤ (mi_rm K).cells ∧ ss + (mi_rm k).slots ≤ (mi_rm K).slots) (kk : Sp Γ k As z w (fun r z' w' => G Γ K Q QX (pc + 3) ls (r.toList ++ rest) z' w' (cs + (mi_rm k).cells) (ss + (mi_rm k).slots))) : G Γ K Q QX pc ls st z w cs ss := by
  intro p e s m args below meth c FP C H locs A hA hW hS
  have C' := C
  obtain ⟨hx, hb, hml, hown, hin, hlk, htab, hts, hK, hST, hb0, -, -⟩ := C'
  have hp := gz_pre C hW hS As
  subst hst
  rcases hl with ⟨l1, l2⟩ | ⟨⟨host, l1⟩, l2⟩
  · exact call_go (Γ := Γ) (va_runS (g := F0 m pc A _) (As := As) (rest := rest) ⟨hx, hb, hml, hown, hts⟩ kk ⟨gz_callB C hm hr hh l1, hts _ l2⟩ hp rfl hn hA.1 rfl (by simpa [JFrame.monitorRoom] using hcat) hdg hc) hS (fun r z' w' H1 locs1 hg hW1 hS1 => hg p e s m args below meth c FP C H1 locs1 A hA hW1 hS1)
  · exact call_go (Γ := Γ) (va_runSN (g := F0 m pc A _) (As := As) (rest := rest) ⟨hx, hb, hml, hown, hts⟩ kk ⟨gz_callN C hm hr hh l1, hts _ l2, trivial⟩ hp rfl hn hA.1 rfl (by simpa [JFrame.monitorRoom] using hcat) hdg hc) hS (fun r z' w' H1 locs1 hg hW1 hS1 => hg p e s m args below meth c FP C H1 locs1 A hA hW1 hS1)
theorem g_callSW (hm : MOK k n) (hr : RMok K k) {q0 : (Nat × Nat × Nat × Nat) × String} {t0 : List ((Nat × Nat × Nat × Nat) × String)} (hh : mi_h k = q0 :: t0) (hl : LkS (mi_y K).cls idx k) (hdg : decode (mi_c K) pc = .ok (.invokestatic idx, 3)) (hst : st = As.reverse ++ rest) (hn : As.length = n) (hcat : (rest.map fun v => v.category).sum ≤ 8)
    (hc : cs + (mi_rm k).cells ≤ (mi_rm K).cells ∧ ss + (mi_rm k).slots ≤ (mi_rm K).slots) (kk : Sp Γ k As z w (fun r z' w' => G Γ K Q QX (pc + 3) ls (r.toList ++ rest) z' w' (cs + (mi_rm k).cells) (ss + (mi_rm k).slots))) : G Γ K Q QX pc ls st z w cs ss := by
  intro p e s m args below meth c FP C H locs A hA hW hS
  have C' := C
  obtain ⟨hx, hb, hml, hown, hin, hlk, htab, hts, hK, hST, hb0, -, -⟩ := C'
  have hp := gz_pre C hW hS As
  obtain ⟨h1, h2, h3, h4⟩ := hm
  have hd : mi_hd k = .codeWith (mi_y k) (mi_c k) (mi_l k) (mi_r k) ((mi_h k).map (fun q => q.1)) := by simp only [mi_hd, hh]
  subst hst
  have cw : vx_CSW (mi_rm K) s args (mi_y K).cls idx (mi_y k) (mi_c k) (mi_l k) (mi_r k) ((mi_h k).map (fun q => q.1)) (mi_hd k :: WS) (mi_rm k) (mi_rm k).cells (mi_rm k).slots n := by
    refine ⟨⟨rfl, rfl, hr.1, hr.2, pay_in hts (good_ws h1), by rw [← hd]; exact List.mem_cons_self⟩, by rw [← hd]; exact hts _ h1, hts _ h2, h3, fun sig hs => ?_, hts _ hl.1, hts _ hl.2⟩
    rw [hs] at h4
    simpa using h4.symm
  exact call_go (Γ := Γ) (vx_runSW (g := F0 m pc A _) (As := As) (rest := rest) ⟨hx, hb, hml, hown, hts⟩ kk cw hp rfl hn hA.1 rfl (by simpa [JFrame.monitorRoom] using hcat) hdg hc) hS (fun r z' w' H1 locs1 hg hW1 hS1 => hg p e s m args below meth c FP C H1 locs1 A hA hW1 hS1)
theorem g_callI (hm : MOK k n) (hr : RMok K k) (hh : mi_h k = []) (hl : LkI (mi_y K).cls idx k ∨ LkIN (mi_y K).cls idx k) (hdg : decode (mi_c K) pc = .ok (.invokespecial idx, 3)) (hst : st = As.reverse ++ .ref a :: rest) (hn : As.length = n) (hcat : (rest.map fun v => v.category).sum ≤ 8)
    (hc : cs + (mi_rm k).cells ≤ (mi_rm K).cells ∧ ss + (mi_rm k).slots ≤ (mi_rm K).slots) (kk : Sp Γ k (.ref a :: As) z w (fun r z' w' => G Γ K Q QX (pc + 3) ls (r.toList ++ rest) z' w' (cs + (mi_rm k).cells) (ss + (mi_rm k).slots))) : G Γ K Q QX pc ls st z w cs ss := by
  intro p e s m args below meth c FP C H locs A hA hW hS
  have C' := C
  obtain ⟨hx, hb, hml, hown, hin, hlk, htab, hts, hK, hST, hb0, -, -⟩ := C'
  have hp := gz_pre C hW hS (.ref a :: As)
  subst hst
  rcases hl with ⟨l1, l2, l3, l4⟩ | ⟨⟨host, l1⟩, l2, l3, l4⟩
  · have cb := gz_callB C hm hr hh l1
    rw [l4] at cb
    exact call_go (Γ := Γ) (va_runI (g := F0 m pc A _) (As := As) (rest := rest) ⟨hx, hb, hml, hown, hts⟩ kk ⟨cb, l3, hts _ l2⟩ hp rfl hn hA.1 rfl (by simpa [JFrame.monitorRoom] using hcat) hdg hc) hS (fun r z' w' H1 locs1 hg hW1 hS1 => hg p e s m args below meth c FP C H1 locs1 A hA hW1 hS1)
  · have cb := gz_callN C hm hr hh l1
    rw [l4] at cb
    exact call_go (Γ := Γ) (va_runIN (g := F0 m pc A _) (As := As) (rest := rest) ⟨hx, hb, hml, hown, hts⟩ kk ⟨cb, l3, hts _ l2⟩ hp rfl hn hA.1 rfl (by simpa [JFrame.monitorRoom] using hcat) hdg hc) hS (fun r z' w' H1 locs1 hg hW1 hS1 => hg p e s m args below meth c FP C H1 locs1 A hA hW1 hS1)
theorem g_callVX (hm : MOK k n) (hr : RMok K k) (hh : mi_h k = []) (hl : LkV (mi_y K).cls idx k) (hdg : decode (mi_c K) pc = .ok (.invokevirtual idx, 3)) (hst : st = As.reverse ++ .ref a :: rest) (hn : As.length = n) (hcat : (rest.map fun v => v.category).sum ≤ 8) (ha : w a = some (.inr (ci, fs))) (hci : (vwCl[ci]?).map (fun q => q.1) = some (mi_y k).cls)
    (hc : cs + (mi_rm k).cells ≤ (mi_rm K).cells ∧ ss + (mi_rm k).slots ≤ (mi_rm K).slots)
    (kk : SpX Γ k (.ref a :: As) z w (fun r z' w' => G Γ K Q QX (pc + 3) ls (r.toList ++ rest) z' w' (cs + (mi_rm k).cells) (ss + (mi_rm k).slots)) (fun E w' => GX Γ K Q QX E pc ls rest w' (cs + (mi_rm k).cells) (ss + (mi_rm k).slots))) : G Γ K Q QX pc ls st z w cs ss := by
  intro p e s m args below meth c FP C H locs A hA hW hS
  have C' := C
  obtain ⟨hx, hb, hml, hown, hin, hlk, htab, hts, hK, hST, hb0, -, -⟩ := C'
  have hp := gz_pre C hW hS (.ref a :: As)
  have hv : PreV s H (mi_y k).cls a (PcOf Γ (.ref a :: As) z w) As := ⟨hp.1, gz_recv C hW ha hci, hp.2⟩
  subst hst
  obtain ⟨l1, l2, l3⟩ := hl
  exact callX_go (Γ := Γ) (vx_runV (g := F0 m pc A _) (As := As) (rest := rest) ⟨hx, hb, hml, hown, hts⟩ kk ⟨gz_callB C hm hr hh l1, hts _ l2, hts _ l3⟩ hv rfl hn hA.1 rfl (by simpa [JFrame.monitorRoom] using hcat) hdg hc) hS
    (fun E w' x q H1 locs1 hg hW1 hS1 hq hv hc => hg p e s m args below meth c FP C H1 locs1 A q x hA hW1 hS1 hq hv hc)
    (fun r z' w' H1 locs1 hg hW1 hS1 => hg p e s m args below meth c FP C H1 locs1 A hA hW1 hS1)
theorem g_callSX (hm : MOK k n) (hr : RMok K k) (hh : mi_h k = []) (hl : LkS (mi_y K).cls idx k) (hdg : decode (mi_c K) pc = .ok (.invokestatic idx, 3)) (hst : st = As.reverse ++ rest) (hn : As.length = n) (hcat : (rest.map fun v => v.category).sum ≤ 8)
    (hc : cs + (mi_rm k).cells ≤ (mi_rm K).cells ∧ ss + (mi_rm k).slots ≤ (mi_rm K).slots)
    (kk : SpX Γ k As z w (fun r z' w' => G Γ K Q QX (pc + 3) ls (r.toList ++ rest) z' w' (cs + (mi_rm k).cells) (ss + (mi_rm k).slots)) (fun E w' => GX Γ K Q QX E pc ls rest w' (cs + (mi_rm k).cells) (ss + (mi_rm k).slots))) : G Γ K Q QX pc ls st z w cs ss := by
  intro p e s m args below meth c FP C H locs A hA hW hS
  have C' := C
  obtain ⟨hx, hb, hml, hown, hin, hlk, htab, hts, hK, hST, hb0, -, -⟩ := C'
  have hp := gz_pre C hW hS As
  subst hst
  obtain ⟨l1, l2⟩ := hl
  exact callX_go (Γ := Γ) (vx_runS (g := F0 m pc A _) (As := As) (rest := rest) ⟨hx, hb, hml, hown, hts⟩ kk ⟨gz_callB C hm hr hh l1, hts _ l2⟩ hp rfl hn hA.1 rfl (by simpa [JFrame.monitorRoom] using hcat) hdg hc) hS
    (fun E w' x q H1 locs1 hg hW1 hS1 hq hv hc => hg p e s m args below meth c FP C H1 locs1 A q x hA hW1 hS1 hq hv hc)
    (fun r z' w' H1 locs1 hg hW1 hS1 => hg p e s m args below meth c FP C H1 locs1 A hA hW1 hS1)
end GCALL

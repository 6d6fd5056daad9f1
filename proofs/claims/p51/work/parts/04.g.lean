/-! CONTRACTS AND THE JUDGEMENT OF A BODY -/
def PcOf (Γ : Amb) (args : List Value) (z : Option Nat) (w : PW) : Array Value → State → Prop :=
  va_Pc args (fun U => Γ.2.2.2 ≤ U.heap.size ∧ WD Γ z w U.heap ∧ va_K Γ.2.1 vwCl (tys Γ.2.2.1) U ∧ ST Γ.2.2.2 U U.heap)
def QcOf (Γ : Amb) (Q : Option Value → Option Nat → PW → Prop) : Array Value → State → Outcome → State → Prop :=
  fun _ st o t => ∃ (r : Option Value) (z : Option Nat) (w : PW), o = .returned r ∧ Q r z w ∧ WD Γ z w t.heap ∧ va_F (AA Γ.2.2.2) st t
def XcOf (Γ : Amb) (QX : String → PW → Prop) : String → State → State → Prop :=
  fun E st t => ∃ w : PW, QX E w ∧ WD Γ none w t.heap ∧ va_F (AA Γ.2.2.2) st t
/-- a method that returns: from these arguments, in this world -/
def Sp (Γ : Amb) (k : MI) (args : List Value) (z : Option Nat) (w : PW) (Q : Option Value → Option Nat → PW → Prop) : Prop :=
  Met Γ.1.1 (mi_y k) (mi_hd k :: WS) (mi_rm k) (PcOf Γ args z w) (QcOf Γ Q) (mi_rm k).cells (mi_rm k).slots (AA Γ.2.2.2)
/-- a method that returns or throws -/
def SpX (Γ : Amb) (k : MI) (args : List Value) (z : Option Nat) (w : PW) (Q : Option Value → Option Nat → PW → Prop) (QX : String → PW → Prop) : Prop :=
  vx_Met Γ.1.1 (mi_y k) (mi_hd k :: WS) (mi_rm k) (PcOf Γ args z w) (QcOf Γ Q) (XcOf Γ QX) (mi_rm k).cells (mi_rm k).slots (AA Γ.2.2.2)
theorem PcOf.blind (Γ : Amb) (args : List Value) (z : Option Nat) (w : PW) : FrameBlind (PcOf Γ args z w) := by
  intro a U g mk h
  obtain ⟨h0, h1, h2, h3, h4⟩ := h
  exact ⟨h0, h1, h2, va_K.moved (u := U) (U := U.calling g mk a) (Vm.Alike.refl U.vm) h3, h4.same (u := U) rfl⟩
/-- which answer may stand at which return -/
def RI (ret : Option FieldType) (x : Int32) : Prop := ret = some .int ∨ (ret = some .boolean ∧ (x = 0 ∨ x = 1))
def RT (ret : Option FieldType) (ri : Instr) (v : Option Value) : Prop := match ri with
  | .ireturn => (match v with | some (.int x) => RI ret x | _ => False)
  | .lreturn => (match v with | some (.long _) => ret = some .long | _ => False)
  | .dreturn => (match v with | some (.double _) => ret = some .double | _ => False)
  | .areturn => (match v with | some (.ref _) => ret = some (.object RX7) | _ => False)
  | .return_ => (match v with | none => ret = none | _ => False)
  | _ => False
/-- what a body stands on -/
def CX (Γ : Amb) (K : MI) (Q : Option Value → Option Nat → PW → Prop) (QX : String → PW → Prop) (p : Program) (e : Env) (s : State) (m : MethodId) (args : Array Value) (below : List Frame) (meth : Method) (c : Code) (FP : State → Prop) : Prop :=
  p.tables.exec = Jvm.exec ∧ c.code = mi_c K ∧ c.maxLocals = mi_l K ∧ s.vm.findClass (mi_y K).cls = some m.cls ∧ meth.name = (mi_y K).name ∧ meth.locks = false ∧ c.exceptionTable.toList = tableOf ((mi_h K).map (fun q => q.1)) ∧
  (∀ w ∈ WS, w.before args s = true) ∧ va_K Γ.2.1 vwCl (tys Γ.2.2.1) s ∧ ST Γ.2.2.2 s s.heap ∧ Γ.2.2.2 ≤ s.heap.size ∧
  (∀ (ri : Instr) (v : Option Value) (pc : Nat) (H : Heap) (locs : List Loc) (A : Array Slot) (z : Option Nat) (w : PW), decode (mi_c K) pc = .ok (ri, 1) → RT (mi_r K) ri v → Q v z w → WD Γ z w H → va_S (AA Γ.2.2.2) s.heap H locs → W p Γ.1.1 e (mi_rm K) s m args below meth c H locs (mi_rm K).cells (mi_rm K).slots FP (F0 m pc A v.toList)) ∧
  ((∀ E w, ¬ QX E w) ∨ (Γ.1.1.stackTraces = false ∧ FP = vx_MQ below (QcOf Γ Q) (XcOf Γ QX) args s (mi_rm K).cells (mi_rm K).slots (AA Γ.2.2.2)))
def LH (A : Array Slot) (n : Nat) (ls : LSL) : Prop := A.size = n ∧ lv_wf A ∧ ∀ (i : Nat) (v : Value), ls[i]? = some (some v) → A[i]? = some (.val v)
/-- the judgement: at pc, with these locals, this stack, in this world -/
def G (Γ : Amb) (K : MI) (Q : Option Value → Option Nat → PW → Prop) (QX : String → PW → Prop) (pc : Nat) (ls : LSL) (st : List Value) (z : Option Nat) (w : PW) (cs ss : Nat) : Prop :=
  ∀ (p : Program) (e : Env) (s : State) (m : MethodId) (args : Array Value) (below : List Frame) (meth : Method) (c : Code) (FP : State → Prop), CX Γ K Q QX p e s m args below meth c FP →
  ∀ (H : Heap) (locs : List Loc) (A : Array Slot), LH A (mi_l K) ls → WD Γ z w H → va_S (AA Γ.2.2.2) s.heap H locs → W p Γ.1.1 e (mi_rm K) s m args below meth c H locs cs ss FP (F0 m pc A st)
/-- a frame of it, with something thrown over it -/
def GX (Γ : Amb) (K : MI) (Q : Option Value → Option Nat → PW → Prop) (QX : String → PW → Prop) (E : String) (pc : Nat) (ls : LSL) (st : List Value) (w : PW) (cs ss : Nat) : Prop :=
  ∀ (p : Program) (e : Env) (s : State) (m : MethodId) (args : Array Value) (below : List Frame) (meth : Method) (c : Code) (FP : State → Prop), CX Γ K Q QX p e s m args below meth c FP →
  ∀ (H : Heap) (locs : List Loc) (A : Array Slot) (q : Addr) (x : Cell), LH A (mi_l K) ls → WD Γ none w H → va_S (AA Γ.2.2.2) s.heap H locs → H[q]? = some x → x.vm = .none → s.vm.findClass E = some x.cls →
  vx_W p Γ.1.1 e (mi_rm K) s m args below meth c H locs cs ss FP (F0 m pc A st) q
theorem met_of_vx {l : Launch} {y : MethodName} {ws : List Jvm.Cond} {rm : Room} {Pc : Array Value → State → Prop} {Qc : Array Value → State → Outcome → State → Prop} {XC : String → State → State → Prop} {mc ms : Nat} {free : Addr → Prop}
    (h : vx_Met l y ws rm Pc Qc XC mc ms free) (hx : ∀ E s t, ¬ XC E s t) : Met l y ws rm Pc Qc mc ms free :=
  MetFree.mono h (fun _ _ h => h) (fun _ _ _ _ _ h => h) (fun a s o t _ hq => by
    rcases hq with hq | ⟨q, h1, E, ce, L, h2, -⟩
    · exact hq
    · exact absurd h2 (hx E s t))
/-- the locals with which a method begins -/
def two : Value → Bool
  | .long _ => true
  | .double _ => true
  | _ => false
theorem two_iff (v : Value) : v.category = 2 ↔ two v = true := by cases v <;> simp [two, Value.category]
def pad : Nat → LSL
  | 0 => []
  | n + 1 => none :: pad n
def EL (n : Nat) : List Value → LSL
  | [] => pad n
  | v :: t => match two v with
    | true => some v :: none :: EL (n - 2) t
    | false => some v :: EL (n - 1) t
theorem pad_no (n i : Nat) (v : Value) : (pad n)[i]? = some (some v) → False := by
  induction n generalizing i with
  | zero => simp [pad]
  | succ n ih =>
    simp only [pad]
    cases i with
    | zero => simp
    | succ i => simpa using ih i
theorem EL_args : ∀ (vs : List Value) (n k i : Nat) (v : Value), (EL n vs)[i]? = some (some v) → (k + i, v) ∈ lv_args k vs := by
  intro vs
  induction vs with
  | nil => intro n k i v h; exact (pad_no n i v h).elim
  | cons a t ih =>
    intro n k i v h
    simp only [EL] at h
    cases ha : two a with
    | false =>
      rw [ha] at h
      have hc : ¬ a.category = 2 := fun q => by rw [(two_iff a).mp q] at ha; cases ha
      cases i with
      | zero => simp at h; subst h; simp [lv_args]
      | succ i =>
        simp at h
        have := ih (n - 1) (k + 1) i v h
        simp only [lv_args, if_neg hc]
        rw [show k + (i + 1) = k + 1 + i by omega]
        exact List.mem_cons_of_mem _ this
    | true =>
      rw [ha] at h
      have hc : a.category = 2 := (two_iff a).mpr ha
      cases i with
      | zero => simp at h; subst h; simp [lv_args]
      | succ i =>
        simp at h
        cases i with
        | zero => simp at h
        | succ i =>
          simp at h
          have := ih (n - 2) (k + 2) i v h
          simp only [lv_args, if_pos hc]
          rw [show k + (i + 1 + 1) = k + 2 + i by omega]
          exact List.mem_cons_of_mem _ this
theorem entry_LH (vs : List Value) (n : Nat) (h : (lg_sl vs).length ≤ n) : LH ((lg_sl vs ++ List.replicate (n - (lg_sl vs).length) Slot.unset).toArray) n (EL n vs) := by
  obtain ⟨h1, h2, h3⟩ := lv_entry vs h
  refine ⟨h1, h2, fun i v hi => ?_⟩
  have := EL_args vs n 0 i v hi
  rw [Nat.zero_add] at this
  exact h3 (i, v) this
/-- the returns of a method's body -/
theorem cx_ret {Γ : Amb} {K : MI} {Q : Option Value → Option Nat → PW → Prop} {p : Program} {e : Env} {s : State} {m : MethodId} {args : Array Value} {below : List Frame} {meth : Method} {c : Code}
    (hx : p.tables.exec = Jvm.exec) (hb : c.code = mi_c K) (hr : meth.sig.returnType = mi_r K) (hlocks : meth.locks = false) (hown : s.vm.findClass (mi_y K).cls = some m.cls)
    (ri : Instr) (v : Option Value) (pc : Nat) (H : Heap) (locs : List Loc) (A : Array Slot) (z : Option Nat) (w : PW) (hd : decode (mi_c K) pc = .ok (ri, 1)) (ht : RT (mi_r K) ri v) (hQ : Q v z w) (hW : WD Γ z w H) (hS : va_S (AA Γ.2.2.2) s.heap H locs) :
    W p Γ.1.1 e (mi_rm K) s m args below meth c H locs (mi_rm K).cells (mi_rm K).slots (MQ below (QcOf Γ Q) args s (mi_rm K).cells (mi_rm K).slots (AA Γ.2.2.2)) (F0 m pc A v.toList) := by
  have hq : ∀ t : State, t.heap = H → s.WarmedH t.vm → QcOf Γ Q args s (.returned v) t := fun t hH _ => ⟨v, z, w, rfl, hQ, by rw [hH]; exact hW, hS.F hH⟩
  cases ri <;> simp only [RT] at ht
  case ireturn =>
    split at ht
    · rcases ht with ht | ⟨ht, hx01⟩
      · exact W.iret hx hb (hr.trans ht) hq hS.2.2 hd hlocks
      · refine W.zret hx hb (hr.trans ht) ?_ hq hS.2.2 hd hlocks
        rcases hx01 with rfl | rfl <;> rfl
    · exact ht.elim
  case lreturn =>
    split at ht
    · exact W.lret hx hb (hr.trans ht) hq hS.2.2 hd hlocks
    · exact ht.elim
  case dreturn =>
    split at ht
    · exact W.dret hx hb (hr.trans ht) hq hS.2.2 hd hlocks
    · exact ht.elim
  case areturn =>
    split at ht
    · exact W.aret hx hb (hr.trans ht) (Or.inl ⟨_, rfl⟩) (Or.inr ⟨_, rfl⟩) hq hS.2.2 hd hlocks
    · exact ht.elim
  case return_ =>
    split at ht
    · exact W.vret hx hb (hr.trans ht) hq hS.2.2 hd hlocks
    · exact ht.elim
/-- a body's judgement gives the method's contract -/
theorem entryX (Γ : Amb) (K : MI) (hpl : plainName (mi_y K).cls = true) (args : List Value) (hlen : (lg_sl args).length ≤ mi_l K) (z : Option Nat) (w : PW) (Q : Option Value → Option Nat → PW → Prop) (QX : String → PW → Prop)
    (h : G Γ K Q QX 0 (EL (mi_l K) args) [] z w 0 0) : SpX Γ K args z w Q QX := by
  have body : ∀ (p : Program) (e : Env) (s : State) (m : MethodId) (as : Array Value) (below : List Frame) (meth : Method) (c : Code) (s₁ : State), BodyLoose p Γ.1.1 (mi_y K) (headSpec (mi_hd K :: WS) (mi_rm K)) (mi_c K) (mi_l K) (mi_r K) e s m as below meth c s₁ → c.maxLocals = mi_l K → c.exceptionTable.toList = tableOf ((mi_h K).map (fun q => q.1)) → PcOf Γ args z w as s →
      W p Γ.1.1 e (mi_rm K) s m as below meth c s.heap [] 0 0 (vx_MQ below (QcOf Γ Q) (XcOf Γ QX) as s (mi_rm K).cells (mi_rm K).slots (AA Γ.2.2.2)) (entryFrame m as (mi_l K)) := by
    intro p e s m as below meth c s₁ B hml htab hp
    obtain ⟨rfl, hb0, hW, hK, hST⟩ := hp
    have hts := atoms_spec (ws := mi_hd K :: WS) B.pre
    have hown : s.vm.findClass (mi_y K).cls = some m.cls := findClass_of_methodNamed B.named
    rw [lg_entry_eq]
    refine h p e s m _ below meth c _ ⟨B.exec, B.bytes, hml, hown, (name_of_methodNamed B.named B.method).1, B.notSynchronized, htab, fun w hw => hts w (List.mem_cons_of_mem _ hw), hK, hST, hb0, ?_, Or.inr ⟨Γ.1.2, rfl⟩⟩ s.heap [] _ (entry_LH args _ hlen) hW va_S.rf
    intro ri v pc H locs A z w hd ht hQ hW hS
    exact vx_ret (cx_ret B.exec B.bytes B.returns B.notSynchronized hown ri v pc H locs A z w hd ht hQ hW hS)
  unfold SpX
  rcases hK : mi_h K with _ | ⟨q, t⟩
  · have hh : mi_hd K = Cond.code (mi_y K) (mi_c K) (mi_l K) (mi_r K) := by simp only [mi_hd, hK]
    rw [hh] at body ⊢
    refine vx_ofW hpl rfl (fun p e s m as below meth c s₁ B hml hx hp => body p e s m as below meth c s₁ B hml ?_ hp)
    rw [hK]
    have : c.exceptionTable.toList = [] := List.eq_nil_iff_forall_not_mem.mpr (fun x hx' => hx x hx')
    rw [this]; rfl
  · have hh : mi_hd K = Cond.codeWith (mi_y K) (mi_c K) (mi_l K) (mi_r K) ((mi_h K).map (fun q => q.1)) := by simp only [mi_hd, hK]
    rw [hh] at body ⊢
    refine vx_ofWH hpl rfl (fun p e s m as below meth c s₁ B hml hp => body p e s m as below meth c s₁ B hml ?_ hp)
    exact vx_table (x := mi_y K) B (atoms_spec (ws := _ :: WS) B.pre _ List.mem_cons_self)
theorem entry (Γ : Amb) (K : MI) (hpl : plainName (mi_y K).cls = true) (args : List Value) (hlen : (lg_sl args).length ≤ mi_l K) (z : Option Nat) (w : PW) (Q : Option Value → Option Nat → PW → Prop)
    (h : G Γ K Q (fun _ _ => False) 0 (EL (mi_l K) args) [] z w 0 0) : Sp Γ K args z w Q :=
  met_of_vx (entryX Γ K hpl args hlen z w Q _ h) (fun E s t q => by obtain ⟨w', q, -⟩ := q; exact q)

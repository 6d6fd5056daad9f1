/-! THE PURE MACHINE: worlds by address, methods as lists of instructions, weakest preconditions of their bodies -/
/-- a method: name, code, locals, return type, room, its table's rows with the names that they catch -/
abbrev MI : Type := MethodName × ByteArray × Nat × Option FieldType × Room × List ((Nat × Nat × Nat × Nat) × String)
abbrev mi_y (k : MI) : MethodName := k.1
abbrev mi_c (k : MI) : ByteArray := k.2.1
abbrev mi_l (k : MI) : Nat := k.2.2.1
abbrev mi_r (k : MI) : Option FieldType := k.2.2.2.1
abbrev mi_rm (k : MI) : Room := k.2.2.2.2.1
abbrev mi_h (k : MI) : List ((Nat × Nat × Nat × Nat) × String) := k.2.2.2.2.2
def mi_hd (k : MI) : Jvm.Cond := match mi_h k with
  | [] => .code (mi_y k) (mi_c k) (mi_l k) (mi_r k)
  | _ => .codeWith (mi_y k) (mi_c k) (mi_l k) (mi_r k) ((mi_h k).map (fun q => q.1))
/-- an instruction: its length, itself, two numbers, a constant, the method that it calls -/
abbrev PI : Type := Nat × Instr × Nat × Nat × Nat × Int × MI
/-- the launch, where classes lie, the array classes, the first address of ours -/
abbrev Amb : Type := {l : Launch // l.stackTraces = false} × va_G × (Nat → ClassId) × Nat
abbrev PW : Type := Nat → Option va_E
abbrev LSL : Type := List (Option Value)
/-- a word of a list that is good, and stands in the tables -/
def WS : List Jvm.Cond := lw_tbl.filter goodWord
def wj : va_E := .inr (0, [])
def ce (cy : Nat → ClassId) : va_E → va_E
  | .inl (t, a) => .inl (cy t, a)
  | .inr o => .inr o
def wf (cy : Nat → ClassId) (w : PW) : Nat → va_E := fun a => ce cy ((w a).getD wj)
abbrev AA (b0 : Nat) : Nat → Prop := fun q => b0 ≤ q
/-- the heap holds the world w; z: its size, where that is known -/
def WD (Γ : Amb) (z : Option Nat) (w : PW) (H : Heap) : Prop :=
  ∃ L : List Nat, (∀ a, a ∈ L ↔ ∃ e, w a = some e) ∧ va_P Γ.2.1 vwCl (va_pl L (wf Γ.2.2.1 w)) H ∧ va_D (AA Γ.2.2.2) (va_pl L (wf Γ.2.2.1 w)) ∧ ∀ h, z = some h → H.size = h
def tys (cy : Nat → ClassId) : List (ClassId × FieldType) := [(cy 0, .int), (cy 1, .long), (cy 2, .object RX7)]
def up (w : PW) (a : Nat) (e : va_E) : PW := fun b => if b = a then some e else w b
/-- words that speak of nests, casts and declarations: they aren't good, but they stay -/
def nsb : Jvm.Cond → Bool
  | .methodLinkNest _ _ _ _ => true
  | .fieldLinkNest _ _ _ _ _ _ => true
  | .castable _ _ => true
  | .declares _ => true
  | _ => false
def NS : List Jvm.Cond := lw_tbl.filter nsb
/-- the texts of the exceptions -/
def SR : List (String × Nat × String) := lw_tbl.filterMap (fun w => match w with | .stringRef a k t => some (a, k, t) | _ => none)
def eIA : String := "java/lang/IllegalArgumentException"
def eIS : String := "java/lang/IllegalStateException"
def eIO : String := "java/lang/IndexOutOfBoundsException"
def NCs : List (String × String) := []
/-- what stands below our addresses and never changes -/
def ST (b0 : Nat) (U : State) (H : Heap) : Prop :=
  vx_Zq Bundle.tN "UNASSIGNED_STACK" Bundle.steD (AA b0) U H ∧ vx_Zq Bundle.tN "SUPPRESSED_SENTINEL" Bundle.listD (AA b0) U H ∧ (∀ q ∈ SR, ∃ sa, vk_R q.1 q.2.1 q.2.2 sa U) ∧ (∀ w ∈ NS, va_Nw w U) ∧ (∀ q ∈ NCs, va_Nc q.1 q.2 U) ∧ va_AO RX7 U
theorem ns_warm {s U : State} (hW : s.WarmedH U.vm) {w : Jvm.Cond} (h : nsb w = true) (hz : va_Nw w s) : va_Nw w U := by
  cases w <;> simp only [nsb] at h <;> first | exact absurd h (by decide) | exact va_Nw.warmM hW hz | exact va_Nw.warmF hW hz | exact va_Nw.warmC hW hz | exact va_Nw.warmD hW hz
theorem ns_on {w : Jvm.Cond} (h : nsb w = true) : w.onTables = true := by
  cases w <;> simp only [nsb] at h <;> first | exact absurd h (by decide) | rfl
theorem ST.warm {b0 : Nat} {s U : State} {H : Heap} (hW : s.WarmedH U.vm) (hk : s.heap.size ≤ H.size ∧ ∀ q : Nat, q < s.heap.size → ¬ AA b0 q → H[q]? = s.heap[q]?) (h : ST b0 s s.heap) : ST b0 U H := by
  obtain ⟨h1, h2, h3, h4, h5, h6⟩ := h
  refine ⟨(h1.moved hW.alike).kept hk.2, (h2.moved hW.alike).kept hk.2, fun q hq => ?_, fun w hw => ?_, fun q hq => (h5 q hq).moved hW.alike, h6.moved hW.alike⟩
  · obtain ⟨sa, hs⟩ := h3 q hq
    exact ⟨sa, hs.warm hW⟩
  · exact ns_warm hW (List.mem_filter.mp hw).2 (h4 w hw)
theorem ST.same {b0 : Nat} {u U : State} {H : Heap} (hv : U.vm = u.vm) (h : ST b0 u H) : ST b0 U H := by
  obtain ⟨h1, h2, h3, h4, h5, h6⟩ := h
  have ha : u.vm.Alike U.vm := by rw [hv]; exact Vm.Alike.refl _
  refine ⟨h1.moved ha, h2.moved ha, fun q hq => ?_, fun w hw => ?_, fun q hq => (h5 q hq).moved ha, h6.moved ha⟩
  · obtain ⟨sa, hs⟩ := h3 q hq
    exact ⟨sa, hs.same hv⟩
  · exact va_Nw.same (ns_on (List.mem_filter.mp hw).2) hv.symm (h4 w hw)
theorem WD.back {Γ : Amb} {z : Option Nat} {w : PW} {H : Heap} (h : WD Γ z w H) : WD Γ none w H := by
  obtain ⟨L, h1, h2, h3, -⟩ := h
  exact ⟨L, h1, h2, h3, fun _ h => nomatch h⟩
/-- the world's cells, one by one -/
theorem WD.get {Γ : Amb} {z : Option Nat} {w : PW} {H : Heap} (h : WD Γ z w H) {a : Nat} {e : va_E} (ha : w a = some e) : ∃ (L : List Nat) (k : Nat), va_P Γ.2.1 vwCl (va_pl L (wf Γ.2.2.1 w)) H ∧ (va_pl L (wf Γ.2.2.1 w))[k]? = some (a, ce Γ.2.2.1 e) := by
  obtain ⟨L, h1, h2, h3, h4⟩ := h
  obtain ⟨k, hk⟩ := va_pl_get (X := []) (f := wf Γ.2.2.1 w) ((h1 a).mpr ⟨e, ha⟩)
  refine ⟨L, k, h2, ?_⟩
  rw [show wf Γ.2.2.1 w a = ce Γ.2.2.1 e by simp [wf, ha]] at hk
  simpa using hk
/-- a cell written -/
theorem WD.put {Γ : Amb} {z : Option Nat} {w : PW} {H : Heap} (h : WD Γ z w H) {a : Nat} {e : va_E} (ha : w a = some e) (e' : va_E) : ∃ (L : List Nat) (k : Nat), va_P Γ.2.1 vwCl (va_pl L (wf Γ.2.2.1 w)) H ∧ va_D (AA Γ.2.2.2) (va_pl L (wf Γ.2.2.1 w)) ∧ (va_pl L (wf Γ.2.2.1 w))[k]? = some (a, ce Γ.2.2.1 e) ∧
    ∀ H1 : Heap, H1.size = H.size → va_P Γ.2.1 vwCl ((va_pl L (wf Γ.2.2.1 w)).set k (a, ce Γ.2.2.1 e')) H1 → va_D (AA Γ.2.2.2) ((va_pl L (wf Γ.2.2.1 w)).set k (a, ce Γ.2.2.1 e')) → WD Γ z (up w a e') H1 := by
  obtain ⟨L, h1, h2, h3, h4⟩ := h
  have hL := (h1 a).mpr ⟨e, ha⟩
  obtain ⟨k, hk⟩ := va_pl_get (X := []) (f := wf Γ.2.2.1 w) hL
  have he : wf Γ.2.2.1 w a = ce Γ.2.2.1 e := by simp [wf, ha]
  have hk' : (va_pl L (wf Γ.2.2.1 w))[k]? = some (a, wf Γ.2.2.1 w a) := by simpa using hk
  refine ⟨L, k, h2, h3, by rw [← he]; exact hk', fun H1 hs hP hD => ⟨L, fun b => ?_, ?_, ?_, fun z0 hz => by rw [hs]; exact h4 z0 hz⟩⟩
  · by_cases hb : b = a
    · subst hb; simp [up, hL]
    · simp [up, hb, h1 b]
  all_goals
    have hset : (va_pl L (wf Γ.2.2.1 w)).set k (a, ce Γ.2.2.1 e') = va_pl L (wf Γ.2.2.1 (up w a e')) := by
      have q := va_pl_set (X := []) (A := AA Γ.2.2.2) (f := wf Γ.2.2.1 w) (e := ce Γ.2.2.1 e') (by simpa using h3) hL (by simpa using hk)
      simp only [List.nil_append] at q
      rw [q]
      apply va_pl_congr
      intro b
      by_cases hb : b = a
      · subst hb; simp [va_up, wf, up]
      · simp [va_up, wf, up, hb]
  · rw [← hset]; exact hP
  · rw [← hset]; exact hD

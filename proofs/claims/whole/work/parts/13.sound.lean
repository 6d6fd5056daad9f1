/-! ITS SOUNDNESS -/
def nmC (ci : Nat) : Option String := (vwCl[ci]?).map (fun q => q.1)
/-- the rows of a body's table take what its calls throw -/
def okT (K : MI) (pc : Nat) : Prop := ∀ y ∈ mi_h K, covers ⟨y.1.1, y.1.2.1, y.1.2.2.1, y.1.2.2.2⟩ pc = true ∧ y.1.2.2.2 ≠ 0 ∧ Jvm.Cond.classLink (mi_y K).cls y.1.2.2.2 y.2 ∈ WS ∧ Jvm.Cond.castable y.2 y.2 ∈ NS
def okX (K : MI) (pc : Nat) (ins : Instr) (x y u : Nat) (v : Int) (k : MI) : Prop := match ins with
  | .getfield idx => LkF (mi_y K).cls idx x y
  | .putfield idx => LkP (mi_y K).cls (mi_y K).name idx x y
  | .new idx => LkN (mi_y K).cls idx x
  | .newarray aty => LkA x aty
  | .anewarray idx => LkQ (mi_y K).cls idx
  | .ldc_w idx => Jvm.Cond.constant (mi_y K).cls idx (Int32.ofInt v) ∈ WS
  | .ldc2_w idx => (match u with
    | 0 => Jvm.Cond.constantLong (mi_y K).cls idx (Int64.ofInt v) ∈ WS
    | _ => Jvm.Cond.constantDouble (mi_y K).cls idx (UInt64.ofNat x) ∈ WS)
  | .goto off => (pc : Int) + off = (x : Int)
  | .if_icmp _ off => (pc : Int) + off = (x : Int)
  | .ifCond _ off => (pc : Int) + off = (x : Int)
  | .dconst n => n.val < 2
  | .tableswitch dflt lo hi offs => lo + offs.toList.length = hi + 1 ∧ (pc : Int) + dflt = (x : Int) ∧ offs.toList.all (fun o => decide (0 ≤ (pc : Int) + o)) = true
  | .lookupswitch dflt ps => (ps.toList.zip (ps.toList.drop 1)).all (fun (a, next) => a.1 < next.1) = true ∧ (pc : Int) + dflt = (x : Int) ∧ ps.toList.all (fun o => decide (0 ≤ (pc : Int) + o.2)) = true
  | .lreturn => mi_r K = some .long
  | .dreturn => mi_r K = some .double
  | .areturn => mi_r K = some (.object RX7)
  | .return_ => mi_r K = none
  | .invokevirtual idx => MOK k x ∧ RMok K k ∧ mi_h k = [] ∧ nmC y = some (mi_y k).cls ∧ (match u with
    | 0 => LkV (mi_y K).cls idx k ∨ LkVN (mi_y K).cls idx k
    | _ => LkV (mi_y K).cls idx k ∧ okT K pc)
  | .invokespecial idx => (match u with
    | 0 => MOK k x ∧ RMok K k ∧ mi_h k = [] ∧ (LkI (mi_y K).cls idx k ∨ LkIN (mi_y K).cls idx k)
    | _ => LkO (mi_y K).cls idx ∧ 1 ≤ (mi_rm K).frames)
  | .invokestatic idx => (match u with
    | 3 => LkY (mi_y K).cls idx ∧ 1 ≤ (mi_rm K).frames
    | 4 => LkR (mi_y K).cls idx ∧ 1 ≤ (mi_rm K).frames
    | 0 => MOK k x ∧ RMok K k ∧ mi_h k = [] ∧ (LkS (mi_y K).cls idx k ∨ LkSN (mi_y K).cls idx k)
    | 1 => MOK k x ∧ RMok K k ∧ mi_h k = [] ∧ LkS (mi_y K).cls idx k ∧ okT K pc
    | _ => MOK k x ∧ RMok K k ∧ LkS (mi_y K).cls idx k ∧ mi_h k ≠ [])
  | _ => True
def lnOK (ln : Nat) (ins : Instr) : Prop := match ins with
  | .tableswitch _ _ _ _ => True
  | .lookupswitch _ _ => True
  | ins => ln = ilen ins
def okI (K : MI) (pc : Nat) (i : PI) : Prop := match i with
  | (ln, ins, x, y, u, v, k) => (match ins with
    | .athrow => 5 < (mi_rm K).frames ∧ mi_h K = [] ∧ AtOK (mi_y K).cls x y u k.1.cls k.1.name ∧ decode (mi_c K) pc = .ok (.new x, 3) ∧ decode (mi_c K) (pc + 3) = .ok (.dup, 1) ∧
      ((decode (mi_c K) (pc + 4) = .ok (.ldc y, 2) ∧ decode (mi_c K) (pc + 6) = .ok (.invokespecial u, 3) ∧ decode (mi_c K) (pc + 9) = .ok (.athrow, 1)) ∨ (decode (mi_c K) (pc + 4) = .ok (.ldc_w y, 3) ∧ decode (mi_c K) (pc + 7) = .ok (.invokespecial u, 3) ∧ decode (mi_c K) (pc + 10) = .ok (.athrow, 1)))
    | ins => decode (mi_c K) pc = .ok (ins, ln) ∧ lnOK ln ins ∧ sOK (mi_l K) ins = true ∧ okX K pc ins x y u v k)
def okL (K : MI) : Nat → List PI → Prop
  | _, [] => True
  | pc, i :: is => okI K pc i ∧ okL K (pc + i.1) is
section SOUND
variable {Γ : Amb} {K : MI} {Q : Option Value → Option Nat → PW → Prop} {QX : String → PW → Prop}
theorem hdl_ok {E : String} {ls : LSL} {st : List Value} {w : PW} {cs ss pc : Nat} (ht : okT K pc) (h : hdl Γ K Q QX E ls w cs ss) : GX Γ K Q QX E pc ls st w cs ss := by
  simp only [hdl] at h
  rcases hK : mi_h K with _ | ⟨a, t⟩
  · rw [hK] at h
    exact gx_out hK h.2.1 h.2.2 h.1
  · rw [hK] at h
    simp only at h
    rw [← hK] at h
    have key : ∀ (l pre : List ((Nat × Nat × Nat × Nat) × String)), mi_h K = pre ++ l → (∀ y ∈ pre, (E, y.2) ∈ NCs) → hxs (fun pc q => G Γ K Q QX pc ls [.ref q] none w cs ss) E l → GX Γ K Q QX E pc ls st w cs ss := by
      intro l
      induction l with
      | nil => intro pre _ _ h; exact h.elim
      | cons x t ih =>
        intro pre hp hn h
        obtain ⟨x, nm⟩ := x
        simp only [hxs] at h
        rcases h with ⟨h1, h2⟩ | ⟨h1, h2, h3⟩
        · subst h1
          obtain ⟨g1, g2, g3, g4⟩ := ht (x, nm) (by rw [hp]; simp)
          exact gx_catch pre x t hp (fun y hy => by
            obtain ⟨k1, k2, k3, k4⟩ := ht y (by rw [hp]; simp [hy])
            exact ⟨k2, k3, hn y hy⟩) g1 g2 g3 g4 h2
        · refine ih (pre ++ [(x, nm)]) (by rw [hp]; simp) (fun y hy => ?_) h3
          rcases List.mem_append.mp hy with hy | hy
          · exact hn y hy
          · have : y = (x, nm) := by simpa using hy
            subst this; exact h2
    exact key _ [] (by simp) (by simp) h
set_option maxHeartbeats 4000000 in
theorem stp_ok {ln : Nat} {ins : Instr} {x y u : Nat} {v : Int} {k : MI} {pc : Nat} {ls : LSL} {st : List Value} {z : Option Nat} {w : PW} {cs ss : Nat} {nx nc : NX} {jp : Nat → NX}
    (hok : okI K pc (ln, ins, x, y, u, v, k)) (hnx : ∀ ls st z w cs ss, nx ls st z w cs ss → G Γ K Q QX (pc + ln) ls st z w cs ss) (hnc : ∀ ls st z w cs ss, nc ls st z w cs ss → G Γ K Q QX (pc + ln) ls st z w cs ss) (hjp : ∀ t ls st z w cs ss, jp t ls st z w cs ss → G Γ K Q QX t ls st z w cs ss)
    (h : stp Γ K Q QX ins x y u v k pc ls st z w cs ss nx nc jp) : G Γ K Q QX pc ls st z w cs ss := by
  cases ins <;> simp only [stp] at h <;> first | exact h.elim | simp only [okI, lnOK, ilen, okX] at hok
  case getfield idx =>
    obtain ⟨hdg, rfl, -, hl⟩ := hok
    split at h <;> try exact h.elim
    split at h <;> try exact h.elim
    obtain ⟨rfl, h⟩ := h
    split at h <;> try exact h.elim
    exact g_get hl hdg (by assumption) (by assumption) (hnx _ _ _ _ _ _ h)
  case putfield idx =>
    obtain ⟨hdg, rfl, -, hl⟩ := hok
    split at h <;> try exact h.elim
    split at h <;> try exact h.elim
    obtain ⟨rfl, h1, h2, h⟩ := h
    exact g_put hl hdg (by assumption) h1 h2 (hnx _ _ _ _ _ _ h)
  all_goals sorry
end SOUND

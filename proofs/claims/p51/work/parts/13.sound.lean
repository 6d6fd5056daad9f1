/-! ITS SOUNDNESS -/
def nmC (ci : Nat) : Option String := (vwCl[ci]?).map (fun q => q.1)
/-- the rows of a body's table take what its calls throw -/
def okT (K : MI) (pc : Nat) : Prop := ∀ y ∈ mi_h K, covers ⟨y.1.1, y.1.2.1, y.1.2.2.1, y.1.2.2.2⟩ pc = true ∧ y.1.2.2.2 ≠ 0 ∧ Jvm.Cond.classLink (mi_y K).cls y.1.2.2.2 y.2 ∈ WS ∧ Jvm.Cond.castable y.2 y.2 ∈ NS
def okX (K : MI) (pc : Nat) (ins : Instr) (x y u : Nat) (v : Int) (k : MI) : Prop := match ins with
  | .getfield idx => LkF (mi_y K).cls idx x y
  | .putfield idx => LkP (mi_y K).cls (mi_y K).name idx x y
  | .new idx => LkN (mi_y K).cls idx x
  | .newarray aty => LkA x aty
  | .anewarray idx => LkQ (mi_y K).cls idx
  | .ldc_w idx => Jvm.Cond.constant (mi_y K).cls idx (Int32.ofInt v) ∈ WS
  | .ldc2_w idx => (match u with
    | 0 => Jvm.Cond.constantLong (mi_y K).cls idx (Int64.ofInt v) ∈ WS
    | _ => Jvm.Cond.constantDouble (mi_y K).cls idx (UInt64.ofNat x) ∈ WS)
  | .goto off => (pc : Int) + off = (x : Int)
  | .if_icmp _ off => (pc : Int) + off = (x : Int)
  | .ifCond _ off => (pc : Int) + off = (x : Int)
  | .dconst n => n.val < 2
  | .tableswitch dflt lo hi offs => lo + offs.toList.length = hi + 1 ∧ (pc : Int) + dflt = (x : Int) ∧ offs.toList.all (fun o => decide (0 ≤ (pc : Int) + o)) = true
  | .lookupswitch dflt ps => (ps.toList.zip (ps.toList.drop 1)).all (fun (a, next) => a.1 < next.1) = true ∧ (pc : Int) + dflt = (x : Int) ∧ ps.toList.all (fun o => decide (0 ≤ (pc : Int) + o.2)) = true
  | .lreturn => mi_r K = some .long
  | .dreturn => mi_r K = some .double
  | .areturn => mi_r K = some (.object RX7)
  | .return_ => mi_r K = none
  | .invokevirtual idx => MOK k x ∧ RMok K k ∧ mi_h k = [] ∧ nmC y = some (mi_y k).cls ∧ (match u with
    | 0 => LkV (mi_y K).cls idx k ∨ LkVN (mi_y K).cls idx k
    | _ => LkV (mi_y K).cls idx k ∧ okT K pc)
  | .invokespecial idx => (match u with
    | 0 => MOK k x ∧ RMok K k ∧ mi_h k = [] ∧ (LkI (mi_y K).cls idx k ∨ LkIN (mi_y K).cls idx k)
    | _ => LkO (mi_y K).cls idx ∧ 1 ≤ (mi_rm K).frames)
  | .invokestatic idx => (match u with
    | 3 => LkY (mi_y K).cls idx ∧ 1 ≤ (mi_rm K).frames
    | 4 => LkR (mi_y K).cls idx ∧ 1 ≤ (mi_rm K).frames
    | 5 => LkM (mi_y K).cls idx Lib.Math.min.name Lib.Math.min.code ∧ 1 ≤ (mi_rm K).frames
    | 6 => LkM (mi_y K).cls idx Lib.Math.max.name Lib.Math.max.code ∧ 1 ≤ (mi_rm K).frames
    | 0 => MOK k x ∧ RMok K k ∧ mi_h k = [] ∧ (LkS (mi_y K).cls idx k ∨ LkSN (mi_y K).cls idx k)
    | 1 => MOK k x ∧ RMok K k ∧ mi_h k = [] ∧ LkS (mi_y K).cls idx k ∧ okT K pc
    | _ => MOK k x ∧ RMok K k ∧ LkS (mi_y K).cls idx k ∧ mi_h k ≠ [])
  | _ => True
def lnOK (ln : Nat) (ins : Instr) : Prop := match ins with
  | .tableswitch _ _ _ _ => True
  | .lookupswitch _ _ => True
  | ins => ln = ilen ins
def okI (K : MI) (pc : Nat) (i : PI) : Prop := match i with
  | (ln, ins, x, y, u, v, k) => (match ins with
    | .athrow => 5 < (mi_rm K).frames ∧ mi_h K = [] ∧ AtOK (mi_y K).cls x y u k.1.cls k.1.name ∧ decode (mi_c K) pc = .ok (.new x, 3) ∧ decode (mi_c K) (pc + 3) = .ok (.dup, 1) ∧
      ((decode (mi_c K) (pc + 4) = .ok (.ldc y, 2) ∧ decode (mi_c K) (pc + 6) = .ok (.invokespecial u, 3) ∧ decode (mi_c K) (pc + 9) = .ok (.athrow, 1)) ∨ (decode (mi_c K) (pc + 4) = .ok (.ldc_w y, 3) ∧ decode (mi_c K) (pc + 7) = .ok (.invokespecial u, 3) ∧ decode (mi_c K) (pc + 10) = .ok (.athrow, 1)))
    | ins => decode (mi_c K) pc = .ok (ins, ln) ∧ lnOK ln ins ∧ sOK (mi_l K) ins = true ∧ okX K pc ins x y u v k)
def okL (K : MI) : Nat → List PI → Prop
  | _, [] => True
  | pc, i :: is => okI K pc i ∧ okL K (pc + i.1) is
section SOUND
variable {Γ : Amb} {K : MI} {Q : Option Value → Option Nat → PW → Prop} {QX : String → PW → Prop}
theorem hdl_ok {E : String} {ls : LSL} {st : List Value} {w : PW} {cs ss pc : Nat} (ht : okT K pc) (h : hdl Γ K Q QX E ls w cs ss) : GX Γ K Q QX E pc ls st w cs ss := by
  simp only [hdl] at h
  rcases hK : mi_h K with _ | ⟨a, t⟩
  · rw [hK] at h
    exact gx_out hK h.2.1 h.2.2 h.1
  · rw [hK] at h
    simp only at h
    rw [← hK] at h
    have key : ∀ (l pre : List ((Nat × Nat × Nat × Nat) × String)), mi_h K = pre ++ l → (∀ y ∈ pre, (E, y.2) ∈ NCs) → hxs (fun pc q => G Γ K Q QX pc ls [.ref q] none w cs ss) E l → GX Γ K Q QX E pc ls st w cs ss := by
      intro l
      induction l with
      | nil => intro pre _ _ h; exact h.elim
      | cons x t ih =>
        intro pre hp hn h
        obtain ⟨x, nm⟩ := x
        simp only [hxs] at h
        rcases h with ⟨h1, h2⟩ | ⟨h1, h2, h3⟩
        · subst h1
          obtain ⟨g1, g2, g3, g4⟩ := ht (x, nm) (by rw [hp]; simp)
          exact gx_catch pre x t hp (fun y hy => by
            obtain ⟨k1, k2, k3, k4⟩ := ht y (by rw [hp]; simp [hy])
            exact ⟨k2, k3, hn y hy⟩) g1 g2 g3 g4 h2
        · refine ih (pre ++ [(x, nm)]) (by rw [hp]; simp) (fun y hy => ?_) h3
          rcases List.mem_append.mp hy with hy | hy
          · exact hn y hy
          · have : y = (x, nm) := by simpa using hy
            subst this; exact h2
    exact key _ [] (by simp) (by simp) h
set_option maxHeartbeats 4000000 in
theorem stp_ok {ln : Nat} {ins : Instr} {x y u : Nat} {v : Int} {k : MI} {pc : Nat} {ls : LSL} {st : List Value} {z : Option Nat} {w : PW} {cs ss : Nat} {nx nc : NX} {jp : Nat → NX}
    (hok : okI K pc (ln, ins, x, y, u, v, k)) (hnx : ∀ ls st z w cs ss, nx ls st z w cs ss → G Γ K Q QX (pc + ln) ls st z w cs ss) (hnc : ∀ ls st z w cs ss, nc ls st z w cs ss → G Γ K Q QX (pc + ln) ls st z w cs ss) (hjp : ∀ t ls st z w cs ss, jp t ls st z w cs ss → G Γ K Q QX t ls st z w cs ss)
    (h : stp Γ K Q QX ins x y u v k pc ls st z w cs ss nx nc jp) : G Γ K Q QX pc ls st z w cs ss := by
  cases ins <;> simp only [stp] at h <;> first | exact h.elim | simp only [okI, lnOK, ilen, okX] at hok
  case getfield idx =>
    obtain ⟨hdg, rfl, -, hl⟩ := hok
    split at h <;> try exact h.elim
    split at h <;> try exact h.elim
    obtain ⟨rfl, h⟩ := h
    split at h <;> try exact h.elim
    exact g_get hl hdg (by assumption) (by assumption) (hnx _ _ _ _ _ _ h)
  case putfield idx =>
    obtain ⟨hdg, rfl, -, hl⟩ := hok
    split at h <;> try exact h.elim
    split at h <;> try exact h.elim
    obtain ⟨rfl, h1, h2, h⟩ := h
    exact g_put hl hdg (by assumption) h1 h2 (hnx _ _ _ _ _ _ h)
  case arraylength =>
    obtain ⟨hdg, rfl, -, -⟩ := hok
    split at h <;> try exact h.elim
    split at h <;> try exact h.elim
    exact g_alen hdg (by assumption) h.1 (hnx _ _ _ _ _ _ h.2)
  case iaload =>
    obtain ⟨hdg, rfl, -, -⟩ := hok
    split at h <;> try exact h.elim
    split at h <;> try exact h.elim
    exact g_iaload hdg (by assumption) h.1 (hnx _ _ _ _ _ _ h.2)
  case laload =>
    obtain ⟨hdg, rfl, -, -⟩ := hok
    split at h <;> try exact h.elim
    split at h <;> try exact h.elim
    exact g_laload hdg (by assumption) h.1 (hnx _ _ _ _ _ _ h.2)
  case aaload =>
    obtain ⟨hdg, rfl, -, -⟩ := hok
    split at h <;> try exact h.elim
    split at h <;> try exact h.elim
    exact g_aaload hdg (by assumption) h.1 (hnx _ _ _ _ _ _ h.2)
  case iastore =>
    obtain ⟨hdg, rfl, -, -⟩ := hok
    split at h <;> try exact h.elim
    split at h <;> try exact h.elim
    exact g_iastore hdg (by assumption) h.1 (hnx _ _ _ _ _ _ h.2)
  case lastore =>
    obtain ⟨hdg, rfl, -, -⟩ := hok
    split at h <;> try exact h.elim
    split at h <;> try exact h.elim
    exact g_lastore hdg (by assumption) h.1 (hnx _ _ _ _ _ _ h.2)
  case aastore =>
    obtain ⟨hdg, rfl, -, -⟩ := hok
    split at h <;> try exact h.elim
    split at h <;> try exact h.elim
    obtain ⟨h1, ⟨fs, h2⟩, h3⟩ := h
    exact g_aastore hdg (by assumption) h1 h2 (hnx _ _ _ _ _ _ h3)
  case new idx =>
    obtain ⟨hdg, rfl, -, hl⟩ := hok
    split at h <;> try exact h.elim
    exact g_new hl hdg ⟨h.1, h.2.1⟩ (hnx _ _ _ _ _ _ h.2.2)
  case newarray aty =>
    obtain ⟨hdg, rfl, -, hl⟩ := hok
    split at h <;> try exact h.elim
    split at h <;> try exact h.elim
    obtain ⟨h1, h2, h3, h4, h5⟩ := h
    exact g_newarray hl hdg h1 rfl h2 ⟨h3, h4⟩ (hnx _ _ _ _ _ _ h5)
  case anewarray idx =>
    obtain ⟨hdg, rfl, -, hl⟩ := hok
    split at h <;> try exact h.elim
    split at h <;> try exact h.elim
    obtain ⟨h1, h2, h3, h4, h5⟩ := h
    exact g_anewarray hl hdg h1 rfl h2 ⟨h3, h4⟩ (hnx _ _ _ _ _ _ h5)
  case idiv =>
    obtain ⟨hdg, rfl, -, -⟩ := hok
    split at h <;> try exact h.elim
    exact g_idiv hdg h.1 (hnx _ _ _ _ _ _ h.2)
  case irem =>
    obtain ⟨hdg, rfl, -, -⟩ := hok
    split at h <;> try exact h.elim
    exact g_irem hdg h.1 (hnx _ _ _ _ _ _ h.2)
  case ddiv =>
    obtain ⟨hdg, rfl, -, -⟩ := hok
    split at h <;> try exact h.elim
    exact g_ddiv hdg h.1 (hnx _ _ _ _ _ _ h.2)
  case dmul =>
    obtain ⟨hdg, rfl, -, -⟩ := hok
    split at h <;> try exact h.elim
    exact g_dmul hdg h.1 (hnx _ _ _ _ _ _ h.2)
  case dsub =>
    obtain ⟨hdg, rfl, -, -⟩ := hok
    split at h <;> try exact h.elim
    exact g_dsub hdg h.1 (hnx _ _ _ _ _ _ h.2)
  case dconst n =>
    obtain ⟨hdg, rfl, -, hn⟩ := hok
    split at h
    · rename_i h0
      have : n = 0 := Fin.ext h0
      subst this
      exact g_dconst0 hdg (hnx _ _ _ _ _ _ h)
    · rename_i h0
      have h1 : n.val = 1 := by have : n.val ≠ 0 := h0; omega
      have : n = 1 := Fin.ext h1
      subst this
      exact g_dconst1 hdg (hnx _ _ _ _ _ _ h)
  case ldc_w idx =>
    obtain ⟨hdg, rfl, -, hl⟩ := hok
    exact g_ldc hl hdg (hnx _ _ _ _ _ _ h)
  case ldc2_w idx =>
    obtain ⟨hdg, rfl, -, hl⟩ := hok
    split at h
    · exact g_ldc2 hl hdg (hnx _ _ _ _ _ _ h)
    · rename_i hu
      split at hl
      · exact absurd rfl hu
      · exact g_ldc2d hl hdg (hnx _ _ _ _ _ _ h)
  case goto off =>
    obtain ⟨hdg, rfl, -, hl⟩ := hok
    exact g_goto hdg hl (hjp _ _ _ _ _ _ _ h)
  case if_icmp op off =>
    obtain ⟨hdg, rfl, -, hl⟩ := hok
    split at h <;> try exact h.elim
    exact g_icmp hdg hl (fun q => hjp _ _ _ _ _ _ _ (h.1 q)) (fun q => hnx _ _ _ _ _ _ (h.2 q))
  case ifCond op off =>
    obtain ⟨hdg, rfl, -, hl⟩ := hok
    split at h <;> try exact h.elim
    exact g_if hdg hl (fun q => hjp _ _ _ _ _ _ _ (h.1 q)) (fun q => hnx _ _ _ _ _ _ (h.2 q))
  case ifnull off =>
    obtain ⟨hdg, rfl, -, hl⟩ := hok
    split at h <;> try exact h.elim
    exact g_ifnull hdg (hnx _ _ _ _ _ _ h)
  case tableswitch dflt lo hi offs =>
    obtain ⟨hdg, -, -, h1, h2, h3⟩ := hok
    split at h <;> try exact h.elim
    rename_i a r
    refine g_tsw hdg h1 h2 h3 ?_
    have key : ∀ (l : List Int) (k : Int) (d : Nat) (vv : Int), tsw (fun t => jp t ls r z w cs ss) pc vv k l d → tsw (fun t => G Γ K Q QX t ls r z w cs ss) pc vv k l d := by
      intro l
      induction l with
      | nil => intro k d vv h; exact hjp _ _ _ _ _ _ _ h
      | cons a t ih => intro k d vv h; exact ⟨fun q => hjp _ _ _ _ _ _ _ (h.1 q), fun q => ih _ _ _ (h.2 q)⟩
    exact key _ _ _ _ h
  case lookupswitch dflt ps =>
    obtain ⟨hdg, -, -, h1, h2, h3⟩ := hok
    split at h <;> try exact h.elim
    rename_i a r
    refine g_lsw hdg h1 h2 h3 ?_
    have key : ∀ (l : List (Int × Int)) (d : Nat) (vv : Int), lsw (fun t => jp t ls r z w cs ss) pc vv l d → lsw (fun t => G Γ K Q QX t ls r z w cs ss) pc vv l d := by
      intro l
      induction l with
      | nil => intro d vv h; exact hjp _ _ _ _ _ _ _ h
      | cons a t ih => obtain ⟨a1, a2⟩ := a; intro d vv h; exact ⟨fun q => hjp _ _ _ _ _ _ _ (h.1 q), fun q => ih _ _ (h.2 q)⟩
    exact key _ _ _ h
  case ireturn =>
    obtain ⟨hdg, rfl, -, -⟩ := hok
    split at h <;> try exact h.elim
    exact g_ret (v := some (.int _)) hdg h.1 ⟨h.2.1, h.2.2.1⟩ h.2.2.2
  case lreturn =>
    obtain ⟨hdg, rfl, -, hr⟩ := hok
    split at h <;> try exact h.elim
    exact g_ret (v := some (.long _)) hdg hr ⟨h.1, h.2.1⟩ h.2.2
  case dreturn =>
    obtain ⟨hdg, rfl, -, hr⟩ := hok
    split at h <;> try exact h.elim
    exact g_ret (v := some (.double _)) hdg hr ⟨h.1, h.2.1⟩ h.2.2
  case areturn =>
    obtain ⟨hdg, rfl, -, hr⟩ := hok
    split at h <;> try exact h.elim
    exact g_ret (v := some (.ref _)) hdg hr ⟨h.1, h.2.1⟩ h.2.2
  case return_ =>
    obtain ⟨hdg, rfl, -, hr⟩ := hok
    split at h <;> try exact h.elim
    exact g_ret (v := none) hdg hr ⟨h.1, h.2.1⟩ h.2.2
  case athrow =>
    obtain ⟨h5, hh, hat, d0, d3, d4⟩ := hok
    obtain ⟨h1, h2, h3, h4⟩ := h
    exact g_throw hat hh d0 d3 d4 ⟨h5, by rw [csum_eq]; exact h1, h2, h3⟩ rfl h4
  case invokevirtual idx =>
    obtain ⟨hdg, rfl, -, hm, hr, hh, hy, hl⟩ := hok
    split at h <;> try exact h.elim
    rename_i As a r hp
    split at h <;> try exact h.elim
    rename_i ci fs hw
    obtain ⟨rfl, hc, h1, h2, h⟩ := h
    obtain ⟨Bs, e1, e2, e3⟩ := popN_spec _ _ _ _ _ hp
    rw [List.append_nil] at e1
    subst e1
    split at h
    · exact g_callV hm hr hh hl hdg e2 e3 (by rw [csum_eq]; exact hc) hw hy ⟨h1, h2⟩ (Sp.mono h (fun _ _ _ q => hnc _ _ _ _ _ _ q))
    · rename_i hu
      split at hl
      · exact absurd rfl hu
      · exact g_callVX hm hr hh hl.1 hdg e2 e3 (by rw [csum_eq]; exact hc) hw hy ⟨h1, h2⟩ (SpX.mono h (fun _ _ _ q => hnc _ _ _ _ _ _ q) (fun _ _ q => hdl_ok hl.2 q))
  case invokespecial idx =>
    split at h
    · obtain ⟨hdg, rfl, -, hm, hr, hh, hl⟩ := hok
      split at h <;> try exact h.elim
      rename_i As a r hp
      obtain ⟨hc, h1, h2, h⟩ := h
      obtain ⟨Bs, e1, e2, e3⟩ := popN_spec _ _ _ _ _ hp
      rw [List.append_nil] at e1
      subst e1
      exact g_callI hm hr hh hl hdg e2 e3 (by rw [csum_eq]; exact hc) ⟨h1, h2⟩ (Sp.mono h (fun _ _ _ q => hnc _ _ _ _ _ _ q))
    · rename_i hu
      obtain ⟨hdg, rfl, -, hl⟩ := hok
      split at hl
      · exact absurd rfl hu
      · split at h <;> try exact h.elim
        exact g_objInit hl.1 hdg ⟨hl.2, by rw [csum_eq]; exact h.1⟩ (hnx _ _ _ _ _ _ h.2)
  case invokestatic idx =>
    obtain ⟨hdg, rfl, -, hl⟩ := hok
    split at h
    · obtain ⟨hl, hfr⟩ := hl
      split at h <;> try exact h.elim
      obtain ⟨h1, h2, h3, h4, h⟩ := h
      split at h <;> try exact h.elim
      · exact g_copyi hl hdg (by assumption) (by assumption) h1 h2 h3 h.1 h.2.1 ⟨hfr, by rw [csum_eq]; exact h4⟩ (hnx _ _ _ _ _ _ h.2.2)
      · exact g_copyl hl hdg (by assumption) (by assumption) h1 h2 h3 h.1 h.2.1 ⟨hfr, by rw [csum_eq]; exact h4⟩ (hnx _ _ _ _ _ _ h.2.2)
    · obtain ⟨hl, hfr⟩ := hl
      split at h <;> try exact h.elim
      exact g_raw hl hdg ⟨hfr, by rw [csum_eq]; exact h.1⟩ (hnx _ _ _ _ _ _ h.2)
    · obtain ⟨hl, hfr⟩ := hl
      split at h <;> try exact h.elim
      exact g_mmin hl hdg ⟨hfr, by rw [csum_eq]; exact h.1⟩ ⟨h.2.1, h.2.2.1⟩ (hnx _ _ _ _ _ _ h.2.2.2)
    · obtain ⟨hl, hfr⟩ := hl
      split at h <;> try exact h.elim
      exact g_mmax hl hdg ⟨hfr, by rw [csum_eq]; exact h.1⟩ ⟨h.2.1, h.2.2.1⟩ (hnx _ _ _ _ _ _ h.2.2.2)
    · rename_i hu3 hu4 hu5 hu6
      split at h <;> try exact h.elim
      rename_i As r hp
      obtain ⟨Bs, e1, e2, e3⟩ := popN_spec _ _ _ _ _ hp
      rw [List.append_nil] at e1
      subst e1
      obtain ⟨hc, h1, h2, h⟩ := h
      split at h
      · obtain ⟨hm, hr, hh, hl, ht⟩ := hl
        exact g_callSX hm hr hh hl hdg e2 e3 (by rw [csum_eq]; exact hc) ⟨h1, h2⟩ (SpX.mono h (fun _ _ _ q => hnc _ _ _ _ _ _ q) (fun _ _ q => hdl_ok ht q))
      · rename_i hu1
        split at hl
        · exact absurd rfl hu3
        · exact absurd rfl hu4
        · exact absurd rfl hu5
        · exact absurd rfl hu6
        · obtain ⟨hm, hr, hh, hl⟩ := hl
          exact g_callS hm hr hh hl hdg e2 e3 (by rw [csum_eq]; exact hc) ⟨h1, h2⟩ (Sp.mono h (fun _ _ _ q => hnc _ _ _ _ _ _ q))
        · exact absurd rfl hu1
        · obtain ⟨hm, hr, hl, hh⟩ := hl
          rcases hK : mi_h k with _ | ⟨a, t⟩
          · exact absurd hK hh
          · exact g_callSW hm hr hK hl hdg e2 e3 (by rw [csum_eq]; exact hc) ⟨h1, h2⟩ (Sp.mono h (fun _ _ _ q => hnc _ _ _ _ _ _ q))
theorem wp_ok {cd : Nat → Option (List PI)} (hcd : ∀ t is, cd t = some is → okL K t is) : ∀ (f pc : Nat) (is : List PI) (ls : LSL) (st : List Value) (z : Option Nat) (w : PW) (cs ss : Nat), okL K pc is → wp Γ K Q QX cd f pc is ls st z w cs ss → G Γ K Q QX pc ls st z w cs ss := by
  intro f
  induction f with
  | zero => intro pc is ls st z w cs ss _ h; exact h
  | succ f ih =>
    intro pc is ls st z w cs ss hok h
    cases is with
    | nil =>
      simp only [wp] at h
      split at h
      · rename_i is' hc
        exact ih _ _ _ _ _ _ _ _ (hcd _ _ hc) h
      · exact h
    | cons i is =>
      obtain ⟨ln, ins, x, y, u, v, k⟩ := i
      obtain ⟨h1, h2⟩ := hok
      simp only [wp] at h
      split at h
      · rename_i q hq
        have hx := ih _ _ _ _ _ _ _ _ h2 h
        have hd : decode (mi_c K) pc = .ok (ins, ln) ∧ ln = ilen ins ∧ sOK (mi_l K) ins = true := by
          cases ins <;> first | exact ⟨h1.1, h1.2.1, h1.2.2.1⟩ | (simp only [pst] at hq; cases hq)
        exact g_pst hd.1 hd.2.1 hd.2.2 hq hx
      · refine stp_ok h1 (fun _ _ _ _ _ _ q => ih _ _ _ _ _ _ _ _ h2 q) (fun _ _ _ _ _ _ q => ih _ (holdL is) _ _ _ _ _ _ h2 q) (fun t _ _ _ _ _ _ q => ?_) h
        split at q
        · rename_i is' hc
          exact ih _ _ _ _ _ _ _ _ (hcd _ _ hc) q
        · exact q
end SOUND
/-- the checks that a program makes: what the bytes say -/
def lnB (ln : Nat) (ins : Instr) : Bool := match ins with
  | .tableswitch _ _ _ _ => true
  | .lookupswitch _ _ => true
  | ins => decide (ln = ilen ins)
def dB (c : ByteArray) (n : Nat) : Nat → List PI → Bool
  | _, [] => true
  | pc, (ln, ins, _, y, u, _, _) :: is => (match ins with
    | .athrow => true
    | ins => decide (decode c pc = .ok (ins, ln)) && (lnB ln ins && sOK n ins)) && dB c n (pc + ln) is
def okXi (K : MI) (pc : Nat) (i : PI) : Prop := match i with
  | (ln, ins, x, y, u, v, k) => (match ins with
    | .athrow => okI K pc (ln, .athrow, x, y, u, v, k)
    | ins => okX K pc ins x y u v k)
def okXs (K : MI) : Nat → List PI → Prop
  | _, [] => True
  | pc, i :: is => okXi K pc i ∧ okXs K (pc + i.1) is
theorem lnB_ok {ln : Nat} {ins : Instr} (h : lnB ln ins = true) : lnOK ln ins := by
  cases ins <;> simp only [lnB, lnOK] at h ⊢ <;> exact of_decide_eq_true h
theorem okL_of {K : MI} : ∀ (is : List PI) (pc : Nat), dB (mi_c K) (mi_l K) pc is = true → okXs K pc is → okL K pc is := by
  intro is
  induction is with
  | nil => intro pc _ _; trivial
  | cons i is ih =>
    obtain ⟨ln, ins, x, y, u, v, k⟩ := i
    intro pc h1 h2
    obtain ⟨h2, h3⟩ := h2
    simp only [dB, Bool.and_eq_true] at h1
    refine ⟨?_, ih _ h1.2 h3⟩
    cases ins <;> first | exact h2 | (simp only [Bool.and_eq_true, decide_eq_true_eq] at h1; exact ⟨h1.1.1, lnB_ok h1.1.2.1, h1.1.2.2, h2⟩)

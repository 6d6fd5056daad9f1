def ilen : Instr → Nat
  | .aload _ | .iload _ | .lload _ | .dload _ | .istore _ | .lstore _ | .dstore _ | .astore _ | .bipush _ | .newarray _ => 2
  | .iinc _ _ | .sipush _ | .getfield _ | .putfield _ | .new _ | .anewarray _ | .ldc_w _ | .ldc2_w _ | .goto _ | .if_icmp _ _ | .ifCond _ _ | .ifnull _ | .invokevirtual _ | .invokespecial _ | .invokestatic _ => 3
  | _ => 1
def sOK (n : Nat) : Instr → Bool
  | .istore_n k => decide (k.val < n)
  | .istore k => decide (k < n)
  | .astore_n k => decide (k.val < n)
  | .astore k => decide (k < n)
  | .iinc k _ => decide (k < n)
  | .lstore_n k => decide (k.val + 1 < n)
  | .lstore k => decide (k + 1 < n)
  | .dstore_n k => decide (k.val + 1 < n)
  | .dstore k => decide (k + 1 < n)
  | _ => true
theorem two_f {v : Value} (h : two v = false) : v.category = 1 := by cases v <;> simp [two, Value.category] at *
set_option maxHeartbeats 4000000 in
theorem g_pst {Γ : Amb} {K : MI} {Q : Option Value → Option Nat → PW → Prop} {QX : String → PW → Prop} {pc : Nat} {ls ls' : LSL} {st st' : List Value} {z : Option Nat} {w : PW} {cs ss ln : Nat} {ins : Instr}
    (hdg : decode (mi_c K) pc = .ok (ins, ln)) (hln : ln = ilen ins) (hs : sOK (mi_l K) ins = true) (h : pst ins ls st = some (ls', st')) (kk : G Γ K Q QX (pc + ln) ls' st' z w cs ss) : G Γ K Q QX pc ls st z w cs ss := by
  intro p e s m args below meth c FP C H locs A hA hW hS
  obtain ⟨hx, hb, hml, -⟩ := id C
  have kk' : ∀ A', LH A' (mi_l K) ls' → W p Γ.1.1 e (mi_rm K) s m args below meth c H locs cs ss FP (F0 m (pc + ln) A' st') := fun A' hA' => kk p e s m args below meth c FP C H locs A' hA' hW hS
  cases ins <;> simp only [pst] at h <;> first | (cases h; done) | skip
  case aload_n k => split at h <;> cases h; subst hln; exact lv_aload_n hx hb hdg rfl (LG_at hA (by assumption)) (kk' A hA)
  case aload k => split at h <;> cases h; subst hln; exact lv_aload hx hb hdg (LG_at hA (by assumption)) (kk' A hA)
  case iload_n k => split at h <;> cases h; subst hln; exact lv_iload_n hx hb hdg rfl (LG_at hA (by assumption)) (kk' A hA)
  case iload k => split at h <;> cases h; subst hln; exact lv_iload hx hb hdg (LG_at hA (by assumption)) (kk' A hA)
  case lload_n k => split at h <;> cases h; subst hln; exact lv_lload_n hx hb hdg rfl (LG_at hA (by assumption)) (kk' A hA)
  case lload k => split at h <;> cases h; subst hln; exact lv_lload hx hb hdg (LG_at hA (by assumption)) (kk' A hA)
  case dload_n k => split at h <;> cases h; subst hln; exact lv_dload_n hx hb hdg rfl (LG_at hA (by assumption)) (kk' A hA)
  case dload k => split at h <;> cases h; subst hln; exact lv_dload hx hb hdg (LG_at hA (by assumption)) (kk' A hA)
  case istore_n k => split at h <;> cases h; subst hln; exact lv_istore_n hx hb hdg rfl (la_has hA) (of_decide_eq_true hs) rfl (fun A' h' => kk' A' (lput_one (A := A) rfl h'))
  case istore k => split at h <;> cases h; subst hln; exact lv_istore hx hb hdg (la_has hA) (of_decide_eq_true hs) rfl (fun A' h' => kk' A' (lput_one (A := A) rfl h'))
  case astore_n k => split at h <;> cases h; subst hln; exact lv_astore_n hx hb hdg rfl (la_has hA) (of_decide_eq_true hs) rfl (fun A' h' => kk' A' (lput_one (A := A) rfl h'))
  case astore k => split at h <;> cases h; subst hln; exact lv_astore hx hb hdg (la_has hA) (of_decide_eq_true hs) rfl (fun A' h' => kk' A' (lput_one (A := A) rfl h'))
  case lstore_n k => split at h <;> cases h; subst hln; exact lv_lstore_n hx hb hdg rfl (la_has hA) (of_decide_eq_true hs) rfl (fun A' h' => kk' A' (lput_two (A := A) rfl h'))
  case lstore k => split at h <;> cases h; subst hln; exact lv_lstore hx hb hdg (la_has hA) (of_decide_eq_true hs) rfl (fun A' h' => kk' A' (lput_two (A := A) rfl h'))
  case dstore_n k => split at h <;> cases h; subst hln; exact lv_dstore_n hx hb hdg rfl (la_has hA) (of_decide_eq_true hs) rfl (fun A' h' => kk' A' (lput_two (A := A) rfl h'))
  case dstore k => split at h <;> cases h; subst hln; exact lv_dstore hx hb hdg (la_has hA) (of_decide_eq_true hs) rfl (fun A' h' => kk' A' (lput_two (A := A) rfl h'))
  case iinc k n =>
    split at h <;> cases h
    rename_i x hx1
    subst hln
    have hm : (k, Value.int x) ∈ la 0 ls := (la_mem ls 0 k _).mpr ⟨k, by omega, by
      simp only [LG] at hx1
      split at hx1
      · rename_i o ho; rw [ho, hx1]
      · cases hx1⟩
    obtain ⟨i, hi⟩ := List.getElem?_of_mem hm
    exact lv_iinc hx hb hdg (la_has hA) (k := i) hi rfl (of_decide_eq_true hs) rfl (fun A' h' => kk' A' (lput_one (A := A) rfl h'))
  case iconst n => cases h; subst hln; exact lv_iconst hx hb hdg rfl (kk' A hA)
  case bipush n => cases h; subst hln; exact lv_bipush hx hb hdg rfl (kk' A hA)
  case sipush n => cases h; subst hln; exact lv_sipush hx hb hdg rfl (kk' A hA)
  case lconst n => cases h; subst hln; exact lv_lconst hx hb hdg rfl (kk' A hA)
  case aconst_null => cases h; subst hln; exact lv_null hx hb hdg (kk' A hA)
  case pop => split at h <;> (try cases h); split at h <;> cases h; subst hln; exact lv_pop hx hb hdg (two_f (by assumption)) (kk' A hA)
  case dup => split at h <;> (try cases h); split at h <;> cases h; subst hln; exact lv_dup hx hb hdg (two_f (by assumption)) (kk' A hA)
  case dup2 => split at h <;> (try cases h); split at h <;> cases h; subst hln; exact lv_dup2_11 hx hb hdg (two_f (by assumption)) (two_f (by assumption)) (kk' A hA)
  case iadd => split at h <;> cases h; subst hln; exact lv_iadd hx hb hdg (kk' A hA)
  case isub => split at h <;> cases h; subst hln; exact lv_isub hx hb hdg (kk' A hA)
  case imul => split at h <;> cases h; subst hln; exact lv_imul hx hb hdg (kk' A hA)
  case iand => split at h <;> cases h; subst hln; exact lv_iand hx hb hdg (kk' A hA)
  case ior => split at h <;> cases h; subst hln; exact lv_ior hx hb hdg (kk' A hA)
  case ixor => split at h <;> cases h; subst hln; exact lv_ixor hx hb hdg (kk' A hA)
  case ishl => split at h <;> cases h; subst hln; exact lv_ishl hx hb hdg (kk' A hA)
  case ishr => split at h <;> cases h; subst hln; exact lv_ishr hx hb hdg (kk' A hA)
  case iushr => split at h <;> cases h; subst hln; exact lv_iushr hx hb hdg rfl (kk' A hA)
  case ladd => split at h <;> cases h; subst hln; exact lv_ladd hx hb hdg (kk' A hA)
  case lsub => split at h <;> cases h; subst hln; exact lv_lsub hx hb hdg (kk' A hA)
  case lmul => split at h <;> cases h; subst hln; exact lv_lmul hx hb hdg (kk' A hA)
  case land => split at h <;> cases h; subst hln; exact lv_land hx hb hdg (kk' A hA)
  case lor => split at h <;> cases h; subst hln; exact lv_lor hx hb hdg (kk' A hA)
  case lxor => split at h <;> cases h; subst hln; exact lv_lxor hx hb hdg (kk' A hA)
  case lcmp => split at h <;> cases h; subst hln; exact W.lcmp hx hb hdg (kk' A hA)
  case lshl => split at h <;> cases h; subst hln; exact lv_lshl hx hb hdg rfl (kk' A hA)
  case lushr => split at h <;> cases h; subst hln; exact lv_lushr hx hb hdg rfl (kk' A hA)
  case i2l => split at h <;> cases h; subst hln; exact lv_i2l hx hb hdg rfl (kk' A hA)
  case l2i => split at h <;> cases h; subst hln; exact lv_l2i hx hb hdg rfl (kk' A hA)
  case i2d => split at h <;> cases h; subst hln; exact lv_i2d hx hb hdg (kk' A hA)
  case d2l => split at h <;> cases h; subst hln; exact lv_d2l hx hb hdg (kk' A hA)
  case dcmp op => split at h <;> cases h; subst hln; exact lv_dcmp hx hb hdg (kk' A hA)

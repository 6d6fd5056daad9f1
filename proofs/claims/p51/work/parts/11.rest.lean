theorem WD.cut {Γ : Amb} {z : Option Nat} {w : PW} {H : Heap} (h : WD Γ z w H) {a a2 : Nat} {e e2 : va_E} (ha : w a = some e) (ha2 : w a2 = some e2) (e' : va_E) : ∃ (L : List Nat) (k k2 : Nat), va_P Γ.2.1 vwCl (va_pl L (wf Γ.2.2.1 w)) H ∧ va_D (AA Γ.2.2.2) (va_pl L (wf Γ.2.2.1 w)) ∧ (va_pl L (wf Γ.2.2.1 w))[k]? = some (a, ce Γ.2.2.1 e) ∧ (va_pl L (wf Γ.2.2.1 w))[k2]? = some (a2, ce Γ.2.2.1 e2) ∧
    ∀ H1 : Heap, va_P Γ.2.1 vwCl ((va_pl L (wf Γ.2.2.1 w)).set k (a, ce Γ.2.2.1 e')) H1 → va_D (AA Γ.2.2.2) ((va_pl L (wf Γ.2.2.1 w)).set k (a, ce Γ.2.2.1 e')) → WD Γ none (up w a e') H1 := by
  obtain ⟨L, h1, h2, h3, h4⟩ := h
  have hL := (h1 a).mpr ⟨e, ha⟩
  obtain ⟨k, hk⟩ := va_pl_get (X := []) (f := wf Γ.2.2.1 w) hL
  obtain ⟨k2, hk2⟩ := va_pl_get (X := []) (f := wf Γ.2.2.1 w) ((h1 a2).mpr ⟨e2, ha2⟩)
  have he : wf Γ.2.2.1 w a = ce Γ.2.2.1 e := by simp [wf, ha]
  have he2 : wf Γ.2.2.1 w a2 = ce Γ.2.2.1 e2 := by simp [wf, ha2]
  have hk' : (va_pl L (wf Γ.2.2.1 w))[k]? = some (a, wf Γ.2.2.1 w a) := by simpa using hk
  have hk2' : (va_pl L (wf Γ.2.2.1 w))[k2]? = some (a2, wf Γ.2.2.1 w a2) := by simpa using hk2
  refine ⟨L, k, k2, h2, h3, by rw [← he]; exact hk', by rw [← he2]; exact hk2', fun H1 hP hD => ⟨L, fun b => ?_, ?_, ?_, fun z0 hz => nomatch hz⟩⟩
  · by_cases hb : b = a
    · subst hb; simp [up, hL]
    · simp [up, hb, h1 b]
  all_goals
    have hset : (va_pl L (wf Γ.2.2.1 w)).set k (a, ce Γ.2.2.1 e') = va_pl L (wf Γ.2.2.1 (up w a e')) := by
      have q := va_pl_set (X := []) (A := AA Γ.2.2.2) (f := wf Γ.2.2.1 w) (e := ce Γ.2.2.1 e') (by simpa using h3) hL (by simpa using hk)
      simp only [List.nil_append] at q
      rw [q]
      apply va_pl_congr
      intro b
      by_cases hb : b = a
      · subst hb; simp [va_up, wf, up]
      · simp [va_up, wf, up, hb]
  · rw [← hset]; exact hP
  · rw [← hset]; exact hD
def LkY (own : String) (idx : Nat) : Prop := Jvm.Cond.methodLink own idx arraycopyName ∈ WS ∧ Jvm.Cond.native arraycopyName ∈ WS ∧ Jvm.Cond.static arraycopyName ∈ WS ∧ Jvm.Cond.initialized "java/lang/System" ∈ WS
def dRB : MethodName := ⟨"java/lang/Double", "doubleToRawLongBits", "(D)J"⟩
def LkR (own : String) (idx : Nat) : Prop := Jvm.Cond.methodLink own idx dRB ∈ WS ∧ Jvm.Cond.native dRB ∈ WS ∧ Jvm.Cond.static dRB ∈ WS ∧ Jvm.Cond.initialized "java/lang/Double" ∈ WS
def LkO (own : String) (idx : Nat) : Prop := Jvm.Cond.methodLink own idx Lib.objectInit ∈ WS ∧ Jvm.Cond.instanceMethod Lib.objectInit ∈ WS ∧ Jvm.Cond.code Lib.objectInit ⟨#[0xb1]⟩ 1 none ∈ WS
def LkM (own : String) (idx : Nat) (y : MethodName) (bs : ByteArray) : Prop := Jvm.Cond.methodLink own idx y ∈ WS ∧ Jvm.Cond.static y ∈ WS ∧ Jvm.Cond.initialized "java/lang/Math" ∈ WS ∧ Jvm.Cond.code y bs 2 (some .int) ∈ WS
section GR
variable {Γ : Amb} {K : MI} {Q : Option Value → Option Nat → PW → Prop} {QX : String → PW → Prop} {pc tgt : Nat} {ls : LSL} {st rest : List Value} {z : Option Nat} {w : PW} {cs ss : Nat} {idx x y a n : Nat} {off : Int}
theorem g_copyi {a0 n0 n1 : Nat} {f g : Nat → Int32} {sp dp m0 : Int32} (hl : LkY (mi_y K).cls idx) (hdg : decode (mi_c K) pc = .ok (.invokestatic idx, 3)) (ha0 : w a0 = some (.inl (0, n0, .inl f))) (ha1 : w a = some (.inl (0, n1, .inl g)))
    (h1 : ¬ sp < 0) (h2 : ¬ dp < 0) (h3 : ¬ m0 < 0) (h4 : sp.toNatClampNeg + m0.toNatClampNeg ≤ n0) (h5 : dp.toNatClampNeg + m0.toNatClampNeg ≤ n1) (hR : 1 ≤ (mi_rm K).frames ∧ (rest.map fun v => v.category).sum + 24 ≤ (mi_rm K).locals)
    (kk : G Γ K Q QX (pc + 3) ls rest none (up w a (.inl (0, n1, .inl (va_cpy f g sp.toNatClampNeg dp.toNatClampNeg m0.toNatClampNeg)))) cs ss) : G Γ K Q QX pc ls (.int m0 :: .int dp :: .ref a :: .int sp :: .ref a0 :: rest) z w cs ss := by
  intro p e s m args below meth c FP C H locs A hA hW hS
  obtain ⟨hx, hb, hml, hown, hin, hlk, htab, hts, hK, hST, hb0, -, -⟩ := id C
  obtain ⟨L, k, k2, hP, hD, hk, hk2, hput⟩ := hW.cut ha1 ha0 (.inl (0, n1, .inl (va_cpy f g sp.toNatClampNeg dp.toNatClampNeg m0.toNatClampNeg)))
  exact va_copyi hx hb (hml.trans hA.1.symm) hown (hts _ hl.1) (hts _ hl.2.1) (hts _ hl.2.2.1) (hts _ hl.2.2.2) hK hP hD hS k2 k 0 0 hk2 hk (tys0 _) (tys0 _) rfl h1 h2 h3 h4 h5 (fun _ _ => rfl) hR.1 (Nat.le_trans (Nat.add_le_add_left (by decide) _) hR.2) hdg
    (fun H1 locs1 hP1 hD1 hS1 => kk p e s m args below meth c FP C H1 locs1 A hA (hput H1 hP1 hD1) hS1)
theorem g_copyl {a0 n0 n1 : Nat} {f g : Nat → Int64} {sp dp m0 : Int32} (hl : LkY (mi_y K).cls idx) (hdg : decode (mi_c K) pc = .ok (.invokestatic idx, 3)) (ha0 : w a0 = some (.inl (1, n0, .inr (.inl f)))) (ha1 : w a = some (.inl (1, n1, .inr (.inl g))))
    (h1 : ¬ sp < 0) (h2 : ¬ dp < 0) (h3 : ¬ m0 < 0) (h4 : sp.toNatClampNeg + m0.toNatClampNeg ≤ n0) (h5 : dp.toNatClampNeg + m0.toNatClampNeg ≤ n1) (hR : 1 ≤ (mi_rm K).frames ∧ (rest.map fun v => v.category).sum + 24 ≤ (mi_rm K).locals)
    (kk : G Γ K Q QX (pc + 3) ls rest none (up w a (.inl (1, n1, .inr (.inl (va_cpy f g sp.toNatClampNeg dp.toNatClampNeg m0.toNatClampNeg))))) cs ss) : G Γ K Q QX pc ls (.int m0 :: .int dp :: .ref a :: .int sp :: .ref a0 :: rest) z w cs ss := by
  intro p e s m args below meth c FP C H locs A hA hW hS
  obtain ⟨hx, hb, hml, hown, hin, hlk, htab, hts, hK, hST, hb0, -, -⟩ := id C
  obtain ⟨L, k, k2, hP, hD, hk, hk2, hput⟩ := hW.cut ha1 ha0 (.inl (1, n1, .inr (.inl (va_cpy f g sp.toNatClampNeg dp.toNatClampNeg m0.toNatClampNeg))))
  exact va_copyl hx hb (hml.trans hA.1.symm) hown (hts _ hl.1) (hts _ hl.2.1) (hts _ hl.2.2.1) (hts _ hl.2.2.2) hK hP hD hS k2 k 1 1 hk2 hk (tys1 _) (tys1 _) rfl h1 h2 h3 h4 h5 (fun _ _ => rfl) hR.1 (Nat.le_trans (Nat.add_le_add_left (by decide) _) hR.2) hdg
    (fun H1 locs1 hP1 hD1 hS1 => kk p e s m args below meth c FP C H1 locs1 A hA (hput H1 hP1 hD1) hS1)
theorem g_raw {b : UInt64} (hl : LkR (mi_y K).cls idx) (hdg : decode (mi_c K) pc = .ok (.invokestatic idx, 3)) (hR : 1 ≤ (mi_rm K).frames ∧ (rest.map fun v => v.category).sum + 15 ≤ (mi_rm K).locals) (kk : G Γ K Q QX (pc + 3) ls (.long b.toInt64 :: rest) z w cs ss) : G Γ K Q QX pc ls (.double b :: rest) z w cs ss := by
  intro p e s m args below meth c FP C H locs A hA hW hS
  obtain ⟨hx, hb, hml, hown, hin, hlk, htab, hts, hK, hST, hb0, -, -⟩ := id C
  exact vn_d2l hx hb (hml.trans hA.1.symm) hown (hts _ hl.1) (hts _ hl.2.1) (hts _ hl.2.2.1) (hts _ hl.2.2.2) hR.1 hR.2 hdg (kk p e s m args below meth c FP C H locs A hA hW hS)
theorem g_mmin {u v : Int32} (hl : LkM (mi_y K).cls idx Lib.Math.min.name Lib.Math.min.code) (hdg : decode (mi_c K) pc = .ok (.invokestatic idx, 3)) (hR : 1 ≤ (mi_rm K).frames ∧ (rest.map fun v => v.category).sum + 13 ≤ (mi_rm K).locals) (hc : cs ≤ (mi_rm K).cells ∧ ss ≤ (mi_rm K).slots) (kk : G Γ K Q QX (pc + 3) ls (.int (if v < u then v else u) :: rest) z w cs ss) : G Γ K Q QX pc ls (.int v :: .int u :: rest) z w cs ss := by
  intro p e s m args below meth c FP C H locs A hA hW hS
  obtain ⟨hx, hb, hml, hown, hin, hlk, htab, hts, hK, hST, hb0, -, -⟩ := id C
  exact va_mmin hx hb (hml.trans hA.1.symm) hown (hts _ hl.1) (hts _ hl.2.1) (hts _ hl.2.2.1) (hts _ hl.2.2.2) hR.1 hR.2 hc.1 hc.2 hdg (kk p e s m args below meth c FP C H locs A hA hW hS)
theorem g_mmax {u v : Int32} (hl : LkM (mi_y K).cls idx Lib.Math.max.name Lib.Math.max.code) (hdg : decode (mi_c K) pc = .ok (.invokestatic idx, 3)) (hR : 1 ≤ (mi_rm K).frames ∧ (rest.map fun v => v.category).sum + 13 ≤ (mi_rm K).locals) (hc : cs ≤ (mi_rm K).cells ∧ ss ≤ (mi_rm K).slots) (kk : G Γ K Q QX (pc + 3) ls (.int (if u < v then v else u) :: rest) z w cs ss) : G Γ K Q QX pc ls (.int v :: .int u :: rest) z w cs ss := by
  intro p e s m args below meth c FP C H locs A hA hW hS
  obtain ⟨hx, hb, hml, hown, hin, hlk, htab, hts, hK, hST, hb0, -, -⟩ := id C
  exact va_mmax hx hb (hml.trans hA.1.symm) hown (hts _ hl.1) (hts _ hl.2.1) (hts _ hl.2.2.1) (hts _ hl.2.2.2) hR.1 hR.2 hc.1 hc.2 hdg (kk p e s m args below meth c FP C H locs A hA hW hS)
theorem g_objInit (hl : LkO (mi_y K).cls idx) (hdg : decode (mi_c K) pc = .ok (.invokespecial idx, 3)) (hR : 1 ≤ (mi_rm K).frames ∧ (rest.map fun v => v.category).sum + 12 ≤ (mi_rm K).locals) (kk : G Γ K Q QX (pc + 3) ls rest z w cs ss) : G Γ K Q QX pc ls (.ref a :: rest) z w cs ss := by
  intro p e s m args below meth c FP C H locs A hA hW hS
  obtain ⟨hx, hb, hml, hown, hin, hlk, htab, hts, hK, hST, hb0, -, -⟩ := id C
  exact W.objInit hx hb hown (hts _ hl.1) (hts _ hl.2.1) (hts _ hl.2.2) rfl (hA.1.trans hml.symm) rfl hdg hR.1 (by simpa [JFrame.monitorRoom] using hR.2) (kk p e s m args below meth c FP C H locs A hA hW hS)
theorem g_idiv {u v : Int32} (hdg : decode (mi_c K) pc = .ok (.idiv, 1)) (h0 : ¬ v = 0) (kk : G Γ K Q QX (pc + 1) ls (.int (u / v) :: rest) z w cs ss) : G Γ K Q QX pc ls (.int v :: .int u :: rest) z w cs ss := by
  intro p e s m args below meth c FP C H locs A hA hW hS
  obtain ⟨hx, hb, -⟩ := id C
  exact lv_idiv hx hb hdg h0 (kk p e s m args below meth c FP C H locs A hA hW hS)
theorem g_irem {u v : Int32} (hdg : decode (mi_c K) pc = .ok (.irem, 1)) (h0 : ¬ v = 0) (kk : G Γ K Q QX (pc + 1) ls (.int (u - u / v * v) :: rest) z w cs ss) : G Γ K Q QX pc ls (.int v :: .int u :: rest) z w cs ss := by
  intro p e s m args below meth c FP C H locs A hA hW hS
  obtain ⟨hx, hb, -⟩ := id C
  exact lv_irem hx hb hdg h0 (kk p e s m args below meth c FP C H locs A hA hW hS)
theorem g_ddiv {u v : UInt64} (hdg : decode (mi_c K) pc = .ok (.ddiv, 1)) (h0 : vf_n64 (FP.ddiv u v)) (kk : G Γ K Q QX (pc + 1) ls (.double (FP.ddiv u v) :: rest) z w cs ss) : G Γ K Q QX pc ls (.double v :: .double u :: rest) z w cs ss := by
  intro p e s m args below meth c FP C H locs A hA hW hS
  obtain ⟨hx, hb, -⟩ := id C
  exact lv_ddiv hx hb hdg h0 (kk p e s m args below meth c FP C H locs A hA hW hS)
theorem g_dmul {u v : UInt64} (hdg : decode (mi_c K) pc = .ok (.dmul, 1)) (h0 : vf_n64 (FP.dmul u v)) (kk : G Γ K Q QX (pc + 1) ls (.double (FP.dmul u v) :: rest) z w cs ss) : G Γ K Q QX pc ls (.double v :: .double u :: rest) z w cs ss := by
  intro p e s m args below meth c FP C H locs A hA hW hS
  obtain ⟨hx, hb, -⟩ := id C
  exact lv_dmul hx hb hdg h0 (kk p e s m args below meth c FP C H locs A hA hW hS)
theorem g_dsub {u v : UInt64} (hdg : decode (mi_c K) pc = .ok (.dsub, 1)) (h0 : vf_n64 (FP.dsub u v)) (kk : G Γ K Q QX (pc + 1) ls (.double (FP.dsub u v) :: rest) z w cs ss) : G Γ K Q QX pc ls (.double v :: .double u :: rest) z w cs ss := by
  intro p e s m args below meth c FP C H locs A hA hW hS
  obtain ⟨hx, hb, -⟩ := id C
  exact lv_dsub hx hb hdg h0 (kk p e s m args below meth c FP C H locs A hA hW hS)
theorem g_dconst0 (hdg : decode (mi_c K) pc = .ok (.dconst 0, 1)) (kk : G Γ K Q QX (pc + 1) ls (.double FP.dconst0 :: st) z w cs ss) : G Γ K Q QX pc ls st z w cs ss := by
  intro p e s m args below meth c FP C H locs A hA hW hS
  obtain ⟨hx, hb, -⟩ := id C
  exact lv_dconst0 hx hb hdg (kk p e s m args below meth c FP C H locs A hA hW hS)
theorem g_dconst1 (hdg : decode (mi_c K) pc = .ok (.dconst 1, 1)) (kk : G Γ K Q QX (pc + 1) ls (.double FP.dconst1 :: st) z w cs ss) : G Γ K Q QX pc ls st z w cs ss := by
  intro p e s m args below meth c FP C H locs A hA hW hS
  obtain ⟨hx, hb, -⟩ := id C
  exact lv_dconst1 hx hb hdg (kk p e s m args below meth c FP C H locs A hA hW hS)
theorem g_ldc {v : Int32} (hl : Jvm.Cond.constant (mi_y K).cls idx v ∈ WS) (hdg : decode (mi_c K) pc = .ok (.ldc_w idx, 3)) (kk : G Γ K Q QX (pc + 3) ls (.int v :: st) z w cs ss) : G Γ K Q QX pc ls st z w cs ss := by
  intro p e s m args below meth c FP C H locs A hA hW hS
  obtain ⟨hx, hb, hml, hown, hin, hlk, htab, hts, -⟩ := id C
  exact lv_ldcw hx hb hown (hts _ hl) hdg (kk p e s m args below meth c FP C H locs A hA hW hS)
theorem g_ldc2 {v : Int64} (hl : Jvm.Cond.constantLong (mi_y K).cls idx v ∈ WS) (hdg : decode (mi_c K) pc = .ok (.ldc2_w idx, 3)) (kk : G Γ K Q QX (pc + 3) ls (.long v :: st) z w cs ss) : G Γ K Q QX pc ls st z w cs ss := by
  intro p e s m args below meth c FP C H locs A hA hW hS
  obtain ⟨hx, hb, hml, hown, hin, hlk, htab, hts, -⟩ := id C
  exact lv_ldc2 hx hb hown (hts _ hl) hdg (kk p e s m args below meth c FP C H locs A hA hW hS)
theorem g_ldc2d {v : UInt64} (hl : Jvm.Cond.constantDouble (mi_y K).cls idx v ∈ WS) (hdg : decode (mi_c K) pc = .ok (.ldc2_w idx, 3)) (kk : G Γ K Q QX (pc + 3) ls (.double v :: st) z w cs ss) : G Γ K Q QX pc ls st z w cs ss := by
  intro p e s m args below meth c FP C H locs A hA hW hS
  obtain ⟨hx, hb, hml, hown, hin, hlk, htab, hts, -⟩ := id C
  exact lv_ldc2d hx hb hown (hts _ hl) hdg (kk p e s m args below meth c FP C H locs A hA hW hS)
theorem g_goto (hdg : decode (mi_c K) pc = .ok (.goto off, 3)) (ht : (pc : Int) + off = (tgt : Int)) (kk : G Γ K Q QX tgt ls st z w cs ss) : G Γ K Q QX pc ls st z w cs ss := by
  intro p e s m args below meth c FP C H locs A hA hW hS
  obtain ⟨hx, hb, -⟩ := id C
  exact lv_goto hx hb hdg ht (kk p e s m args below meth c FP C H locs A hA hW hS)
/-- what a branch asks -/
def bc (op : Jvm.ClassFile.Cond) (u v : Int32) : Prop := match op with
  | .eq => u = v
  | .ne => ¬ u = v
  | .lt => u < v
  | .ge => v ≤ u
  | .gt => v < u
  | .le => u ≤ v
theorem g_icmp {op : Jvm.ClassFile.Cond} {u v : Int32} (hdg : decode (mi_c K) pc = .ok (.if_icmp op off, 3)) (ht : (pc : Int) + off = (tgt : Int)) (kt : bc op u v → G Γ K Q QX tgt ls rest z w cs ss) (kf : ¬ bc op u v → G Γ K Q QX (pc + 3) ls rest z w cs ss) : G Γ K Q QX pc ls (.int v :: .int u :: rest) z w cs ss := by
  intro p e s m args below meth c FP C H locs A hA hW hS
  obtain ⟨hx, hb, -⟩ := id C
  have k1 := fun h => kt h p e s m args below meth c FP C H locs A hA hW hS
  have k2 := fun h => kf h p e s m args below meth c FP C H locs A hA hW hS
  cases op
  · exact lv_icmp_eq hx hb hdg ht k1 k2
  · exact lv_icmp_ne hx hb hdg ht k1 (fun h => k2 (fun q => q h))
  · exact lv_icmp_lt hx hb hdg ht k1 k2
  · exact lv_icmp_ge hx hb hdg ht k1 k2
  · exact lv_icmp_gt hx hb hdg ht k1 k2
  · exact lv_icmp_le hx hb hdg ht k1 k2
theorem g_if {op : Jvm.ClassFile.Cond} {u : Int32} (hdg : decode (mi_c K) pc = .ok (.ifCond op off, 3)) (ht : (pc : Int) + off = (tgt : Int)) (kt : bc op u 0 → G Γ K Q QX tgt ls rest z w cs ss) (kf : ¬ bc op u 0 → G Γ K Q QX (pc + 3) ls rest z w cs ss) : G Γ K Q QX pc ls (.int u :: rest) z w cs ss := by
  intro p e s m args below meth c FP C H locs A hA hW hS
  obtain ⟨hx, hb, -⟩ := id C
  have k1 := fun h => kt h p e s m args below meth c FP C H locs A hA hW hS
  have k2 := fun h => kf h p e s m args below meth c FP C H locs A hA hW hS
  cases op
  · exact lv_if_eq hx hb hdg ht k1 k2
  · exact lv_if_ne hx hb hdg ht k1 (fun h => k2 (fun q => q h))
  · exact lv_if_lt hx hb hdg ht k1 k2
  · exact lv_if_ge hx hb hdg ht k1 k2
  · exact lv_if_gt hx hb hdg ht k1 k2
  · exact lv_if_le hx hb hdg ht k1 k2
theorem g_ifnull (hdg : decode (mi_c K) pc = .ok (.ifnull off, 3)) (kk : G Γ K Q QX (pc + 3) ls rest z w cs ss) : G Γ K Q QX pc ls (.ref a :: rest) z w cs ss := by
  intro p e s m args below meth c FP C H locs A hA hW hS
  obtain ⟨hx, hb, -⟩ := id C
  exact lv_ifnull hx hb hdg (kk p e s m args below meth c FP C H locs A hA hW hS)
theorem g_ret {ri : Instr} {v : Option Value} (hdg : decode (mi_c K) pc = .ok (ri, 1)) (ht : RT (mi_r K) ri v) (hc : cs ≤ (mi_rm K).cells ∧ ss ≤ (mi_rm K).slots) (hQ : Q v z w) : G Γ K Q QX pc ls v.toList z w cs ss := by
  intro p e s m args below meth c FP C H locs A hA hW hS
  obtain ⟨hx, hb, hml, hown, hin, hlk, htab, hts, hK, hST, hb0, hret, -⟩ := id C
  exact W.widen hc.1 hc.2 (hret ri v pc H locs A z w hdg ht hQ hW hS)
/-- the rows of a switch -/
def tsw (jp : Nat → Prop) (pc : Nat) (v : Int) : Int → List Int → Nat → Prop
  | _, [], d => jp d
  | k, o :: r, d => (v = k → jp ((pc : Int) + o).toNat) ∧ (¬ v = k → tsw jp pc v (k + 1) r d)
def lsw (jp : Nat → Prop) (pc : Nat) (v : Int) : List (Int × Int) → Nat → Prop
  | [], d => jp d
  | (k, o) :: r, d => (v = k → jp ((pc : Int) + o).toNat) ∧ (¬ v = k → lsw jp pc v r d)
theorem tsw_in {jp : Nat → Prop} {pc d : Nat} {v : Int} : ∀ (r : List Int) (k : Int), tsw jp pc v k r d → ∀ (j : Nat) (o : Int), r[j]? = some o → v = k + j → jp ((pc : Int) + o).toNat := by
  intro r
  induction r with
  | nil => intro k h j o ho; simp at ho
  | cons a t ih =>
    intro k h j o ho hv
    obtain ⟨h1, h2⟩ := h
    cases j with
    | zero => simp at ho; subst ho; exact h1 (by omega)
    | succ j => exact ih (k + 1) (h2 (by omega)) j o (by simpa using ho) (by omega)
theorem tsw_out {jp : Nat → Prop} {pc d : Nat} {v : Int} : ∀ (r : List Int) (k : Int), tsw jp pc v k r d → (v < k ∨ k + r.length ≤ v) → jp d := by
  intro r
  induction r with
  | nil => intro k h _; exact h
  | cons a t ih =>
    intro k h hv
    simp only [List.length_cons] at hv
    exact ih (k + 1) (h.2 (by omega)) (by omega)
theorem lsw_off {jp : Nat → Prop} {pc d : Nat} {v dflt : Int} (hd : ((pc : Int) + dflt).toNat = d) : ∀ (r : List (Int × Int)), lsw jp pc v r d → jp ((pc : Int) + Op.lookupswitch.offset r dflt v).toNat := by
  intro r
  induction r with
  | nil => intro h; simp only [Op.lookupswitch.offset]; rw [show ((pc : Int) + dflt).toNat = d from hd]; exact h
  | cons a t ih =>
    obtain ⟨k, o⟩ := a
    intro h
    obtain ⟨h1, h2⟩ := h
    by_cases hv : v = k
    · subst hv
      simpa [Op.lookupswitch.offset] using h1 rfl
    · have := ih (h2 hv)
      simpa [Op.lookupswitch.offset, Ne.symm hv, hv] using this
theorem g_tsw {dflt lo hi : Int} {offs : Array Int} {ln d : Nat} {v : Int32} (hdg : decode (mi_c K) pc = .ok (.tableswitch dflt lo hi offs, ln)) (hsz : lo + offs.toList.length = hi + 1) (hd : (pc : Int) + dflt = (d : Int)) (hp : offs.toList.all (fun o => decide (0 ≤ (pc : Int) + o)) = true)
    (kk : tsw (fun t => G Γ K Q QX t ls rest z w cs ss) pc v.toInt lo offs.toList d) : G Γ K Q QX pc ls (.int v :: rest) z w cs ss := by
  intro p e s m args below meth c FP C H locs A hA hW hS
  obtain ⟨hx, hb, -⟩ := id C
  by_cases hv : v.toInt < lo ∨ hi < v.toInt
  · exact lv_tableOut hx hb hdg hv hd (tsw_out _ _ kk (by omega) p e s m args below meth c FP C H locs A hA hW hS)
  · have hj : (v.toInt - lo).toNat < offs.toList.length := by omega
    have ho := List.getElem?_eq_getElem hj
    have ho2 : offs[(v.toInt - lo).toNat]? = some (offs.toList[(v.toInt - lo).toNat]) := by rw [← Array.getElem?_toList]; exact ho
    have hpos := of_decide_eq_true (List.all_eq_true.mp hp _ (List.getElem_mem hj))
    exact lv_tableIn hx hb hdg (fun q => hv (Or.inl q)) (fun q => hv (Or.inr q)) ho2 (tgt := ((pc : Int) + offs.toList[(v.toInt - lo).toNat]).toNat) (by omega) (tsw_in _ _ kk _ _ ho (by omega) p e s m args below meth c FP C H locs A hA hW hS)
theorem g_lsw {dflt : Int} {ps : Array (Int × Int)} {ln d : Nat} {v : Int32} (hdg : decode (mi_c K) pc = .ok (.lookupswitch dflt ps, ln)) (hso : (ps.toList.zip (ps.toList.drop 1)).all (fun (a, next) => a.1 < next.1) = true) (hd : (pc : Int) + dflt = (d : Int)) (hp : ps.toList.all (fun o => decide (0 ≤ (pc : Int) + o.2)) = true)
    (kk : lsw (fun t => G Γ K Q QX t ls rest z w cs ss) pc v.toInt ps.toList d) : G Γ K Q QX pc ls (.int v :: rest) z w cs ss := by
  intro p e s m args below meth c FP C H locs A hA hW hS
  obtain ⟨hx, hb, -⟩ := id C
  have h := lsw_off (dflt := dflt) (by omega) _ kk
  have hpos : 0 ≤ (pc : Int) + Op.lookupswitch.offset ps.toList dflt v.toInt := by
    generalize ps.toList = l at hp
    clear h kk hso hdg
    induction l with
    | nil => simp only [Op.lookupswitch.offset]; show 0 ≤ (pc : Int) + dflt; omega
    | cons a t ih =>
      simp only [List.all_cons, Bool.and_eq_true, decide_eq_true_eq] at hp
      by_cases hv : a.1 = v.toInt
      · simpa [Op.lookupswitch.offset, hv] using hp.1
      · simpa [Op.lookupswitch.offset, hv] using ih hp.2
  exact lv_lookup hx hb hdg hso rfl (tgt := ((pc : Int) + Op.lookupswitch.offset ps.toList dflt v.toInt).toNat) (by omega) (h p e s m args below meth c FP C H locs A hA hW hS)
end GR

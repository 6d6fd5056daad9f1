/-! CLASSES' FACTS, LINKS, and the instructions that use them -/
def tyC (x : Nat) : Nat → FieldType := match x with
  | 0 => tyX0
  | 1 => tyX1
  | 2 => tyX2
  | 3 => tyX3
  | 4 => tyX4
  | 5 => tyX5
  | 6 => tyX6
  | 7 => tyX7
  | 8 => tyX8
  | 9 => tyX9
  | _ => tyX10
theorem ws_of {ws : List Jvm.Cond} (h : ws.all (fun w => decide (w ∈ lw_tbl) && goodWord w) = true) : ∀ w ∈ ws, w ∈ WS := fun w hw => by
  have := List.all_eq_true.mp h w hw
  simp only [Bool.and_eq_true, decide_eq_true_eq] at this
  exact List.mem_filter.mpr this
theorem ws_i {w : Jvm.Cond} (i : Nat) (h : lw_tbl[i]? = some w) (hg : goodWord w = true) : w ∈ WS := List.mem_filter.mpr ⟨List.mem_of_getElem? h, hg⟩
theorem ns_i {w : Jvm.Cond} (i : Nat) (h : lw_tbl[i]? = some w) (hg : nsb w = true) : w ∈ NS := List.mem_filter.mpr ⟨List.mem_of_getElem? h, hg⟩
theorem tb_app : True := trivial
theorem tb_1 {w : Jvm.Cond} (h : w ∈ tables_1_1) : w ∈ lw_tbl := List.mem_append_right _ (List.mem_append_left _ h)
theorem wt_1 {w : Jvm.Cond} (i : Nat) (h : tables_1_1[i]? = some w) (hg : goodWord w = true) : w ∈ WS := List.mem_filter.mpr ⟨tb_1 (List.mem_of_getElem? h), hg⟩
theorem nt_1 {w : Jvm.Cond} (i : Nat) (h : tables_1_1[i]? = some w) (hg : nsb w = true) : w ∈ NS := List.mem_filter.mpr ⟨tb_1 (List.mem_of_getElem? h), hg⟩
theorem st_1 {a t : String} {k : Nat} (i : Nat) (h : tables_1_1[i]? = some (.stringRef a k t)) : (a, k, t) ∈ SR := List.mem_filterMap.mpr ⟨_, tb_1 (List.mem_of_getElem? h), rfl⟩
theorem tb_2 {w : Jvm.Cond} (h : w ∈ tables_1_2) : w ∈ lw_tbl := List.mem_append_right _ (List.mem_append_right _ (List.mem_append_left _ h))
theorem wt_2 {w : Jvm.Cond} (i : Nat) (h : tables_1_2[i]? = some w) (hg : goodWord w = true) : w ∈ WS := List.mem_filter.mpr ⟨tb_2 (List.mem_of_getElem? h), hg⟩
theorem nt_2 {w : Jvm.Cond} (i : Nat) (h : tables_1_2[i]? = some w) (hg : nsb w = true) : w ∈ NS := List.mem_filter.mpr ⟨tb_2 (List.mem_of_getElem? h), hg⟩
theorem st_2 {a t : String} {k : Nat} (i : Nat) (h : tables_1_2[i]? = some (.stringRef a k t)) : (a, k, t) ∈ SR := List.mem_filterMap.mpr ⟨_, tb_2 (List.mem_of_getElem? h), rfl⟩
theorem tb_3 {w : Jvm.Cond} (h : w ∈ tables_1_3) : w ∈ lw_tbl := List.mem_append_right _ (List.mem_append_right _ (List.mem_append_right _ (List.mem_append_left _ h)))
theorem wt_3 {w : Jvm.Cond} (i : Nat) (h : tables_1_3[i]? = some w) (hg : goodWord w = true) : w ∈ WS := List.mem_filter.mpr ⟨tb_3 (List.mem_of_getElem? h), hg⟩
theorem nt_3 {w : Jvm.Cond} (i : Nat) (h : tables_1_3[i]? = some w) (hg : nsb w = true) : w ∈ NS := List.mem_filter.mpr ⟨tb_3 (List.mem_of_getElem? h), hg⟩
theorem st_3 {a t : String} {k : Nat} (i : Nat) (h : tables_1_3[i]? = some (.stringRef a k t)) : (a, k, t) ∈ SR := List.mem_filterMap.mpr ⟨_, tb_3 (List.mem_of_getElem? h), rfl⟩
theorem tb_4 {w : Jvm.Cond} (h : w ∈ tables_1_4) : w ∈ lw_tbl := List.mem_append_right _ (List.mem_append_right _ (List.mem_append_right _ (List.mem_append_right _ h)))
theorem wt_4 {w : Jvm.Cond} (i : Nat) (h : tables_1_4[i]? = some w) (hg : goodWord w = true) : w ∈ WS := List.mem_filter.mpr ⟨tb_4 (List.mem_of_getElem? h), hg⟩
theorem nt_4 {w : Jvm.Cond} (i : Nat) (h : tables_1_4[i]? = some w) (hg : nsb w = true) : w ∈ NS := List.mem_filter.mpr ⟨tb_4 (List.mem_of_getElem? h), hg⟩
theorem st_4 {a t : String} {k : Nat} (i : Nat) (h : tables_1_4[i]? = some (.stringRef a k t)) : (a, k, t) ∈ SR := List.mem_filterMap.mpr ⟨_, tb_4 (List.mem_of_getElem? h), rfl⟩
set_option maxRecDepth 100000 in
theorem cls_ws : ∀ q ∈ vwCl, ∀ w ∈ u_ws q.1 q.2.1 q.2.2, w ∈ WS := by
  have h : vwCl.all (fun q => (u_ws q.1 q.2.1 q.2.2).all (fun w => decide (w ∈ lw_tbl) && goodWord w)) = true := by decide +kernel
  intro q hq
  exact ws_of (List.all_eq_true.mp h q hq)
theorem cls_ty : ∀ x, x < 10 → ∀ C T N, vwCl[x]? = some (C, T, N) → (∀ k, k < N → parseFieldDescriptor (T k).2.2.1 = some (tyC x k)) ∧ (∀ a, a < N → ∀ b, b < N → a ≠ b → (T a).2.1 ≠ (T b).2.1) ∧ ∀ k, k < N → (T k).1 = C := by
  intro x hx C T N h
  match x, hx, h with
  | 0, _, h => cases h; exact ⟨tyX0_ok, nmX0, by decide +kernel⟩
  | 1, _, h => cases h; exact ⟨tyX1_ok, nmX1, by decide +kernel⟩
  | 2, _, h => cases h; exact ⟨tyX2_ok, nmX2, by decide +kernel⟩
  | 3, _, h => cases h; exact ⟨tyX3_ok, nmX3, by decide +kernel⟩
  | 4, _, h => cases h; exact ⟨tyX4_ok, nmX4, by decide +kernel⟩
  | 5, _, h => cases h; exact ⟨tyX5_ok, nmX5, by decide +kernel⟩
  | 6, _, h => cases h; exact ⟨tyX6_ok, nmX6, by decide +kernel⟩
  | 7, _, h => cases h; exact ⟨tyX7_ok, nmX7, by decide +kernel⟩
  | 8, _, h => cases h; exact ⟨tyX8_ok, nmX8, by decide +kernel⟩
  | 9, _, h => cases h; exact ⟨tyX9_ok, nmX9, by decide +kernel⟩
  | n + 10, hx, _ => exact absurd hx (by omega)
theorem cls_lt {x : Nat} {q : vw_C} (h : vwCl[x]? = some q) : x < 10 := (List.getElem?_eq_some_iff.mp h).1
/-- which values a field of this type may hold -/
def FV (ty : FieldType) (v : Value) : Prop := match ty with
  | .int => (match v with | .int _ => True | _ => False)
  | .long => (match v with | .long _ => True | _ => False)
  | .boolean => (match v with | .int x => x = 0 ∨ x = 1 | _ => False)
  | .object _ => (match v with | .ref _ => True | .null => True | _ => False)
  | .array _ => (match v with | .ref _ => True | .null => True | _ => False)
  | _ => False
theorem FV_ok {ty : FieldType} {v : Value} (h : FV ty v) : narrow ty v = v ∧ fits ty v = true := by
  cases ty <;> simp only [FV] at h <;> first | exact h.elim | skip
  all_goals (cases v <;> simp only at h <;> first | exact h.elim | skip)
  all_goals first | exact ⟨rfl, rfl⟩ | skip
  rcases h with rfl | rfl <;> exact ⟨rfl, rfl⟩
/-- a field's link: of the class x, its field y -/
def LkF (own : String) (idx x y : Nat) : Prop := ∃ C T N, vwCl[x]? = some (C, T, N) ∧ y < N ∧ (Jvm.Cond.fieldLink own idx C (T y).2.1 (T y).2.2.1 ∈ WS ∨ ∃ host, Jvm.Cond.fieldLinkNest own idx C (T y).2.1 (T y).2.2.1 host ∈ NS)
/-- may be written here -/
def LkP (own nm : String) (idx x y : Nat) : Prop := ∃ C T N, vwCl[x]? = some (C, T, N) ∧ y < N ∧ (((T y).2.2.2 = false ∧ (Jvm.Cond.fieldLink own idx C (T y).2.1 (T y).2.2.1 ∈ WS ∨ ∃ host, Jvm.Cond.fieldLinkNest own idx C (T y).2.1 (T y).2.2.1 host ∈ NS)) ∨ ((T y).2.2.2 = true ∧ nm = "<init>" ∧ C = own ∧ Jvm.Cond.fieldLink own idx C (T y).2.1 (T y).2.2.1 ∈ WS))
section GF
variable {Γ : Amb} {K : MI} {Q : Option Value → Option Nat → PW → Prop} {QX : String → PW → Prop} {pc : Nat} {ls : LSL} {st rest : List Value} {z : Option Nat} {w : PW} {cs ss : Nat} {idx x y a : Nat} {fs : List Value} {v : Value}
theorem g_get (hl : LkF (mi_y K).cls idx x y) (hdg : decode (mi_c K) pc = .ok (.getfield idx, 3)) (ha : w a = some (.inr (x, fs))) (hv : fs[y]? = some v) (kk : G Γ K Q QX (pc + 3) ls (v :: rest) z w cs ss) : G Γ K Q QX pc ls (.ref a :: rest) z w cs ss := by
  intro p e s m args below meth c FP C H locs A hA hW hS
  obtain ⟨hx, hb, hml, hown, hin, hlk, htab, hts, hK, hST, hb0, -, -⟩ := id C
  obtain ⟨Cn, T, N, hq, hy, hl⟩ := hl
  obtain ⟨L, k, hP, hk⟩ := hW.get ha
  obtain ⟨h1, h2, h3⟩ := cls_ty x (cls_lt hq) Cn T N hq
  have hsame : ∀ x, s.fieldFound? (T y).1 (T y).2.1 (T y).2.2.1 = some x → s.fieldFound? Cn (T y).2.1 (T y).2.2.1 = some x := fun x h => by rw [h3 y hy] at h; exact h
  rcases hl with hl | ⟨host, hl⟩
  · exact va_get hx hb hts (cls_ws _ (List.mem_of_getElem? hq)) hown hK hP k hk hq y hy (hts _ hl) hsame hv hdg (kk p e s m args below meth c FP C H locs A hA hW hS)
  · exact va_getN hx hb hts (cls_ws _ (List.mem_of_getElem? hq)) hown hK hP k hk hq y hy (va_Nw.use rfl (hST.2.2.2.1 _ hl)) hsame hv hdg (kk p e s m args below meth c FP C H locs A hA hW hS)
theorem g_put (hl : LkP (mi_y K).cls (mi_y K).name idx x y) (hdg : decode (mi_c K) pc = .ok (.putfield idx, 3)) (ha : w a = some (.inr (x, fs))) (hf : y < fs.length) (hv : FV (tyC x y) v) (kk : G Γ K Q QX (pc + 3) ls rest z (up w a (.inr (x, fs.set y v))) cs ss) : G Γ K Q QX pc ls (v :: .ref a :: rest) z w cs ss := by
  intro p e s m args below meth c FP C H locs A hA hW hS
  obtain ⟨hx, hb, hml, hown, hin, hlk, htab, hts, hK, hST, hb0, -, -⟩ := id C
  obtain ⟨Cn, T, N, hq, hy, hl⟩ := hl
  obtain ⟨L, k, hP, hD, hk, hput⟩ := hW.put ha (.inr (x, fs.set y v))
  obtain ⟨h1, h2, h3⟩ := cls_ty x (cls_lt hq) Cn T N hq
  obtain ⟨hn, hfit⟩ := FV_ok hv
  have hsame : ∀ x, s.fieldFound? (T y).1 (T y).2.1 (T y).2.2.1 = some x → s.fieldFound? Cn (T y).2.1 (T y).2.2.1 = some x := fun x h => by rw [h3 y hy] at h; exact h
  have hws := cls_ws _ (List.mem_of_getElem? hq)
  have hap := va_apart (own := (mi_y K).cls) hts hws (tyC x) h1 h2 hK hq
  obtain ⟨r, g1, cell, q1, q2, q3, q4⟩ := hP k _ hk
  have hr : r = (Cn, T, N) := Option.some.inj (g1.symm.trans hq)
  subst hr
  obtain ⟨hSl, hfc, kC, hkC, hkind⟩ := hK.1 x _ hq
  obtain ⟨cf, kf, fi, f, hi, hsl⟩ := hSl y hy
  have hlay := hts _ (hws _ (u_in_lay hy))
  unfold u_lay at hlay
  have hst := (u_facts hfc hkC (u_lays hts hws hy) hi).1
  have fin : ∀ H' : Heap, H'[a]? = some (cell.setSlot (Γ.2.1.2 x y) v) → H'.size = H.size → (∀ q, q ≠ a → H'[q]? = H[q]?) → W p Γ.1.1 e (mi_rm K) s m args below meth c H' (locs ++ [⟨a, Γ.2.1.2 x y⟩]) cs ss FP (F0 m (pc + 3) A rest) := fun H' e1 e2 e3 =>
    kk p e s m args below meth c FP C H' _ A hA (hput H' e2 (hP.set hD hk ⟨_, hq, t_OB.to (V := updV (vp_V fs) y v) ⟨_, e1, q2, q3, t_set q4 hap hy v⟩ (fun j _ => vp_updV_set hf v j)⟩ e3) (hD.set hk)) (hS.put e2 e3 (hD.2 k _ hk))
  rcases hl with ⟨hfin, hl⟩ | ⟨hfin, hi2, hdecl, hl⟩
  · rw [if_neg (by rw [hfin]; decide)] at hlay
    have h6 := u_store hfc hkC hkind hlay hi (h1 y hy) hn hfit
    rcases hl with hl | ⟨host, hl⟩
    · refine W.putK hx hb (f := f) ⟨hown, hts _ hl, ⟨_, _, _, hsame _ hi⟩, hst⟩ (by rw [q2]; exact h6) q1 q3 (by rw [hsl]; exact k2_hasslot (q4 y hy)) rfl rfl hdg fun H' e1 e2 e3 => ?_
      rw [hsl] at e1 ⊢
      exact fin H' e1 e2 e3
    · refine va_WputK hx hb (f := f) hown (va_Nw.use rfl (hST.2.2.2.1 _ hl)) (hsame _ hi) hst (by rw [q2]; exact h6) q1 q3 (by rw [hsl]; exact k2_hasslot (q4 y hy)) rfl rfl hdg fun H' e1 e2 e3 => ?_
      rw [hsl] at e1 ⊢
      exact fin H' e1 e2 e3
  · rw [if_pos hfin] at hlay
    have hcf : m.cls = cf := by
      obtain ⟨_, _, c', _, _, _, -, -, hf', -, -, -, hown2, -⟩ := Cond.laysFinal_spec hlay
      have e1 : c' = cf := by have := hi.symm.trans hf'; simp at this; exact this.1.symm
      rw [h3 y hy, hdecl] at hown2
      rw [← e1]; exact Option.some.inj (hown.symm.trans hown2)
    have h6 := u_fits hfc hkC hkind (Or.inr hlay) hi (h1 y hy) hn hfit
    refine W.putFinK hx hb hown (hts _ hl) (hsame _ hi) hst hcf (hin.trans hi2) (by rw [q2]; exact h6) q1 q3 (by rw [hsl]; exact k2_hasslot (q4 y hy)) rfl rfl hdg fun H' e1 e2 e3 => ?_
    rw [hsl] at e1 ⊢
    exact fin H' e1 e2 e3
end GF

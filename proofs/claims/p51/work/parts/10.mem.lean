/-! ARRAYS, NEW CELLS, CONSTANTS, BRANCHES, RETURNS -/
theorem tys0 (cy : Nat → ClassId) : (tys cy)[0]? = some (cy 0, .int) := rfl
theorem tys1 (cy : Nat → ClassId) : (tys cy)[1]? = some (cy 1, .long) := rfl
theorem tys2 (cy : Nat → ClassId) : (tys cy)[2]? = some (cy 2, .object RX7) := rfl
theorem WD.push {Γ : Amb} {h : Nat} {w : PW} {H H1 : Heap} (hW : WD Γ (some h) w H) (hb : Γ.2.2.2 ≤ H.size) {e : va_E} (he : va_at Γ.2.1 vwCl (h, ce Γ.2.2.1 e) H1) (hs : H1.size = H.size + 1) (hk : ∀ q : Nat, q < H.size → H1[q]? = H[q]?) : WD Γ (some (h + 1)) (up w h e) H1 := by
  obtain ⟨L, h1, h2, h3, h4⟩ := hW
  have hh : H.size = h := h4 h rfl
  have hL : ∀ a ∈ L, a < H.size := fun a ha => va_pl_lt (X := []) (by simpa using h2) ha
  have hn : h ∉ L := fun q => by have := hL h q; omega
  have hcong : ∀ a, a ≠ h → wf Γ.2.2.1 (up w h e) a = wf Γ.2.2.1 w a := fun a ha => by simp [wf, up, ha]
  have hl : va_pl L (wf Γ.2.2.1 w) = va_pl L (wf Γ.2.2.1 (up w h e)) := by
    unfold va_pl
    apply List.map_congr_left
    intro a ha
    rw [hcong a (fun q => hn (q ▸ ha))]
  have hpl : va_pl L (wf Γ.2.2.1 w) ++ [(h, ce Γ.2.2.1 e)] = va_pl (L ++ [h]) (wf Γ.2.2.1 (up w h e)) := by
    rw [hl]
    simp [va_pl, wf, up]
  refine ⟨L ++ [h], fun a => ?_, ?_, ?_, fun h' hz => ?_⟩
  · by_cases ha : a = h
    · subst ha; simp [up]
    · simp [up, ha, h1 a]
  · rw [← hpl]
    refine va_P.app (fun k q hq => (h2 k q hq).kept (hk _ (h2 k q hq).lt)) (fun k q hq => ?_)
    have hz : k < 1 := (List.getElem?_eq_some_iff.mp hq).1
    rw [show k = 0 by omega] at hq
    cases hq
    exact he
  · rw [← hpl]
    exact h3.push h2 hh.symm (by show Γ.2.2.2 ≤ h; omega)
  · cases hz; omega
section GM
variable {Γ : Amb} {K : MI} {Q : Option Value → Option Nat → PW → Prop} {QX : String → PW → Prop} {pc : Nat} {ls : LSL} {st rest : List Value} {z : Option Nat} {w : PW} {cs ss : Nat} {idx x y a n : Nat} {i : Int32}
theorem g_iaload {f : Nat → Int32} (hdg : decode (mi_c K) pc = .ok (.iaload, 1)) (ha : w a = some (.inl (0, n, .inl f))) (hi : vp_in i n) (kk : G Γ K Q QX (pc + 1) ls (.int (f i.toNatClampNeg) :: rest) z w cs ss) : G Γ K Q QX pc ls (.int i :: .ref a :: rest) z w cs ss := by
  intro p e s m args below meth c FP C H locs A hA hW hS
  obtain ⟨hx, hb, hml, hown, hin, hlk, htab, hts, hK, hST, hb0, -, -⟩ := id C
  obtain ⟨L, k, hP, hk⟩ := hW.get ha
  exact va_iald hx hb hK hP k 0 hk (tys0 _) hi hdg (kk p e s m args below meth c FP C H locs A hA hW hS)
theorem g_laload {f : Nat → Int64} (hdg : decode (mi_c K) pc = .ok (.laload, 1)) (ha : w a = some (.inl (1, n, .inr (.inl f)))) (hi : vp_in i n) (kk : G Γ K Q QX (pc + 1) ls (.long (f i.toNatClampNeg) :: rest) z w cs ss) : G Γ K Q QX pc ls (.int i :: .ref a :: rest) z w cs ss := by
  intro p e s m args below meth c FP C H locs A hA hW hS
  obtain ⟨hx, hb, hml, hown, hin, hlk, htab, hts, hK, hST, hb0, -, -⟩ := id C
  obtain ⟨L, k, hP, hk⟩ := hW.get ha
  exact va_lald hx hb hK hP k 1 hk (tys1 _) hi hdg (kk p e s m args below meth c FP C H locs A hA hW hS)
theorem g_aaload {f : Nat → Option Nat} (hdg : decode (mi_c K) pc = .ok (.aaload, 1)) (ha : w a = some (.inl (2, n, .inr (.inr (.inr (.inr f)))))) (hi : vp_in i n) (kk : G Γ K Q QX (pc + 1) ls (va_rf (f i.toNatClampNeg) :: rest) z w cs ss) : G Γ K Q QX pc ls (.int i :: .ref a :: rest) z w cs ss := by
  intro p e s m args below meth c FP C H locs A hA hW hS
  obtain ⟨hx, hb, hml, hown, hin, hlk, htab, hts, hK, hST, hb0, -, -⟩ := id C
  obtain ⟨L, k, hP, hk⟩ := hW.get ha
  exact va_aldq hx hb hK hP k 2 hk (tys2 _) hi hdg (kk p e s m args below meth c FP C H locs A hA hW hS)
theorem g_alen {t : Nat} {v : vp_A} (hdg : decode (mi_c K) pc = .ok (.arraylength, 1)) (ha : w a = some (.inl (t, v))) (ht : t < 3) (kk : G Γ K Q QX (pc + 1) ls (.int (Int32.ofNat v.1) :: rest) z w cs ss) : G Γ K Q QX pc ls (.ref a :: rest) z w cs ss := by
  intro p e s m args below meth c FP C H locs A hA hW hS
  obtain ⟨hx, hb, hml, hown, hin, hlk, htab, hts, hK, hST, hb0, -, -⟩ := id C
  obtain ⟨L, k, hP, hk⟩ := hW.get ha
  have h0 := kk p e s m args below meth c FP C H locs A hA hW hS
  match t, ht, hk with
  | 0, _, hk => exact va_alen hx hb hK hP k 0 hk (tys0 _) rfl hdg h0
  | 1, _, hk => exact va_alen hx hb hK hP k 1 hk (tys1 _) rfl hdg h0
  | 2, _, hk => exact va_alen hx hb hK hP k 2 hk (tys2 _) rfl hdg h0
theorem g_iastore {f : Nat → Int32} {v : Int32} (hdg : decode (mi_c K) pc = .ok (.iastore, 1)) (ha : w a = some (.inl (0, n, .inl f))) (hi : vp_in i n) (kk : G Γ K Q QX (pc + 1) ls rest z (up w a (.inl (0, n, .inl (upd f i.toNatClampNeg v)))) cs ss) : G Γ K Q QX pc ls (.int v :: .int i :: .ref a :: rest) z w cs ss := by
  intro p e s m args below meth c FP C H locs A hA hW hS
  obtain ⟨hx, hb, hml, hown, hin, hlk, htab, hts, hK, hST, hb0, -, -⟩ := id C
  obtain ⟨L, k, hP, hD, hk, hput⟩ := hW.put ha (.inl (0, n, .inl (upd f i.toNatClampNeg v)))
  refine W.iast hx hb (hP k _ hk) ((hK.2 0 _ (tys0 _)).1 n (fun j => .int (f j))) (fun q => by cases q) (by show ¬ (i < 0 ∨ (arrV _ _ _).slots.size ≤ _); rw [arrV_size]; exact hi) rfl rfl hdg fun H1 e1 z1 oq => ?_
  refine kk p e s m args below meth c FP C H1 _ A hA (hput H1 z1 (hP.set hD hk ?_ oq) (hD.set hk)) (hS.put z1 oq (hD.2 k _ hk))
  show H1[a]? = some (vp_cell _ _)
  rw [e1]
  rw [vp_cell_i, vp_cell_i, arrV_store]
  congr 2
  funext q
  by_cases hq : q = i.toNatClampNeg
  · subst hq; simp [upd, updV]
  · simp [upd, updV, hq]
theorem g_lastore {f : Nat → Int64} {v : Int64} (hdg : decode (mi_c K) pc = .ok (.lastore, 1)) (ha : w a = some (.inl (1, n, .inr (.inl f)))) (hi : vp_in i n) (kk : G Γ K Q QX (pc + 1) ls rest z (up w a (.inl (1, n, .inr (.inl (vp_updL f i.toNatClampNeg v))))) cs ss) : G Γ K Q QX pc ls (.long v :: .int i :: .ref a :: rest) z w cs ss := by
  intro p e s m args below meth c FP C H locs A hA hW hS
  obtain ⟨hx, hb, hml, hown, hin, hlk, htab, hts, hK, hST, hb0, -, -⟩ := id C
  obtain ⟨L, k, hP, hD, hk, hput⟩ := hW.put ha (.inl (1, n, .inr (.inl (vp_updL f i.toNatClampNeg v))))
  refine W.last hx hb (hP k _ hk) ((hK.2 1 _ (tys1 _)).1 n (fun j => .long (f j))) (fun q => by cases q) (by show ¬ (i < 0 ∨ (arrV _ _ _).slots.size ≤ _); rw [arrV_size]; exact hi) rfl rfl hdg fun H1 e1 z1 oq => ?_
  refine kk p e s m args below meth c FP C H1 _ A hA (hput H1 z1 (hP.set hD hk ?_ oq) (hD.set hk)) (hS.put z1 oq (hD.2 k _ hk))
  show H1[a]? = some (vp_cell _ _)
  rw [e1]
  rw [vp_cell_l, vp_cell_l, arrV_store]
  congr 2
  funext q
  by_cases hq : q = i.toNatClampNeg
  · subst hq; simp [vp_updL, updV]
  · simp [vp_updL, updV, hq]
theorem g_aastore {f : Nat → Option Nat} {v : Nat} {fs : List Value} (hdg : decode (mi_c K) pc = .ok (.aastore, 1)) (ha : w a = some (.inl (2, n, .inr (.inr (.inr (.inr f)))))) (hi : vp_in i n) (hv : w v = some (.inr (7, fs))) (kk : G Γ K Q QX (pc + 1) ls rest z (up w a (.inl (2, n, .inr (.inr (.inr (.inr (va_up f i.toNatClampNeg (some v)))))))) cs ss) : G Γ K Q QX pc ls (.ref v :: .int i :: .ref a :: rest) z w cs ss := by
  intro p e s m args below meth c FP C H locs A hA hW hS
  obtain ⟨hx, hb, hml, hown, hin, hlk, htab, hts, hK, hST, hb0, -, -⟩ := id C
  obtain ⟨L, k, hP, hD, hk, hput⟩ := hW.put ha (.inl (2, n, .inr (.inr (.inr (.inr (va_up f i.toNatClampNeg (some v)))))))
  obtain ⟨L2, k2, hP2, hk2⟩ := hW.get hv
  have hlt : i.toNatClampNeg < n := Nat.not_le.mp fun q => hi (Or.inr q)
  have h0 : ¬ i < 0 := fun q => hi (Or.inl q)
  obtain ⟨r', hr', cellV, g1, g2, g3, -⟩ := hP2 k2 _ hk2
  have hcls := (hK.1 7 (RX7, TX7, 5) rfl).2
  obtain ⟨kA, comp, k1, k2, k3, -⟩ := (hK.2 2 _ (tys2 _)).2
  have hcomp : comp = Γ.2.1.1 7 := Option.some.inj (k3.symm.trans hcls.1)
  subst hcomp
  obtain ⟨kC, hkC, -⟩ := hcls.2
  refine W.aast hx hb (hP k _ hk) (fun q h => by cases h) (fun h => by cases h) k1 k2 rfl hkC ⟨h0, by show _ < (arrV _ _ _).slots.size; rw [arrV_size]; exact hlt⟩ g1 (fun q h => by rw [g3] at h; cases h) (by rw [g2]; exact hkC) (by rw [g2]; exact va_assign hcls) rfl rfl hdg fun H1 e1 z1 oq => ?_
  refine kk p e s m args below meth c FP C H1 _ A hA (hput H1 z1 (hP.set hD hk ?_ oq) (hD.set hk)) (hS.put z1 oq (hD.2 k _ hk))
  show H1[a]? = some (vp_cell _ _)
  rw [e1]
  show some (Cell.setSlot (vp_cell (Γ.2.2.1 2) (n, .inr (.inr (.inr (.inr f))))) _ _) = some (vp_cell (Γ.2.2.1 2) (n, .inr (.inr (.inr (.inr (va_up f i.toNatClampNeg (some v)))))))
  rw [vp_cell_q, vp_cell_q, arrV_store]
  congr 2
  funext q
  by_cases hq : q = i.toNatClampNeg
  · subst hq; simp [updV, va_up, va_rf]
  · simp [updV, va_up, hq]
/-- the fields of a new object -/
def dfl (x : Nat) : List Value := match vwCl[x]? with
  | some q => (List.range q.2.2).map (fun k => defaultValue (tyC x k))
  | none => []
def LkN (own : String) (idx x : Nat) : Prop := ∃ C T N, vwCl[x]? = some (C, T, N) ∧ Jvm.Cond.classLink own idx C ∈ WS ∧ Jvm.Cond.instantiable C N ∈ WS ∧ Jvm.Cond.initialized C ∈ WS
theorem g_new {h : Nat} (hl : LkN (mi_y K).cls idx x) (hdg : decode (mi_c K) pc = .ok (.new idx, 3)) (hc : cs + 1 ≤ (mi_rm K).cells ∧ ss + (dfl x).length ≤ (mi_rm K).slots) (kk : G Γ K Q QX (pc + 3) ls (.ref h :: st) (some (h + 1)) (up w h (.inr (x, dfl x))) (cs + 1) (ss + (dfl x).length)) : G Γ K Q QX pc ls st (some h) w cs ss := by
  intro p e s m args below meth c FP C H locs A hA hW hS
  obtain ⟨hx, hb, hml, hown, hin, hlk, htab, hts, hK, hST, hb0, -, -⟩ := id C
  obtain ⟨Cn, T, N, hq, l1, l2, l3⟩ := hl
  obtain ⟨h1, h2, h3⟩ := cls_ty x (cls_lt hq) Cn T N hq
  have hdf : dfl x = (List.range N).map (fun k => defaultValue (tyC x k)) := by simp only [dfl, hq]
  have hdl : (dfl x).length = N := by rw [hdf]; simp
  rw [hdl] at hc kk
  have hKn := hK.1 x _ hq
  have hhz : H.size = h := by obtain ⟨L, -, -, -, h4⟩ := hW; exact h4 h rfl
  subst hhz
  refine W.newcK hx hb hown (hts _ l1) (hts _ l2) (hts _ l3) rfl hdg hc.1 hc.2 hKn.2.1 rfl fun H1 kC hkC e1 z1 o1 => ?_
  refine kk p e s m args below meth c FP C H1 locs A hA (hW.push (Nat.le_trans hb0 hS.1) (e := .inr (x, dfl x)) ?_ z1 o1) ⟨Nat.le_trans hS.1 (by omega), fun x h1 h2 => (o1 x (Nat.lt_of_lt_of_le h1 hS.1)).trans (hS.2.1 x h1 h2), hS.2.2⟩
  refine ⟨_, hq, (u_born (tyC x) hts (cls_ws _ (List.mem_of_getElem? hq)) hKn hkC e1 h1).to (fun j hj => ?_)⟩
  simp [vp_V, hdf, hj]
def LkA (t : Nat) (aty : ArrayType) : Prop := (t = 0 ∧ aty = .int ∧ Jvm.Cond.arrayClass .int ∈ WS) ∨ (t = 1 ∧ aty = .long ∧ Jvm.Cond.arrayClass .long ∈ WS)
def nar (t n : Nat) : va_E := .inl (t, n, match t with
  | 0 => .inl (fun _ => 0)
  | 1 => .inr (.inl (fun _ => 0))
  | _ => .inr (.inr (.inr (.inr (fun _ => none)))))
theorem g_newarray {h t : Nat} {aty : ArrayType} {m0 : Int32} (hl : LkA t aty) (hdg : decode (mi_c K) pc = .ok (.newarray aty, 2)) (hn : ¬ m0 < 0) (hN : m0.toNatClampNeg = n) (hsm : n ≤ 4096) (hc : cs + 1 ≤ (mi_rm K).cells ∧ ss + n ≤ (mi_rm K).slots) (kk : G Γ K Q QX (pc + 2) ls (.ref h :: st) (some (h + 1)) (up w h (nar t n)) (cs + 1) (ss + n)) : G Γ K Q QX pc ls (.int m0 :: st) (some h) w cs ss := by
  intro p e s m args below meth c FP C H locs A hA hW hS
  obtain ⟨hx, hb, hml, hown, hin, hlk, htab, hts, hK, hST, hb0, -, -⟩ := id C
  have hhz : H.size = h := by obtain ⟨L, -, -, -, h4⟩ := hW; exact h4 h rfl
  subst hhz
  rcases hl with ⟨rfl, rfl, hl⟩ | ⟨rfl, rfl, hl⟩
  · refine va_newaK hx hb (atype := .int) (hts _ hl) rfl hdg rfl hn hN (show n * 4 ≤ 536870912 by omega) hc.1 hc.2 rfl fun H1 cA e1 z1 o1 hAr hNm => ?_
    have hcA : Γ.2.2.1 0 = cA := Option.some.inj ((show s.vm.findClass _ = some (Γ.2.2.1 0) from (hK.2 0 _ (tys0 _)).2).symm.trans hNm)
    refine kk p e s m args below meth c FP C H1 locs A hA (hW.push (Nat.le_trans hb0 hS.1) (e := nar 0 n) ?_ (by omega) (fun q hq => o1 q (by omega))) ⟨Nat.le_trans hS.1 (by omega), fun x h1 h2 => (o1 x (by have := hS.1; omega)).trans (hS.2.1 x h1 h2), hS.2.2⟩
    show H1[H.size]? = some (vp_cell (Γ.2.2.1 0) _)
    rw [hcA, e1]
    show some _ = some (vp_cell cA (n, .inl (fun _ => 0)))
    rw [vp_cell_i]
    rfl
  · refine va_newaK hx hb (atype := .long) (hts _ hl) rfl hdg rfl hn hN (show n * 8 ≤ 536870912 by omega) hc.1 hc.2 rfl fun H1 cA e1 z1 o1 hAr hNm => ?_
    have hcA : Γ.2.2.1 1 = cA := Option.some.inj ((show s.vm.findClass _ = some (Γ.2.2.1 1) from (hK.2 1 _ (tys1 _)).2).symm.trans hNm)
    refine kk p e s m args below meth c FP C H1 locs A hA (hW.push (Nat.le_trans hb0 hS.1) (e := nar 1 n) ?_ (by omega) (fun q hq => o1 q (by omega))) ⟨Nat.le_trans hS.1 (by omega), fun x h1 h2 => (o1 x (by have := hS.1; omega)).trans (hS.2.1 x h1 h2), hS.2.2⟩
    show H1[H.size]? = some (vp_cell (Γ.2.2.1 1) _)
    rw [hcA, e1]
    show some _ = some (vp_cell cA (n, .inr (.inl (fun _ => 0))))
    rw [vp_cell_l]
    rfl
def LkQ (own : String) (idx : Nat) : Prop := Jvm.Cond.classLink own idx RX7 ∈ WS
theorem g_anewarray {h : Nat} {m0 : Int32} (hl : LkQ (mi_y K).cls idx) (hdg : decode (mi_c K) pc = .ok (.anewarray idx, 3)) (hn : ¬ m0 < 0) (hN : m0.toNatClampNeg = n) (hsm : n ≤ 4096) (hc : cs + 1 ≤ (mi_rm K).cells ∧ ss + n ≤ (mi_rm K).slots) (kk : G Γ K Q QX (pc + 3) ls (.ref h :: st) (some (h + 1)) (up w h (nar 2 n)) (cs + 1) (ss + n)) : G Γ K Q QX pc ls (.int m0 :: st) (some h) w cs ss := by
  intro p e s m args below meth c FP C H locs A hA hW hS
  obtain ⟨hx, hb, hml, hown, hin, hlk, htab, hts, hK, hST, hb0, -, -⟩ := id C
  have hhz : H.size = h := by obtain ⟨L, -, -, -, h4⟩ := hW; exact h4 h rfl
  subst hhz
  subst hN
  refine W.anew hx hb hown (hts _ hl) (va_AO.use hST.2.2.2.2.2) rfl hdg rfl hn (by omega) hc.1 hc.2 fun cA kA comp f1 f2 f3 f4 => ?_
  generalize hH1 : H.push ({ cls := cA, slots := Array.replicate m0.toNatClampNeg .null, vm := .none } : Cell) = H1
  have z1 : H1.size = H.size + 1 := by rw [← hH1, Array.size_push]
  have e1 : H1[H.size]? = some (arrV cA m0.toNatClampNeg (fun _ => .null)) := by rw [← hH1, Array.getElem?_push_size, ← arrV_new]
  have o1 : ∀ q : Nat, q < H.size → H1[q]? = H[q]? := fun q hq => by rw [← hH1, Array.getElem?_push, if_neg (Nat.ne_of_lt hq)]
  obtain ⟨kA2, comp2, k1, k2, k3, k4⟩ := (hK.2 2 _ (tys2 _)).2
  have hcA : Γ.2.2.1 2 = cA := Option.some.inj (k4.symm.trans f1)
  refine kk p e s m args below meth c FP C H1 locs A hA (hW.push (Nat.le_trans hb0 hS.1) (e := nar 2 _) ?_ (by omega) (fun q hq => o1 q (by omega))) ⟨Nat.le_trans hS.1 (by omega), fun x h1 h2 => (o1 x (by have := hS.1; omega)).trans (hS.2.1 x h1 h2), hS.2.2⟩
  show H1[H.size]? = some (vp_cell (Γ.2.2.1 2) _)
  rw [hcA, e1]
  show some _ = some (vp_cell cA (m0.toNatClampNeg, .inr (.inr (.inr (.inr (fun _ => none))))))
  rw [vp_cell_q]
  rfl
end GM

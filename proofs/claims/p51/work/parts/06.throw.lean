/-! THROWS AND CATCHES -/
def exN : List String := ["java/lang/RuntimeException", "java/lang/Exception"]
def AtOK (own : String) (ik is ic : Nat) (cls text : String) : Prop := Bundle.fit cls = true ∧ Jvm.Cond.classLink own ik cls ∈ WS ∧ Jvm.Cond.initialized cls ∈ WS ∧ (own, is, text) ∈ SR ∧ (∀ w ∈ vx_atS own ic cls exN, w ∈ WS ∨ w ∈ NS) ∧ ∀ w ∈ Jvm.Cond.classLink own ik cls :: Jvm.Cond.initialized cls :: vx_atS own ic cls exN, vx_ot w = true
theorem WD.kept {Γ : Amb} {z : Option Nat} {w : PW} {H H1 : Heap} (h : WD Γ z w H) (hk : ∀ q : Nat, q < H.size → H1[q]? = H[q]?) : WD Γ none w H1 := by
  obtain ⟨L, h1, h2, h3, -⟩ := h
  exact ⟨L, h1, fun k q hq => (h2 k q hq).kept (hk _ (h2 k q hq).lt), h3, fun _ h => nomatch h⟩
section GTHROW
variable {Γ : Amb} {K : MI} {Q : Option Value → Option Nat → PW → Prop} {QX : String → PW → Prop} {pc : Nat} {ls : LSL} {st : List Value} {z : Option Nat} {w : PW} {cs ss : Nat}
theorem exN_fit : ∀ n ∈ exN, Bundle.fit n = true := by decide +kernel
/-- 'throw new E("text")' -/
theorem g_throw {ik is ic : Nat} {cls text : String} (hat : AtOK (mi_y K).cls ik is ic cls text) (hh : mi_h K = [])
    (d0 : decode (mi_c K) pc = .ok (.new ik, 3)) (d3 : decode (mi_c K) (pc + 3) = .ok (.dup, 1))
    (d4 : (decode (mi_c K) (pc + 4) = .ok (.ldc is, 2) ∧ decode (mi_c K) (pc + 6) = .ok (.invokespecial ic, 3) ∧ decode (mi_c K) (pc + 9) = .ok (.athrow, 1)) ∨ (decode (mi_c K) (pc + 4) = .ok (.ldc_w is, 3) ∧ decode (mi_c K) (pc + 7) = .ok (.invokespecial ic, 3) ∧ decode (mi_c K) (pc + 10) = .ok (.athrow, 1)))
    (hR : 5 < (mi_rm K).frames ∧ (st.map fun v => v.category).sum + 82 ≤ (mi_rm K).locals ∧ cs + 1 ≤ (mi_rm K).cells ∧ ss + 6 ≤ (mi_rm K).slots) (hml : mi_l K = mi_l K)
    (hQ : QX cls w) : G Γ K Q QX pc ls st z w cs ss := by
  intro p e s m args below meth c FP C H locs A hA hW hS
  obtain ⟨hx, hb, hml, hown, hin, hlk, htab, hts, hK, hST, hb0, -, hF⟩ := C
  rcases hF with hF | ⟨htr, rfl⟩
  · exact absurd hQ (hF _ _)
  obtain ⟨hfit, hkl, hini, hsr, hw, hot⟩ := hat
  obtain ⟨hU, hN, hSR, hNS, -⟩ := hST
  obtain ⟨sa, hstr⟩ := hSR _ hsr
  have hwat : ∀ w ∈ vx_atS (mi_y K).cls ic cls exN, w.before args s = true := fun w h => (hw w h).elim (fun h => hts w h) (fun h => va_Nw.use (ns_on (List.mem_filter.mp h).2) (hNS w h))
  have hxx : ∀ t : State, s.vm.Alike t.vm → H.size ≤ t.heap.size → (∀ q : Nat, q < H.size → t.heap[q]? = H[q]?) → XcOf Γ QX cls s t := fun t _ hz hk =>
    ⟨w, hQ, hW.kept hk, Nat.le_trans hS.1 hz, fun q h1 h2 => by rw [hk q (Nat.lt_of_lt_of_le h1 hS.1)]; exact hS.2.1 q h1 h2⟩
  have hno : ∀ x ∈ c.exceptionTable.toList, ∀ n, covers x n = false := fun x hx' => by rw [htab, hh] at hx'; cases hx'
  rcases d4 with ⟨d4, d6, d9⟩ | ⟨d4, d6, d9⟩
  · exact vx_throwS hx hb htr hown hfit exN_fit (hts _ hkl) (hts _ hini) hstr hwat hot hU hN hS (hA.1.trans hml.symm) d0 d3 d4 d6 d9 (fun x hx' => hno x hx' _) hR.1 hR.2.1 hR.2.2.1 hR.2.2.2 hlk hxx hS.2.2 hR.2.2.1 hR.2.2.2
  · exact vx_throwSW hx hb htr hown hfit exN_fit (hts _ hkl) (hts _ hini) hstr hwat hot hU hN hS (hA.1.trans hml.symm) d0 d3 d4 d6 d9 (fun x hx' => hno x hx' _) hR.1 hR.2.1 hR.2.2.1 hR.2.2.2 hlk hxx hS.2.2 hR.2.2.1 hR.2.2.2
/-- a throw that no row of the table takes -/
theorem gx_out {E : String} (hh : mi_h K = []) (hc : cs ≤ (mi_rm K).cells) (hs : ss ≤ (mi_rm K).slots) (hQ : QX E w) : GX Γ K Q QX E pc ls st w cs ss := by
  intro p e s m args below meth c FP C H locs A q x hA hW hS hq hv hcl
  obtain ⟨hx, hb, hml, hown, hin, hlk, htab, hts, hK, hST, hb0, -, hF⟩ := C
  rcases hF with hF | ⟨htr, rfl⟩
  · exact absurd hQ (hF _ _)
  have hno : ∀ x ∈ c.exceptionTable.toList, covers x pc = false := fun x hx' => by rw [htab, hh] at hx'; cases hx'
  exact vx_out hno hlk hq hv hcl (fun t ht _ => ⟨w, hQ, by rw [ht]; exact hW, hS.F ht⟩) hS.2.2 hc hs
/-- a catch: the row x takes it, the rows ahead name other classes -/
theorem gx_catch {E : String} (pre : List ((Nat × Nat × Nat × Nat) × String)) (x : Nat × Nat × Nat × Nat) (suf : List ((Nat × Nat × Nat × Nat) × String)) (hh : mi_h K = pre ++ (x, E) :: suf)
    (hpre : ∀ y ∈ pre, y.1.2.2.2 ≠ 0 ∧ Jvm.Cond.classLink (mi_y K).cls y.1.2.2.2 y.2 ∈ WS ∧ (E, y.2) ∈ NCs) (hcov : covers ⟨x.1, x.2.1, x.2.2.1, x.2.2.2⟩ pc = true) (h0 : x.2.2.2 ≠ 0) (hl : Jvm.Cond.classLink (mi_y K).cls x.2.2.2 E ∈ WS) (hcast : Jvm.Cond.castable E E ∈ NS)
    (kk : ∀ q : Nat, G Γ K Q QX x.2.2.1 ls [.ref q] none w cs ss) : GX Γ K Q QX E pc ls st w cs ss := by
  intro p e s m args below meth c FP C H locs A q y hA hW hS hq hv hcl
  have C' := C
  obtain ⟨hx, hb, hml, hown, hin, hlk, htab, hts, hK, hST, hb0, -, hF⟩ := C'
  obtain ⟨hU, hN, hSR, hNS, hNC, -⟩ := hST
  refine vx_catch hown (tableOf (pre.map (fun q => q.1))) ⟨x.1, x.2.1, x.2.2.1, x.2.2.2⟩ (tableOf (suf.map (fun q => q.1))) (by rw [htab, hh]; simp [tableOf]) (fun z hz => Or.inr ?_) hcov h0 (hts _ hl) (va_Nw.use rfl (hNS _ hcast)) hq hv hcl (kk q p e s m args below meth c FP C H locs A hA hW hS)
  simp only [tableOf, List.map_map, List.mem_map] at hz
  obtain ⟨y1, hy, rfl⟩ := hz
  obtain ⟨g1, g2, g3⟩ := hpre y1 hy
  exact ⟨g1, y1.2, hts _ g2, hNC _ g3⟩
end GTHROW

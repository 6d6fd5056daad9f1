/-! WHAT STAYS SMALL -/
theorem or_lt {a b k : Nat} (ha : a < 2 ^ k) (hb : b < 2 ^ k) : a ||| b < 2 ^ k := Nat.or_lt_two_pow ha hb
theorem fbt_lt (v wd f : Nat) : ∀ n i x y, x < 2 ^ wd → fbt v wd f n i x = some y → y < 2 ^ wd := by
  intro n
  induction n with
  | zero => intro i x y hx h; simp only [fbt, Option.some.injEq] at h; omega
  | succ n ih =>
    intro i x y hx h
    simp only [fbt] at h
    split at h
    · split at h
      · exact absurd h (by simp)
      · exact ih _ _ _ (or_lt hx (Nat.pow_lt_pow_right (by decide) (by omega))) h
    · exact ih _ _ _ hx h
theorem fos_lt (s : List Nat) (wd : Nat) : ∀ n f x p sm y q sm', x < 2 ^ wd → fos s wd n f x p sm = .inr (y, q, sm') → y < 2 ^ wd := by
  intro n
  induction n with
  | zero => intro f x p sm y q sm' hx h; simp only [fos, Sum.inr.injEq, Prod.mk.injEq] at h; omega
  | succ n ih =>
    intro f x p sm y q sm' hx h
    simp only [fos] at h
    split at h
    · simp only [Sum.inr.injEq, Prod.mk.injEq] at h; omega
    · split at h
      · exact absurd h (by simp)
      · split at h
        · exact absurd h (by simp)
        · rename_i h2
          exact ih _ _ _ _ _ _ _ (fbt_lt _ _ _ _ _ _ _ hx h2) h
theorem rns_lt (s : List Nat) (wd : Nat) : ∀ n t b x p sm y q sm', x < 2 ^ wd → rns s wd n t b x p sm = .inr (y, q, sm') → y < 2 ^ wd := by
  intro n
  induction n with
  | zero => intro t b x p sm y q sm' hx h; simp only [rns, Sum.inr.injEq, Prod.mk.injEq] at h; omega
  | succ n ih =>
    intro t b x p sm y q sm' hx h
    simp only [rns] at h
    split at h
    · simp only [Sum.inr.injEq, Prod.mk.injEq] at h; omega
    · split at h
      · exact absurd h (by simp)
      · rename_i l q2 d _
        split at h
        · exact absurd h (by simp)
        · refine ih _ _ _ _ _ _ _ _ ?_ h
          split
          · refine or_lt hx ?_
            have h1 : (2 ^ l - 1) * 2 ^ t < 2 ^ l * 2 ^ t := by
              have := Nat.two_pow_pos l
              exact Nat.mul_lt_mul_of_pos_right (by omega) (Nat.two_pow_pos t)
            rw [← Nat.pow_add] at h1
            have h2 : 2 ^ (l + t) ≤ 2 ^ wd := Nat.pow_le_pow_right (by decide) (by omega)
            omega
          · exact hx
theorem rn_inl {s : List Nat} {p e : Nat} (h : rn s p = .inl e) : 1 ≤ e ∧ e ≤ 6 := by
  unfold rn at h
  split at h
  · rename_i h1; cases h; have := kn_inl h1; omega
  · split at h
    · cases h; decide
    · split at h
      · split at h
        · rename_i h1; cases h; have := kn_inl h1; omega
        · split at h
          · rename_i h1; cases h; have := kn_inl h1; omega
          · exact absurd h (by simp)
      · exact absurd h (by simp)
theorem fos_inl (s : List Nat) (wd : Nat) : ∀ n f x p sm e, fos s wd n f x p sm = .inl e → 1 ≤ e ∧ e ≤ 6 := by
  intro n
  induction n with
  | zero => intro f x p sm e h; simp [fos] at h
  | succ n ih =>
    intro f x p sm e h
    simp only [fos] at h
    split at h
    · exact absurd h (by simp)
    · split at h
      · rename_i h1; cases h; have := kn_inl h1; omega
      · split at h
        · cases h; decide
        · exact ih _ _ _ _ _ h
theorem rns_inl (s : List Nat) (wd : Nat) : ∀ n t b x p sm e, rns s wd n t b x p sm = .inl e → 1 ≤ e ∧ e ≤ 6 := by
  intro n
  induction n with
  | zero => intro t b x p sm e h; simp [rns] at h
  | succ n ih =>
    intro t b x p sm e h
    simp only [rns] at h
    split at h
    · exact absurd h (by simp)
    · split at h
      · rename_i h1; cases h; have := rn_inl h1; omega
      · split at h
        · cases h; decide
        · exact ih _ _ _ _ _ _ h
theorem rcd_ok {s : List Nat} {wd : Nat} {R : List (Option Nat)} {p : Nat} (hw : wd ≤ 32) (hR : RcOK R) : (∀ e, rcd s wd R p = .inl e → 1 ≤ e ∧ e ≤ 8) ∧ ∀ n x q, rcd s wd R p = .inr (n, x, q) → n < 10 ∧ x < 4294967296 := by
  have h32 : 2 ^ wd ≤ 2 ^ 32 := Nat.pow_le_pow_right (by decide) hw
  have hpr : ∀ n, prevR R n < 4294967296 := by
    intro n
    unfold prevR
    split
    · decide
    · cases h : R.getD (n - 1) none with
      | none => decide
      | some p => exact hR _ _ h
  have hend : ∀ n m z, (∀ e, z = .inl e → 1 ≤ e ∧ e ≤ 6) → (∀ x q sm, z = .inr (x, q, sm) → x < 2 ^ wd) → n < 10 → (∀ e, rend s R n m z = .inl e → 1 ≤ e ∧ e ≤ 8) ∧ ∀ n' x q, rend s R n m z = .inr (n', x, q) → n' < 10 ∧ x < 4294967296 := by
    intro n m z h1 h2 hn
    unfold rend
    cases z with
    | inl e => exact ⟨fun e' h => by cases h; have := h1 e rfl; omega, fun n' x q h => absurd h (by simp)⟩
    | inr t =>
      obtain ⟨x, q, sm⟩ := t
      have hx := h2 x q sm rfl
      dsimp only
      cases s[q]? with
      | none => exact ⟨fun e' h => by cases h; decide, fun n' x q h => absurd h (by simp)⟩
      | some c =>
        dsimp only
        split
        · refine ⟨fun e' h => absurd h (by simp), fun n' x' q' h => ?_⟩
          simp only [Sum.inr.injEq, Prod.mk.injEq] at h
          obtain ⟨rfl, rfl, -⟩ := h
          refine ⟨hn, ?_⟩
          split
          · exact Nat.xor_lt_two_pow (n := 32) (by omega) (hpr _)
          · omega
        · exact ⟨fun e' h => by cases h; decide, fun n' x q h => absurd h (by simp)⟩
  unfold rcd
  cases s[p]? with
  | none => exact ⟨fun e' h => by cases h; decide, fun n' x q h => absurd h (by simp)⟩
  | some n =>
    dsimp only
    split
    · exact ⟨fun e' h => by cases h; decide, fun n' x q h => absurd h (by simp)⟩
    · rename_i hn
      cases s[p + 1]? with
      | none => exact ⟨fun e' h => by cases h; decide, fun n' x q h => absurd h (by simp)⟩
      | some m =>
        dsimp only
        split
        · exact ⟨fun e' h => by cases h; decide, fun n' x q h => absurd h (by simp)⟩
        · split
          · exact ⟨fun e' h => by cases h; decide, fun n' x q h => absurd h (by simp)⟩
          · refine hend n m _ (fun e h => ?_) (fun x q sm h => ?_) (by omega)
            · split at h
              · exact fos_inl _ _ _ _ _ _ _ _ h
              · exact rns_inl _ _ _ _ _ _ _ _ _ h
            · split at h
              · exact fos_lt _ _ _ _ _ _ _ _ _ _ (Nat.two_pow_pos wd) h
              · exact rns_lt _ _ _ _ _ _ _ _ _ _ _ (Nat.two_pow_pos wd) h
theorem mfr_lt (s : List Nat) : ∀ n p k, mfr s n p = some k → k < s.length := by
  intro n
  induction n with
  | zero => intro p k h; simp [mfr] at h
  | succ n ih =>
    intro p k h
    simp only [mfr] at h
    split at h
    · rename_i h1
      cases h
      by_cases h2 : p < s.length
      · exact h2
      · rw [getD_none (by omega)] at h1; exact absurd h1.1 (by simp)
    · exact ih _ _ h
def RdOK (z : List (Option Nat) × List (Nat × Nat)) : Prop := RcOK z.1 ∧ z.1.length = 10 ∧ z.2.length ≤ 20 ∧ ∀ q ∈ z.2, q.1 < 500 ∧ q.2 ≤ 8
theorem rdg_ok (s : List Nat) (wd : Nat) (hw : wd ≤ 32) (hs : s.length ≤ 500) : ∀ n p R E, RdOK (R, E) → RdOK (rdg s wd n p R E) := by
  intro n
  induction n with
  | zero => intro p R E h; exact h
  | succ n ih =>
    intro p R E h
    obtain ⟨h1, h2, h3, h4⟩ := id h
    dsimp only at h1 h2 h3 h4
    simp only [rdg]
    split
    · exact h
    · rename_i k hk
      have hk2 := mfr_lt s _ _ _ hk
      obtain ⟨r1, r2⟩ := rcd_ok (s := s) (p := k + 2) hw h1
      split
      · rename_i e he
        refine ih _ _ _ ⟨h1, h2, ?_, ?_⟩
        · show (noteE E k e).length ≤ 20
          unfold noteE; split
          · rw [List.length_append]; simp; omega
          · exact h3
        · show ∀ q ∈ noteE E k e, _
          unfold noteE; split
          · intro q hq
            rcases List.mem_append.mp hq with hq | hq
            · exact h4 q hq
            · simp only [List.mem_cons, List.not_mem_nil, or_false] at hq
              subst hq
              have := r1 e he
              exact ⟨by dsimp only; omega, this.2⟩
          · exact h4
      · rename_i l x q he
        obtain ⟨a1, a2⟩ := r2 l x q he
        refine ih _ _ _ ⟨fun j p hp => ?_, by rw [List.length_set]; exact h2, h3, h4⟩
        dsimp only at hp
        rw [List.getD_eq_getElem?_getD, List.getElem?_set] at hp
        split at hp
        · split at hp
          · simp only [Option.getD_some, Option.some.injEq] at hp; omega
          · exact absurd hp (by simp)
        · rw [← List.getD_eq_getElem?_getD] at hp
          exact h1 j p hp
theorem R0_ok : RdOK (R0, []) := by
  refine ⟨fun j p h => ?_, by decide, by decide, fun q hq => absurd hq (by simp)⟩
  dsimp only at h
  unfold R0 at h
  rw [List.getD_eq_getElem?_getD, List.getElem?_replicate] at h
  split at h <;> simp at h
theorem readA_ok (s : List Nat) (wd : Nat) (hw : wd ≤ 32) (hs : s.length ≤ 500) : RdOK (readA s wd) := rdg_ok s wd hw hs _ _ _ _ R0_ok
/-! states stay as they may be -/
theorem kcode_lt (n m : Nat) (k : List Nat) (hn : n < 16) (hm : m < 16) (hk : ∀ x ∈ k, x < 16) : ∀ x ∈ kcode n m k, x < 16 := by
  intro x hx
  unfold kcode at hx
  rcases List.mem_append.mp hx with hx | hx
  · rcases List.mem_append.mp hx with hx | hx
    · simp only [List.mem_cons, List.not_mem_nil, or_false] at hx; omega
    · obtain ⟨y, hy, hx⟩ := List.mem_flatMap.mp hx
      have := hk y hy
      unfold esc at hx
      split at hx <;> simp at hx <;> omega
  · simp only [List.mem_cons, List.not_mem_nil, or_false] at hx; omega
theorem SOK.snt {S : AS} (h : SOK S) : (∀ v ∈ sentA S, v < 16) ∧ (sentA S).length ≤ 380 := by
  obtain ⟨h1, h2, h3, h4, h5, -⟩ := h
  constructor
  · intro v hv
    unfold sentA sent at hv
    obtain ⟨n, hn, hv⟩ := List.mem_flatMap.mp hv
    rw [List.mem_range] at hn
    unfold code1 at hv
    exact kcode_lt n _ _ (by omega) (by have := modeS_lt h3 n; omega) (ker_lt _ _ _ (by omega) h2) v hv
  · have := sent_len S h2 (a_L S).length
    unfold sentA
    omega
theorem SOK.setL {S : AS} (h : SOK S) {L : List Nat} (h1 : ∀ p ∈ L, p < 2 ^ a_wd S) (h2 : L.length ≤ 10) : SOK (s_L S L) := by
  obtain ⟨a, b, c, d, e, f⟩ := h
  exact ⟨a, b, c, h1, h2, f⟩
theorem SOK.setS {S : AS} (h : SOK S) {s : List Nat} (h1 : ∀ v ∈ s, v < 16) (h2 : s.length ≤ 500) : SOK (s_s S s) := by
  obtain ⟨a, b, c, d, e, f, g, i⟩ := h
  exact ⟨a, b, c, d, e, h1, h2, i⟩
theorem SOK.setR {S : AS} (h : SOK S) {z : List (Option Nat) × List (Nat × Nat)} (h1 : RdOK z) : SOK (s_rd S z) := by
  obtain ⟨a, b, c, d, e, f, g, -, -, -, -, i⟩ := h
  obtain ⟨z1, z2, z3, z4⟩ := h1
  exact ⟨a, b, c, d, e, f, g, z2, z1, z3, z4, i⟩
theorem SOK.setSt {S : AS} (h : SOK S) {o : Option Nat} (h1 : ∀ k, o = some k → k ≤ 60) : SOK (s_st S o) := by
  obtain ⟨a, b, c, d, e, f, g, i, j, k, l, -⟩ := h
  exact ⟨a, b, c, d, e, f, g, i, j, k, l, h1⟩
theorem UOK.push {U : US} (h : UOK U) {S : AS} (hS : SOK S) (v : Nat) : UOK (oDo v S U).2.2 := by
  obtain ⟨h1, h2, h3, h4, h5, h6⟩ := h
  refine ⟨hS, h2, fun t ht => ?_, ?_, h5, h6⟩
  · have ht : t ∈ pushT (us_T U) (us_S U) := ht
    unfold pushT at ht
    split at ht
    · rcases List.mem_append.mp ht with ht | ht
      · exact h3 t (List.mem_of_mem_tail ht)
      · simp only [List.mem_cons, List.not_mem_nil, or_false] at ht; subst ht; exact h1
    · rcases List.mem_append.mp ht with ht | ht
      · exact h3 t ht
      · simp only [List.mem_cons, List.not_mem_nil, or_false] at ht; subst ht; exact h1
  · show (pushT (us_T U) (us_S U)).length ≤ 5
    unfold pushT
    split
    · rw [List.length_append, List.length_tail]; simp only [List.length_cons, List.length_nil]; omega
    · rw [List.length_append]; simp only [List.length_cons, List.length_nil]; omega
theorem mem_set_lt {L : List Nat} {B j v : Nat} (h : ∀ p ∈ L, p < B) (hv : v < B) : ∀ p ∈ L.set j v, p < B := fun p hp => by
  rcases List.mem_or_eq_of_mem_set hp with hp | hp
  · exact h p hp
  · omega
theorem ok_setWidth {U : US} (h : UOK U) (v : Int32) : UOK (o_setWidth v U).2.2 := by
  unfold o_setWidth
  rcases ix_cases v 33 (by decide) with ⟨p, hp, rfl, e⟩ | ⟨hn, e⟩
  · rw [e]; dsimp only
    split
    · obtain ⟨a, b, c, d, x, f, g, i, j, k, l, m⟩ := h.1
      obtain ⟨z1, z2, z3, z4⟩ := R0_ok
      exact UOK.push h (S := (p, a_sy (us_S U), [], [], R0, [], a_st (us_S U))) ⟨(show 8 ≤ p by omega), (show p ≤ 32 by omega), c, fun p hp => (List.not_mem_nil hp).elim, Nat.zero_le 10, fun p hp => (List.not_mem_nil hp).elim, Nat.zero_le 500, z2, z1, z3, z4, m⟩ (a_wd (us_S U))
    · exact h
  · rw [e]; exact h
theorem ok_addLine {U : US} (h : UOK U) (v : Int64) : UOK (o_addLine v U).2.2 := by
  have hw := h.1.2.1
  have hl := h.1.2.2.2.2.1
  unfold o_addLine
  rcases px_cases v (a_wd (us_S U)) (by omega) with ⟨p, hp, rfl, e⟩ | ⟨hn, e⟩
  · rw [e]; dsimp only
    split
    · exact h
    · refine h.push (h.1.setL (fun q hq => ?_) (by rw [List.length_append]; simp only [List.length_cons, List.length_nil]; omega)) _
      rcases List.mem_append.mp hq with hq | hq
      · exact h.1.2.2.2.1 q hq
      · simp only [List.mem_cons, List.not_mem_nil, or_false] at hq; subst hq; exact hp
  · rw [e]; exact h
theorem ok_setLine {U : US} (h : UOK U) (l : Int32) (v : Int64) : UOK (o_setLine l v U).2.2 := by
  have hw := h.1.2.1
  have hl := h.1.2.2.2.2.1
  unfold o_setLine
  split
  · rcases px_cases v (a_wd (us_S U)) (by omega) with ⟨p, hp, rfl, e⟩ | ⟨hn, e⟩
    · rw [e]
      exact h.push (h.1.setL (mem_set_lt h.1.2.2.2.1 hp) (by rw [List.length_set]; exact hl)) _
    · rw [e]; exact h
  · exact h
theorem ok_dropLast {U : US} (h : UOK U) : UOK (o_dropLast U).2.2 := by
  unfold o_dropLast
  split
  · exact h
  · exact h.push (h.1.setL (fun q hq => h.1.2.2.2.1 q (List.dropLast_subset _ hq)) (by have := h.1.2.2.2.2.1; rw [List.length_dropLast]; omega)) _
theorem ok_setStyle {U : US} (h : UOK U) (v : Int32) : UOK (o_setStyle v U).2.2 := by
  unfold o_setStyle
  rcases ix_cases v 4 (by decide) with ⟨p, hp, rfl, e⟩ | ⟨hn, e⟩
  · rw [e]
    obtain ⟨a, b, c, d⟩ := h.1
    exact UOK.push h (S := (a_wd (us_S U), p, a_L (us_S U), a_s (us_S U), a_R (us_S U), a_E (us_S U), a_st (us_S U))) ⟨a, b, (show p ≤ 3 by omega), d⟩ (a_sy (us_S U))
  · rw [e]; exact h
theorem ok_send {U : US} (h : UOK U) : UOK (o_send U).2.2 := h.push (h.1.setS h.1.snt.1 (by have := h.1.snt.2; omega)) _
theorem ok_replace {U : US} (h : UOK U) (l v : Int32) : UOK (o_replace l v U).2.2 := by
  unfold o_replace
  split
  · rcases ix_cases v 16 (by decide) with ⟨p, hp, rfl, e⟩ | ⟨hn, e⟩
    · rw [e]
      exact h.push (h.1.setS (mem_set_lt h.1.2.2.2.2.2.1 hp) (by rw [List.length_set]; exact h.1.2.2.2.2.2.2.1)) _
    · rw [e]; exact h
  · exact h
theorem ok_lose {U : US} (h : UOK U) (l : Int32) : UOK (o_lose l U).2.2 := by
  unfold o_lose
  split
  · exact h.push (h.1.setS (fun v hv => h.1.2.2.2.2.2.1 v (List.mem_of_mem_eraseIdx hv)) (Nat.le_trans (List.length_eraseIdx_le _ _) h.1.2.2.2.2.2.2.1)) _
  · exact h
theorem ok_gain {U : US} (h : UOK U) (l v : Int32) : UOK (o_gain l v U).2.2 := by
  have hl := h.1.2.2.2.2.2.2.1
  unfold o_gain
  rcases ix_cases l ((a_s (us_S U)).length + 1) (by omega) with ⟨j, hj, rfl, ej⟩ | ⟨hnl, ej⟩
  · rw [ej]
    dsimp only
    rcases ix_cases v 16 (by decide) with ⟨p, hp, rfl, e⟩ | ⟨hn, e⟩
    · rw [e]
      dsimp only
      split
      · exact h
      · refine h.push (h.1.setS (fun q hq => ?_) (by rw [List.length_insertIdx_of_le_length (by omega)]; omega)) _
        rcases (List.mem_insertIdx (by omega)).mp hq with hq | hq
        · omega
        · exact h.1.2.2.2.2.2.1 q hq
    · rw [e]; exact h
  · rw [ej]; exact h
theorem ok_receive {U : US} (h : UOK U) : UOK (o_receive U).2.2 := h.push (h.1.setR (readA_ok _ _ h.1.2.1 h.1.2.2.2.2.2.2.1)) _
theorem ok_append {U : US} (h : UOK U) (v : Int32) : UOK (o_append v U).2.2 := by
  unfold o_append
  rcases ix_cases v 127 (by decide) with ⟨p, hp, rfl, e⟩ | ⟨hn, e⟩
  · rw [e]
    dsimp only
    split
    · split
      · exact h
      · obtain ⟨h1, h2, h3, h4, h5, h6⟩ := h
        refine ⟨h1, h2, h3, h4, fun c hc => ?_, ?_⟩
        · have hc : c ∈ us_B U ++ [p] := hc
          rcases List.mem_append.mp hc with hc | hc
          · exact h5 c hc
          · simp only [List.mem_cons, List.not_mem_nil, or_false] at hc; omega
        · show (us_B U ++ [p]).length ≤ 60
          rw [List.length_append]; simp only [List.length_cons, List.length_nil]; omega
    · exact h
  · rw [e]; exact h
theorem ok_clearBuffer {U : US} (h : UOK U) : UOK (o_clearBuffer U).2.2 := ⟨h.1, h.2.1, h.2.2.1, h.2.2.2.1, fun c hc => (List.not_mem_nil hc).elim, Nat.zero_le 60⟩
theorem ok_undo {U : US} (h : UOK U) : UOK (o_undo U).2.2 := by
  unfold o_undo
  split
  · rename_i hne
    obtain ⟨h1, h2, h3, h4, h5, h6⟩ := h
    exact ⟨h3 _ (List.getLast_mem hne), h2, fun t ht => h3 t (List.dropLast_subset _ ht), by show (us_T U).dropLast.length ≤ 5; rw [List.length_dropLast]; omega, h5, h6⟩
  · exact h
theorem ok_keep {U : US} (h : UOK U) : UOK (o_keep U).2.2 := ⟨h.1, fun n hn => by cases hn; exact h.1, h.2.2⟩
theorem ok_restore {U : US} (h : UOK U) : UOK (o_restore U).2.2 := by
  unfold o_restore
  split
  · rename_i n hn
    exact h.push (h.2.1 n hn) _
  · exact h

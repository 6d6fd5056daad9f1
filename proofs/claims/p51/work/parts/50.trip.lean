/-! THE ROUND TRIP: what is sent is read -/
/-- at p stands l -/
def At (s : List Nat) (p : Nat) (l : List Nat) : Prop := ∃ a r, s = a ++ (l ++ r) ∧ a.length = p
theorem at_cons {s : List Nat} {p v : Nat} {l : List Nat} (h : At s p (v :: l)) : s[p]? = some v ∧ At s (p + 1) l := by
  obtain ⟨a, r, rfl, rfl⟩ := h
  exact ⟨by simp, a ++ [v], r, by simp, by simp⟩
theorem at_app {s : List Nat} {p : Nat} {l m : List Nat} (h : At s p (l ++ m)) : At s (p + l.length) m := by
  obtain ⟨a, r, rfl, rfl⟩ := h
  exact ⟨a ++ l, r, by simp, by simp⟩
theorem at_right {s : List Nat} {p : Nat} {l : List Nat} (h : At s p l) (t : List Nat) : At (s ++ t) p l := by
  obtain ⟨a, r, rfl, rfl⟩ := h
  exact ⟨a, r ++ t, by simp, rfl⟩
theorem esc_15 : esc 15 = [15, 1] := rfl
theorem esc_n {v : Nat} (h : v ≠ 15) : esc v = [v] := if_neg h
theorem nums_cons (v : Nat) (k : List Nat) : nums (v :: k) = (esc v).length + nums k := by unfold nums; rw [List.flatMap_cons, List.length_append]
theorem kn_at {s : List Nat} {p v : Nat} {l : List Nat} (h : At s p (esc v ++ l)) : kn s p = .inr (v, p + (esc v).length) ∧ At s (p + (esc v).length) l := by
  refine ⟨?_, at_app h⟩
  by_cases hv : v = 15
  · subst hv
    rw [esc_15] at h ⊢
    obtain ⟨e1, h1⟩ := at_cons (show At s p (15 :: (1 :: l)) from h)
    obtain ⟨e2, -⟩ := at_cons h1
    unfold kn
    rw [e1]
    dsimp only
    rw [if_pos rfl, e2]
    rfl
  · rw [esc_n hv] at h ⊢
    obtain ⟨e1, -⟩ := at_cons (show At s p (v :: l) from h)
    unfold kn
    rw [e1]
    dsimp only
    rw [if_neg hv]
    rfl
theorem rn_at {s : List Nat} {p r : Nat} {l : List Nat} (h : At s p ((enc r).flatMap esc ++ l)) : rn s p = .inr (r, p + nums (enc r), (enc r).sum) ∧ At s (p + nums (enc r)) l := by
  refine ⟨?_, at_app h⟩
  by_cases hr : r < 14
  · have e : enc r = [r] := if_pos hr
    rw [e] at h ⊢
    simp only [List.flatMap_cons, List.flatMap_nil, List.append_nil] at h
    obtain ⟨k1, -⟩ := kn_at h
    unfold rn
    rw [k1]
    dsimp only
    rw [if_neg (show ¬r = 15 by omega), if_neg (show ¬r = 14 by omega)]
    simp [nums, esc]
  · have e : enc r = [14, r / 16, r % 16] := if_neg hr
    rw [e] at h ⊢
    simp only [List.flatMap_cons, List.flatMap_nil, List.append_nil, List.append_assoc] at h
    obtain ⟨k1, h1⟩ := kn_at h
    obtain ⟨k2, h2⟩ := kn_at h1
    obtain ⟨k3, h3⟩ := kn_at h2
    unfold rn
    rw [k1]
    dsimp only
    rw [if_neg (show ¬(14 : Nat) = 15 by decide), if_pos rfl, k2]
    dsimp only
    rw [k3]
    dsimp only
    simp only [nums, List.flatMap_cons, List.flatMap_nil, List.append_nil, List.length_append, List.sum_cons, List.sum_nil, Nat.div_add_mod, Nat.add_assoc, Nat.add_zero]
theorem run_px (p t r : Nat) (b : Bool) (hb : ∀ j, t ≤ j → j < t + r → p.testBit j = b) : (if b then p % 2 ^ t ||| (2 ^ r - 1) * 2 ^ t else p % 2 ^ t) = p % 2 ^ (t + r) := by
  apply Nat.eq_of_testBit_eq
  intro j
  cases b with
  | false =>
    simp only [Bool.false_eq_true, if_false, Nat.testBit_mod_two_pow]
    by_cases h1 : j < t
    · simp [h1, show j < t + r by omega]
    · by_cases h2 : j < t + r
      · simp [h1, hb j (by omega) h2]
      · simp [h1, h2]
  | true =>
    rw [if_pos rfl, Nat.testBit_or, ← Nat.shiftLeft_eq, Nat.testBit_shiftLeft, Nat.testBit_two_pow_sub_one, Nat.testBit_mod_two_pow, Nat.testBit_mod_two_pow]
    by_cases h1 : j < t
    · simp [h1, show ¬t ≤ j by omega, show j < t + r by omega]
    · by_cases h2 : j < t + r
      · simp [h1, h2, hb j (by omega) h2, show t ≤ j by omega, show j - t < r by omega]
      · simp [h1, h2, show ¬j - t < r by omega]
theorem rns_end (s : List Nat) (wd n : Nat) (b : Bool) (x p sm : Nat) : rns s wd n wd b x p sm = .inr (x, p, sm) := by
  cases n with
  | zero => rfl
  | succ n => simp only [rns]; rw [if_pos (Nat.le_refl wd)]
theorem rns_at (s : List Nat) (wd p0 : Nat) : ∀ (m i : Nat) (b : Bool) (r n t p sm : Nat) (l : List Nat), i + m = wd → t + r = i → 0 < m + r → (∀ j, t ≤ j → j < i → p0.testBit j = b) → m + 1 ≤ n → At s p (((rl p0 m i b r).flatMap enc).flatMap esc ++ l) →
    rns s wd n t b (p0 % 2 ^ t) p sm = .inr (p0 % 2 ^ wd, p + nums ((rl p0 m i b r).flatMap enc), sm + ((rl p0 m i b r).flatMap enc).sum) := by
  intro m
  induction m with
  | zero =>
    intro i b r n t p sm l hi ht hpos hb hn h
    obtain ⟨k, rfl⟩ : ∃ k, n = k + 1 := ⟨n - 1, by omega⟩
    simp only [rl, List.flatMap_cons, List.flatMap_nil, List.append_nil] at h ⊢
    obtain ⟨e, -⟩ := rn_at h
    simp only [rns]
    rw [if_neg (show ¬wd ≤ t by omega), e]
    dsimp only
    rw [if_neg (show ¬wd - t < r by omega), run_px p0 t r b (fun j a1 a2 => hb j a1 (by omega)), show t + r = wd by omega, rns_end]
  | succ m ih =>
    intro i b r n t p sm l hi ht hpos hb hn h
    simp only [rl] at h ⊢
    by_cases hbit : p0.testBit i = b
    · rw [if_pos hbit] at h ⊢
      exact ih (i + 1) b (r + 1) n t p sm l (by omega) (by omega) (by omega) (fun j a1 a2 => by
        rcases Nat.lt_or_ge j i with q | q
        · exact hb j a1 q
        · rw [show j = i by omega]; exact hbit) (by omega) h
    · rw [if_neg hbit] at h ⊢
      obtain ⟨k, rfl⟩ : ∃ k, n = k + 1 := ⟨n - 1, by omega⟩
      rw [List.flatMap_cons, List.flatMap_append, List.append_assoc] at h
      obtain ⟨e, h1⟩ := rn_at h
      have key := ih (i + 1) (!b) 1 k i (p + nums (enc r)) (sm + (enc r).sum) l (by omega) rfl (by omega) (fun j a1 a2 => by
        rw [show j = i by omega]
        cases hq : p0.testBit i <;> cases b <;> simp_all) (by omega) h1
      simp only [rns]
      rw [if_neg (show ¬wd ≤ t by omega), e]
      dsimp only
      rw [if_neg (show ¬wd - t < r by omega), run_px p0 t r b (fun j a1 a2 => hb j a1 (by omega)), ht, key]
      rw [List.flatMap_cons, nums_app, List.sum_append, Nat.add_assoc, Nat.add_assoc]
theorem four_bits (p f : Nat) : (four p f).testBit 3 = p.testBit f ∧ (four p f).testBit 2 = p.testBit (f + 1) ∧ (four p f).testBit 1 = p.testBit (f + 2) ∧ (four p f).testBit 0 = p.testBit (f + 3) := by
  unfold four bN
  cases p.testBit f <;> cases p.testBit (f + 1) <;> cases p.testBit (f + 2) <;> cases p.testBit (f + 3) <;> decide
theorem mod_bit (p k : Nat) : p % 2 ^ (k + 1) = if p.testBit k then p % 2 ^ k ||| 2 ^ k else p % 2 ^ k := by
  apply Nat.eq_of_testBit_eq
  intro j
  by_cases h : p.testBit k = true
  · rw [if_pos h, Nat.testBit_or, Nat.testBit_mod_two_pow, Nat.testBit_mod_two_pow, Nat.testBit_two_pow]
    rcases Nat.lt_trichotomy j k with q | q | q
    · simp [q, show j < k + 1 by omega, show ¬k = j by omega]
    · subst q; simp [h]
    · simp [show ¬j < k by omega, show ¬j < k + 1 by omega, show ¬k = j by omega]
  · rw [if_neg h, Nat.testBit_mod_two_pow, Nat.testBit_mod_two_pow]
    rcases Nat.lt_trichotomy j k with q | q | q
    · simp [q, show j < k + 1 by omega]
    · subst q; simp [h]
    · simp [show ¬j < k by omega, show ¬j < k + 1 by omega]
theorem tb_hi {p wd j : Nat} (hp : p < 2 ^ wd) (hj : wd ≤ j) : p.testBit j = false := Nat.testBit_lt_two_pow (Nat.lt_of_lt_of_le hp (Nat.pow_le_pow_right (by decide) hj))
theorem fbt_at (p0 wd f : Nat) (hp : p0 < 2 ^ wd) : ∀ n i, n + i = 4 → fbt (four p0 f) wd f n i (p0 % 2 ^ (f + i)) = some (p0 % 2 ^ (f + 4)) := by
  intro n
  induction n with
  | zero => intro i hi; simp only [fbt]; rw [show i = 4 by omega]
  | succ n ih =>
    intro i hi
    have hb : (four p0 f).testBit (3 - i) = p0.testBit (f + i) := by
      obtain ⟨b3, b2, b1, b0⟩ := four_bits p0 f
      rcases (show i = 0 ∨ i = 1 ∨ i = 2 ∨ i = 3 by omega) with rfl | rfl | rfl | rfl
      · exact b3
      · exact b2
      · exact b1
      · exact b0
    have hm := mod_bit p0 (f + i)
    simp only [fbt]
    rw [hb]
    by_cases h : p0.testBit (f + i) = true
    · have hlt : ¬wd ≤ f + i := fun q => by rw [tb_hi hp q] at h; exact absurd h (by decide)
      rw [if_pos h] at hm
      rw [if_pos h, if_neg hlt, ← hm]
      exact ih (i + 1) (by omega)
    · rw [if_neg h] at hm
      rw [if_neg h, ← hm]
      exact ih (i + 1) (by omega)
theorem fos_at (s : List Nat) (wd p0 : Nat) (hp : p0 < 2 ^ wd) : ∀ (m f n p sm : Nat) (l : List Nat), wd ≤ f + 4 * m → f + 4 * m < wd + 4 → m ≤ n → At s p ((fours p0 m f).flatMap esc ++ l) → fos s wd n f (p0 % 2 ^ f) p sm = .inr (p0, p + nums (fours p0 m f), sm + (fours p0 m f).sum) := by
  intro m
  induction m with
  | zero =>
    intro f n p sm l h1 h2 hn h
    rw [Nat.mod_eq_of_lt (Nat.lt_of_lt_of_le hp (Nat.pow_le_pow_right (by decide) (by omega)))]
    cases n with
    | zero => rfl
    | succ n => simp only [fos]; rw [if_pos (show wd ≤ f by omega)]; rfl
  | succ m ih =>
    intro f n p sm l h1 h2 hn h
    obtain ⟨k, rfl⟩ : ∃ k, n = k + 1 := ⟨n - 1, by omega⟩
    simp only [fours, List.flatMap_cons, List.append_assoc] at h ⊢
    obtain ⟨e, hh⟩ := kn_at h
    have hf := fbt_at p0 wd f hp 4 0 rfl
    rw [Nat.add_zero] at hf
    simp only [fos]
    rw [if_neg (show ¬wd ≤ f by omega), e]
    dsimp only
    rw [hf]
    dsimp only
    rw [ih (f + 4) k _ _ l (by omega) (by omega) (by omega) hh, nums_cons, List.sum_cons, Nat.add_assoc, Nat.add_assoc]
theorem getD_lt2 {L : List Nat} {B : Nat} (hB : 0 < B) (hv : ∀ v ∈ L, v < B) (j : Nat) : L.getD j 0 < B := by
  by_cases h : j < L.length
  · exact hv _ (List.mem_of_getElem? (getD_some h))
  · rw [List.getD_eq_getElem?_getD, getD_none (by omega)]; exact hB
theorem kpx_lt2 {L : List Nat} {wd : Nat} (hv : ∀ v ∈ L, v < 2 ^ wd) (n m : Nat) : kpx L n m < 2 ^ wd := by
  have h0 := Nat.two_pow_pos wd
  unfold kpx
  split
  · refine Nat.xor_lt_two_pow (getD_lt2 h0 hv n) ?_
    split
    · exact h0
    · exact getD_lt2 h0 hv _
  · exact getD_lt2 h0 hv n
theorem code1_eq (wd : Nat) (L : List Nat) (n m : Nat) (l : List Nat) : code1 wd L n m ++ l = 15 :: 0 :: n :: m :: ((ker wd (kpx L n m) m).flatMap esc ++ (chk wd L n m :: l)) := by
  unfold code1 kcode chk
  simp
theorem rcd_at {s : List Nat} {wd : Nat} {L : List Nat} (hw1 : 1 ≤ wd) (hw : wd ≤ 32) (hv : ∀ v ∈ L, v < 2 ^ wd) {i m : Nat} (hi : i < 10) (hm : m < 3) {R : List (Option Nat)} (hR : ∀ j, j < i → R.getD j none = some (L.getD j 0)) {p : Nat} {l : List Nat} (h : At s p (code1 wd L i m ++ l)) :
    rcd s wd R (p + 2) = .inr (i, L.getD i 0, p + (code1 wd L i m).length) := by
  have hlen : (code1 wd L i m).length = 5 + nums (ker wd (kpx L i m) m) := clen_ker wd L i m
  rw [code1_eq] at h
  obtain ⟨-, h1⟩ := at_cons h
  obtain ⟨-, h2⟩ := at_cons h1
  obtain ⟨e2, h3⟩ := at_cons h2
  obtain ⟨e3, h4⟩ := at_cons h3
  have hk : (if m = 1 then fos s wd 9 0 0 (p + 2 + 2) (i + m) else rns s wd 501 0 false 0 (p + 2 + 2) (i + m)) = .inr (kpx L i m, p + 2 + 2 + nums (ker wd (kpx L i m) m), i + m + (ker wd (kpx L i m) m).sum) := by
    have hp := kpx_lt2 hv i m
    generalize kpx L i m = p0 at *
    unfold ker at *
    by_cases h1 : m = 1
    · rw [if_pos h1] at h4 ⊢
      rw [if_pos h1]
      have := fos_at s wd p0 hp ((wd + 3) / 4) 0 9 (p + 2 + 2) (i + m) _ (by omega) (by omega) (by omega) h4
      rw [Nat.pow_zero, Nat.mod_one] at this
      exact this
    · rw [if_neg h1] at h4 ⊢
      rw [if_neg h1]
      have := rns_at s wd p0 wd 0 false 0 501 0 (p + 2 + 2) (i + m) _ (by omega) rfl (by omega) (fun j a1 a2 => absurd a2 (by omega)) (by omega) h4
      rw [Nat.pow_zero, Nat.mod_one, Nat.mod_eq_of_lt hp] at this
      exact this
  have hc := at_app h4
  obtain ⟨ec, -⟩ := at_cons hc
  unfold rcd
  rw [show s[p + 2]? = some i from e2]
  dsimp only
  rw [if_neg (show ¬10 ≤ i by omega), show s[p + 2 + 1]? = some m from e3]
  dsimp only
  rw [if_neg (show ¬3 ≤ m by omega), if_neg (fun q => by rw [hR (i - 1) (by omega)] at q; exact absurd q.2.2 (by simp)), hk]
  unfold rend
  dsimp only
  rw [show s[p + 2 + 2 + nums (ker wd (kpx L i m) m)]? = some (chk wd L i m) from ec]
  dsimp only
  rw [show chk wd L i m = (i + m + (ker wd (kpx L i m) m).sum) % 15 from rfl, if_pos rfl, hlen, show p + 2 + 2 + nums (ker wd (kpx L i m) m) + 1 = p + (5 + nums (ker wd (kpx L i m) m)) by omega]
  congr 3
  unfold kpx prevR
  by_cases h1 : m = 2
  · rw [if_pos h1, if_pos h1]
    by_cases h0 : i = 0
    · rw [if_pos h0, if_pos h0, Nat.xor_zero, Nat.xor_zero]
    · rw [if_neg h0, if_neg h0, hR (i - 1) (by omega), Option.getD_some, Nat.xor_assoc, Nat.xor_self, Nat.xor_zero]
  · rw [if_neg h1, if_neg h1]
theorem sent_at (S : AS) (i : Nat) : ∀ d, At (sent S (i + 1 + d)) (sent S i).length (code1 (a_wd S) (a_L S) i (modeS S i)) := by
  intro d
  induction d with
  | zero => exact ⟨sent S i, [], by rw [Nat.add_zero, sent_succ, List.append_nil], rfl⟩
  | succ d ih =>
    rw [show i + 1 + (d + 1) = i + 1 + d + 1 from rfl, sent_succ]
    exact at_right ih _
theorem sentA_at (S : AS) (i : Nat) (hi : i < (a_L S).length) : At (sentA S) (sent S i).length (code1 (a_wd S) (a_L S) i (modeS S i) ++ []) := by
  have := sent_at S i ((a_L S).length - (i + 1))
  rw [show i + 1 + ((a_L S).length - (i + 1)) = (a_L S).length by omega] at this
  rw [List.append_nil]
  exact this
def Rk (S : AS) (i : Nat) : List (Option Nat) := mkL 10 (fun j => if j < i then some ((a_L S).getD j 0) else none)
theorem Rk_get {S : AS} {i j : Nat} (hj : j < 10) : (Rk S i).getD j none = if j < i then some ((a_L S).getD j 0) else none := mkL_getD _ _ _ _ hj
theorem Rk_set (S : AS) (i : Nat) : (Rk S i).set i (some ((a_L S).getD i 0)) = Rk S (i + 1) := by
  unfold Rk
  rw [mkL_set]
  apply mkL_congr
  intro j hj
  by_cases h : j = i
  · subst h; rw [if_pos rfl, if_pos (by omega)]
  · rw [if_neg h]
    by_cases h2 : j < i
    · rw [if_pos h2, if_pos (by omega)]
    · rw [if_neg h2, if_neg (by omega)]
theorem Rk_0 (S : AS) : Rk S 0 = R0 := by
  unfold Rk R0 mkL
  simp
  decide
theorem code1_pos (wd : Nat) (L : List Nat) (n m : Nat) : 5 ≤ (code1 wd L n m).length := by
  have := clen_ker wd L n m
  unfold clen at this
  omega
theorem rdg_at {S : AS} (hS : SOK S) : ∀ (u i n : Nat), u + i = (a_L S).length → u + 1 ≤ n → rdg (sentA S) (a_wd S) n (sent S i).length (Rk S i) [] = (Rk S (a_L S).length, []) := by
  obtain ⟨h1, h2, h3, h4, h5, -⟩ := hS
  intro u
  induction u with
  | zero =>
    intro i n hi hn
    obtain ⟨k, rfl⟩ : ∃ k, n = k + 1 := ⟨n - 1, by omega⟩
    have hi2 : i = (a_L S).length := by omega
    subst hi2
    simp only [rdg]
    rw [mfr_none _ _ _ (fun q hq hm => by
      have := hm.1
      rw [getD_none (show (sentA S).length ≤ q from hq)] at this
      exact absurd this (by simp))]
  | succ u ih =>
    intro i n hi hn
    obtain ⟨k, rfl⟩ : ∃ k, n = k + 1 := ⟨n - 1, by omega⟩
    have hA := sentA_at S i (by omega)
    have hr := rcd_at (by omega) h2 h4 (show i < 10 by omega) (modeS_lt h3 i) (R := Rk S i) (fun j hj => by rw [Rk_get (by omega), if_pos hj]) hA
    rw [code1_eq] at hA
    obtain ⟨e1, hA1⟩ := at_cons hA
    obtain ⟨e2, -⟩ := at_cons hA1
    have hmf : mfr (sentA S) (sentA S).length (sent S i).length = some (sent S i).length := by
      cases hq : (sentA S).length with
      | zero => rw [getD_none (by omega)] at e1; exact absurd e1 (by simp)
      | succ z => simp only [mfr]; rw [if_pos ⟨e1, e2⟩]
    simp only [rdg]
    rw [hmf]
    dsimp only
    rw [hr]
    dsimp only
    have hl : (sent S i).length + (code1 (a_wd S) (a_L S) i (modeS S i)).length = (sent S (i + 1)).length := by rw [sent_succ, List.length_append]
    rw [hl, Rk_set]
    exact ih (i + 1) k (by omega) (by omega)
theorem trip {S : AS} (hS : SOK S) : readA (sentA S) (a_wd S) = (Rk S (a_L S).length, []) := by
  have h := rdg_at hS (a_L S).length 0 500 rfl (by have := hS.2.2.2.2.1; omega)
  rw [Rk_0] at h
  exact h
/-! markers -/
theorem mkn_ker (s : List Nat) (c : Nat) (hc : c ≠ 15) : ∀ (k : List Nat) (p n : Nat) (l : List Nat), At s p (k.flatMap esc ++ (c :: l)) → mkn s p (nums k + n) = mkn s (p + nums k) n := by
  intro k
  induction k with
  | nil => intro p n l h; show mkn s p (0 + n) = mkn s (p + 0) n; rw [Nat.zero_add, Nat.add_zero]
  | cons v k ih =>
    intro p n l h
    rw [List.flatMap_cons, List.append_assoc] at h
    rw [nums_cons]
    have h2 := at_app h
    by_cases hv : v = 15
    · subst hv
      rw [esc_15] at h h2 ⊢
      obtain ⟨e1, h1⟩ := at_cons (show At s p (15 :: (1 :: (k.flatMap esc ++ (c :: l)))) from h)
      obtain ⟨e2, h3⟩ := at_cons h1
      rw [show [15, 1].length + nums k + n = nums k + n + 1 + 1 by simp; omega]
      simp only [mkn]
      rw [if_neg (fun q => by rw [e2] at q; exact absurd q.2 (by simp)), if_neg (fun q => by rw [e2] at q; exact absurd q.1 (by simp)), Nat.zero_add, Nat.zero_add, ih (p + 1 + 1) n l h3]
      congr 1
      simp
      omega
    · rw [esc_n hv] at h h2 ⊢
      obtain ⟨e1, h1⟩ := at_cons (show At s p (v :: (k.flatMap esc ++ (c :: l))) from h)
      rw [show [v].length + nums k + n = nums k + n + 1 by simp; omega]
      simp only [mkn]
      rw [if_neg (fun q => by rw [e1] at q; exact hv (Option.some.inj q.1)), Nat.zero_add, ih (p + 1) n l h1]
      congr 1
      simp
      omega
theorem mkn_code {s : List Nat} {wd : Nat} {L : List Nat} {i m : Nat} (hi : i < 10) (hm : m < 3) {p : Nat} {l : List Nat} (h : At s p (code1 wd L i m ++ l)) (n : Nat) : mkn s p ((code1 wd L i m).length + n) = 1 + mkn s (p + (code1 wd L i m).length) n := by
  have hlen : (code1 wd L i m).length = 5 + nums (ker wd (kpx L i m) m) := clen_ker wd L i m
  rw [code1_eq] at h
  obtain ⟨e0, h1⟩ := at_cons h
  obtain ⟨e1, h2⟩ := at_cons h1
  obtain ⟨e2, h3⟩ := at_cons h2
  obtain ⟨e3, h4⟩ := at_cons h3
  have hc := at_app h4
  obtain ⟨ec, -⟩ := at_cons hc
  have hc14 : chk wd L i m ≠ 15 := by
    have : chk wd L i m < 15 := Nat.mod_lt _ (by decide)
    omega
  have hk := mkn_ker s _ hc14 (ker wd (kpx L i m) m) (p + 1 + 1 + 1 + 1) (1 + n) l h4
  rw [hlen, show 5 + nums (ker wd (kpx L i m) m) + n = nums (ker wd (kpx L i m) m) + (1 + n) + 1 + 1 + 1 + 1 by omega]
  simp only [mkn]
  rw [if_pos ⟨e0, e1⟩, if_neg (fun q => by rw [e1] at q; exact absurd q.1 (by simp)), if_neg (fun q => by rw [e2] at q; exact absurd (Option.some.inj q.1) (by omega)), if_neg (fun q => by rw [e3] at q; exact absurd (Option.some.inj q.1) (by omega)), hk, Nat.add_comm 1 n]
  simp only [mkn]
  have ec' : s[p + 1 + 1 + 1 + 1 + nums (ker wd (kpx L i m) m)]? = some (chk wd L i m) := ec
  rw [if_neg (fun q => by rw [ec'] at q; exact hc14 (Option.some.inj q.1))]
  simp only [Nat.zero_add]
  congr 2
  omega
theorem mkn_sent {S : AS} (hS : SOK S) : ∀ (u i n : Nat), u + i = (a_L S).length → (sent S i).length + n = (sentA S).length → mkn (sentA S) (sent S i).length n = u := by
  obtain ⟨h1, h2, h3, h4, h5, -⟩ := hS
  intro u
  induction u with
  | zero =>
    intro i n hi hn
    have hi2 : i = (a_L S).length := by omega
    subst hi2
    have : n = 0 := by unfold sentA at hn; omega
    subst this
    rfl
  | succ u ih =>
    intro i n hi hn
    have hA := sentA_at S i (by omega)
    obtain ⟨a, r, hs, ha⟩ := id hA
    have hl : (sent S i).length + (code1 (a_wd S) (a_L S) i (modeS S i)).length = (sent S (i + 1)).length := by rw [sent_succ, List.length_append]
    have hn2 : n = (code1 (a_wd S) (a_L S) i (modeS S i)).length + r.length := by
      have := congrArg List.length hs
      simp only [List.length_append, List.length_nil] at this
      omega
    rw [hn2, mkn_code (show i < 10 by omega) (modeS_lt h3 i) hA, hl, ih (i + 1) r.length (by omega) (by omega)]
    omega
theorem mkn_sentA {S : AS} (hS : SOK S) : mkn (sentA S) 0 (sentA S).length = (a_L S).length := mkn_sent hS (a_L S).length 0 _ rfl (Nat.zero_add _)
theorem mkn_half (s : List Nat) : ∀ m n p, n ≤ m → p + n = s.length → 2 * mkn s p n ≤ n := by
  intro m
  induction m with
  | zero => intro n p hn _; rw [show n = 0 by omega]; simp [mkn]
  | succ m ih =>
    intro n p hn hp
    match n with
    | 0 => simp [mkn]
    | 1 =>
      simp only [mkn]
      rw [if_neg (fun q => by rw [getD_none (show s.length ≤ p + 1 by omega)] at q; exact absurd q.2 (by simp))]
      decide
    | n + 2 =>
      by_cases h : s[p]? = some 15 ∧ s[p + 1]? = some 0
      · have := ih n (p + 1 + 1) (by omega) (by omega)
        simp only [mkn]
        rw [if_pos h, if_neg (fun q => by rw [h.2] at q; exact absurd q.1 (by simp))]
        omega
      · have := ih (n + 1) (p + 1) (by omega) (by omega)
        rw [show mkn s p (n + 2) = (if s[p]? = some 15 ∧ s[p + 1]? = some 0 then 1 else 0) + mkn s (p + 1) (n + 1) from rfl, if_neg h]
        omega

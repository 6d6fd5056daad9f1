/-! WORDS FOR STATES: numbers, what a part of the world is, what stays -/
theorem fv4 : (0 : Fin 4).val = 0 ∧ (1 : Fin 4).val = 1 ∧ (2 : Fin 4).val = 2 ∧ (3 : Fin 4).val = 3 := ⟨rfl, rfl, rfl, rfl⟩
theorem RI_i (x : Int32) : RI (some .int) x = True := eq_true (Or.inl rfl)
theorem RI_z0 : RI (some .boolean) 0 = True := eq_true (Or.inr ⟨rfl, Or.inl rfl⟩)
theorem RI_z1 : RI (some .boolean) 1 = True := eq_true (Or.inr ⟨rfl, Or.inr rfl⟩)
/-- nothing outside of lo .. lo + n - 1 has changed -/
def Fr (w w' : PW) (lo n : Nat) : Prop := ∀ b, (b < lo ∨ lo + n ≤ b) → w' b = w b
theorem Fr.rf {w : PW} {lo n : Nat} : Fr w w lo n := fun _ _ => rfl
theorem Fr.tr {w w1 w2 : PW} {lo n : Nat} (h : Fr w w1 lo n) (h2 : Fr w1 w2 lo n) : Fr w w2 lo n := fun b hb => (h2 b hb).trans (h b hb)
theorem Fr.wid {w w1 : PW} {lo n lo2 n2 : Nat} (h : Fr w w1 lo n) (h1 : lo2 ≤ lo) (h2 : lo + n ≤ lo2 + n2) : Fr w w1 lo2 n2 := fun b hb => h b (by omega)
theorem Fr.wr {w : PW} {lo n a : Nat} {e : va_E} (h1 : lo ≤ a) (h2 : a < lo + n) : Fr w (up w a e) lo n := fun b hb => by
  have : b ≠ a := by omega
  simp [up, this]
theorem Fr.at {w w1 : PW} {lo n a : Nat} (h : Fr w w1 lo n) (h1 : a < lo ∨ lo + n ≤ a) : w1 a = w a := h a h1
theorem up_s (w : PW) (a : Nat) (e : va_E) : up w a e a = some e := by simp [up]
theorem up_n (w : PW) (a b : Nat) (e : va_E) (h : b ≠ a) : up w a e b = w b := by simp [up, h]
theorem up_1 (w : PW) (a : Nat) (e : va_E) : up w a e (a + 1) = w (a + 1) := by simp [up]
theorem up_m (w : PW) (a : Nat) (e : va_E) : up w (a + 1) e a = w a := by simp [up]
theorem up_u (w : PW) (a : Nat) (e e2 : va_E) : up (up w a e) a e2 = up w a e2 := by
  funext b
  by_cases h : b = a <;> simp [up, h]
/-- an array of numbers -/
def IA (f : Nat → Int32) (L : List Nat) : Prop := ∀ j, j < L.length → f j = nI (L.getD j 0)
def LA (f : Nat → Int64) (L : List Nat) : Prop := ∀ j, j < L.length → f j = lN (L.getD j 0)
/-- a stream at a -/
def SmR (w : PW) (a : Nat) (s : List Nat) : Prop := ∃ f, w a = some (.inr (8, [.int (nI s.length), .ref (a + 1)])) ∧ w (a + 1) = some (.inl (0, 500, .inl f)) ∧ IA f s ∧ s.length ≤ 500
/-- a page at a: width, style, lines -/
def PgR (w : PW) (a wd sy : Nat) (L : List Nat) : Prop := ∃ f, w a = some (.inr (2, [.int (nI wd), .int (nI sy), .int (nI L.length), .ref (a + 1)])) ∧ w (a + 1) = some (.inl (1, 10, .inr (.inl f))) ∧ LA f L ∧ L.length ≤ 10
/-- a reception at a: what is received, the errors -/
def RcR (w : PW) (a : Nat) (R : List (Option Nat)) (E : List (Nat × Nat)) : Prop := ∃ (bits : Nat) (f : Nat → Int64) (g h : Nat → Int32), w a = some (.inr (6, [.int (nI bits), .ref (a + 1), .int (nI E.length), .ref (a + 2), .ref (a + 3)])) ∧ w (a + 1) = some (.inl (1, 10, .inr (.inl f))) ∧ w (a + 2) = some (.inl (0, 20, .inl g)) ∧ w (a + 3) = some (.inl (0, 20, .inl h)) ∧
  bits < 1024 ∧ R.length = 10 ∧ (∀ j, j < 10 → bits.testBit j = (R.getD j none).isSome) ∧ (∀ j p, j < 10 → R.getD j none = some p → f j = lN p) ∧ IA g (E.map (fun q => q.1)) ∧ IA h (E.map (fun q => q.2)) ∧ E.length ≤ 20
theorem SmR.fr {w w' : PW} {a lo n : Nat} {s : List Nat} (h : SmR w a s) (hf : Fr w w' lo n) (hd : a + 2 ≤ lo ∨ lo + n ≤ a) : SmR w' a s := by
  obtain ⟨f, h1, h2, h3⟩ := h
  exact ⟨f, by rw [hf a (by omega)]; exact h1, by rw [hf (a + 1) (by omega)]; exact h2, h3⟩
theorem PgR.fr {w w' : PW} {a lo n wd sy : Nat} {s : List Nat} (h : PgR w a wd sy s) (hf : Fr w w' lo n) (hd : a + 2 ≤ lo ∨ lo + n ≤ a) : PgR w' a wd sy s := by
  obtain ⟨f, h1, h2, h3⟩ := h
  exact ⟨f, by rw [hf a (by omega)]; exact h1, by rw [hf (a + 1) (by omega)]; exact h2, h3⟩
theorem RcR.fr {w w' : PW} {a lo n : Nat} {R : List (Option Nat)} {E : List (Nat × Nat)} (h : RcR w a R E) (hf : Fr w w' lo n) (hd : a + 4 ≤ lo ∨ lo + n ≤ a) : RcR w' a R E := by
  obtain ⟨bits, f, g, h', h1, h2, h3, h4, h5⟩ := h
  exact ⟨bits, f, g, h', by rw [hf a (by omega)]; exact h1, by rw [hf (a + 1) (by omega)]; exact h2, by rw [hf (a + 2) (by omega)]; exact h3, by rw [hf (a + 3) (by omega)]; exact h4, h5⟩
theorem nI_lit (n : Nat) : nI n = Int32.ofNat n := rfl
theorem nI_cl' {n : Nat} (h : n < 2 ^ 31) : (nI n).toNatClampNeg = n := nI_clamp h
theorem lt31 {n m : Nat} (h : n ≤ m) (hm : m < 2147483648 := by decide) : n < 2 ^ 31 := by omega
theorem vin {n m : Nat} (h : n < m) (hm : m ≤ 5000 := by decide) : vp_in (nI n) m := vp_in_nI h (by omega)
/-! comparing small numbers -/
theorem c_le {a b : Nat} (ha : a < 2147483648) (hb : b < 2147483648) : (nI a ≤ nI b) = (a ≤ b) := propext (nI_leI ha hb)
theorem c_lt {a b : Nat} (ha : a < 2147483648) (hb : b < 2147483648) : (nI a < nI b) = (a < b) := propext (nI_ltI ha hb)
theorem c_eq {a b : Nat} (ha : a < 2147483648) (hb : b < 2147483648) : (nI a = nI b) = (a = b) := propext (nI_eq ha hb)
theorem litI (n : Nat) : (OfNat.ofNat n : Int32) = nI n := rfl
theorem litL (n : Nat) : (OfNat.ofNat n : Int64) = lN n := rfl
theorem c_lel {a b : Nat} (ha : a < 2147483648) (hb : b < 2147483648) : ((OfNat.ofNat a : Int32) ≤ nI b) = (a ≤ b) := by rw [litI]; exact c_le ha hb
theorem c_ler {a b : Nat} (ha : a < 2147483648) (hb : b < 2147483648) : (nI b ≤ (OfNat.ofNat a : Int32)) = (b ≤ a) := by rw [litI]; exact c_le hb ha
theorem c_ltl {a b : Nat} (ha : a < 2147483648) (hb : b < 2147483648) : ((OfNat.ofNat a : Int32) < nI b) = (a < b) := by rw [litI]; exact c_lt ha hb
theorem c_ltr {a b : Nat} (ha : a < 2147483648) (hb : b < 2147483648) : (nI b < (OfNat.ofNat a : Int32)) = (b < a) := by rw [litI]; exact c_lt hb ha
theorem c_eql {a b : Nat} (ha : a < 2147483648) (hb : b < 2147483648) : ((OfNat.ofNat a : Int32) = nI b) = (a = b) := by rw [litI]; exact c_eq ha hb
theorem c_eqr {a b : Nat} (ha : a < 2147483648) (hb : b < 2147483648) : (nI b = (OfNat.ofNat a : Int32)) = (b = a) := by rw [litI]; exact c_eq hb ha
theorem c_in {a m : Nat} (ha : a < 2147483648) (hm : m < 2147483648) : vp_in (nI a) m = (a < m) := by
  apply propext
  unfold vp_in
  rw [nI_clamp ha]
  have := nI_pos (n := a) ha
  constructor
  · intro h; by_cases q : a < m
    · exact q
    · exact absurd (Or.inr (by omega)) h
  · rintro h (q | q)
    · exact this q
    · omega
theorem c_cl {a : Nat} (ha : a < 2147483648) : (nI a).toNatClampNeg = a := nI_clamp ha
theorem c_add (a b : Nat) : nI a + nI b = nI (a + b) := nI_add a b
theorem c_addr (a b : Nat) : nI a + (OfNat.ofNat b : Int32) = nI (a + b) := by rw [litI]; exact nI_add a b
theorem c_addl (a b : Nat) : (OfNat.ofNat b : Int32) + nI a = nI (b + a) := by rw [litI]; exact nI_add b a
theorem c_sub {a b : Nat} (h : b ≤ a) : nI a - nI b = nI (a - b) := pk_sub h
theorem c_subr {a b : Nat} (h : b ≤ a) : nI a - (OfNat.ofNat b : Int32) = nI (a - b) := by rw [litI]; exact pk_sub h
theorem c_mul (a b : Nat) : nI a * nI b = nI (a * b) := pk_mul a b
theorem c_mull (a b : Nat) : (OfNat.ofNat a : Int32) * nI b = nI (a * b) := by rw [litI]; exact pk_mul a b
theorem c_div {a b : Nat} (ha : a < 2147483648) (h0 : 0 < b) (hb : b < 2147483648) : nI a / (OfNat.ofNat b : Int32) = nI (a / b) := by rw [litI]; exact pk_div ha h0 hb
theorem c_ofN (n : Nat) : Int32.ofNat n = nI n := rfl
theorem c_m1 {a : Nat} (ha : a < 2147483648) : (nI a = -1) = False := by
  apply eq_false
  intro h
  have h1 := nI_pos (n := a) ha
  rw [h] at h1
  exact h1 (by decide)
theorem c_m1' {a : Nat} (ha : a < 2147483648) : ((-1 : Int32) = nI a) = False := by
  rw [← c_m1 ha]; exact propext ⟨fun h => h.symm, fun h => h.symm⟩
theorem c_lt0 {a : Nat} (ha : a < 2147483648) : (nI a < 0) = False := eq_false (nI_pos ha)
theorem c_ge0 {a : Nat} (ha : a < 2147483648) : (0 ≤ nI a) = True := eq_true (nI_pos' ha)
theorem c_le0 {a : Nat} (ha : a < 2147483648) : (nI a ≤ 0) = (a = 0) := by
  rw [show (0 : Int32) = nI 0 from rfl, c_le ha (by decide)]
  exact propext Nat.le_zero
theorem c_gt0 {a : Nat} (ha : a < 2147483648) : (0 < nI a) = (0 < a) := by
  rw [show (0 : Int32) = nI 0 from rfl, c_lt (by decide) ha]
theorem c_e0 {a : Nat} (ha : a < 2147483648) : (nI a = 0) = (a = 0) := by
  rw [show (0 : Int32) = nI 0 from rfl, c_eq ha (by decide)]
theorem i_cases (x : Int32) : x < 0 ∨ ∃ j, j < 2147483648 ∧ x = nI j := by
  by_cases h : x < 0
  · exact Or.inl h
  · exact Or.inr (nI_of h)
theorem neg_ne {x : Int32} (h : x < 0) (j : Nat) (hj : j < 2147483648) : x ≠ nI j := fun q => nI_pos (n := j) hj (q ▸ h)
/-- the answer of a question -/
def bI (b : Prop) [Decidable b] : Int32 := if b then 1 else 0
theorem cmp0 (x y : Int64) : (lg_cmp x y = 0) = (x = y) := by
  apply propext
  unfold lg_cmp
  have h := fa_lt64 y x
  have h2 := fa_eq64 x y
  by_cases h1 : y < x
  · have hn : ¬ x = y := fun q => by rw [q] at h1; exact absurd h1 (by simp)
    simp [h1, hn]
  · by_cases h3 : x = y
    · simp [h3]
    · simp [h1, h3]
theorem lN_0 : (0 : Int64) = lN 0 := rfl
theorem lN_eq' {a b : Nat} (ha : a < 2 ^ 64) (hb : b < 2 ^ 64) : lN a = lN b ↔ a = b := by
  constructor
  · intro h
    have := congrArg (fun z : Int64 => z.toBitVec.toNat) h
    simp only [wb_tn ha, wb_tn hb] at this
    exact this
  · intro h; rw [h]
/-- a long whose bits from k on are 0 -/
theorem fits_iff (x : Int64) {k : Nat} (hk : k < 64) : ((x.toUInt64 >>> ((nI k).toInt64.toUInt64 &&& Int64.toUInt64 63)).toInt64 = 0) = ∃ p, p < 2 ^ k ∧ x = lN p := by
  apply propext
  obtain ⟨n, hn, rfl⟩ := wb_of x
  rw [wb_shr hn hk, lN_0, lN_eq' (Nat.lt_of_le_of_lt (Nat.div_le_self _ _) hn) (by decide)]
  constructor
  · intro h
    exact ⟨n, (Nat.div_eq_zero_iff_lt (Nat.two_pow_pos k)).mp h, rfl⟩
  · rintro ⟨p, hp, h⟩
    have h64 : (2 : Nat) ^ k ≤ 2 ^ 64 := Nat.pow_le_pow_right (by decide) (by omega)
    rw [lN_eq' hn (by omega)] at h
    rw [h]
    exact (Nat.div_eq_zero_iff_lt (Nat.two_pow_pos k)).mpr hp
theorem c_rem (a k : Nat) : nI a - nI (a / k * k) = nI (a % k) := by
  rw [pk_sub (Nat.div_mul_le_self a k)]
  congr 1
  have := Nat.div_add_mod a k
  rw [Nat.mul_comm] at this
  omega
theorem c_and1 {a : Nat} (h : a < 2147483648) : nI a &&& 1 = nI (a % 2) := by
  exact fa_mask a 1
/-- jumps to t0 aren't followed -/
def cutc (t0 : Nat) (cd : Nat → Option (List PI)) : Nat → Option (List PI) := fun t => if t = t0 then none else cd t
theorem kd_cut (t0 : Nat) {K : MI} {cd : Nat → Option (List PI)} (h : ∀ t is, cd t = some is → okL K t is) : ∀ t is, cutc t0 cd t = some is → okL K t is := by
  intro t is hc
  unfold cutc at hc
  split at hc
  · cases hc
  · exact h t is hc

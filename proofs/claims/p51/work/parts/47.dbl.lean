/-! DOUBLES: a share's bits -/
def T52 : Nat := 4503599627370496
theorem b_tails : FP.Core.Fmt.tails FP.Core.b64 = 4503599627370496 := by decide +kernel
theorem b_exps : FP.Core.Fmt.exps FP.Core.b64 = 2048 := by decide +kernel
theorem b_qmin : FP.Core.Fmt.qmin FP.Core.b64 = -1074 := by decide +kernel
theorem b_qmax : FP.Core.Fmt.qmax FP.Core.b64 = 971 := by decide +kernel
theorem b_p : FP.Core.b64.p = 53 := rfl
theorem dl_dec {E T : Nat} (h1 : 1 ≤ E) (h2 : E ≤ 2046) (hT : T < 4503599627370496) : FP.Core.decode FP.Core.b64 (E * 4503599627370496 + T) = .fin false (4503599627370496 + T) ((E : Int) - 1075) := by
  unfold FP.Core.decode FP.Core.fieldE FP.Core.fieldT FP.Core.fieldS
  rw [b_tails, b_exps, b_qmin]
  have e1 : (E * 4503599627370496 + T) / 4503599627370496 = E := by omega
  have e2 : (E * 4503599627370496 + T) % 4503599627370496 = T := by omega
  rw [e1, e2, if_neg (by omega), if_neg (by omega), Nat.mod_eq_of_lt (by omega), Nat.div_eq_of_lt (by omega)]
  have e3 : ((0 % 2 == 1) : Bool) = false := rfl
  rw [e3]
  congr 1
  omega
theorem dl_enc {c : Nat} {q : Int} (h1 : 4503599627370496 ≤ c) (h3 : -1074 ≤ q) : FP.Core.encode FP.Core.b64 (.fin false c q) = (q + 1075).toNat * 4503599627370496 + (c - 4503599627370496) := by
  unfold FP.Core.encode FP.Core.assemble
  dsimp only
  rw [b_tails, b_exps, b_qmin, if_neg (by omega)]
  have e : (q - -1074).toNat + 1 = (q + 1075).toNat := by omega
  rw [e]
  simp
theorem dl_log {c : Nat} (h1 : 4503599627370496 ≤ c) (h2 : c < 9007199254740992) : c.log2 = 52 := (Nat.log2_eq_iff (by omega)).mpr ⟨h1, h2⟩
theorem near0 {n d : Nat} (h : n % d = 0) (hd : 0 < d) : FP.Core.nearest n d = n / d := by
  unfold FP.Core.nearest
  rw [h, if_pos (by omega)]
theorem dl_settle {s : Bool} {c : Nat} {q : Int} (h2 : c < 9007199254740992) (hq : q ≤ 971) : FP.Core.settle FP.Core.b64 s c q = .fin s c q := by
  unfold FP.Core.settle FP.Core.bound
  rw [b_p, b_qmax, if_pos h2, if_pos hq]
theorem rr1 {s : Bool} {c : Nat} {e : Int} (h1 : 4503599627370496 ≤ c) (h2 : c < 9007199254740992) (h3 : -1074 ≤ e - 52) (h4 : e - 52 ≤ 971) : FP.Core.roundRatio FP.Core.b64 s c 4503599627370496 e = .fin s c (e - 52) := by
  unfold FP.Core.roundRatio FP.Core.roundAt
  rw [if_neg (by omega)]
  have hq : FP.Core.quantum FP.Core.b64 c 4503599627370496 e = e - 52 := by
    unfold FP.Core.quantum FP.Core.leading
    rw [dl_log h1 h2, show Nat.log2 4503599627370496 = 52 by decide +kernel, b_qmin, b_p]
    simp only [Int.sub_self, Int.neg_zero, Int.toNat_zero, Nat.pow_zero, Nat.mul_one]
    rw [if_pos h1]
    omega
  rw [hq]
  have hn : FP.Core.unitsNum c e (e - 52) = c * 4503599627370496 := by
    unfold FP.Core.unitsNum
    rw [show (e - (e - 52)).toNat = 52 by omega]
  have hd : FP.Core.unitsDen 4503599627370496 e (e - 52) = 4503599627370496 := by
    unfold FP.Core.unitsDen
    rw [show (e - 52 - e).toNat = 0 by omega, Nat.pow_zero, Nat.mul_one]
  rw [hn, hd, near0 (by omega) (by omega), show c * 4503599627370496 / 4503599627370496 = c by omega]
  exact dl_settle h2 h4
theorem rr1' {s : Bool} {c : Nat} {e : Int} (h1 : 4503599627370496 ≤ c) (h2 : c < 9007199254740992) (h3 : -1074 ≤ e + 52) (h4 : e + 52 ≤ 971) : FP.Core.roundRatio FP.Core.b64 s (c * 4503599627370496) 1 e = .fin s c (e + 52) := by
  unfold FP.Core.roundRatio FP.Core.roundAt
  rw [if_neg (by omega)]
  have hl : (c * 4503599627370496).log2 = 104 := (Nat.log2_eq_iff (by omega)).mpr ⟨by omega, by omega⟩
  have hq : FP.Core.quantum FP.Core.b64 (c * 4503599627370496) 1 e = e + 52 := by
    unfold FP.Core.quantum FP.Core.leading
    rw [hl, show Nat.log2 1 = 0 by decide +kernel, b_qmin, b_p]
    dsimp only
    rw [show (((104 : Nat) : Int) - ((0 : Nat) : Int)).toNat = 104 from rfl, show (-(((104 : Nat) : Int) - ((0 : Nat) : Int))).toNat = 0 from rfl, if_pos (by omega)]
    omega
  rw [hq]
  have hn : FP.Core.unitsNum (c * 4503599627370496) e (e + 52) = c * 4503599627370496 := by
    unfold FP.Core.unitsNum
    rw [show (e - (e + 52)).toNat = 0 by omega, Nat.pow_zero, Nat.mul_one]
  have hd : FP.Core.unitsDen 1 e (e + 52) = 4503599627370496 := by
    unfold FP.Core.unitsDen
    rw [show (e + 52 - e).toNat = 52 by omega]
  rw [hn, hd, near0 (by omega) (by omega), show c * 4503599627370496 / 4503599627370496 = c by omega]
  exact dl_settle h2 h4
/-- a whole number's digits, from the first on -/
def nj (T : Nat) : Nat := 52 - T.log2
theorem nj_ok {T : Nat} (h0 : 0 < T) (h : T < 9007199254740992) : T.log2 ≤ 52 ∧ 4503599627370496 ≤ T * 2 ^ nj T ∧ T * 2 ^ nj T < 9007199254740992 := by
  have hl : T.log2 < 53 := (Nat.log2_lt (by omega)).mpr h
  obtain ⟨a1, a2⟩ := (Nat.log2_eq_iff (n := T) (k := T.log2) (by omega)).mp rfl
  have hs : T.log2 + nj T = 52 := by unfold nj; omega
  refine ⟨by omega, ?_, ?_⟩
  · have := Nat.mul_le_mul_right (2 ^ nj T) a1
    rw [← Nat.pow_add, hs] at this
    exact this
  · have := Nat.mul_lt_mul_of_pos_right a2 (Nat.two_pow_pos (nj T))
    rw [← Nat.pow_add, show T.log2 + 1 + nj T = 53 by omega] at this
    exact this
theorem rr2 {s : Bool} {T : Nat} {e : Int} (h0 : 0 < T) (h : T < 9007199254740992) (h3 : -1000 ≤ e) (h4 : e ≤ 900) : FP.Core.roundRatio FP.Core.b64 s T 1 e = .fin s (T * 2 ^ nj T) (e - nj T) := by
  obtain ⟨l1, l2, l3⟩ := nj_ok h0 h
  have hs : T.log2 + nj T = 52 := by unfold nj; omega
  unfold FP.Core.roundRatio FP.Core.roundAt
  rw [if_neg (by omega)]
  have hq : FP.Core.quantum FP.Core.b64 T 1 e = e - nj T := by
    unfold FP.Core.quantum FP.Core.leading
    rw [show Nat.log2 1 = 0 by decide +kernel, b_qmin, b_p]
    dsimp only
    rw [show (((T.log2 : Nat) : Int) - ((0 : Nat) : Int)).toNat = T.log2 by omega, show (-(((T.log2 : Nat) : Int) - ((0 : Nat) : Int))).toNat = 0 by omega, Nat.pow_zero, Nat.mul_one, Nat.one_mul, if_pos (Nat.log2_self_le (by omega))]
    omega
  rw [hq]
  have hn : FP.Core.unitsNum T e (e - nj T) = T * 2 ^ nj T := by
    unfold FP.Core.unitsNum
    rw [show (e - (e - (nj T : Int))).toNat = nj T by omega]
  have hd : FP.Core.unitsDen 1 e (e - nj T) = 1 := by
    unfold FP.Core.unitsDen
    rw [show (e - (nj T : Int) - e).toNat = 0 by omega]
  rw [hn, hd, near0 (Nat.mod_one _) (by decide), Nat.div_one]
  exact dl_settle l3 (by omega)
theorem rr3 {s : Bool} {c d : Nat} {e : Int} (c1 : 4503599627370496 ≤ c) (c2 : c < 9007199254740992) (d1 : 4503599627370496 ≤ d) (d2 : d < 9007199254740992) (h3 : -1000 ≤ e) (h4 : e ≤ 900) : ∃ (c' : Nat) (q' : Int), FP.Core.roundRatio FP.Core.b64 s c d e = .fin s c' q' ∧ 4503599627370496 ≤ c' ∧ c' < 9007199254740992 ∧ e - 53 ≤ q' ∧ q' ≤ e - 51 := by
  unfold FP.Core.roundRatio FP.Core.roundAt
  rw [if_neg (by omega)]
  have hl : FP.Core.leading c d = if d ≤ c then 0 else -1 := by
    unfold FP.Core.leading
    rw [dl_log c1 c2, dl_log d1 d2]
    simp only [Int.sub_self, Int.neg_zero, Int.toNat_zero, Nat.pow_zero, Nat.mul_one]
    rfl
  have fin : ∀ (q : Int) (n m : Nat), e - 53 ≤ q → q ≤ e - 52 → m = d → n / d ≥ 4503599627370496 → n / d < 9007199254740992 → ∃ (c' : Nat) (q' : Int), FP.Core.settle FP.Core.b64 s (FP.Core.nearest n m) q = .fin s c' q' ∧ 4503599627370496 ≤ c' ∧ c' < 9007199254740992 ∧ e - 53 ≤ q' ∧ q' ≤ e - 51 := by
    intro q n m hq1 hq2 hm hn1 hn2
    subst hm
    have hN : 4503599627370496 ≤ FP.Core.nearest n m ∧ FP.Core.nearest n m ≤ 9007199254740992 := by
      unfold FP.Core.nearest
      split
      · omega
      · split
        · omega
        · have := Nat.mod_lt (n / m) (show 0 < 2 by decide); omega
    by_cases hb : FP.Core.nearest n m < 9007199254740992
    · exact ⟨_, _, dl_settle hb (by omega), hN.1, hb, by omega, by omega⟩
    · refine ⟨4503599627370496, q + 1, ?_, by omega, by omega, by omega, by omega⟩
      unfold FP.Core.settle FP.Core.bound
      rw [b_p, b_qmax, b_tails, if_neg (show ¬FP.Core.nearest n m < 2 ^ 53 from hb), if_pos (by omega)]
  have hq : FP.Core.quantum FP.Core.b64 c d e = (if d ≤ c then 0 else -1) + e - 52 := by
    unfold FP.Core.quantum
    rw [hl, b_qmin, b_p]
    split <;> omega
  rw [hq]
  by_cases hc : d ≤ c
  · rw [if_pos hc]
    refine fin _ _ _ (by omega) (by omega) ?_ ?_ ?_
    · unfold FP.Core.unitsDen
      rw [show (0 + e - 52 - e).toNat = 0 by omega, Nat.pow_zero, Nat.mul_one]
    · unfold FP.Core.unitsNum
      rw [show (e - (0 + e - 52)).toNat = 52 by omega]
      exact (Nat.le_div_iff_mul_le (by omega)).mpr (by omega)
    · unfold FP.Core.unitsNum
      rw [show (e - (0 + e - 52)).toNat = 52 by omega]
      exact (Nat.div_lt_iff_lt_mul (by omega)).mpr (by omega)
  · rw [if_neg hc]
    refine fin _ _ _ (by omega) (by omega) ?_ ?_ ?_
    · unfold FP.Core.unitsDen
      rw [show (-1 + e - 52 - e).toNat = 0 by omega, Nat.pow_zero, Nat.mul_one]
    · unfold FP.Core.unitsNum
      rw [show (e - (-1 + e - 52)).toNat = 53 by omega]
      exact (Nat.le_div_iff_mul_le (by omega)).mpr (by omega)
    · unfold FP.Core.unitsNum
      rw [show (e - (-1 + e - 52)).toNat = 53 by omega]
      exact (Nat.div_lt_iff_lt_mul (by omega)).mpr (by omega)
/-- a normal double -/
def dbl (E T : Nat) : UInt64 := UInt64.ofNat (E * 4503599627370496 + T)
theorem dbl_nat {E T : Nat} (h2 : E ≤ 2046) (hT : T < 4503599627370496) : (dbl E T).toNat = E * 4503599627370496 + T := by
  unfold dbl
  exact u_tn (by omega)
theorem dbl_two : UInt64.ofNat 4611686018427387904 = dbl 1024 0 := rfl
theorem dbl_one : FP.dconst1 = dbl 1023 0 := rfl
theorem dbl_sc : UInt64.ofNat 4841369599423283200 = dbl 1075 0 := rfl
theorem dbl_dec {E T : Nat} (h1 : 1 ≤ E) (h2 : E ≤ 2046) (hT : T < 4503599627370496) : FP.Core.decode FP.Core.b64 (dbl E T).toNat = .fin false (4503599627370496 + T) ((E : Int) - 1075) := by
  rw [dbl_nat h2 hT]; exact dl_dec h1 h2 hT
theorem dbl_half {E T : Nat} (h1 : 2 ≤ E) (h2 : E ≤ 2046) (hT : T < 4503599627370496) : FP.ddiv (dbl E T) (dbl 1024 0) = dbl (E - 1) T := by
  refine congrArg UInt64.ofNat (?_ : (_ : Nat) = _)
  unfold FP.Core.div
  rw [dbl_dec (by omega) h2 hT, dbl_dec (by decide) (by decide) (by decide)]
  unfold FP.Core.quotient
  dsimp only
  rw [if_neg (by decide), show 4503599627370496 + 0 = 4503599627370496 from rfl, rr1 (by omega) (by omega) (by omega) (by omega)]
  show FP.Core.encode FP.Core.b64 (.fin false _ _) = _
  rw [dl_enc (by omega) (by omega)]
  have e : ((E : Int) - 1075 - (((1024 : Nat) : Int) - 1075) - 52 + 1075).toNat = E - 1 := by omega
  rw [e]
  omega
theorem dbl_twice {E T : Nat} (h1 : 1 ≤ E) (h2 : E ≤ 2045) (hT : T < 4503599627370496) : FP.dmul (dbl E T) (dbl 1024 0) = dbl (E + 1) T := by
  refine congrArg UInt64.ofNat (?_ : (_ : Nat) = _)
  unfold FP.Core.mul
  rw [dbl_dec h1 (by omega) hT, dbl_dec (by decide) (by decide) (by decide)]
  unfold FP.Core.exactProduct
  dsimp only
  unfold FP.Core.round
  dsimp only
  rw [show 4503599627370496 + 0 = 4503599627370496 from rfl, rr1' (by omega) (by omega) (by omega) (by omega)]
  show FP.Core.encode FP.Core.b64 (.fin false _ _) = _
  rw [dl_enc (by omega) (by omega)]
  have e : ((E : Int) - 1075 + (((1024 : Nat) : Int) - 1075) + 52 + 1075).toNat = E + 1 := by omega
  rw [e]
  omega
theorem cmpI_lt {a b : Int} (h : a < b) : compare a b = .lt := by
  show compareOfLessAndEq a b = _
  unfold compareOfLessAndEq
  rw [if_pos h]
theorem cmpI_ge {a b : Int} (h : b ≤ a) : compare a b ≠ .lt := by
  show compareOfLessAndEq a b ≠ _
  unfold compareOfLessAndEq
  rw [if_neg (by omega)]
  split <;> decide
theorem cmpI_gt {a b : Int} (h : b < a) : compare a b = .gt := by
  show compareOfLessAndEq a b = _
  unfold compareOfLessAndEq
  rw [if_neg (by omega), if_neg (by omega)]
theorem dcmp_lt {E T F : Nat} (h1 : 1 ≤ E) (h2 : E < F) (h3 : F ≤ 2046) (hT : T < 4503599627370496) : FP.dcmp (dbl E T) (dbl F 0) = some .lt := by
  show FP.Core.cmp _ _ _ = _
  unfold FP.Core.cmp
  rw [dbl_dec h1 (by omega) hT, dbl_dec (by omega) h3 (by decide)]
  unfold FP.Core.order FP.Core.signed FP.Core.inUnits
  dsimp only
  rw [show min ((E : Int) - 1075) ((F : Int) - 1075) = (E : Int) - 1075 by omega, show ((E : Int) - 1075 - ((E : Int) - 1075)).toNat = 0 by omega, show ((F : Int) - 1075 - ((E : Int) - 1075)).toNat = F - E by omega]
  congr 1
  apply cmpI_lt
  have hp : 2 ^ 1 ≤ 2 ^ (F - E) := Nat.pow_le_pow_right (by decide) (by omega)
  simp only [Bool.false_eq_true, if_false]
  omega
theorem dcmp_ge {E T F : Nat} (h1 : 1 ≤ F) (h2 : F ≤ E) (h3 : E ≤ 2046) (hT : T < 4503599627370496) : ∃ o, FP.dcmp (dbl E T) (dbl F 0) = some o ∧ o ≠ .lt := by
  show ∃ o, FP.Core.cmp _ _ _ = _ ∧ _
  unfold FP.Core.cmp
  rw [dbl_dec (by omega) h3 hT, dbl_dec h1 (by omega) (by decide)]
  unfold FP.Core.order FP.Core.signed FP.Core.inUnits
  dsimp only
  rw [show min ((E : Int) - 1075) ((F : Int) - 1075) = (F : Int) - 1075 by omega, show ((F : Int) - 1075 - ((F : Int) - 1075)).toNat = 0 by omega, show ((E : Int) - 1075 - ((F : Int) - 1075)).toNat = E - F by omega]
  refine ⟨_, rfl, cmpI_ge ?_⟩
  have hp : 1 ≤ 2 ^ (E - F) := Nat.two_pow_pos _
  have hm : (4503599627370496 + T) * 1 ≤ (4503599627370496 + T) * 2 ^ (E - F) := Nat.mul_le_mul_left _ hp
  simp only [Bool.false_eq_true, if_false]
  omega
theorem dec0 : FP.Core.decode FP.Core.b64 (FP.dconst0).toNat = .fin false 0 (-1074) := by decide +kernel
theorem dcmp_z {E T : Nat} (h1 : 1 ≤ E) (h2 : E ≤ 2046) (hT : T < 4503599627370496) : FP.dcmp (dbl E T) FP.dconst0 = some .gt := by
  show FP.Core.cmp _ _ _ = _
  unfold FP.Core.cmp
  rw [dbl_dec h1 h2 hT, dec0]
  unfold FP.Core.order FP.Core.signed FP.Core.inUnits
  dsimp only
  congr 1
  apply cmpI_gt
  have hm := Nat.two_pow_pos ((E : Int) - 1075 - min ((E : Int) - 1075) (-1074)).toNat
  have hm2 : 0 < (4503599627370496 + T) * 2 ^ ((E : Int) - 1075 - min ((E : Int) - 1075) (-1074)).toNat := Nat.mul_pos (by omega) hm
  simp only [Bool.false_eq_true, if_false, Nat.zero_mul]
  omega
theorem dcmp_self {E T : Nat} (h1 : 1 ≤ E) (h2 : E ≤ 2046) (hT : T < 4503599627370496) : FP.dcmp (dbl E T) (dbl E T) = some .eq := by
  show FP.Core.cmp _ _ _ = _
  unfold FP.Core.cmp
  rw [dbl_dec h1 h2 hT]
  unfold FP.Core.order
  dsimp only
  congr 1
  show compareOfLessAndEq _ _ = _
  unfold compareOfLessAndEq
  rw [if_neg (by omega), if_pos rfl]
theorem n64 {r : UInt64} (h : r.toNat ≤ 9218868437227405312) : vf_n64 r := by
  unfold vf_n64
  rw [UInt64.le_iff_toNat_le, UInt64.toNat_and, show (0x7fffffffffffffff : UInt64).toNat = 2 ^ 63 - 1 from rfl, Nat.and_two_pow_sub_one_eq_mod]
  exact Nat.le_trans (Nat.mod_le _ _) h
theorem dbl_n64 {E T : Nat} (h2 : E ≤ 2046) (hT : T < 4503599627370496) : vf_n64 (dbl E T) := n64 (by rw [dbl_nat h2 hT]; omega)
theorem i2d_ok {a : Nat} (h0 : 0 < a) (h : a < 2147483648) : FP.i2d (nI a) = dbl (1075 - nj a) (a * 2 ^ nj a - 4503599627370496) ∧ 1 ≤ 1075 - nj a := by
  obtain ⟨l1, l2, l3⟩ := nj_ok h0 (show a < 9007199254740992 by omega)
  have hj : nj a ≤ 52 := Nat.sub_le _ _
  refine ⟨?_, by omega⟩
  refine congrArg UInt64.ofNat (?_ : (_ : Nat) = _)
  unfold FP.Core.fromInt FP.Core.ofInt FP.Core.round
  dsimp only
  have hi : (nI a).toInt = (a : Int) := Int32.toInt_ofNat_of_lt h
  rw [hi, Int.natAbs_natCast, decide_eq_false (by omega), rr2 h0 (by omega) (by decide) (by decide), dl_enc l2 (by omega)]
  have e : (0 - (nj a : Int) + 1075).toNat = 1075 - nj a := by omega
  rw [e]
theorem ddiv_ok {E T F U : Nat} (h1 : 1000 ≤ E) (h2 : E ≤ 1100) (hT : T < 4503599627370496) (g1 : 1000 ≤ F) (g2 : F ≤ 1100) (hU : U < 4503599627370496) : ∃ E' T', FP.ddiv (dbl E T) (dbl F U) = dbl E' T' ∧ 900 ≤ E' ∧ E' ≤ 1200 ∧ T' < 4503599627370496 := by
  obtain ⟨c', q', hr, a1, a2, a3, a4⟩ := rr3 (s := false) (c := 4503599627370496 + T) (d := 4503599627370496 + U) (e := ((E : Int) - 1075) - ((F : Int) - 1075)) (by omega) (by omega) (by omega) (by omega) (by omega) (by omega)
  refine ⟨(q' + 1075).toNat, c' - 4503599627370496, ?_, by omega, by omega, by omega⟩
  refine congrArg UInt64.ofNat (?_ : (_ : Nat) = _)
  unfold FP.Core.div
  rw [dbl_dec (by omega) (by omega) hT, dbl_dec (by omega) (by omega) hU]
  unfold FP.Core.quotient
  dsimp only
  rw [if_neg (by omega)]
  show FP.Core.encode _ (FP.Core.roundRatio _ false _ _ _) = _
  rw [hr, dl_enc a1 (by omega)]
/-- what is behind the first digit, as a whole number -/
theorem dbl_frac {T : Nat} (hT : T < 4503599627370496) : vf_n64 (FP.dsub (dbl 1023 T) (dbl 1023 0)) ∧ vf_n64 (FP.dmul (FP.dsub (dbl 1023 T) (dbl 1023 0)) (dbl 1075 0)) ∧ FP.d2l (FP.dmul (FP.dsub (dbl 1023 T) (dbl 1023 0)) (dbl 1075 0)) = lN T := by
  have hs : FP.dsub (dbl 1023 T) (dbl 1023 0) = UInt64.ofNat (FP.Core.encode FP.Core.b64 (FP.Core.round FP.Core.b64 (.fin false T (-52)))) := by
    refine congrArg UInt64.ofNat (?_ : (_ : Nat) = _)
    unfold FP.Core.sub
    rw [dbl_dec (by decide) (by decide) hT, dbl_dec (by decide) (by decide) (by decide)]
    have e : FP.Core.exactSum (.fin false (4503599627370496 + T) (((1023 : Nat) : Int) - 1075)) (FP.Core.negate (.fin false (4503599627370496 + 0) (((1023 : Nat) : Int) - 1075))) = .fin false T (-52) := by
      unfold FP.Core.negate FP.Core.exactSum
      dsimp only
      have hu : FP.Core.sumUnits false (4503599627370496 + T) (((1023 : Nat) : Int) - 1075) (!false) (4503599627370496 + 0) (((1023 : Nat) : Int) - 1075) (min (((1023 : Nat) : Int) - 1075) (((1023 : Nat) : Int) - 1075)) = (T : Int) := by
        unfold FP.Core.sumUnits FP.Core.signed FP.Core.inUnits
        simp
        omega
      rw [hu, Int.natAbs_natCast]
      have hsg : FP.Core.sumSign false (!false) (T : Int) = false := by
        unfold FP.Core.sumSign
        split
        · rfl
        · exact decide_eq_false (by omega)
      rw [hsg]
      rfl
    rw [e]
  by_cases h0 : T = 0
  · subst h0
    rw [hs]
    exact ⟨n64 (by decide +kernel), n64 (by decide +kernel), by decide +kernel⟩
  · have hp : 0 < T := by omega
    obtain ⟨l1, l2, l3⟩ := nj_ok hp (show T < 9007199254740992 by omega)
    have hj : nj T ≤ 52 := Nat.sub_le _ _
    have hs2 : FP.dsub (dbl 1023 T) (dbl 1023 0) = dbl (1023 - nj T) (T * 2 ^ nj T - 4503599627370496) := by
      rw [hs]
      refine congrArg UInt64.ofNat (?_ : (_ : Nat) = _)
      unfold FP.Core.round
      dsimp only
      rw [rr2 hp (by omega) (by decide) (by decide), dl_enc l2 (by omega)]
      have e : (-52 - (nj T : Int) + 1075).toNat = 1023 - nj T := by omega
      rw [e]
    have hm : FP.dmul (dbl (1023 - nj T) (T * 2 ^ nj T - 4503599627370496)) (dbl 1075 0) = dbl (1075 - nj T) (T * 2 ^ nj T - 4503599627370496) := by
      refine congrArg UInt64.ofNat (?_ : (_ : Nat) = _)
      unfold FP.Core.mul
      rw [dbl_dec (by omega) (by omega) (by omega), dbl_dec (by decide) (by decide) (by decide)]
      unfold FP.Core.exactProduct
      dsimp only
      unfold FP.Core.round
      dsimp only
      rw [show 4503599627370496 + 0 = 4503599627370496 from rfl, rr1' (by omega) (by omega) (by omega) (by omega)]
      show FP.Core.encode FP.Core.b64 (.fin false _ _) = _
      rw [dl_enc (by omega) (by omega)]
      have e : (((1023 - nj T : Nat) : Int) - 1075 + (((1075 : Nat) : Int) - 1075) + 52 + 1075).toNat = 1075 - nj T := by omega
      rw [e]
      omega
    rw [hs2, hm]
    refine ⟨dbl_n64 (by omega) (by omega), dbl_n64 (by omega) (by omega), ?_⟩
    show FP.Core.toL _ = _
    rw [dbl_dec (by omega) (by omega) (by omega)]
    unfold FP.Core.toL FP.Core.toInt FP.Core.truncate FP.Core.signed
    dsimp only
    have e1 : (((1075 - nj T : Nat) : Int) - 1075).toNat = 0 := by omega
    have e2 : (-(((1075 - nj T : Nat) : Int) - 1075)).toNat = nj T := by omega
    rw [e1, e2, show 4503599627370496 + (T * 2 ^ nj T - 4503599627370496) = T * 2 ^ nj T by omega, Nat.pow_zero, Nat.mul_one, Nat.mul_div_cancel _ (Nat.two_pow_pos _)]
    simp only [Bool.false_eq_true, if_false]
    have e3 : max (-2 ^ 63) (min (2 ^ 63 - 1) (T : Int)) = (T : Int) := by omega
    rw [e3]
    rfl

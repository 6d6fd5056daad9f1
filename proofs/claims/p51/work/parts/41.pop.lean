/-! COUNTING BITS OF LONGS; RUNS COUNTED -/
def usL (x k : Int64) : Int64 := (x.toUInt64 >>> (k.toUInt64 &&& Int64.toUInt64 63)).toInt64
theorem usL_lN {n : Nat} (k : Nat) (hn : n < 2 ^ 64) (hk : k < 64) : ((lN n).toUInt64 >>> ((lN k).toUInt64 &&& Int64.toUInt64 63)).toInt64 = lN (n / 2 ^ k) := by
  have h := wb_shr hn hk
  have e : ∀ k : Fin 64, ((nI k.val).toInt64.toUInt64 &&& Int64.toUInt64 63) = ((lN k.val).toUInt64 &&& Int64.toUInt64 63) := by decide +kernel
  rw [← e ⟨k, hk⟩]
  exact h
theorem and_by (b y c m : Nat) (hb : b < 256) (hc : c < 256) : (b + 256 * y) &&& (c + 256 * m) = (b &&& c) + 256 * (y &&& m) := by
  have hbc : b &&& c < 2 ^ 8 := Nat.lt_of_le_of_lt Nat.and_le_left hb
  rw [Nat.add_comm b, Nat.add_comm c, Nat.add_comm (b &&& c), show 256 = 2 ^ 8 from rfl]
  apply Nat.eq_of_testBit_eq
  intro j
  rw [Nat.testBit_and, Nat.testBit_two_pow_mul_add _ hb, Nat.testBit_two_pow_mul_add _ hc, Nat.testBit_two_pow_mul_add _ hbc]
  split <;> rw [Nat.testBit_and]
def q1 (b : Nat) : Nat := b - (b / 2 &&& 85)
def q2 (b : Nat) : Nat := (b &&& 51) + (b / 4 &&& 51)
def q3 (b : Nat) : Nat := (b + b / 16) &&& 15
theorem q_all : ∀ b, b < 256 → q1 b < 256 ∧ q2 (q1 b) < 69 ∧ q2 (q1 b) % 16 ≤ 4 ∧ q3 (q2 (q1 b)) = fb_ct b.testBit 8 := by decide +kernel
theorem q1_hi : ∀ c, c < 2 → ∀ b, b < 256 → ((b / 2 + 128 * c) &&& 85) = (b / 2 &&& 85) := by decide +kernel
theorem q2_hi : ∀ c, c < 4 → ∀ b, b < 256 → ((b / 4 + 64 * c) &&& 51) = (b / 4 &&& 51) := by decide +kernel
theorem q3_hi : ∀ c, c < 5 → ∀ b, b < 80 → ((b + 16 * c) &&& 15) = (b &&& 15) := by decide +kernel
theorem z1 (b y m : Nat) (hb : b < 256) : (b + 256 * y) - ((b + 256 * y) / 2 &&& (85 + 256 * m)) = q1 b + 256 * (y - (y / 2 &&& m)) := by
  have e : (b + 256 * y) / 2 = (b / 2 + 128 * (y % 2)) + 256 * (y / 2) := by omega
  rw [e, and_by _ _ _ _ (by omega) (by decide), q1_hi _ (by omega) _ hb]
  have h1 : (b / 2 &&& 85) ≤ b := Nat.le_trans Nat.and_le_left (Nat.div_le_self _ _)
  have h2 : (y / 2 &&& m) ≤ y := Nat.le_trans Nat.and_le_left (Nat.div_le_self _ _)
  unfold q1
  omega
theorem z2 (b y m : Nat) (hb : b < 256) : ((b + 256 * y) &&& (51 + 256 * m)) + ((b + 256 * y) / 4 &&& (51 + 256 * m)) = q2 b + 256 * ((y &&& m) + (y / 4 &&& m)) := by
  have e : (b + 256 * y) / 4 = (b / 4 + 64 * (y % 4)) + 256 * (y / 4) := by omega
  rw [e, and_by _ _ _ _ hb (by decide), and_by _ _ _ _ (by omega) (by decide), q2_hi _ (by omega) _ hb]
  unfold q2
  omega
theorem z3 (b y m : Nat) (hb : b < 69) (hy : y % 16 ≤ 4) : ((b + 256 * y) + (b + 256 * y) / 16) &&& (15 + 256 * m) = q3 b + 256 * ((y + y / 16) &&& m) := by
  have e : (b + 256 * y) + (b + 256 * y) / 16 = (b + b / 16 + 16 * (y % 16)) + 256 * (y + y / 16) := by omega
  rw [e, and_by _ _ _ _ (by omega) (by decide), q3_hi _ (by omega) _ (by omega)]
  rfl
theorem lN_subN {a b : Nat} (h : b ≤ a) : lN a - lN b = lN (a - b) := by
  have h1 : lN a = lN (a - b) + lN b := by
    show Int64.ofNat a = Int64.ofNat (a - b) + Int64.ofNat b
    rw [← Int64.ofNat_add, Nat.sub_add_cancel h]
  rw [h1, Int64.add_sub_cancel]
theorem lN_addN (a b : Nat) : lN a + lN b = lN (a + b) := (Int64.ofNat_add a b).symm
def s1 (n : Nat) : Nat := n - (n / 2 &&& 6148914691236517205)
def s2 (n : Nat) : Nat := (n &&& 3689348814741910323) + (n / 4 &&& 3689348814741910323)
def s3 (n : Nat) : Nat := (n + n / 16) &&& 1085102592571150095
theorem ct_byte (b y m : Nat) (hb : b < 256) : fb_ct (b + 256 * y).testBit (8 + m) = fb_ct b.testBit 8 + fb_ct y.testBit m := by
  rw [fb_ct_split, Nat.add_comm b]
  congr 1
  · apply fb_ct_cong
    intro k hk
    show (2 ^ 8 * y + b).testBit k = _
    rw [Nat.testBit_two_pow_mul_add _ hb, if_pos hk]
  · apply fb_ct_cong
    intro k hk
    show (2 ^ 8 * y + b).testBit (8 + k) = _
    rw [Nat.testBit_two_pow_mul_add _ hb, if_neg (by omega)]
    congr 1
    omega
theorem pop32 (n : Nat) (hn : n < 4294967296) : ∃ X, s3 (s2 (s1 n)) = X ∧ X < 4294967296 ∧ (X + X / 256 + (X + X / 256) / 65536) % 128 = fb_ct n.testBit 32 ∧ X + X / 256 + (X + X / 256) / 65536 < 4294967296 := by
  obtain ⟨b0, b1, b2, b3, h0, h1, h2, h3, rfl⟩ : ∃ b0 b1 b2 b3, b0 < 256 ∧ b1 < 256 ∧ b2 < 256 ∧ b3 < 256 ∧ n = b0 + 256 * (b1 + 256 * (b2 + 256 * (b3 + 256 * 0))) :=
    ⟨n % 256, n / 256 % 256, n / 65536 % 256, n / 16777216 % 256, by omega, by omega, by omega, by omega, by omega⟩
  obtain ⟨a0, c0, d0, e0⟩ := q_all b0 h0
  obtain ⟨a1, c1, d1, e1⟩ := q_all b1 h1
  obtain ⟨a2, c2, d2, e2⟩ := q_all b2 h2
  obtain ⟨a3, c3, d3, e3⟩ := q_all b3 h3
  have t1 : s1 (b0 + 256 * (b1 + 256 * (b2 + 256 * (b3 + 256 * 0)))) = q1 b0 + 256 * (q1 b1 + 256 * (q1 b2 + 256 * (q1 b3 + 256 * 0))) := by
    unfold s1
    rw [show 6148914691236517205 = 85 + 256 * (85 + 256 * (85 + 256 * (85 + 256 * 1431655765))) from rfl, z1 _ _ _ h0, z1 _ _ _ h1, z1 _ _ _ h2, z1 _ _ _ h3]
    rfl
  have t2 : s2 (q1 b0 + 256 * (q1 b1 + 256 * (q1 b2 + 256 * (q1 b3 + 256 * 0)))) = q2 (q1 b0) + 256 * (q2 (q1 b1) + 256 * (q2 (q1 b2) + 256 * (q2 (q1 b3) + 256 * 0))) := by
    unfold s2
    rw [show 3689348814741910323 = 51 + 256 * (51 + 256 * (51 + 256 * (51 + 256 * 858993459))) from rfl, z2 _ _ _ a0, z2 _ _ _ a1, z2 _ _ _ a2, z2 _ _ _ a3]
    simp
  have t3 : s3 (q2 (q1 b0) + 256 * (q2 (q1 b1) + 256 * (q2 (q1 b2) + 256 * (q2 (q1 b3) + 256 * 0)))) = q3 (q2 (q1 b0)) + 256 * (q3 (q2 (q1 b1)) + 256 * (q3 (q2 (q1 b2)) + 256 * (q3 (q2 (q1 b3)) + 256 * 0))) := by
    unfold s3
    rw [show 1085102592571150095 = 15 + 256 * (15 + 256 * (15 + 256 * (15 + 256 * 252645135))) from rfl, z3 _ _ _ c0 (by omega), z3 _ _ _ c1 (by omega), z3 _ _ _ c2 (by omega), z3 _ _ _ c3 (by omega)]
    simp
  have l0 := fb_ct_le b0.testBit 8
  have l1 := fb_ct_le b1.testBit 8
  have l2 := fb_ct_le b2.testBit 8
  have l3 := fb_ct_le b3.testBit 8
  rw [t1, t2, t3, e0, e1, e2, e3]
  have hc : fb_ct (b0 + 256 * (b1 + 256 * (b2 + 256 * (b3 + 256 * 0)))).testBit 32 = fb_ct b0.testBit 8 + (fb_ct b1.testBit 8 + (fb_ct b2.testBit 8 + fb_ct b3.testBit 8)) := by
    rw [ct_byte b0 _ 24 h0, ct_byte b1 _ 16 h1, ct_byte b2 _ 8 h2, show b3 + 256 * 0 = b3 by omega]
  rw [hc]
  clear hc t1 t2 t3 e0 e1 e2 e3 a0 a1 a2 a3 c0 c1 c2 c3 d0 d1 d2 d3
  generalize fb_ct b0.testBit 8 = g0 at *
  generalize fb_ct b1.testBit 8 = g1 at *
  generalize fb_ct b2.testBit 8 = g2 at *
  generalize fb_ct b3.testBit 8 = g3 at *
  have u1 : (g0 + 256 * (g1 + 256 * (g2 + 256 * (g3 + 256 * 0)))) / 256 = g1 + 256 * g2 + 65536 * g3 := by omega
  have u2 : (g0 + 256 * (g1 + 256 * (g2 + 256 * (g3 + 256 * 0))) + (g1 + 256 * g2 + 65536 * g3)) / 65536 = g2 + g3 + 256 * g3 := by omega
  refine ⟨_, rfl, by omega, ?_, ?_⟩
  · rw [u1, u2]; omega
  · rw [u1, u2]; omega
section POP
variable {Γ : Amb} {w : PW} {Q : Option Value → Option Nat → PW → Prop}
theorem spJ13_bitCount (n : Nat) (hn : n < 4294967296) (hQ : Q (some (.int (nI (fb_ct n.testBit 32)))) none w) : Sp Γ mJ13_bitCount [.long (lN n)] none w Q := by
  obtain ⟨X, hX, x1, x2, x3⟩ := pop32 n hn
  refine entry Γ mJ13_bitCount rfl _ (Nat.le_of_ble_eq_true rfl) _ _ _ ?_
  refine wp_ok kdJ13_bitCount 400 0 bbJ13_bitCount_0 _ _ _ _ _ _ ooJ13_bitCount_0 ?_
  simp only [List.getElem?_cons_zero, List.getElem?_cons_succ, fv4, Nat.reduceAdd, Nat.reduceSub, wp, pst, stp, LG, lput, ls_tl, two, bc, EL, pad, popN, csum, Option.toList, List.cons_append, List.nil_append, List.set_cons_zero, List.set_cons_succ, List.length_cons, List.length_nil, true_and, and_true, Nat.reduceLT, Nat.reduceLeDiff, Nat.zero_le, Nat.le_refl, RI_i, RI_z0, RI_z1, Int32.reduceOfInt, Int8.reduceOfInt, Int16.reduceOfInt, Int64.reduceOfInt, Int8.toInt32_ofNat, Int16.toInt32_ofNat, Int.reduceNeg, Int32.ofInt_neg, Int8.ofInt_neg, Int16.ofInt_neg, Int32.toInt64_ofNat, Int32.reduceToNatClampNeg, Fin.isValue, Fin.val_one, Fin.val_zero, Fin.val_two, Int64.reduceOfNat, Int32.reduceOfNat, hdl, cutc, Nat.reduceEqDiff, reduceIte, FV, tyC, tyX0, tyX1, tyX2, tyX3, tyX4, tyX5, tyX6, tyX7, tyX8, tyX9, tyX10, Nat.reduceMul, c_le, c_lt, c_eq, c_in, c_cl, c_add, c_rem, c_ofN, Int32.add_zero, Int32.zero_add, c_lt0, c_ge0, c_le0, c_gt0, c_e0, c_m1, c_m1', false_implies, true_implies, implies_true, not_false_eq_true, not_true_eq_false, Nat.not_lt_zero, up_s, up_1, up_m, ffJ13_bitCount, bbJ13_bitCount_0, cl_1, ca_1, cl_2, ca_2, cl_4, ca_4, cl_8, ca_8, cl_16, ca_16, cl_32, ca_32, cl_127, ca_127]
  have b1 : s1 n < 4294967296 := Nat.lt_of_le_of_lt (Nat.sub_le _ _) hn
  have b2 : s2 (s1 n) < 8589934592 := by
    have h1 : (s1 n &&& 3689348814741910323) ≤ s1 n := Nat.and_le_left
    have h2 : (s1 n / 4 &&& 3689348814741910323) ≤ s1 n / 4 := Nat.and_le_left
    unfold s2
    omega
  have v1 : ((lN n).toUInt64 >>> (Int64.toUInt64 1 &&& Int64.toUInt64 63)).toInt64 = lN (n / 2) := usL_lN 1 (by omega) (by decide)
  have f1 : lN n - (lN (n / 2) &&& 6148914691236517205) = lN (s1 n) := by
    rw [show (6148914691236517205 : Int64) = lN 6148914691236517205 from rfl, fb_andL, lN_subN (Nat.le_trans Nat.and_le_left (Nat.div_le_self _ _))]
    rfl
  have v2 : ((lN (s1 n)).toUInt64 >>> (Int64.toUInt64 2 &&& Int64.toUInt64 63)).toInt64 = lN (s1 n / 4) := usL_lN 2 (by omega) (by decide)
  have f2 : (lN (s1 n) &&& 3689348814741910323) + (lN (s1 n / 4) &&& 3689348814741910323) = lN (s2 (s1 n)) := by
    rw [show (3689348814741910323 : Int64) = lN 3689348814741910323 from rfl, fb_andL, fb_andL, lN_addN]
    rfl
  have v3 : ((lN (s2 (s1 n))).toUInt64 >>> (Int64.toUInt64 4 &&& Int64.toUInt64 63)).toInt64 = lN (s2 (s1 n) / 16) := usL_lN 4 (by omega) (by decide)
  have f3 : lN (s2 (s1 n) + s2 (s1 n) / 16) &&& 1085102592571150095 = lN X := by
    rw [show (1085102592571150095 : Int64) = lN 1085102592571150095 from rfl, fb_andL, ← hX]
    rfl
  have v4 : ((lN X).toUInt64 >>> (Int64.toUInt64 8 &&& Int64.toUInt64 63)).toInt64 = lN (X / 256) := usL_lN 8 (by omega) (by decide)
  have v5 : ((lN (X + X / 256)).toUInt64 >>> (Int64.toUInt64 16 &&& Int64.toUInt64 63)).toInt64 = lN ((X + X / 256) / 65536) := usL_lN 16 (by omega) (by decide)
  have v6 : ((lN (X + X / 256 + (X + X / 256) / 65536)).toUInt64 >>> (Int64.toUInt64 32 &&& Int64.toUInt64 63)).toInt64 = lN ((X + X / 256 + (X + X / 256) / 65536) / 4294967296) := usL_lN 32 (by omega) (by decide)
  simp only [v1, f1, v2, f2, v3, f3, v4, lN_addN, v5, v6]
  rw [Nat.div_eq_of_lt x3, Nat.add_zero, show (lN (X + X / 256 + (X + X / 256) / 65536)).toInt32 = nI (X + X / 256 + (X + X / 256) / 65536) from Int64.toInt32_ofNat, show (127 : Int32) = nI (2 ^ 7 - 1) from rfl, fa_mask, show 2 ^ 7 = 128 from rfl, x2]
  exact hQ
end POP
/-! the runs of a line, counted -/
theorem rl_cnt (p : Nat) : ∀ n i r, (rl p n i (decide (0 < i) && p.testBit (i - 1)) r).length + fb_ct (fun j => p.testBit j ^^ (decide (0 < j) && p.testBit (j - 1))) i = 1 + fb_ct (fun j => p.testBit j ^^ (decide (0 < j) && p.testBit (j - 1))) (i + n) := by
  intro n
  induction n with
  | zero => intro i r; simp [rl]
  | succ n ih =>
    intro i r
    have h := ih (i + 1)
    rw [decide_eq_true (Nat.succ_pos i), Bool.true_and, Nat.add_sub_cancel, fb_ct_succ, show i + 1 + n = i + (n + 1) by omega] at h
    simp only [rl]
    by_cases c : p.testBit i = (decide (0 < i) && p.testBit (i - 1))
    · have hx := h (r + 1)
      rw [if_pos c, ← c]
      rw [← c, Bool.xor_self, if_neg (by decide)] at hx
      omega
    · have hx := h 1
      have hnb : (!(decide (0 < i) && p.testBit (i - 1))) = p.testBit i := by
        revert c; cases p.testBit i <;> cases (decide (0 < i) && p.testBit (i - 1)) <;> simp
      have hxb : (p.testBit i ^^ (decide (0 < i) && p.testBit (i - 1))) = true := by
        revert c; cases p.testBit i <;> cases (decide (0 < i) && p.testBit (i - 1)) <;> simp
      rw [if_neg c, hnb, List.length_cons]
      rw [hxb, if_pos rfl] at hx
      omega
theorem runs_cnt (wd p : Nat) (hw : wd ≤ 32) : (runs wd p).length = 1 + fb_ct (bord p wd).testBit 32 := by
  have h := rl_cnt p wd 0 0
  rw [Nat.zero_add] at h
  have e : fb_ct (bord p wd).testBit 32 = fb_ct (bord p wd).testBit wd := by
    have := fb_ct_split (bord p wd).testBit wd (32 - wd)
    rw [show wd + (32 - wd) = 32 by omega] at this
    have hz : fb_ct (fun k => (bord p wd).testBit (wd + k)) (32 - wd) = 0 := by
      rw [fb_ct_zero]
      intro k hk
      unfold bord
      rw [Nat.testBit_mod_two_pow, decide_eq_false (by omega), Bool.false_and]
    omega
  rw [e]
  have e2 : fb_ct (bord p wd).testBit wd = fb_ct (fun j => p.testBit j ^^ (decide (0 < j) && p.testBit (j - 1))) wd := fb_ct_cong (fun k hk => bord_bit p wd k hk)
  rw [e2]
  exact h
/-- the greatest of a list -/
def mxL : List Nat → Nat
  | [] => 0
  | a :: t => max a (mxL t)
theorem rl_mx (p : Nat) : ∀ n i b r, r ≤ mxL (rl p n i b r) := by
  intro n
  induction n with
  | zero => intro i b r; simp only [rl, mxL]; omega
  | succ n ih =>
    intro i b r
    simp only [rl]
    split
    · have := ih (i + 1) b (r + 1); omega
    · simp only [mxL]; omega

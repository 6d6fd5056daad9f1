/-! CODES, as lists of numbers -/
/-- the runs of what is left: n pixels from i on, the colour, the run so far -/
def rl (p : Nat) : Nat → Nat → Bool → Nat → List Nat
  | 0, _, _, r => [r]
  | n + 1, i, b, r => if p.testBit i = b then rl p n (i + 1) b (r + 1) else r :: rl p n (i + 1) (!b) 1
def runs (wd p : Nat) : List Nat := rl p wd 0 false 0
def enc (r : Nat) : List Nat := if r < 14 then [r] else [14, r / 16, r % 16]
def bN (p i : Nat) : Nat := (p.testBit i).toNat
def four (p i : Nat) : Nat := 2 * (2 * (2 * bN p i + bN p (i + 1)) + bN p (i + 2)) + bN p (i + 3)
def fours (p : Nat) : Nat → Nat → List Nat
  | 0, _ => []
  | n + 1, i => four p i :: fours p n (i + 4)
def ker (wd p m : Nat) : List Nat := if m = 1 then fours p ((wd + 3) / 4) 0 else (runs wd p).flatMap enc
def esc (k : Nat) : List Nat := if k = 15 then [15, 1] else [k]
def kcode (n m : Nat) (k : List Nat) : List Nat := [15, 0, n, m] ++ k.flatMap esc ++ [(n + m + k.sum) % 15]
/-- the code of the line n by the mode m -/
def code1 (wd : Nat) (L : List Nat) (n m : Nat) : List Nat := kcode n m (ker wd (kpx L n m) m)
def chk (wd : Nat) (L : List Nat) (n m : Nat) : Nat := (n + m + (ker wd (kpx L n m) m).sum) % 15
theorem enc_len (r : Nat) : (enc r).length ≤ r + (if r = 0 then 1 else 0) := by
  unfold enc
  by_cases h : r < 14
  · rw [if_pos h]; simp only [List.length_cons, List.length_nil]; split <;> omega
  · rw [if_neg h]; simp only [List.length_cons, List.length_nil]; split <;> omega
theorem rl_len (p : Nat) : ∀ n i b r, ((rl p n i b r).flatMap enc).length ≤ n + r + (if r = 0 then 1 else 0) := by
  intro n
  induction n with
  | zero => intro i b r; simp only [rl, List.flatMap_cons, List.flatMap_nil, List.append_nil, Nat.zero_add]; exact enc_len r
  | succ n ih =>
    intro i b r
    simp only [rl]
    split
    · have := ih (i + 1) b (r + 1); simp only [Nat.add_eq_zero_iff, Nat.succ_ne_self, and_false, if_false] at this; split <;> omega
    · have h1 := ih (i + 1) (!b) 1
      have h2 := enc_len r
      simp only [List.flatMap_cons, List.length_append, Nat.succ_ne_self, if_false] at h1 ⊢
      have h3 : (if (1 : Nat) = 0 then 1 else 0) = 0 := rfl
      omega
theorem runs_len (wd p : Nat) : ((runs wd p).flatMap enc).length ≤ wd + 1 := by
  have := rl_len p wd 0 false 0
  simpa [runs] using this
theorem fours_len (p : Nat) : ∀ n i, (fours p n i).length = n := by
  intro n
  induction n with
  | zero => intro i; rfl
  | succ n ih => intro i; simp [fours, ih]
theorem ker_len (wd p m : Nat) (hw : wd ≤ 32) : (ker wd p m).length ≤ 33 := by
  unfold ker
  split
  · rw [fours_len]; omega
  · have := runs_len wd p; omega
theorem esc_len (k : Nat) : (esc k).length ≤ 2 := by unfold esc; split <;> simp
theorem kcode_len (n m : Nat) (k : List Nat) : (kcode n m k).length = 5 + (k.flatMap esc).length := by
  simp [kcode]; omega
theorem esc_all_len (k : List Nat) : (k.flatMap esc).length ≤ 2 * k.length := by
  induction k with
  | nil => simp
  | cons a t ih =>
    have := esc_len a
    simp only [List.flatMap_cons, List.length_append, List.length_cons]
    omega
theorem bN_le (p i : Nat) : bN p i ≤ 1 := by unfold bN; cases p.testBit i <;> simp
theorem four_lt (p i : Nat) : four p i < 16 := by
  have h1 := bN_le p i; have h2 := bN_le p (i + 1); have h3 := bN_le p (i + 2); have h4 := bN_le p (i + 3)
  unfold four; omega
theorem enc_lt {r : Nat} (h : r ≤ 32) : ∀ k ∈ enc r, k < 16 := by
  unfold enc
  intro k hk
  split at hk <;> simp at hk
  · omega
  · rcases hk with rfl | rfl | rfl <;> omega
theorem rl_le (p : Nat) : ∀ n i b r, ∀ x ∈ rl p n i b r, x ≤ n + r ∨ x ≤ n + 1 := by
  intro n
  induction n with
  | zero => intro i b r x hx; simp [rl] at hx; omega
  | succ n ih =>
    intro i b r x hx
    simp only [rl] at hx
    split at hx
    · have := ih _ _ _ x hx; omega
    · rcases List.mem_cons.mp hx with rfl | hx
      · omega
      · have := ih _ _ _ x hx; omega
theorem runs_le (wd p : Nat) (hw : 1 ≤ wd) : ∀ x ∈ runs wd p, x ≤ wd := by
  intro x hx
  unfold runs at hx
  cases wd with
  | zero => omega
  | succ n =>
    simp only [rl] at hx
    split at hx
    · have := rl_le _ _ _ _ _ x hx; omega
    · rcases List.mem_cons.mp hx with rfl | hx
      · omega
      · have := rl_le _ _ _ _ _ x hx; omega
theorem fours_lt (p : Nat) : ∀ n i, ∀ k ∈ fours p n i, k < 16 := by
  intro n
  induction n with
  | zero => intro i k hk; simp [fours] at hk
  | succ n ih =>
    intro i k hk
    simp only [fours] at hk
    rcases List.mem_cons.mp hk with rfl | hk
    · exact four_lt _ _
    · exact ih _ k hk
theorem ker_lt (wd p m : Nat) (h1 : 1 ≤ wd) (hw : wd ≤ 32) : ∀ k ∈ ker wd p m, k < 16 := by
  intro k hk
  unfold ker at hk
  split at hk
  · exact fours_lt _ _ _ k hk
  · obtain ⟨r, hr, hk⟩ := List.mem_flatMap.mp hk
    have := runs_le wd p h1 r hr
    exact enc_lt (by omega) k hk

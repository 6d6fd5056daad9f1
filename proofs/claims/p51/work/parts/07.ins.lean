/-! ONE INSTRUCTION: the pure ones, then the rest -/
def LG (ls : LSL) (i : Nat) : Option Value := match ls[i]? with
  | some o => o
  | none => none
def ls_tl (v : Value) : LSL → LSL
  | [] => []
  | o :: t => match two v with
    | true => none :: t
    | false => o :: t
def lput (v : Value) : Nat → LSL → LSL
  | _, [] => []
  | 0, _ :: t => some v :: ls_tl v t
  | 1, o :: t => (match o with
    | some u => (match two u with
      | true => none
      | false => some u)
    | none => none) :: lput v 0 t
  | n + 2, o :: t => o :: lput v (n + 1) t
/-- what the stack and the locals become -/
def pst (ins : Instr) (ls : LSL) (st : List Value) : Option (LSL × List Value) := match ins with
  | .aload_n k => (match LG ls k.val with | some (.ref a) => some (ls, .ref a :: st) | _ => none)
  | .aload i => (match LG ls i with | some (.ref a) => some (ls, .ref a :: st) | _ => none)
  | .iload_n k => (match LG ls k.val with | some (.int a) => some (ls, .int a :: st) | _ => none)
  | .iload i => (match LG ls i with | some (.int a) => some (ls, .int a :: st) | _ => none)
  | .lload_n k => (match LG ls k.val with | some (.long a) => some (ls, .long a :: st) | _ => none)
  | .lload i => (match LG ls i with | some (.long a) => some (ls, .long a :: st) | _ => none)
  | .dload_n k => (match LG ls k.val with | some (.double a) => some (ls, .double a :: st) | _ => none)
  | .dload i => (match LG ls i with | some (.double a) => some (ls, .double a :: st) | _ => none)
  | .istore_n k => (match st with | .int x :: r => some (lput (.int x) k.val ls, r) | _ => none)
  | .istore i => (match st with | .int x :: r => some (lput (.int x) i ls, r) | _ => none)
  | .lstore_n k => (match st with | .long x :: r => some (lput (.long x) k.val ls, r) | _ => none)
  | .lstore i => (match st with | .long x :: r => some (lput (.long x) i ls, r) | _ => none)
  | .dstore_n k => (match st with | .double x :: r => some (lput (.double x) k.val ls, r) | _ => none)
  | .dstore i => (match st with | .double x :: r => some (lput (.double x) i ls, r) | _ => none)
  | .astore_n k => (match st with | .ref x :: r => some (lput (.ref x) k.val ls, r) | _ => none)
  | .astore i => (match st with | .ref x :: r => some (lput (.ref x) i ls, r) | _ => none)
  | .iinc i n => (match LG ls i with | some (.int x) => some (lput (.int (x + Int32.ofInt n)) i ls, st) | _ => none)
  | .iconst n => some (ls, .int (Int32.ofInt n) :: st)
  | .bipush n => some (ls, .int (Int8.ofInt n).toInt32 :: st)
  | .sipush n => some (ls, .int (Int16.ofInt n).toInt32 :: st)
  | .lconst n => some (ls, .long (Int64.ofNat n.val) :: st)
  | .aconst_null => some (ls, .null :: st)
  | .pop => (match st with | v :: r => (match two v with | true => none | false => some (ls, r)) | _ => none)
  | .dup => (match st with | v :: r => (match two v with | true => none | false => some (ls, v :: v :: r)) | _ => none)
  | .dup2 => (match st with | v :: u :: r => (match two v, two u with | false, false => some (ls, v :: u :: v :: u :: r) | _, _ => none) | _ => none)
  | .iadd => (match st with | .int y :: .int x :: r => some (ls, .int (x + y) :: r) | _ => none)
  | .isub => (match st with | .int y :: .int x :: r => some (ls, .int (x - y) :: r) | _ => none)
  | .imul => (match st with | .int y :: .int x :: r => some (ls, .int (x * y) :: r) | _ => none)
  | .iand => (match st with | .int y :: .int x :: r => some (ls, .int (x &&& y) :: r) | _ => none)
  | .ior => (match st with | .int y :: .int x :: r => some (ls, .int (x ||| y) :: r) | _ => none)
  | .ixor => (match st with | .int y :: .int x :: r => some (ls, .int (x ^^^ y) :: r) | _ => none)
  | .ishl => (match st with | .int y :: .int x :: r => some (ls, .int (x <<< (y &&& 31)) :: r) | _ => none)
  | .ishr => (match st with | .int y :: .int x :: r => some (ls, .int (x >>> (y &&& 31)) :: r) | _ => none)
  | .iushr => (match st with | .int y :: .int x :: r => some (ls, .int ((x.toUInt32 >>> (y.toUInt32 &&& Int32.toUInt32 31)).toInt32) :: r) | _ => none)
  | .ladd => (match st with | .long y :: .long x :: r => some (ls, .long (x + y) :: r) | _ => none)
  | .lsub => (match st with | .long y :: .long x :: r => some (ls, .long (x - y) :: r) | _ => none)
  | .lmul => (match st with | .long y :: .long x :: r => some (ls, .long (x * y) :: r) | _ => none)
  | .land => (match st with | .long y :: .long x :: r => some (ls, .long (x &&& y) :: r) | _ => none)
  | .lor => (match st with | .long y :: .long x :: r => some (ls, .long (x ||| y) :: r) | _ => none)
  | .lxor => (match st with | .long y :: .long x :: r => some (ls, .long (x ^^^ y) :: r) | _ => none)
  | .lcmp => (match st with | .long y :: .long x :: r => some (ls, .int (lg_cmp x y) :: r) | _ => none)
  | .lshl => (match st with | .int y :: .long x :: r => some (ls, .long (x <<< (y.toInt64 &&& 63)) :: r) | _ => none)
  | .lushr => (match st with | .int y :: .long x :: r => some (ls, .long ((x.toUInt64 >>> (y.toInt64.toUInt64 &&& Int64.toUInt64 63)).toInt64) :: r) | _ => none)
  | .i2l => (match st with | .int x :: r => some (ls, .long x.toInt64 :: r) | _ => none)
  | .l2i => (match st with | .long x :: r => some (ls, .int x.toInt32 :: r) | _ => none)
  | .i2d => (match st with | .int x :: r => some (ls, .double (FP.i2d x) :: r) | _ => none)
  | .d2l => (match st with | .double x :: r => some (ls, .long (FP.d2l x) :: r) | _ => none)
  | .dcmp op => (match st with | .double y :: .double x :: r => some (ls, .int (Op.cmpValue (FP.dcmp x y) op) :: r) | _ => none)
  | _ => none
theorem LG_at {A : Array Slot} {n : Nat} {ls : LSL} (h : LH A n ls) {i : Nat} {v : Value} (hl : LG ls i = some v) : A[i]? = some (.val v) := by
  refine h.2.2 i v ?_
  simp only [LG] at hl
  split at hl
  · rename_i o ho; rw [ho, hl]
  · cases hl
def la : Nat → LSL → List (Nat × Value)
  | _, [] => []
  | i, none :: t => la (i + 1) t
  | i, some v :: t => (i, v) :: la (i + 1) t
theorem la_mem (ls : LSL) : ∀ (k j : Nat) (v : Value), (j, v) ∈ la k ls ↔ ∃ i, j = k + i ∧ ls[i]? = some (some v) := by
  induction ls with
  | nil => intro k j v; simp [la]
  | cons o t ih =>
    intro k j v
    have step : ∀ P : Prop, (P ↔ ∃ i, j = k + 1 + i ∧ t[i]? = some (some v)) → ((o = some v ∧ j = k) ∨ P ↔ ∃ i, j = k + i ∧ (o :: t)[i]? = some (some v)) := by
      intro P hP
      rw [hP]
      constructor
      · rintro (⟨h1, h2⟩ | ⟨i, h1, h2⟩)
        · exact ⟨0, by omega, by simp [h1]⟩
        · exact ⟨i + 1, by omega, by simpa using h2⟩
      · rintro ⟨i, h1, h2⟩
        cases i with
        | zero => exact Or.inl ⟨by simpa using h2, by omega⟩
        | succ i => exact Or.inr ⟨i, by omega, by simpa using h2⟩
    cases o with
    | none =>
      rw [← step _ (ih (k + 1) j v)]
      simp [la]
    | some u =>
      rw [← step _ (ih (k + 1) j v)]
      simp [la, and_comm, eq_comm]
theorem la_has {A : Array Slot} {n : Nat} {ls : LSL} (h : LH A n ls) : lv_has A n (la 0 ls) := by
  refine ⟨h.1, h.2.1, fun q hq => ?_⟩
  obtain ⟨i, h1, h2⟩ := (la_mem ls 0 q.1 q.2).mp hq
  rw [h1, Nat.zero_add]
  exact h.2.2 i q.2 h2
/-- what a written list of locals holds -/
theorem lput_get (v : Value) : ∀ (i : Nat) (ls : LSL) (j : Nat) (u : Value), (lput v i ls)[j]? = some (some u) → (j = i ∧ u = v) ∨ (j ≠ i ∧ ls[j]? = some (some u) ∧ ¬ (j = i + 1 ∧ two v = true) ∧ ¬ (j + 1 = i ∧ two u = true)) := by
  intro i
  induction i using Nat.strongRecOn with
  | _ i ih =>
    intro ls j u h
    match i, ls, h with
    | _, [], h => simp [lput] at h
    | 0, o :: t, h =>
      simp only [lput] at h
      cases j with
      | zero => simp at h; exact Or.inl ⟨rfl, h.symm⟩
      | succ j =>
        right
        simp only [List.getElem?_cons_succ] at h
        refine ⟨by omega, ?_, ?_, by omega⟩
        · cases t with
          | nil => simp [ls_tl] at h
          | cons o2 t2 =>
            simp only [ls_tl] at h
            cases hv : two v <;> rw [hv] at h
            · simpa using h
            · cases j with
              | zero => simp at h
              | succ j => simpa using h
        · rintro ⟨h1, h2⟩
          have : j = 0 := by omega
          subst this
          cases t with
          | nil => simp [ls_tl] at h
          | cons o2 t2 => simp [ls_tl, h2] at h
    | 1, o :: t, h =>
      simp only [lput] at h
      cases j with
      | zero =>
        right
        simp only [List.getElem?_cons_zero, Option.some.injEq] at h
        cases o with
        | none => cases h
        | some x =>
          simp only at h
          cases hx : two x <;> rw [hx] at h <;> cases h
          exact ⟨by omega, by simp, by omega, by simp [hx]⟩
      | succ j =>
        simp only [List.getElem?_cons_succ] at h
        rcases ih 0 (by omega) t j u h with ⟨h1, h2⟩ | ⟨h1, h2, h3, h4⟩
        · exact Or.inl ⟨by omega, h2⟩
        · exact Or.inr ⟨by omega, by simpa using h2, fun q => h3 ⟨by have := q.1; omega, q.2⟩, fun q => h4 ⟨by have := q.1; omega, q.2⟩⟩
    | k + 2, o :: t, h =>
      simp only [lput] at h
      cases j with
      | zero => exact Or.inr ⟨by omega, by simpa using h, fun q => absurd q.1 (by omega), fun q => absurd q.1 (by omega)⟩
      | succ j =>
        simp only [List.getElem?_cons_succ] at h
        rcases ih (k + 1) (by omega) t j u h with ⟨h1, h2⟩ | ⟨h1, h2, h3, h4⟩
        · exact Or.inl ⟨by omega, h2⟩
        · exact Or.inr ⟨by omega, by simpa using h2, fun q => h3 ⟨by have := q.1; omega, q.2⟩, fun q => h4 ⟨by have := q.1; omega, q.2⟩⟩
theorem lput_one {A A' : Array Slot} {n i : Nat} {ls : LSL} {v : Value} (hv : two v = false) (h : lv_has A' n ((i, v) :: (la 0 ls).filter (fun q => !(q.1 == i) && !(q.1 + 1 == i && q.2.category == 2)))) : LH A' n (lput v i ls) := by
  refine ⟨h.1, h.2.1, fun j u hj => ?_⟩
  rcases lput_get v i ls j u hj with ⟨rfl, rfl⟩ | ⟨h1, h2, h3, h4⟩
  · exact h.2.2 (j, u) List.mem_cons_self
  · refine h.2.2 (j, u) (List.mem_cons_of_mem _ (List.mem_filter.mpr ⟨(la_mem ls 0 j u).mpr ⟨j, by omega, h2⟩, ?_⟩))
    have h5 : ¬ (j + 1 = i ∧ u.category = 2) := fun q => h4 ⟨q.1, (two_iff u).mp q.2⟩
    simp only [Bool.and_eq_true, Bool.not_eq_true', beq_eq_false_iff_ne, Bool.and_eq_false_iff]
    refine ⟨h1, ?_⟩
    by_cases h6 : j + 1 = i
    · exact Or.inr (fun q => h5 ⟨h6, q⟩)
    · exact Or.inl h6
theorem lput_two {A A' : Array Slot} {n i : Nat} {ls : LSL} {v : Value} (hv : two v = true) (h : lv_has A' n ((i, v) :: (la 0 ls).filter (fun q => !(q.1 == i) && (!(q.1 == i + 1) && !(q.1 + 1 == i && q.2.category == 2))))) : LH A' n (lput v i ls) := by
  refine ⟨h.1, h.2.1, fun j u hj => ?_⟩
  rcases lput_get v i ls j u hj with ⟨rfl, rfl⟩ | ⟨h1, h2, h3, h4⟩
  · exact h.2.2 (j, u) List.mem_cons_self
  · refine h.2.2 (j, u) (List.mem_cons_of_mem _ (List.mem_filter.mpr ⟨(la_mem ls 0 j u).mpr ⟨j, by omega, h2⟩, ?_⟩))
    have h5 : ¬ (j + 1 = i ∧ u.category = 2) := fun q => h4 ⟨q.1, (two_iff u).mp q.2⟩
    simp only [Bool.and_eq_true, Bool.not_eq_true', beq_eq_false_iff_ne, Bool.and_eq_false_iff]
    refine ⟨h1, fun q => h3 ⟨q, hv⟩, ?_⟩
    by_cases h6 : j + 1 = i
    · exact Or.inr (fun q => h5 ⟨h6, q⟩)
    · exact Or.inl h6

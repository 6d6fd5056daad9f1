/-! THE WEAKEST PRECONDITION OF A STRETCH OF CODE -/
def popN : Nat → List Value → List Value → Option (List Value × List Value)
  | 0, acc, st => some (acc, st)
  | _ + 1, _, [] => none
  | n + 1, acc, v :: st => popN n (v :: acc) st
def csum : List Value → Nat
  | [] => 0
  | v :: t => (match two v with | true => 2 | false => 1) + csum t
theorem csum_eq (st : List Value) : (st.map fun v => v.category).sum = csum st := by
  induction st with
  | nil => rfl
  | cons v t ih =>
    simp only [List.map_cons, List.sum_cons, csum, ih]
    cases v <;> rfl
theorem popN_spec : ∀ (n : Nat) (acc st As rest : List Value), popN n acc st = some (As, rest) → ∃ Bs, As = Bs ++ acc ∧ st = Bs.reverse ++ rest ∧ Bs.length = n := by
  intro n
  induction n with
  | zero => intro acc st As rest h; simp only [popN] at h; cases h; exact ⟨[], rfl, rfl, rfl⟩
  | succ n ih =>
    intro acc st As rest h
    cases st with
    | nil => simp [popN] at h
    | cons v t =>
      simp only [popN] at h
      obtain ⟨Bs, h1, h2, h3⟩ := ih _ _ _ _ h
      exact ⟨Bs ++ [v], by rw [h1]; simp, by rw [h2]; simp, by simp [h3]⟩
def nck (E nm : String) : Prop := (E, nm) ∈ NCs
def hxs (gg : Nat → Nat → Prop) (E : String) : List ((Nat × Nat × Nat × Nat) × String) → Prop
  | [] => False
  | (x, nm) :: t => (nm = E ∧ ∀ q, gg x.2.2.1 q) ∨ (nm ≠ E ∧ nck E nm ∧ hxs gg E t)
/-- what a thrown E comes to -/
def hdl (Γ : Amb) (K : MI) (Q : Option Value → Option Nat → PW → Prop) (QX : String → PW → Prop) (E : String) (ls : LSL) (w : PW) (cs ss : Nat) : Prop := match mi_h K with
  | [] => QX E w ∧ cs ≤ (mi_rm K).cells ∧ ss ≤ (mi_rm K).slots
  | h :: t => hxs (fun pc q => G Γ K Q QX pc ls [.ref q] none w cs ss) E (h :: t)
abbrev NX : Type := LSL → List Value → Option Nat → PW → Nat → Nat → Prop
/-- what is left for later -/
def holdL (l : List PI) : List PI := l
/-- an instruction that isn't pure -/
def stp (Γ : Amb) (K : MI) (Q : Option Value → Option Nat → PW → Prop) (QX : String → PW → Prop) (ins : Instr) (x y u : Nat) (v : Int) (k : MI) (pc : Nat) (ls : LSL) (st : List Value) (z : Option Nat) (w : PW) (cs ss : Nat) (nx nc : NX) (jp : Nat → NX) : Prop := match ins with
  | .getfield _ => (match st with
    | .ref a :: r => (match w a with
      | some (.inr (ci, fs)) => ci = x ∧ (match fs[y]? with | some f => nx ls (f :: r) z w cs ss | none => False)
      | _ => False)
    | _ => False)
  | .putfield _ => (match st with
    | f :: .ref a :: r => (match w a with
      | some (.inr (ci, fs)) => ci = x ∧ y < fs.length ∧ FV (tyC x y) f ∧ nx ls r z (up w a (.inr (x, fs.set y f))) cs ss
      | _ => False)
    | _ => False)
  | .arraylength => (match st with
    | .ref a :: r => (match w a with
      | some (.inl (t, q)) => t < 3 ∧ nx ls (.int (Int32.ofNat q.1) :: r) z w cs ss
      | _ => False)
    | _ => False)
  | .iaload => (match st with
    | .int i :: .ref a :: r => (match w a with
      | some (.inl (0, n, .inl f)) => vp_in i n ∧ nx ls (.int (f i.toNatClampNeg) :: r) z w cs ss
      | _ => False)
    | _ => False)
  | .laload => (match st with
    | .int i :: .ref a :: r => (match w a with
      | some (.inl (1, n, .inr (.inl f))) => vp_in i n ∧ nx ls (.long (f i.toNatClampNeg) :: r) z w cs ss
      | _ => False)
    | _ => False)
  | .aaload => (match st with
    | .int i :: .ref a :: r => (match w a with
      | some (.inl (2, n, .inr (.inr (.inr (.inr f))))) => vp_in i n ∧ nx ls (va_rf (f i.toNatClampNeg) :: r) z w cs ss
      | _ => False)
    | _ => False)
  | .iastore => (match st with
    | .int g :: .int i :: .ref a :: r => (match w a with
      | some (.inl (0, n, .inl f)) => vp_in i n ∧ nx ls r z (up w a (.inl (0, n, .inl (upd f i.toNatClampNeg g)))) cs ss
      | _ => False)
    | _ => False)
  | .lastore => (match st with
    | .long g :: .int i :: .ref a :: r => (match w a with
      | some (.inl (1, n, .inr (.inl f))) => vp_in i n ∧ nx ls r z (up w a (.inl (1, n, .inr (.inl (vp_updL f i.toNatClampNeg g))))) cs ss
      | _ => False)
    | _ => False)
  | .aastore => (match st with
    | .ref g :: .int i :: .ref a :: r => (match w a with
      | some (.inl (2, n, .inr (.inr (.inr (.inr f))))) => vp_in i n ∧ (∃ fs, w g = some (.inr (7, fs))) ∧ nx ls r z (up w a (.inl (2, n, .inr (.inr (.inr (.inr (va_up f i.toNatClampNeg (some g)))))))) cs ss
      | _ => False)
    | _ => False)
  | .new _ => (match z with
    | some h => cs + 1 ≤ (mi_rm K).cells ∧ ss + (dfl x).length ≤ (mi_rm K).slots ∧ nx ls (.ref h :: st) (some (h + 1)) (up w h (.inr (x, dfl x))) (cs + 1) (ss + (dfl x).length)
    | none => False)
  | .newarray _ => (match st with
    | .int m0 :: r => (match z with
      | some h => ¬ m0 < 0 ∧ m0.toNatClampNeg ≤ 4096 ∧ cs + 1 ≤ (mi_rm K).cells ∧ ss + m0.toNatClampNeg ≤ (mi_rm K).slots ∧ nx ls (.ref h :: r) (some (h + 1)) (up w h (nar x m0.toNatClampNeg)) (cs + 1) (ss + m0.toNatClampNeg)
      | none => False)
    | _ => False)
  | .anewarray _ => (match st with
    | .int m0 :: r => (match z with
      | some h => ¬ m0 < 0 ∧ m0.toNatClampNeg ≤ 4096 ∧ cs + 1 ≤ (mi_rm K).cells ∧ ss + m0.toNatClampNeg ≤ (mi_rm K).slots ∧ nx ls (.ref h :: r) (some (h + 1)) (up w h (nar 2 m0.toNatClampNeg)) (cs + 1) (ss + m0.toNatClampNeg)
      | none => False)
    | _ => False)
  | .idiv => (match st with
    | .int b :: .int a :: r => ¬ b = 0 ∧ nx ls (.int (a / b) :: r) z w cs ss
    | _ => False)
  | .irem => (match st with
    | .int b :: .int a :: r => ¬ b = 0 ∧ nx ls (.int (a - a / b * b) :: r) z w cs ss
    | _ => False)
  | .ddiv => (match st with
    | .double b :: .double a :: r => vf_n64 (FP.ddiv a b) ∧ nx ls (.double (FP.ddiv a b) :: r) z w cs ss
    | _ => False)
  | .dmul => (match st with
    | .double b :: .double a :: r => vf_n64 (FP.dmul a b) ∧ nx ls (.double (FP.dmul a b) :: r) z w cs ss
    | _ => False)
  | .dsub => (match st with
    | .double b :: .double a :: r => vf_n64 (FP.dsub a b) ∧ nx ls (.double (FP.dsub a b) :: r) z w cs ss
    | _ => False)
  | .dconst n => (match n.val with
    | 0 => nx ls (.double FP.dconst0 :: st) z w cs ss
    | _ => nx ls (.double FP.dconst1 :: st) z w cs ss)
  | .ldc_w _ => nx ls (.int (Int32.ofInt v) :: st) z w cs ss
  | .ldc2_w _ => (match u with
    | 0 => nx ls (.long (Int64.ofInt v) :: st) z w cs ss
    | _ => nx ls (.double (UInt64.ofNat x) :: st) z w cs ss)
  | .goto _ => jp x ls st z w cs ss
  | .if_icmp op _ => (match st with
    | .int b :: .int a :: r => (bc op a b → jp x ls r z w cs ss) ∧ (¬ bc op a b → nx ls r z w cs ss)
    | _ => False)
  | .ifCond op _ => (match st with
    | .int a :: r => (bc op a 0 → jp x ls r z w cs ss) ∧ (¬ bc op a 0 → nx ls r z w cs ss)
    | _ => False)
  | .ifnull _ => (match st with
    | .ref _ :: r => nx ls r z w cs ss
    | _ => False)
  | .tableswitch _ lo _ offs => (match st with
    | .int a :: r => tsw (fun t => jp t ls r z w cs ss) pc a.toInt lo offs.toList x
    | _ => False)
  | .lookupswitch _ ps => (match st with
    | .int a :: r => lsw (fun t => jp t ls r z w cs ss) pc a.toInt ps.toList x
    | _ => False)
  | .ireturn => (match st with
    | [.int a] => RI (mi_r K) a ∧ cs ≤ (mi_rm K).cells ∧ ss ≤ (mi_rm K).slots ∧ Q (some (.int a)) z w
    | _ => False)
  | .lreturn => (match st with
    | [.long a] => cs ≤ (mi_rm K).cells ∧ ss ≤ (mi_rm K).slots ∧ Q (some (.long a)) z w
    | _ => False)
  | .dreturn => (match st with
    | [.double a] => cs ≤ (mi_rm K).cells ∧ ss ≤ (mi_rm K).slots ∧ Q (some (.double a)) z w
    | _ => False)
  | .areturn => (match st with
    | [.ref a] => cs ≤ (mi_rm K).cells ∧ ss ≤ (mi_rm K).slots ∧ Q (some (.ref a)) z w
    | _ => False)
  | .return_ => (match st with
    | [] => cs ≤ (mi_rm K).cells ∧ ss ≤ (mi_rm K).slots ∧ Q none z w
    | _ => False)
  | .athrow => csum st + 82 ≤ (mi_rm K).locals ∧ cs + 1 ≤ (mi_rm K).cells ∧ ss + 6 ≤ (mi_rm K).slots ∧ QX k.1.cls w
  | .invokevirtual _ => (match popN x [] st with
    | some (As, .ref a :: r) => (match w a with
      | some (.inr (ci, _)) => ci = y ∧ csum r ≤ 8 ∧ cs + (mi_rm k).cells ≤ (mi_rm K).cells ∧ ss + (mi_rm k).slots ≤ (mi_rm K).slots ∧ (match u with
        | 0 => Sp Γ k (.ref a :: As) z w (fun q z' w' => nc ls (q.toList ++ r) z' w' (cs + (mi_rm k).cells) (ss + (mi_rm k).slots))
        | _ => SpX Γ k (.ref a :: As) z w (fun q z' w' => nc ls (q.toList ++ r) z' w' (cs + (mi_rm k).cells) (ss + (mi_rm k).slots)) (fun E w' => hdl Γ K Q QX E ls w' (cs + (mi_rm k).cells) (ss + (mi_rm k).slots)))
      | _ => False)
    | _ => False)
  | .invokespecial _ => (match u with
    | 0 => (match popN x [] st with
      | some (As, .ref a :: r) => csum r ≤ 8 ∧ cs + (mi_rm k).cells ≤ (mi_rm K).cells ∧ ss + (mi_rm k).slots ≤ (mi_rm K).slots ∧ Sp Γ k (.ref a :: As) z w (fun q z' w' => nc ls (q.toList ++ r) z' w' (cs + (mi_rm k).cells) (ss + (mi_rm k).slots))
      | _ => False)
    | _ => (match st with
      | .ref _ :: r => csum r + 12 ≤ (mi_rm K).locals ∧ nx ls r z w cs ss
      | _ => False))
  | .invokestatic _ => (match u with
    | 3 => (match st with
      | .int m0 :: .int dp :: .ref a :: .int sp :: .ref a0 :: r => ¬ sp < 0 ∧ ¬ dp < 0 ∧ ¬ m0 < 0 ∧ csum r + 24 ≤ (mi_rm K).locals ∧ (match w a0, w a with
        | some (.inl (0, n0, .inl f)), some (.inl (0, n1, .inl g)) => sp.toNatClampNeg + m0.toNatClampNeg ≤ n0 ∧ dp.toNatClampNeg + m0.toNatClampNeg ≤ n1 ∧ nx ls r none (up w a (.inl (0, n1, .inl (va_cpy f g sp.toNatClampNeg dp.toNatClampNeg m0.toNatClampNeg)))) cs ss
        | some (.inl (1, n0, .inr (.inl f))), some (.inl (1, n1, .inr (.inl g))) => sp.toNatClampNeg + m0.toNatClampNeg ≤ n0 ∧ dp.toNatClampNeg + m0.toNatClampNeg ≤ n1 ∧ nx ls r none (up w a (.inl (1, n1, .inr (.inl (va_cpy f g sp.toNatClampNeg dp.toNatClampNeg m0.toNatClampNeg))))) cs ss
        | _, _ => False)
      | _ => False)
    | 4 => (match st with
      | .double b :: r => csum r + 15 ≤ (mi_rm K).locals ∧ nx ls (.long b.toInt64 :: r) z w cs ss
      | _ => False)
    | 5 => (match st with
      | .int b :: .int a :: r => csum r + 13 ≤ (mi_rm K).locals ∧ cs ≤ (mi_rm K).cells ∧ ss ≤ (mi_rm K).slots ∧ nx ls (.int (if b < a then b else a) :: r) z w cs ss
      | _ => False)
    | 6 => (match st with
      | .int b :: .int a :: r => csum r + 13 ≤ (mi_rm K).locals ∧ cs ≤ (mi_rm K).cells ∧ ss ≤ (mi_rm K).slots ∧ nx ls (.int (if a < b then b else a) :: r) z w cs ss
      | _ => False)
    | _ => (match popN x [] st with
      | some (As, r) => csum r ≤ 8 ∧ cs + (mi_rm k).cells ≤ (mi_rm K).cells ∧ ss + (mi_rm k).slots ≤ (mi_rm K).slots ∧ (match u with
        | 1 => SpX Γ k As z w (fun q z' w' => nc ls (q.toList ++ r) z' w' (cs + (mi_rm k).cells) (ss + (mi_rm k).slots)) (fun E w' => hdl Γ K Q QX E ls w' (cs + (mi_rm k).cells) (ss + (mi_rm k).slots))
        | _ => Sp Γ k As z w (fun q z' w' => nc ls (q.toList ++ r) z' w' (cs + (mi_rm k).cells) (ss + (mi_rm k).slots)))
      | none => False))
  | _ => False
/-- a stretch of code from pc on; cd: where jumps may be followed -/
def wp (Γ : Amb) (K : MI) (Q : Option Value → Option Nat → PW → Prop) (QX : String → PW → Prop) (cd : Nat → Option (List PI)) : Nat → Nat → List PI → LSL → List Value → Option Nat → PW → Nat → Nat → Prop
  | 0, pc, _, ls, st, z, w, cs, ss => G Γ K Q QX pc ls st z w cs ss
  | f + 1, pc, [], ls, st, z, w, cs, ss => (match cd pc with
    | some is' => wp Γ K Q QX cd f pc is' ls st z w cs ss
    | none => G Γ K Q QX pc ls st z w cs ss)
  | f + 1, pc, (ln, ins, x, y, u, v, k) :: is, ls, st, z, w, cs, ss => (match pst ins ls st with
    | some q => wp Γ K Q QX cd f (pc + ln) is q.1 q.2 z w cs ss
    | none => stp Γ K Q QX ins x y u v k pc ls st z w cs ss (fun ls st z w cs ss => wp Γ K Q QX cd f (pc + ln) is ls st z w cs ss) (fun ls st z w cs ss => wp Γ K Q QX cd f (pc + ln) (holdL is) ls st z w cs ss) (fun t ls st z w cs ss => (match cd t with
      | some is' => wp Γ K Q QX cd f t is' ls st z w cs ss
      | none => G Γ K Q QX t ls st z w cs ss)))

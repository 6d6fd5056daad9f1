/-! CALLS THAT DON'T THROW -/
theorem g_widen {Γ : Amb} {K : MI} {Q : Option Value → Option Nat → PW → Prop} {QX : String → PW → Prop} {pc : Nat} {ls : LSL} {st : List Value} {z : Option Nat} {w : PW} {cs ss cs' ss' : Nat} (hc : cs ≤ cs') (hs : ss ≤ ss') (k : G Γ K Q QX pc ls st z w cs' ss') : G Γ K Q QX pc ls st z w cs ss :=
  fun p e s m args below meth c FP C H locs A hA hW hS => W.widen hc hs (k p e s m args below meth c FP C H locs A hA hW hS)
theorem px_of {p k : Nat} (h : p < 2 ^ k) (hk : k < 64) : px (lN p) k = some p := by
  have h64 : (2 : Nat) ^ k ≤ 2 ^ 64 := Nat.pow_le_pow_right (by decide) (by omega)
  unfold px
  have e : (lN p).toUInt64.toNat = p := wb_tn (by omega)
  rw [e, if_pos h]
section SQ
variable {Γ : Amb} {w : PW} {Q : Option Value → Option Nat → PW → Prop} {QX : String → PW → Prop} {x : Nat} {U : US}
theorem sq_pixelsOf (h : XU w x U) (hU : UOK U) {k : Nat} (hk : k < (a_L (us_S U)).length) (hQ : Q (some (.long (lN ((a_L (us_S U)).getD k 0)))) none w) : SpX Γ m9_pixelsOf [.ref x, .int (nI k)] none w Q QX := by
  have hl := hU.1.2.2.2.2.1
  have e : v_pixelsOf (nI k) U = (0, (a_L (us_S U)).getD k 0) := by unfold v_pixelsOf; rw [ix_of hk (by omega)]
  refine sp9_pixelsOf h hU _ (fun _ => ?_) (fun hz => absurd (by rw [e]) hz)
  rw [e]
  exact hQ
theorem sq_isBlack (h : XU w x U) (hU : UOK U) {k i : Nat} (hk : k < (a_L (us_S U)).length) (hi : i < a_wd (us_S U)) (hQ : Q (some (.int (nI (bN ((a_L (us_S U)).getD k 0) i)))) none w) : SpX Γ m9_isBlack [.ref x, .int (nI k), .int (nI i)] none w Q QX := by
  have hl := hU.1.2.2.2.2.1
  have hw := hU.1.2.1
  have e : v_isBlack (nI k) (nI i) U = (0, bN ((a_L (us_S U)).getD k 0) i) := by
    unfold v_isBlack; rw [ix_of hk (by omega)]; dsimp only; rw [ix_of hi (by omega)]
  refine sp9_isBlack h hU _ _ (fun _ => ?_) (fun hz => absurd (by rw [e]) hz)
  rw [e]
  exact hQ
theorem sq_runsOf (h : XU w x U) (hU : UOK U) {k : Nat} (hk : k < (a_L (us_S U)).length) (hQ : Q (some (.int (nI (runs (a_wd (us_S U)) ((a_L (us_S U)).getD k 0)).length))) none w) : SpX Γ m9_runsOf [.ref x, .int (nI k)] none w Q QX := by
  have hl := hU.1.2.2.2.2.1
  have e : v_runsOf (nI k) U = (0, (runs (a_wd (us_S U)) ((a_L (us_S U)).getD k 0)).length) := by unfold v_runsOf; rw [ix_of hk (by omega)]
  refine sp9_runsOf h hU _ (fun _ => ?_) (fun hz => absurd (by rw [e]) hz)
  rw [e]
  exact hQ
theorem sq_longestRun (h : XU w x U) (hU : UOK U) {k : Nat} (hk : k < (a_L (us_S U)).length) (hQ : Q (some (.int (nI (mxL (runs (a_wd (us_S U)) ((a_L (us_S U)).getD k 0)))))) none w) : SpX Γ m9_longestRun [.ref x, .int (nI k)] none w Q QX := by
  have hl := hU.1.2.2.2.2.1
  have e : v_longestRun (nI k) U = (0, mxL (runs (a_wd (us_S U)) ((a_L (us_S U)).getD k 0))) := by unfold v_longestRun; rw [ix_of hk (by omega)]
  refine sp9_longestRun h hU _ (fun _ => ?_) (fun hz => absurd (by rw [e]) hz)
  rw [e]
  exact hQ
theorem sq_codeLength (h : XU w x U) (hU : UOK U) {k m : Nat} (hk : k < (a_L (us_S U)).length) (hm : m < 3) (hQ : ∀ w', XU w' x U → Fr w w' x 77 → Q (some (.int (nI (clen (a_wd (us_S U)) (a_L (us_S U)) k m)))) none w') : SpX Γ m9_codeLength [.ref x, .int (nI k), .int (nI m)] none w Q QX := by
  have hl := hU.1.2.2.2.2.1
  have e : v_clen (nI k) (nI m) U = (0, clen (a_wd (us_S U)) (a_L (us_S U)) k m) := by
    unfold v_clen; rw [ix_of hk (by omega)]; dsimp only; rw [ix_of hm (by omega)]
  refine sp9_codeLength h hU _ _ (fun _ w' hX hf => ?_) (fun hz => absurd (by rw [e]) hz)
  rw [e]
  exact hQ w' hX hf
theorem sq_checkOf (h : XU w x U) (hU : UOK U) {k m : Nat} (hk : k < (a_L (us_S U)).length) (hm : m < 3) (hQ : ∀ w', XU w' x U → Fr w w' x 77 → Q (some (.int (nI (chk (a_wd (us_S U)) (a_L (us_S U)) k m)))) none w') : SpX Γ m9_checkOf [.ref x, .int (nI k), .int (nI m)] none w Q QX := by
  have hl := hU.1.2.2.2.2.1
  have e : v_chk (nI k) (nI m) U = (0, chk (a_wd (us_S U)) (a_L (us_S U)) k m) := by
    unfold v_chk; rw [ix_of hk (by omega)]; dsimp only; rw [ix_of hm (by omega)]
  refine sp9_checkOf h hU _ _ (fun _ w' hX hf => ?_) (fun hz => absurd (by rw [e]) hz)
  rw [e]
  exact hQ w' hX hf
theorem sq_byCounting (h : XU w x U) (hU : UOK U) {k m : Nat} (hk : k < (a_L (us_S U)).length) (hm : m < 3) (hQ : Q (some (.int (nI (clen (a_wd (us_S U)) (a_L (us_S U)) k m)))) none w) : SpX Γ m9_codeLengthByCounting [.ref x, .int (nI k), .int (nI m)] none w Q QX := by
  have hl := hU.1.2.2.2.2.1
  have e : v_clen (nI k) (nI m) U = (0, clen (a_wd (us_S U)) (a_L (us_S U)) k m) := by
    unfold v_clen; rw [ix_of hk (by omega)]; dsimp only; rw [ix_of hm (by omega)]
  refine sp9_codeLengthByCounting h hU _ _ (fun _ => ?_) (fun hz => absurd (by rw [e]) hz)
  rw [e]
  exact hQ
theorem sq_modeOf (h : XU w x U) (hU : UOK U) {k : Nat} (hk : k < (a_L (us_S U)).length) (hQ : Q (some (.int (nI (modeS (us_S U) k)))) none w) : SpX Γ m9_modeOf [.ref x, .int (nI k)] none w Q QX := by
  have hl := hU.1.2.2.2.2.1
  have e : v_modeOf (nI k) U = (0, modeS (us_S U) k) := by unfold v_modeOf; rw [ix_of hk (by omega)]
  refine sp9_modeOf h hU _ (fun _ => ?_) (fun hz => absurd (by rw [e]) hz)
  rw [e]
  exact hQ
theorem sq_numberAt (h : XU w x U) (hU : UOK U) {k : Nat} (hk : k < (a_s (us_S U)).length) (hQ : Q (some (.int (nI ((a_s (us_S U)).getD k 0)))) none w) : SpX Γ m9_numberAt [.ref x, .int (nI k)] none w Q QX := by
  have hl := hU.1.2.2.2.2.2.2.1
  have e : v_numberAt (nI k) U = (0, (a_s (us_S U)).getD k 0) := by unfold v_numberAt; rw [ix_of hk (by omega)]
  refine sp9_numberAt h hU _ (fun _ => ?_) (fun hz => absurd (by rw [e]) hz)
  rw [e]
  exact hQ
theorem sq_isReceived (h : XU w x U) {k : Nat} (hk : k < 10) (hQ : Q (some (.int (nI (gotN (a_R (us_S U)) k)))) none w) : SpX Γ m9_isReceived [.ref x, .int (nI k)] none w Q QX := by
  have e : v_isReceived (nI k) U = (0, gotN (a_R (us_S U)) k) := by unfold v_isReceived; rw [ix_of hk (by omega)]
  refine sp9_isReceived h _ (fun _ => ?_) (fun hz => absurd (by rw [e]) hz)
  rw [e]
  exact hQ
theorem sq_receivedPixels (h : XU w x U) {k p : Nat} (hk : k < 10) (hp : (a_R (us_S U)).getD k none = some p) (hQ : Q (some (.long (lN p))) none w) : SpX Γ m9_receivedPixels [.ref x, .int (nI k)] none w Q QX := by
  have e : v_receivedPixels (nI k) U = (0, p) := by unfold v_receivedPixels; rw [ix_of hk (by omega)]; dsimp only; rw [hp]
  refine sp9_receivedPixels h _ (fun _ => ?_) (fun hz => absurd (by rw [e]) hz)
  rw [e]
  exact hQ
theorem sq_errorPlace (h : XU w x U) (hU : UOK U) {k : Nat} (hk : k < (a_E (us_S U)).length) (hQ : Q (some (.int (nI ((a_E (us_S U)).getD k (0, 0)).1))) none w) : SpX Γ m9_errorPlace [.ref x, .int (nI k)] none w Q QX := by
  have hl := hU.1.2.2.2.2.2.2.2.2.2.1
  have e : v_errorPlace (nI k) U = (0, ((a_E (us_S U)).getD k (0, 0)).1) := by unfold v_errorPlace; rw [ix_of hk (by omega)]
  refine sp9_errorPlace h hU _ (fun _ => ?_) (fun hz => absurd (by rw [e]) hz)
  rw [e]
  exact hQ
theorem sq_errorReason (h : XU w x U) (hU : UOK U) {k : Nat} (hk : k < (a_E (us_S U)).length) (hQ : Q (some (.int (nI ((a_E (us_S U)).getD k (0, 0)).2))) none w) : SpX Γ m9_errorReason [.ref x, .int (nI k)] none w Q QX := by
  have hl := hU.1.2.2.2.2.2.2.2.2.2.1
  have e : v_errorReason (nI k) U = (0, ((a_E (us_S U)).getD k (0, 0)).2) := by unfold v_errorReason; rw [ix_of hk (by omega)]
  refine sp9_errorReason h hU _ (fun _ => ?_) (fun hz => absurd (by rw [e]) hz)
  rw [e]
  exact hQ
/-! those that change -/
theorem sq_addLine (h : XU w x U) (hV : VOK U) {p : Nat} (hp : p < 2 ^ a_wd (us_S U)) (hl : ¬(a_L (us_S U)).length = 10) (hQ : ∀ (r : Int32) (w' : PW), XU w' x (uD (s_L (us_S U) (a_L (us_S U) ++ [p])) U) → VOK (uD (s_L (us_S U) (a_L (us_S U) ++ [p])) U) → Fr w w' x 77 → Q (some (.int r)) none w') : SpX Γ m9_addLine [.ref x, .long (lN p)] none w Q QX := by
  have hw := hV.1.1.2.1
  have e : o_addLine (lN p) U = oDo (a_L (us_S U)).length (s_L (us_S U) (a_L (us_S U) ++ [p])) U := by
    unfold o_addLine; rw [px_of hp (by omega)]; dsimp only; rw [if_neg hl]
  have ho := ok_addLine hV.1 (lN p)
  rw [e] at ho
  refine sp9_addLine h hV.1 _ (fun _ w' hX hf => ?_) (fun hz => absurd (by rw [e]; rfl) hz)
  rw [e] at hX
  exact hQ _ w' hX (hV.push ho hV.2.1) hf
theorem sq_setLine (h : XU w x U) (hV : VOK U) {k p : Nat} (hk : k < (a_L (us_S U)).length) (hp : p < 2 ^ a_wd (us_S U)) (hQ : ∀ (r : Int64) (w' : PW), XU w' x (uD (s_L (us_S U) ((a_L (us_S U)).set k p)) U) → VOK (uD (s_L (us_S U) ((a_L (us_S U)).set k p)) U) → Fr w w' x 77 → Q (some (.long r)) none w') : SpX Γ m9_setLine [.ref x, .int (nI k), .long (lN p)] none w Q QX := by
  have hw := hV.1.1.2.1
  have hl := hV.1.1.2.2.2.2.1
  have e : o_setLine (nI k) (lN p) U = oDo ((a_L (us_S U)).getD k 0) (s_L (us_S U) ((a_L (us_S U)).set k p)) U := by
    unfold o_setLine; rw [ix_of hk (by omega)]; dsimp only; rw [px_of hp (by omega)]
  have ho := ok_setLine hV.1 (nI k) (lN p)
  rw [e] at ho
  refine sp9_setLine h hV.1 _ _ (fun _ w' hX hf => ?_) (fun hz => absurd (by rw [e]; rfl) hz)
  rw [e] at hX
  exact hQ _ w' hX (hV.push ho hV.2.1) hf
theorem sq_dropLast (h : XU w x U) (hV : VOK U) (hl : ¬(a_L (us_S U)).length = 0) (hQ : ∀ (r : Int32) (w' : PW), XU w' x (uD (s_L (us_S U) (a_L (us_S U)).dropLast) U) → VOK (uD (s_L (us_S U) (a_L (us_S U)).dropLast) U) → Fr w w' x 77 → Q (some (.int r)) none w') : SpX Γ m9_dropLast [.ref x] none w Q QX := by
  have e : o_dropLast U = oDo ((a_L (us_S U)).length - 1) (s_L (us_S U) (a_L (us_S U)).dropLast) U := by
    unfold o_dropLast; rw [if_neg hl]
  have ho := ok_dropLast hV.1
  rw [e] at ho
  refine sp9_dropLast h hV.1 (fun _ w' hX hf => ?_) (fun hz => absurd (by rw [e]; rfl) hz)
  rw [e] at hX
  exact hQ _ w' hX (hV.push ho hV.2.1) hf
abbrev s_sy (S : AS) (y : Nat) : AS := (a_wd S, y, a_L S, a_s S, a_R S, a_E S, a_st S)
abbrev s_wd (S : AS) (p : Nat) : AS := (p, a_sy S, [], [], R0, [], a_st S)
theorem sq_setStyle (h : XU w x U) (hV : VOK U) {y : Nat} (hy : y < 4) (hQ : ∀ (r : Int32) (w' : PW), XU w' x (uD (s_sy (us_S U) y) U) → VOK (uD (s_sy (us_S U) y) U) → Fr w w' x 77 → Q (some (.int r)) none w') : SpX Γ m9_setStyle [.ref x, .int (nI y)] none w Q QX := by
  have e : o_setStyle (nI y) U = oDo (a_sy (us_S U)) (s_sy (us_S U) y) U := by
    unfold o_setStyle; rw [ix_of hy (by omega)]
  have ho := ok_setStyle hV.1 (nI y)
  rw [e] at ho
  refine sp9_setStyle h hV.1 _ (fun _ w' hX hf => ?_) (fun hz => absurd (by rw [e]; rfl) hz)
  rw [e] at hX
  exact hQ _ w' hX (hV.push ho hV.2.1) hf
theorem sq_setWidth (h : XU w x U) (hV : VOK U) {p : Nat} (h8 : 8 ≤ p) (hp : p < 33) (hQ : ∀ (r : Int32) (w' : PW), XU w' x (uD (s_wd (us_S U) p) U) → VOK (uD (s_wd (us_S U) p) U) → Fr w w' x 77 → Q (some (.int r)) none w') : SpX Γ m9_setWidth [.ref x, .int (nI p)] none w Q QX := by
  have e : o_setWidth (nI p) U = oDo (a_wd (us_S U)) (s_wd (us_S U) p) U := by
    unfold o_setWidth; rw [ix_of hp (by omega)]; dsimp only; rw [if_pos h8]
  have ho := ok_setWidth hV.1 (nI p)
  rw [e] at ho
  refine sp9_setWidth h _ (fun _ w' hX hf => ?_) (fun hz => absurd (by rw [e]; rfl) hz)
  rw [e] at hX
  exact hQ _ w' hX (hV.push ho (fun k hk => absurd hk (by show ¬(k + 1 < 0); omega))) hf
theorem sq_send (h : XU w x U) (hV : VOK U) (hQ : ∀ (r : Int32) (w' : PW), XU w' x (uD (s_s (us_S U) (sentA (us_S U))) U) → VOK (uD (s_s (us_S U) (sentA (us_S U))) U) → Fr w w' x 77 → Q (some (.int r)) none w') : Sp Γ m9_send [.ref x] none w Q :=
  sp9_send h hV.1 (fun w' hX hf => hQ _ w' hX (hV.push (ok_send hV.1) hV.2.1) hf)
theorem sq_receive (h : XU w x U) (hV : VOK U) (hQ : ∀ w' : PW, XU w' x (uD (s_rd (us_S U) (readA (a_s (us_S U)) (a_wd (us_S U)))) U) → VOK (uD (s_rd (us_S U) (readA (a_s (us_S U)) (a_wd (us_S U)))) U) → Fr w w' x 77 → Q (some (.int (nI (cntR (readA (a_s (us_S U)) (a_wd (us_S U))).1)))) none w') : Sp Γ m9_receive [.ref x] none w Q :=
  sp9_receive h hV.1 (fun w' hX hf => hQ w' hX (hV.push (ok_receive hV.1) (readA_eg _ _)) hf)
theorem sq_replace (h : XU w x U) (hV : VOK U) {k n : Nat} (hk : k < (a_s (us_S U)).length) (hn : n < 16) (hQ : ∀ (r : Int32) (w' : PW), XU w' x (uD (s_s (us_S U) ((a_s (us_S U)).set k n)) U) → VOK (uD (s_s (us_S U) ((a_s (us_S U)).set k n)) U) → Fr w w' x 77 → Q (some (.int r)) none w') : SpX Γ m9_replace [.ref x, .int (nI k), .int (nI n)] none w Q QX := by
  have hl := hV.1.1.2.2.2.2.2.2.1
  have e : o_replace (nI k) (nI n) U = oDo ((a_s (us_S U)).getD k 0) (s_s (us_S U) ((a_s (us_S U)).set k n)) U := by
    unfold o_replace; rw [ix_of hk (by omega)]; dsimp only; rw [ix_of hn (by omega)]
  have ho := ok_replace hV.1 (nI k) (nI n)
  rw [e] at ho
  refine sp9_replace h hV.1 _ _ (fun _ w' hX hf => ?_) (fun hz => absurd (by rw [e]; rfl) hz)
  rw [e] at hX
  exact hQ _ w' hX (hV.push ho hV.2.1) hf
theorem sq_lose (h : XU w x U) (hV : VOK U) {k : Nat} (hk : k < (a_s (us_S U)).length) (hQ : ∀ (r : Int32) (w' : PW), XU w' x (uD (s_s (us_S U) ((a_s (us_S U)).eraseIdx k)) U) → VOK (uD (s_s (us_S U) ((a_s (us_S U)).eraseIdx k)) U) → Fr w w' x 77 → Q (some (.int r)) none w') : SpX Γ m9_lose [.ref x, .int (nI k)] none w Q QX := by
  have hl := hV.1.1.2.2.2.2.2.2.1
  have e : o_lose (nI k) U = oDo ((a_s (us_S U)).getD k 0) (s_s (us_S U) ((a_s (us_S U)).eraseIdx k)) U := by
    unfold o_lose; rw [ix_of hk (by omega)]
  have ho := ok_lose hV.1 (nI k)
  rw [e] at ho
  refine sp9_lose h hV.1 _ (fun _ w' hX hf => ?_) (fun hz => absurd (by rw [e]; rfl) hz)
  rw [e] at hX
  exact hQ _ w' hX (hV.push ho hV.2.1) hf
theorem sq_gain (h : XU w x U) (hV : VOK U) {k n : Nat} (hk : k < (a_s (us_S U)).length + 1) (hn : n < 16) (hf5 : ¬(a_s (us_S U)).length = 500) (hQ : ∀ (r : Int32) (w' : PW), XU w' x (uD (s_s (us_S U) ((a_s (us_S U)).insertIdx k n)) U) → VOK (uD (s_s (us_S U) ((a_s (us_S U)).insertIdx k n)) U) → Fr w w' x 77 → Q (some (.int r)) none w') : SpX Γ m9_gain [.ref x, .int (nI k), .int (nI n)] none w Q QX := by
  have hl := hV.1.1.2.2.2.2.2.2.1
  have e : o_gain (nI k) (nI n) U = oDo ((a_s (us_S U)).length + 1) (s_s (us_S U) ((a_s (us_S U)).insertIdx k n)) U := by
    unfold o_gain; rw [ix_of hk (by omega)]; dsimp only; rw [ix_of hn (by omega)]; dsimp only; rw [if_neg hf5]
  have ho := ok_gain hV.1 (nI k) (nI n)
  rw [e] at ho
  refine sp9_gain h hV.1 _ _ (fun _ w' hX hf => ?_) (fun hz => absurd (by rw [e]; rfl) hz)
  rw [e] at hX
  exact hQ _ w' hX (hV.push ho hV.2.1) hf
theorem sq_undo {S' : AS} (h : XU w x (uD S' U)) (hV : VOK (uD S' U)) (hQ : ∀ w' : PW, XU w' x (us_S U, us_N U, (pushT (us_T U) (us_S U)).dropLast, us_B U) → VOK (us_S U, us_N U, (pushT (us_T U) (us_S U)).dropLast, us_B U) → Fr w w' x 77 → Q (some (.int (nI ((pushT (us_T U) (us_S U)).length - 1)))) none w') : SpX Γ m9_undo [.ref x] none w Q QX := by
  have e := undo_uD S' U
  have ho := undo_ok hV
  rw [e] at ho
  refine sp9_undo h hV.1 (fun _ w' hX hf => ?_) (fun hz => absurd (by rw [e]) hz)
  rw [e] at hX ⊢
  exact hQ w' hX ho hf
end SQ

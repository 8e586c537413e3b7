/-! terms and questions -/
def kdT (k : Nat × Nat × Nat × Nat) : Nat := if isW k 279252 = true then 1 else if isW k 311436 = true then 2 else if isW k 11438892 = true then 3 else if isN k = true then 0 else 9
/-- what stands behind near, over, under fits -/
def okTm (T : TPt) (i : Nat) : Bool := if kdT (tk T i) = 1 then isN (tk T (i + 1)) else (tk T (i + 1)).1 == 2
def rdTerm (T : TPt) (q : TQt) (i : Nat) : Nat × TQt × Nat :=
  if kdT (tk T i) = 9 then (fx T i 1, q, i)
  else if 4 ≤ q.1 then (fx T i 5, q, i)
  else if kdT (tk T i) = 0 then (0, addQ q 0 (vl T i), i + 1)
  else if okTm T i = true then (0, addQ q (kdT (tk T i)) (vl T (i + 1)), i + 2)
  else (fx T (i + 1) 1, q, i + 1)
def rdAsk (T : TPt) : Nat → TQt → Nat → Nat × TQt × Nat
  | 0, q, i => (0, q, i)
  | m + 1, q, i => if (rdTerm T q i).1 ≠ 0 then rdTerm T q i else if (tk T (rdTerm T q i).2.2).1 = 0 then rdTerm T q i else rdAsk T m (rdTerm T q i).2.1 (rdTerm T q i).2.2
def rdSR (T : TPt) (b : TBt) : Nat → (Nat → Nat) → Nat → Nat × (Nat → Nat) × Nat
  | 0, cn, i => if rdName T b i ≠ 0 then (rdName T b i, cn, i) else (fx T i 5, cn, i)
  | m + 1, cn, i =>
    if rdName T b i ≠ 0 then (rdName T b i, cn, i)
    else if isS (tk T (i + 1)) 44 = true then rdSR T b m (fun t => if t = fT b (vl T i) then cn t + 1 else cn t) (i + 2)
    else if isS (tk T (i + 1)) 58 = true then (0, fun t => if t = fT b (vl T i) then cn t + 1 else cn t, i + 2)
    else (fx T (i + 1) 1, cn, i + 1)
/-- a term of a question, with the table that it names -/
def rdOf (T : TPt) (b : TBt) (q : TQt) (i : Nat) : Nat × TQt × Nat × Nat :=
  if (rdTerm T q i).1 ≠ 0 then ((rdTerm T q i).1, q, 0, i)
  else if isW (tk T (rdTerm T q i).2.2) 411 = false then (fx T (rdTerm T q i).2.2 1, q, 0, i)
  else if rdName T b ((rdTerm T q i).2.2 + 1) ≠ 0 then (rdName T b ((rdTerm T q i).2.2 + 1), q, 0, i)
  else (0, (rdTerm T q i).2.1, fT b (vl T ((rdTerm T q i).2.2 + 1)), (rdTerm T q i).2.2 + 2)
def rdST (T : TPt) (b : TBt) : Nat → TQt → (Nat → Nat) → Nat → Nat × TQt × (Nat → Nat)
  | 0, q, tn, _ => (0, q, tn)
  | m + 1, q, tn, i =>
    if (rdOf T b q i).1 ≠ 0 then ((rdOf T b q i).1, q, tn)
    else if (tk T (rdOf T b q i).2.2.2).1 = 0 then (0, (rdOf T b q i).2.1, fun k => if k = q.1 then (rdOf T b q i).2.2.1 else tn k)
    else if isS (tk T (rdOf T b q i).2.2.2) 44 = true then rdST T b m (rdOf T b q i).2.1 (fun k => if k = q.1 then (rdOf T b q i).2.2.1 else tn k) ((rdOf T b q i).2.2.2 + 1)
    else (fx T (rdOf T b q i).2.2.2 1, q, tn)
def eQ : TQt := (0, fun _ => 0, fun _ => 0)
/-- a question: fault, terms, how often each table, the table of each term -/
def rdQst (T : TPt) (b : TBt) : Nat × TQt × (Nat → Nat) × (Nat → Nat) :=
  if (rdSR T b 5 (fun _ => 0) 0).1 ≠ 0 then ((rdSR T b 5 (fun _ => 0) 0).1, eQ, fun _ => 0, fun _ => 0)
  else ((rdST T b 5 eQ (fun _ => 0) (rdSR T b 5 (fun _ => 0) 0).2.2).1, (rdST T b 5 eQ (fun _ => 0) (rdSR T b 5 (fun _ => 0) 0).2.2).2.1, (rdSR T b 5 (fun _ => 0) 0).2.1, (rdST T b 5 eQ (fun _ => 0) (rdSR T b 5 (fun _ => 0) 0).2.2).2.2)
/-- a shape as the class writes it -/
def shC (cn : Nat → Nat) : Nat := cn 0 + 8 * cn 1 + 64 * cn 2 + 512 * cn 3 + 4096 * cn 4
def shT (tn : Nat → Nat) : Nat → Nat
  | 0 => 0
  | k + 1 => shT tn k + tn k * 2 ^ (15 + 3 * k)
theorem shT_lt {tn : Nat → Nat} (h : ∀ k, tn k < 8) : ∀ n, 32768 * 1 + shT tn n ≤ 2 ^ (15 + 3 * n) * 1 ∧ shT tn n % 32768 = 0
  | 0 => by simp [shT]
  | n + 1 => by
    obtain ⟨a, b⟩ := shT_lt h n
    have e : 2 ^ (15 + 3 * (n + 1)) = 8 * 2 ^ (15 + 3 * n) := by rw [show 15 + 3 * (n + 1) = (15 + 3 * n) + 3 by omega, Nat.pow_add]; omega
    have hk := h n
    have e2 : 2 ^ (15 + 3 * n) = 32768 * 2 ^ (3 * n) := by rw [Nat.pow_add]
    have h7 : tn n * 2 ^ (15 + 3 * n) ≤ 7 * 2 ^ (15 + 3 * n) := Nat.mul_le_mul_right _ (by omega)
    refine ⟨by rw [shT, e]; omega, ?_⟩
    rw [shT, e2, show tn n * (32768 * 2 ^ (3 * n)) = 32768 * (tn n * 2 ^ (3 * n)) by rw [Nat.mul_left_comm], Nat.add_mul_mod_self_left]; exact b
theorem kdT_le (k : Nat × Nat × Nat × Nat) : kdT k ≤ 9 := by
  unfold kdT
  repeat' split
  all_goals omega
theorem rdTerm_lt {T : TPt} {q : TQt} {i : Nat} (hT : T.1 ≤ 1000) : (rdTerm T q i).1 < 20000 := by
  have f : ∀ j w, w ≤ 5 → fx T j w < 20000 := fun j w hw => fx_lt hT hw
  unfold rdTerm
  repeat' split
  all_goals first | exact f _ _ (by decide) | simp
theorem rdTerm_ok {T : TPt} {q : TQt} {i : Nat} (h : (rdTerm T q i).1 = 0) : q.1 < 4 ∧ ∃ k j, k ≤ 3 ∧ (rdTerm T q i).2.1 = addQ q k (vl T j) ∧ (k ≤ 1 → isN (tk T j) = true) ∧ (2 ≤ k → (tk T j).1 = 2) ∧ (rdTerm T q i).2.2 = j + 1 := by
  revert h
  unfold rdTerm
  split
  · intro h; exact absurd h (fx_pos (by decide))
  · rename_i h9
    split
    · intro h; exact absurd h (fx_pos (by decide))
    · rename_i h4
      split
      · rename_i h0
        intro _
        refine ⟨by omega, 0, i, by decide, rfl, fun _ => ?_, fun z => absurd z (by decide), rfl⟩
        revert h0 h9
        unfold kdT
        repeat' split
        all_goals simp_all
      · rename_i h0
        split
        · rename_i h1
          intro _
          have h3 : kdT (tk T i) ≤ 3 := by
            revert h9
            unfold kdT
            repeat' split
            all_goals simp
          refine ⟨by omega, kdT (tk T i), i + 1, h3, rfl, fun z => ?_, fun z => ?_, rfl⟩
          · rw [okTm, if_pos (by omega)] at h1; exact h1
          · rw [okTm, if_neg (by omega)] at h1; simpa using h1
        · intro h; exact absurd h (fx_pos (by decide))
section RDX3
variable {K : KT} {G : St} {h t : Nat} {b : TBt} {q : TQt} {T : TPt} {i : Nat}
def sTq (t : Nat) : Nat → Nat → Prop := fun i k => i = 2 ∨ t ≤ i ∧ i ≤ t + 2
theorem s_X8_add {Q : St → Prop} {k : Nat} {v : Int64} (hL : Lay G.2.2) (ht : t = 59 ∨ t = 62) (hq : XTq G t q) (h4 : q.1 < 4) (hk : k ≤ 3) (hQ : ∀ G', Kq (fun i _ => t ≤ i ∧ i ≤ t + 2) G G' → XTq G' t (addQ q k v) → Q G') : EvV K mX8_add 0 0 [(0, .ref t), (1, .int (nI k)), (2, .long v)] [] G Q := by
  obtain ⟨h1, h2, h3⟩ := hq
  refine kX8_add_0 hL ht ?_
  try simp (disch := omega) only [nLe, nLeR, nLeL, nLt, nLtR, nLtL, nEq, nEqR, nEqL, nClamp, nClampR, nAdd, nAddR, nAddL, nSub, nSubR, nMul, nMulR, nMulL, nDivR, vIn, vInR, iteZ, iteP, lEq, lEqR, forall_eq, forall_const, true_implies, false_implies, not_true_eq_false, not_false_eq_true, true_and, and_true, implies_true, Decidable.not_not, h1, gI]
  try simp only [Nat.left_eq_add, Nat.add_left_cancel_iff, Nat.add_right_cancel_iff, Nat.add_eq_left, Nat.reduceEqDiff, reduceCtorEq, false_and, and_false, true_and, and_true, if_false, if_true, ite_false, ite_true]
  try simp (disch := omega) only [nLe, nLeR, nLeL, nLt, nLtR, nLtL, nEq, nEqR, nEqL, nClamp, nClampR, nAdd, nAddR, nAddL, nSub, nSubR, nMul, nMulR, nMulL, nDivR, vIn, vInR, iteZ, iteP, lEq, lEqR, forall_eq, forall_const, true_implies, false_implies, not_true_eq_false, not_false_eq_true, true_and, and_true, implies_true, Decidable.not_not, h1]
  refine ⟨fun z => by omega, fun _ => ⟨by omega, by omega, ?_⟩⟩
  refine hQ _ (((kq_I (by omega)).sL (by omega)).sI (by omega)) ⟨by (simp [gI, gL, gIL, gLI, addQ] <;> try rfl), by simp [addQ]; omega, fun j hj => ?_⟩
  have hj : j < q.1 + 1 := hj
  by_cases e : j = q.1
  · subst e
    exact ⟨by (simp [gI, gL, gIL, gLI, addQ] <;> try rfl), by simp [addQ]; exact hk, by (simp [gI, gL, gIL, gLI, addQ] <;> try rfl)⟩
  · obtain ⟨a, b, c⟩ := h3 j (by omega)
    exact ⟨by (simp [gI, gL, gIL, gLI, addQ, e, a] <;> try rfl), by simp [addQ, e]; exact b, by (simp [gI, gL, gIL, gLI, addQ, e, c] <;> try rfl)⟩
theorem s_X5_kindOfTerm {Q : Int32 → St → Prop} (hL : Lay G.2.2) (hA : XAt G T i) (hQ : Q (if kdT (tk T i) = 9 then -1 else nI (kdT (tk T i))) G) : EvI K mX5_kindOfTerm 2 0 [(0, .ref 4)] [] G Q := by
  unfold kdT at hQ
  refine kX5_kindOfTerm_0 hL (s_X7_isWord (w := 279252) hL hA (by decide) ?_)
  try simp (disch := omega) only [nLe, nLeR, nLeL, nLt, nLtR, nLtL, nEq, nEqR, nEqL, nClamp, nClampR, nAdd, nAddR, nAddL, nSub, nSubR, nMul, nMulR, nMulL, nDivR, vIn, vInR, iteZ, iteP, lEq, lEqR, forall_eq, forall_const, true_implies, false_implies, not_true_eq_false, not_false_eq_true, true_and, and_true, implies_true, Decidable.not_not]
  refine ⟨fun z1 => s_X7_isWord (w := 311436) hL hA (by decide) ?_, fun z1 => ?_⟩
  · try simp (disch := omega) only [nLe, nLeR, nLeL, nLt, nLtR, nLtL, nEq, nEqR, nEqL, nClamp, nClampR, nAdd, nAddR, nAddL, nSub, nSubR, nMul, nMulR, nMulL, nDivR, vIn, vInR, iteZ, iteP, lEq, lEqR, forall_eq, forall_const, true_implies, false_implies, not_true_eq_false, not_false_eq_true, true_and, and_true, implies_true, Decidable.not_not]
    refine ⟨fun z2 => s_X7_isWord (w := 11438892) hL hA (by decide) ?_, fun z2 => ?_⟩
    · try simp (disch := omega) only [nLe, nLeR, nLeL, nLt, nLtR, nLtL, nEq, nEqR, nEqL, nClamp, nClampR, nAdd, nAddR, nAddL, nSub, nSubR, nMul, nMulR, nMulL, nDivR, vIn, vInR, iteZ, iteP, lEq, lEqR, forall_eq, forall_const, true_implies, false_implies, not_true_eq_false, not_false_eq_true, true_and, and_true, implies_true, Decidable.not_not]
      refine ⟨fun z3 => s_X7_isName hL hA ?_, fun z3 => ?_⟩
      · try simp (disch := omega) only [nLe, nLeR, nLeL, nLt, nLtR, nLtL, nEq, nEqR, nEqL, nClamp, nClampR, nAdd, nAddR, nAddL, nSub, nSubR, nMul, nMulR, nMulL, nDivR, vIn, vInR, iteZ, iteP, lEq, lEqR, forall_eq, forall_const, true_implies, false_implies, not_true_eq_false, not_false_eq_true, true_and, and_true, implies_true, Decidable.not_not]
        refine ⟨fun z4 => ?_, fun z4 => ?_⟩
        · simpa [z1, z2, z3, z4] using hQ
        · simp only [z1, z2, z3, z4, if_true, if_false, Bool.false_eq_true] at hQ; exact hQ
      · simp only [z1, z2, z3, if_true, if_false, Bool.false_eq_true] at hQ; exact hQ
    · simp only [z1, z2, if_true, if_false, Bool.false_eq_true] at hQ; exact hQ
  · simp only [z1, if_true] at hQ; exact hQ
theorem s_X5_readTerm {Q : Int32 → St → Prop} (hL : Lay G.2.2) (ht : t = 59 ∨ t = 62) (hq : XTq G t q) (hA : XAt G T i) (hQ : ∀ G', Kq (sTq t) G G' → XAt G' T (rdTerm T q i).2.2 → XTq G' t (rdTerm T q i).2.1 → Q (nI (rdTerm T q i).1) G') : EvI K mX5_readTerm 3 0 [(0, .ref 4), (1, .ref t)] [] G Q := by
  have hq4 := hq.2.1
  have hk9 := kdT_le (tk T i)
  refine kX5_readTerm_0 hL ht (s_X5_kindOfTerm hL hA ?_)
  unfold rdTerm at hQ
  have fin : ∀ (G1 : St) (j k : Nat), Lay G1.2.2 → Kq (sTq t) G G1 → XTq G1 t q → XAt G1 T j → q.1 < 4 → k ≤ 3 → (tk T j).1 ≠ 4 → (∀ G', Kq (sTq t) G G' → XAt G' T (j + 1) → XTq G' t (addQ q k (vl T j)) → Q (nI 0) G') → EvI K mX5_readTerm 3 83 [(0, .ref 4), (1, .ref t), (2, .int (nI k))] [] G1 Q := by
    intro G1 j k hL1 k1 q1 a1 h4 hk h5 hQ1
    refine kX5_readTerm_83 hL1 ht ?_
    rw [a1.v h5]
    refine s_X8_add hL1 ht q1 h4 hk (fun G2 k2 q2 => ?_)
    refine s_X7_next (k2.lay hL1) (a1.kq k2 (fun i k z => by omega)) (fun G3 k3 a3 => hQ1 G3 ((k1.tr (k2.mono (fun i k z => Or.inr z))).tr (k3.toq.mono (fun i k z => Or.inl z))) a3 (q2.kq k3.toq (fun i k z => by omega)))
  by_cases h9 : kdT (tk T i) = 9
  · rw [if_pos h9] at hQ ⊢
    exact ⟨fun z => absurd rfl z, fun _ => s_X5_faultHere hL hA (hQ G Kq.rf hA hq)⟩
  rw [if_neg h9] at hQ ⊢
  have h3 : kdT (tk T i) ≤ 3 := by
    revert h9
    unfold kdT
    repeat' split
    all_goals simp
  refine ⟨fun _ => ?_, fun z => absurd z (nI_m1 (by omega))⟩
  try simp (disch := omega) only [nLe, nLeR, nLeL, nLt, nLtR, nLtL, nEq, nEqR, nEqL, nClamp, nClampR, nAdd, nAddR, nAddL, nSub, nSubR, nMul, nMulR, nMulL, nDivR, vIn, vInR, iteZ, iteP, lEq, lEqR, forall_eq, forall_const, true_implies, false_implies, not_true_eq_false, not_false_eq_true, true_and, and_true, implies_true, Decidable.not_not, hq.1]
  refine ⟨fun h4 => ?_, fun h4 => ?_⟩
  case refine_2 =>
    rw [if_pos (by omega)] at hQ
    exact s_X5_faultHere hL hA (hQ G Kq.rf hA hq)
  rw [if_neg (by omega)] at hQ
  refine ⟨fun h0 => ?_, fun h0 => s_X7_next hL hA (fun G1 k1 a1 => ?_)⟩
  · rw [if_pos h0] at hQ
    have hn : isN (tk T i) = true := by
      revert h0 h9
      unfold kdT
      repeat' split
      all_goals simp_all
    rw [h0]
    exact fin G i 0 hL Kq.rf hq hA h4 (by decide) (by rw [tk_1 hn]; decide) hQ
  · rw [if_neg h0] at hQ
    have hL1 := k1.1.lay hL
    have q1 : Kq (sTq t) G G1 := k1.toq.mono (fun i k z => Or.inl z)
    have hq1 := hq.kq k1.toq (fun i k z => by omega)
    have h4t := tk_4 (T := T) (i + 1)
    have j : ∀ c : Prop, [Decidable c] → (okTm T i = true ↔ c) → EvI K mX5_readTerm 3 72 [(0, .ref 4), (1, .ref t), (2, .int (nI (kdT (tk T i))))] [.int (if c then 1 else 0)] G1 Q := by
      intro c hdc hc
      refine kX5_readTerm_72 hL1 ht ?_
      try simp (disch := omega) only [nLe, nLeR, nLeL, nLt, nLtR, nLtL, nEq, nEqR, nEqL, nClamp, nClampR, nAdd, nAddR, nAddL, nSub, nSubR, nMul, nMulR, nMulL, nDivR, vIn, vInR, iteZ, iteP, lEq, lEqR, forall_eq, forall_const, true_implies, false_implies, not_true_eq_false, not_false_eq_true, true_and, and_true, implies_true, Decidable.not_not]
      refine ⟨fun z => ?_, fun z => ?_⟩
      · rw [if_pos (hc.mpr z)] at hQ
        have h5 : (tk T (i + 1)).1 ≠ 4 := by
          have := hc.mpr z
          by_cases e : kdT (tk T i) = 1
          · rw [okTm, if_pos e] at this; rw [tk_1 this]; decide
          · rw [okTm, if_neg e] at this; simp at this; omega
        exact fin G1 (i + 1) _ hL1 q1 hq1 a1 h4 h3 h5 hQ
      · rw [if_neg (fun y => z (hc.mp y))] at hQ
        exact s_X5_faultHere hL1 a1 (hQ G1 q1 a1 hq1)
    try simp (disch := omega) only [nLe, nLeR, nLeL, nLt, nLtR, nLtL, nEq, nEqR, nEqL, nClamp, nClampR, nAdd, nAddR, nAddL, nSub, nSubR, nMul, nMulR, nMulL, nDivR, vIn, vInR, iteZ, iteP, lEq, lEqR, forall_eq, forall_const, true_implies, false_implies, not_true_eq_false, not_false_eq_true, true_and, and_true, implies_true, Decidable.not_not, a1.2.1]
    refine ⟨fun h1 => ⟨fun z => ?_, fun z => ?_⟩, fun h1 => s_X7_isName hL1 a1 ?_⟩
    · have := j False (by rw [okTm, if_neg h1]; simp [z])
      simpa using this
    · have := j True (by rw [okTm, if_neg h1]; simp [z])
      simpa using this
    · exact j _ (by rw [okTm, if_pos h1])
theorem s_X5_readAsk {Q : Int32 → St → Prop} (hL : Lay G.2.2) (ht : t = 59 ∨ t = 62) (hT : XTp G T) (hQ : ∀ G', Kq (sTq t) G G' → XTp G' T → XTq G' t (rdAsk T 5 eQ 0).2.1 → Q (nI (rdAsk T 5 eQ 0).1) G') : EvI K mX5_readAsk 4 0 [(0, .ref 4), (1, .ref t)] [] G Q := by
  have t1000 := hT.2.1
  refine kX5_readAsk_0 hL ht (kX8_clear_0 hL ht ?_)
  have k0 : Kq (fun i _ => t ≤ i ∧ i ≤ t + 2) G (uI G t 2 0) := kq_I (by omega)
  have q0 : XTq (uI G t 2 0) t eQ := ⟨by (simp [gI, gL, gIL, gLI, eQ] <;> try rfl), by decide, fun k hk => absurd hk (Nat.not_lt_zero k)⟩
  refine s_X7_rewind hL (hT.kq k0 (fun i k z => by omega)) (fun G1 k1 a1 => ?_)
  have hL1 := k1.1.lay hL
  have q1 := q0.kq k1.toq (fun i k z => by omega)
  have kk1 : Kq (sTq t) G G1 := (k0.mono (fun i k z => Or.inr z)).tr (k1.toq.mono (fun i k z => Or.inl z))
  have key : ∀ (m : Nat) (q : TQt) (j : Nat) (r : Nat × TQt × Nat) (G2 : St), m ≤ 4 → r = rdTerm T q j → Lay G2.2.2 → Kq (sTq t) G G2 → XTq G2 t r.2.1 → q.1 + m = 4 → XAt G2 T r.2.2 → (∀ G', Kq (sTq t) G G' → XTp G' T → XTq G' t (rdAsk T (m + 1) q j).2.1 → Q (nI (rdAsk T (m + 1) q j).1) G') → EvI K mX5_readAsk 4 19 [(0, .ref 4), (1, .ref t), (2, .int (nI r.1)), (3, .int (nI (4 - m)))] [] G2 Q := by
    intro m
    induction m with
    | zero =>
      intro q j r G2 hm hr hL2 hk q2 hc a2 hQ2
      rw [rdAsk, ← hr] at hQ2
      refine kX5_readAsk_19 hL2 ht ?_
      try simp (disch := omega) only [nLe, nLeR, nLeL, nLt, nLtR, nLtL, nEq, nEqR, nEqL, nClamp, nClampR, nAdd, nAddR, nAddL, nSub, nSubR, nMul, nMulR, nMulL, nDivR, vIn, vInR, iteZ, iteP, lEq, lEqR, forall_eq, forall_const, true_implies, false_implies, not_true_eq_false, not_false_eq_true, true_and, and_true, implies_true, Decidable.not_not]
      refine ⟨fun _ => ?_, fun z => by omega⟩
      by_cases hz : r.1 = 0
      · rw [hr] at hz
        have := (rdTerm_ok hz).1
        omega
      · rw [if_pos hz] at hQ2
        exact hQ2 G2 hk a2.1 q2
    | succ m ih =>
      intro q j r G2 hm hr hL2 hk q2 hc a2 hQ2
      have hlt : r.1 < 20000 := by rw [hr]; exact rdTerm_lt t1000
      have h4 := tk_4 (T := T) r.2.2
      rw [rdAsk, ← hr] at hQ2
      refine kX5_readAsk_19 hL2 ht ?_
      try simp (disch := omega) only [nLe, nLeR, nLeL, nLt, nLtR, nLtL, nEq, nEqR, nEqL, nClamp, nClampR, nAdd, nAddR, nAddL, nSub, nSubR, nMul, nMulR, nMulL, nDivR, vIn, vInR, iteZ, iteP, lEq, lEqR, forall_eq, forall_const, true_implies, false_implies, not_true_eq_false, not_false_eq_true, true_and, and_true, implies_true, Decidable.not_not, a2.2.1]
      refine ⟨fun z => by omega, fun _ => ⟨fun z => ?_, fun z => ⟨fun z2 => ?_, fun z2 => ?_⟩⟩⟩
      · rw [if_pos z] at hQ2
        exact hQ2 G2 hk a2.1 q2
      · rw [if_neg (by simp [z]), if_pos z2] at hQ2
        exact hQ2 G2 hk a2.1 q2
      · rw [if_neg (by simp [z]), if_neg z2] at hQ2
        refine s_X5_readTerm hL2 ht q2 a2 (fun G3 k3 a3 q3 => ?_)
        rw [show 4 - (m + 1) + 1 = 4 - m by omega]
        refine ih r.2.1 r.2.2 _ G3 (by omega) rfl (k3.lay hL2) (hk.tr k3) q3 ?_ a3 hQ2
        rw [hr] at z ⊢
        obtain ⟨-, k, j', -, e, -⟩ := rdTerm_ok z
        rw [e]
        show q.1 + 1 + m = 4
        omega
  refine s_X5_readTerm hL1 ht q1 a1 (fun G2 k2 a2 q2 => ?_)
  exact key 4 eQ 0 _ G2 (Nat.le_refl _) rfl (k2.lay hL1) (kk1.tr k2) q2 rfl a2 hQ
end RDX3

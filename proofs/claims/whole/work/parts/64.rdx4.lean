section RDX4
variable {K : KT} {G : St} {h t : Nat} {b : TBt} {q : TQt} {T : TPt} {i : Nat}
def sSh : Nat → Nat → Prop := fun i k => i = 2 ∨ i = 4 ∧ k = 1
theorem shC_add {cn : Nat → Nat} {t : Nat} (ht : t < 5) : shC (fun u => if u = t then cn u + 1 else cn u) = shC cn + 2 ^ (3 * t) := by
  rcases (show t = 0 ∨ t = 1 ∨ t = 2 ∨ t = 3 ∨ t = 4 by omega) with rfl | rfl | rfl | rfl | rfl <;> simp [shC] <;> omega
theorem shC_lt {cn : Nat → Nat} (h : ∀ t, cn t ≤ 5) : shC cn < 32768 := by
  have := h 0
  have := h 1
  have := h 2
  have := h 3
  have := h 4
  unfold shC; omega
theorem s_X4_withRow {Q : Int32 → St → Prop} {s t : Nat} (hL : Lay G.2.2) (ht : t < 5) (hQ : Q (nI (s + 2 ^ (3 * t))) G) : EvI K mX4_withRow 0 0 [(0, .int (nI s)), (1, .int (nI t))] [] G Q := by
  refine kX4_withRow_0 hL ?_
  try simp (disch := omega) only [nLe, nLeR, nLeL, nLt, nLtR, nLtL, nEq, nEqR, nEqL, nClamp, nClampR, nAdd, nAddR, nAddL, nSub, nSubR, nMul, nMulR, nMulL, nDivR, vIn, vInR, iteZ, iteP, lEq, lEqR, forall_eq, forall_const, true_implies, false_implies, not_true_eq_false, not_false_eq_true, true_and, and_true, implies_true, Decidable.not_not]
  rw [shl_one (by omega)]
  try simp (disch := omega) only [nLe, nLeR, nLeL, nLt, nLtR, nLtL, nEq, nEqR, nEqL, nClamp, nClampR, nAdd, nAddR, nAddL, nSub, nSubR, nMul, nMulR, nMulL, nDivR, vIn, vInR, iteZ, iteP, lEq, lEqR, forall_eq, forall_const, true_implies, false_implies, not_true_eq_false, not_false_eq_true, true_and, and_true, implies_true, Decidable.not_not]
  exact hQ
theorem s_X4_withTerm {Q : Int32 → St → Prop} {s t k : Nat} (hL : Lay G.2.2) (ht : t < 5) (hk : k < 4) (hs : s < 2 ^ (15 + 3 * k)) (hQ : Q (nI (s + t * 2 ^ (15 + 3 * k))) G) : EvI K mX4_withTerm 0 0 [(0, .int (nI s)), (1, .int (nI k)), (2, .int (nI t))] [] G Q := by
  refine kX4_withTerm_0 hL ?_
  try simp (disch := omega) only [nLe, nLeR, nLeL, nLt, nLtR, nLtL, nEq, nEqR, nEqL, nClamp, nClampR, nAdd, nAddR, nAddL, nSub, nSubR, nMul, nMulR, nMulL, nDivR, vIn, vInR, iteZ, iteP, lEq, lEqR, forall_eq, forall_const, true_implies, false_implies, not_true_eq_false, not_false_eq_true, true_and, and_true, implies_true, Decidable.not_not]
  have h1 : t * 2 ^ (15 + 3 * k) < 2 ^ 32 := by
    have : 2 ^ (15 + 3 * k) ≤ 2 ^ 24 := Nat.pow_le_pow_right (by decide) (by omega)
    have h2 : t * 2 ^ (15 + 3 * k) ≤ 4 * 2 ^ 24 := Nat.mul_le_mul (by omega) this
    omega
  rw [pk_shlN (nI (15 + 3 * k) &&& 31) (15 + 3 * k) (s_l _ (by omega)) h1, Int32.or_comm, Nat.mul_comm, fa_or_sum t hs, Nat.add_comm, Nat.mul_comm]
  exact hQ
theorem s_X5_readShapeRows {Q : Int32 → St → Prop} (hL : Lay G.2.2) (hh : h = 39 ∨ h = 49) (hb : XTb G h b) (hA : XAt G T i) (hs : sI G 4 1 = 0) (hQ : ∀ G', Kq sSh G G' → XTp G' T → ((rdSR T b 5 (fun _ => 0) i).1 = 0 → XAt G' T (rdSR T b 5 (fun _ => 0) i).2.2 ∧ sI G' 4 1 = nI (shC (rdSR T b 5 (fun _ => 0) i).2.1) ∧ ∀ t, (rdSR T b 5 (fun _ => 0) i).2.1 t ≤ 5) → Q (nI (rdSR T b 5 (fun _ => 0) i).1) G') : EvI K mX5_readShapeRows 4 0 [(0, .ref 4), (1, .ref h)] [] G Q := by
  have t1000 := hA.1.2.1
  have hb5 := hb.2.1
  refine kX5_readShapeRows_0 hL hh ?_
  have key : ∀ (m : Nat) (cn : Nat → Nat) (j : Nat) (G1 : St), m ≤ 5 → Lay G1.2.2 → Kq sSh G G1 → XAt G1 T j → sI G1 4 1 = nI (shC cn) → (∀ t, cn t ≤ 5 - m) → (∀ G', Kq sSh G G' → XTp G' T → ((rdSR T b m cn j).1 = 0 → XAt G' T (rdSR T b m cn j).2.2 ∧ sI G' 4 1 = nI (shC (rdSR T b m cn j).2.1) ∧ ∀ t, (rdSR T b m cn j).2.1 t ≤ 5) → Q (nI (rdSR T b m cn j).1) G') → EvI K mX5_readShapeRows 4 2 [(0, .ref 4), (1, .ref h), (2, .int (nI (5 - m)))] [] G1 Q := by
    intro m
    induction m with
    | zero =>
      intro cn j G1 hm hL1 hk a1 s1 hc hQ1
      have b1 : XTb G1 h b := hb.kq hk (fun i k z => by unfold sSh at z; omega)
      have n1 := rdName_lt (b := b) (i := j) t1000
      rw [rdSR] at hQ1
      refine kX5_readShapeRows_2 hL1 hh ?_
      try simp (disch := omega) only [nLe, nLeR, nLeL, nLt, nLtR, nLtL, nEq, nEqR, nEqL, nClamp, nClampR, nAdd, nAddR, nAddL, nSub, nSubR, nMul, nMulR, nMulL, nDivR, vIn, vInR, iteZ, iteP, lEq, lEqR, forall_eq, forall_const, true_implies, false_implies, not_true_eq_false, not_false_eq_true, true_and, and_true, implies_true, Decidable.not_not]
      refine ⟨fun z => by omega, fun _ => s_X5_faultOfTableName hL1 hh b1 a1 ?_⟩
      try simp (disch := omega) only [nLe, nLeR, nLeL, nLt, nLtR, nLtL, nEq, nEqR, nEqL, nClamp, nClampR, nAdd, nAddR, nAddL, nSub, nSubR, nMul, nMulR, nMulL, nDivR, vIn, vInR, iteZ, iteP, lEq, lEqR, forall_eq, forall_const, true_implies, false_implies, not_true_eq_false, not_false_eq_true, true_and, and_true, implies_true, Decidable.not_not]
      refine ⟨fun z => ⟨fun z2 => by omega, fun _ => ?_⟩, fun z => ?_⟩
      · rw [if_neg (by simp [z])] at hQ1
        exact s_X5_faultHere hL1 a1 (hQ1 G1 hk a1.1 (fun y => absurd y (fx_pos (by decide))))
      · rw [if_pos z] at hQ1
        exact hQ1 G1 hk a1.1 (fun y => absurd y z)
    | succ m ih =>
      intro cn j G1 hm hL1 hk a1 s1 hc hQ1
      have b1 : XTb G1 h b := hb.kq hk (fun i k z => by unfold sSh at z; omega)
      have n1 := rdName_lt (b := b) (i := j) t1000
      rw [rdSR] at hQ1
      refine kX5_readShapeRows_2 hL1 hh ?_
      try simp (disch := omega) only [nLe, nLeR, nLeL, nLt, nLtR, nLtL, nEq, nEqR, nEqL, nClamp, nClampR, nAdd, nAddR, nAddL, nSub, nSubR, nMul, nMulR, nMulL, nDivR, vIn, vInR, iteZ, iteP, lEq, lEqR, forall_eq, forall_const, true_implies, false_implies, not_true_eq_false, not_false_eq_true, true_and, and_true, implies_true, Decidable.not_not]
      refine ⟨fun z => by omega, fun _ => s_X5_faultOfTableName hL1 hh b1 a1 ?_⟩
      try simp (disch := omega) only [nLe, nLeR, nLeL, nLt, nLtR, nLtL, nEq, nEqR, nEqL, nClamp, nClampR, nAdd, nAddR, nAddL, nSub, nSubR, nMul, nMulR, nMulL, nDivR, vIn, vInR, iteZ, iteP, lEq, lEqR, forall_eq, forall_const, true_implies, false_implies, not_true_eq_false, not_false_eq_true, true_and, and_true, implies_true, Decidable.not_not]
      refine ⟨fun z => ⟨fun _ => ?_, fun z2 => by omega⟩, fun z => ?_⟩
      · obtain ⟨hn, hf⟩ := rdName_0 z
        rw [if_neg (by simp [z])] at hQ1
        rw [a1.v (by rw [tk_1 hn]; decide), s1]
        refine s_X1_tableNamed hL1 hh b1 ?_
        rw [fI_fT hb5, if_pos hf]
        refine s_X4_withRow hL1 (by omega) ?_
        rw [← shC_add (by omega)]
        generalize hcn : (fun u => if u = fT b (vl T j) then cn u + 1 else cn u) = cn' at *
        have k2 : Kq (fun i k => i = 4 ∧ k = 1) G1 (uI G1 4 1 (nI (shC cn'))) := kq_I ⟨rfl, rfl⟩
        refine s_X7_next hL1 (a1.kq k2 (fun i k z => by omega)) (fun G2 k3 a2 => ?_)
        have hL2 := k3.1.lay hL1
        have kk2 : Kq sSh G G2 := (hk.tr (k2.mono (fun i k z => Or.inr z))).tr (k3.toq.mono (fun i k z => Or.inl z))
        have s2 : sI G2 4 1 = nI (shC cn') := by rw [k3.toq.I (by omega)]; (simp [gI, gL, gIL, gLI] <;> try rfl)
        have hc2 : ∀ t, cn' t ≤ 5 - m := by
          intro t
          rw [← hcn]
          have := hc t
          simp only []
          split <;> omega
        refine s_X7_isSign (c := 44) hL2 a2 (by decide) ?_
        try simp (disch := omega) only [nLe, nLeR, nLeL, nLt, nLtR, nLtL, nEq, nEqR, nEqL, nClamp, nClampR, nAdd, nAddR, nAddL, nSub, nSubR, nMul, nMulR, nMulL, nDivR, vIn, vInR, iteZ, iteP, lEq, lEqR, forall_eq, forall_const, true_implies, false_implies, not_true_eq_false, not_false_eq_true, true_and, and_true, implies_true, Decidable.not_not]
        refine ⟨fun z3 => s_X7_next hL2 a2 (fun G3 k4 a3 => ?_), fun z3 => ?_⟩
        · rw [if_pos z3] at hQ1
          rw [show 5 - (m + 1) + 1 = 5 - m by omega]
          refine ih cn' (j + 2) G3 (by omega) (k4.1.lay hL2) (kk2.tr (k4.toq.mono (fun i k z => Or.inl z))) a3 ?_ hc2 hQ1
          rw [k4.toq.I (by omega)]; exact s2
        · rw [if_neg z3] at hQ1
          refine kX5_readShapeRows_87 hL2 (s_X5_passSign (c := 58) hL2 a2 (by decide) (fun G3 k4 a3 => ?_))
          have kk3 := kk2.tr (k4.toq.mono (S' := sSh) (fun i k z => Or.inl z))
          by_cases hs : isS (tk T (j + 1)) 58 = true
          · rw [if_pos hs] at hQ1 a3 ⊢
            exact hQ1 G3 kk3 a3.1 (fun _ => ⟨a3, by rw [k4.toq.I (by omega)]; exact s2, fun t => by have := hc2 t; show cn' t ≤ 5; omega⟩)
          · rw [if_neg hs] at hQ1 a3 ⊢
            exact hQ1 G3 kk3 a3.1 (fun y => absurd y (fx_pos (by decide)))
      · rw [if_pos z] at hQ1
        exact hQ1 G1 hk a1.1 (fun y => absurd y z)
  exact key 5 (fun _ => 0) i G (Nat.le_refl _) hL Kq.rf hA (by rw [hs]; rfl) (fun _ => by omega) hQ
theorem rdOf_lt {T : TPt} {b : TBt} {q : TQt} {i : Nat} (hT : T.1 ≤ 1000) : (rdOf T b q i).1 < 20000 := by
  unfold rdOf
  repeat' split
  all_goals first | exact fx_lt hT (by decide) | exact rdTerm_lt hT | exact rdName_lt hT | simp
theorem rdOf_ok {T : TPt} {b : TBt} {q : TQt} {i : Nat} (h : (rdOf T b q i).1 = 0) : (rdTerm T q i).1 = 0 ∧ isW (tk T (rdTerm T q i).2.2) 411 = true ∧ rdName T b ((rdTerm T q i).2.2 + 1) = 0 ∧ (rdOf T b q i).2 = ((rdTerm T q i).2.1, fT b (vl T ((rdTerm T q i).2.2 + 1)), (rdTerm T q i).2.2 + 2) := by
  revert h
  unfold rdOf
  split
  · rename_i z; intro h; exact absurd h z
  · rename_i z
    split
    · intro h; exact absurd h (fx_pos (by decide))
    · rename_i z1
      split
      · rename_i z2; intro h; exact absurd h z2
      · rename_i z2
        intro _
        exact ⟨by simpa using z, by simpa using z1, by simpa using z2, rfl⟩
def sSt (t : Nat) : Nat → Nat → Prop := fun i k => i = 2 ∨ i = 4 ∧ k = 1 ∨ t ≤ i ∧ i ≤ t + 2
theorem s_X5_readShapeTerms {Q : Int32 → St → Prop} {cn : Nat → Nat} (hL : Lay G.2.2) (hh : h = 39 ∨ h = 49) (ht : t = 59 ∨ t = 62) (hb : XTb G h b) (hq : XTq G t eQ) (hA : XAt G T i) (hcn : ∀ t, cn t ≤ 5) (hs : sI G 4 1 = nI (shC cn)) (hQ : ∀ G', Kq (sSt t) G G' → XTp G' T → ((rdST T b 5 eQ (fun _ => 0) i).1 = 0 → XTq G' t (rdST T b 5 eQ (fun _ => 0) i).2.1 ∧ (∀ k, (rdST T b 5 eQ (fun _ => 0) i).2.2 k < 5) ∧ sI G' 4 1 = nI (shC cn + shT (rdST T b 5 eQ (fun _ => 0) i).2.2 (rdST T b 5 eQ (fun _ => 0) i).2.1.1)) → Q (nI (rdST T b 5 eQ (fun _ => 0) i).1) G') : EvI K mX5_readShapeTerms 4 0 [(0, .ref 4), (1, .ref h), (2, .ref t)] [] G Q := by
  have t1000 := hA.1.2.1
  have hb5 := hb.2.1
  have hC := shC_lt hcn
  refine kX5_readShapeTerms_0 hL hh ht ?_
  have key : ∀ (m : Nat) (q : TQt) (tn : Nat → Nat) (j : Nat) (G1 : St), m ≤ 5 → Lay G1.2.2 → Kq (sSt t) G G1 → XTq G1 t q → q.1 + m = 5 → XAt G1 T j → (∀ k, tn k < 5) → sI G1 4 1 = nI (shC cn + shT tn q.1) → (∀ G', Kq (sSt t) G G' → XTp G' T → ((rdST T b m q tn j).1 = 0 → XTq G' t (rdST T b m q tn j).2.1 ∧ (∀ k, (rdST T b m q tn j).2.2 k < 5) ∧ sI G' 4 1 = nI (shC cn + shT (rdST T b m q tn j).2.2 (rdST T b m q tn j).2.1.1)) → Q (nI (rdST T b m q tn j).1) G') → EvI K mX5_readShapeTerms 4 2 [(0, .ref 4), (1, .ref h), (2, .ref t), (3, .int (nI q.1))] [] G1 Q := by
    intro m
    induction m with
    | zero =>
      intro q tn j G1 hm hL1 hk q1 hc a1 htn s1 hQ1
      have := q1.2.1
      omega
    | succ m ih =>
      intro q tn j G1 hm hL1 hk q1 hc a1 htn s1 hQ1
      have q4 := q1.2.1
      rw [rdST] at hQ1
      have fault : ∀ (G2 : St) (f : Nat), Lay G2.2.2 → f ≠ 0 → f < 20000 → (Q (nI f) G2) → EvI K mX5_readShapeTerms 4 27 [(0, .ref 4), (1, .ref h), (2, .ref t), (3, .int (nI q.1)), (4, .int (nI f))] [] G2 Q := by
        intro G2 f hL2 hf hf2 hQ2
        refine kX5_readShapeTerms_27 hL2 hh ht ?_
        try simp (disch := omega) only [nLe, nLeR, nLeL, nLt, nLtR, nLtL, nEq, nEqR, nEqL, nClamp, nClampR, nAdd, nAddR, nAddL, nSub, nSubR, nMul, nMulR, nMulL, nDivR, vIn, vInR, iteZ, iteP, lEq, lEqR, forall_eq, forall_const, true_implies, false_implies, not_true_eq_false, not_false_eq_true, true_and, and_true, implies_true, Decidable.not_not]
        exact ⟨fun _ => hQ2, fun z => absurd z hf⟩
      refine kX5_readShapeTerms_2 hL1 hh ht ?_
      try simp (disch := omega) only [nLe, nLeR, nLeL, nLt, nLtR, nLtL, nEq, nEqR, nEqL, nClamp, nClampR, nAdd, nAddR, nAddL, nSub, nSubR, nMul, nMulR, nMulL, nDivR, vIn, vInR, iteZ, iteP, lEq, lEqR, forall_eq, forall_const, true_implies, false_implies, not_true_eq_false, not_false_eq_true, true_and, and_true, implies_true, Decidable.not_not]
      refine ⟨fun z => by omega, fun _ => s_X5_readTerm hL1 ht q1 a1 (fun G2 k2 a2 q2 => ?_)⟩
      have hL2 := k2.lay hL1
      have hlt := rdTerm_lt (q := q) (i := j) t1000
      have kk2 : Kq (sSt t) G G2 := hk.tr (k2.mono (fun i k z => by unfold sTq at z; unfold sSt; omega))
      try simp (disch := omega) only [nLe, nLeR, nLeL, nLt, nLtR, nLtL, nEq, nEqR, nEqL, nClamp, nClampR, nAdd, nAddR, nAddL, nSub, nSubR, nMul, nMulR, nMulL, nDivR, vIn, vInR, iteZ, iteP, lEq, lEqR, forall_eq, forall_const, true_implies, false_implies, not_true_eq_false, not_false_eq_true, true_and, and_true, implies_true, Decidable.not_not]
      refine ⟨fun z => ?_, fun z => ?_⟩
      · have e : rdOf T b q j = ((rdTerm T q j).1, q, 0, j) := by simp [rdOf, z]
        rw [e, if_pos z] at hQ1
        exact fault G2 _ hL2 z hlt (hQ1 G2 kk2 a2.1 (fun y => absurd y z))
      · -- its table
        have b2 : XTb G2 h b := hb.kq kk2 (fun i k z => by unfold sSt at z; omega)
        have s2 : sI G2 4 1 = nI (shC cn + shT tn q.1) := by rw [k2.I (by unfold sTq; omega)]; exact s1
        refine kX5_readTableOfTerm_0 hL2 hh (s_X7_isWord (w := 411) hL2 a2 (by decide) ?_)
        try simp (disch := omega) only [nLe, nLeR, nLeL, nLt, nLtR, nLtL, nEq, nEqR, nEqL, nClamp, nClampR, nAdd, nAddR, nAddL, nSub, nSubR, nMul, nMulR, nMulL, nDivR, vIn, vInR, iteZ, iteP, lEq, lEqR, forall_eq, forall_const, true_implies, false_implies, not_true_eq_false, not_false_eq_true, true_and, and_true, implies_true, Decidable.not_not]
        refine ⟨fun zw => s_X7_next hL2 a2 (fun G3 k3 a3 => ?_), fun zw => ?_⟩
        case refine_2 =>
          have e : rdOf T b q j = (fx T (rdTerm T q j).2.2 1, q, 0, j) := by simp [rdOf, z, zw]
          have e0 : fx T (rdTerm T q j).2.2 1 ≠ 0 := fx_pos (by decide)
          rw [e, if_pos e0] at hQ1
          exact s_X5_faultHere hL2 a2 (fault G2 _ hL2 e0 (fx_lt t1000 (by decide)) (hQ1 G2 kk2 a2.1 (fun y => absurd y e0)))
        have hL3 := k3.1.lay hL2
        have kk3 : Kq (sSt t) G G3 := kk2.tr (k3.toq.mono (fun i k z => Or.inl z))
        have b3 := b2.kq k3.toq (fun i k z => by omega)
        have n3 := rdName_lt (b := b) (i := (rdTerm T q j).2.2 + 1) t1000
        refine s_X5_faultOfTableName hL3 hh b3 a3 ?_
        try simp (disch := omega) only [nLe, nLeR, nLeL, nLt, nLtR, nLtL, nEq, nEqR, nEqL, nClamp, nClampR, nAdd, nAddR, nAddL, nSub, nSubR, nMul, nMulR, nMulL, nDivR, vIn, vInR, iteZ, iteP, lEq, lEqR, forall_eq, forall_const, true_implies, false_implies, not_true_eq_false, not_false_eq_true, true_and, and_true, implies_true, Decidable.not_not]
        refine ⟨fun z5 => ?_, fun z5 => ?_⟩
        · have e : rdOf T b q j = (rdName T b ((rdTerm T q j).2.2 + 1), q, 0, j) := by simp [rdOf, z, zw, z5]
          rw [e, if_pos z5] at hQ1
          exact fault G3 _ hL3 z5 n3 (hQ1 G3 kk3 a3.1 (fun y => absurd y z5))
        · obtain ⟨hn, hf⟩ := rdName_0 z5
          have e : rdOf T b q j = (0, (rdTerm T q j).2.1, fT b (vl T ((rdTerm T q j).2.2 + 1)), (rdTerm T q j).2.2 + 2) := by simp [rdOf, z, zw, z5]
          obtain ⟨hq4, kd, jj, -, eq, -⟩ := rdTerm_ok z
          rw [e, if_neg (by simp)] at hQ1
          have s3 : sI G3 4 1 = nI (shC cn + shT tn q.1) := by rw [k3.toq.I (by omega)]; exact s2
          have hq3 := q2.kq k3.toq (fun i k z => by omega)
          rw [z5, a3.v (by rw [tk_1 hn]; decide), s3]
          refine s_X1_tableNamed hL3 hh b3 ?_
          rw [fI_fT hb5, if_pos hf]
          have hsT := (shT_lt (fun k => Nat.lt_trans (htn k) (by decide : 5 < 8)) q.1).1
          refine s_X4_withTerm hL3 (by omega) hq4 (by omega) ?_
          generalize htt : fT b (vl T ((rdTerm T q j).2.2 + 1)) = tt at *
          have k4 : Kq (fun i k => i = 4 ∧ k = 1) G3 (uI G3 4 1 (nI (shC cn + shT tn q.1 + tt * 2 ^ (15 + 3 * q.1)))) := kq_I ⟨rfl, rfl⟩
          refine s_X7_next hL3 (a3.kq k4 (fun i k z => by omega)) (fun G4 k5 a4 => ?_)
          have hL4 := k5.1.lay hL3
          have kk4 : Kq (sSt t) G G4 := (kk3.tr (k4.mono (fun i k z => Or.inr (Or.inl z)))).tr (k5.toq.mono (fun i k z => Or.inl z))
          have hq4' : XTq G4 t (rdTerm T q j).2.1 := (hq3.kq k4 (fun i k z => by omega)).kq k5.toq (fun i k z => by omega)
          have en : (rdTerm T q j).2.1.1 = q.1 + 1 := by rw [eq]; rfl
          have hsh : ∀ n, n ≤ q.1 → shT (fun k => if k = q.1 then tt else tn k) n = shT tn n := by
            intro n
            induction n with
            | zero => intro _; rfl
            | succ n ihn => intro hn; rw [shT, shT, ihn (by omega), if_neg (by omega)]
          have s4 : sI G4 4 1 = nI (shC cn + shT (fun k => if k = q.1 then tt else tn k) (q.1 + 1)) := by
            rw [k5.toq.I (by omega), shT, hsh _ (Nat.le_refl _), if_pos rfl, ← Nat.add_assoc]
            (simp [gI, gL, gIL, gLI] <;> try rfl)
          have htn2 : ∀ k, (fun k => if k = q.1 then tt else tn k) k < 5 := by
            intro k
            simp only []
            split
            · omega
            · exact htn k
          refine kX5_readShapeTerms_27 hL4 hh ht ?_
          have h4 := tk_4 (T := T) ((rdTerm T q j).2.2 + 1 + 1)
          try simp (disch := omega) only [nLe, nLeR, nLeL, nLt, nLtR, nLtL, nEq, nEqR, nEqL, nClamp, nClampR, nAdd, nAddR, nAddL, nSub, nSubR, nMul, nMulR, nMulL, nDivR, vIn, vInR, iteZ, iteP, lEq, lEqR, forall_eq, forall_const, true_implies, false_implies, not_true_eq_false, not_false_eq_true, true_and, and_true, implies_true, Decidable.not_not, a4.2.1]
          refine ⟨fun z6 => s_X7_isSign (c := 44) hL4 a4 (by decide) ?_, fun z6 => ?_⟩
          · rw [if_neg z6] at hQ1
            try simp (disch := omega) only [nLe, nLeR, nLeL, nLt, nLtR, nLtL, nEq, nEqR, nEqL, nClamp, nClampR, nAdd, nAddR, nAddL, nSub, nSubR, nMul, nMulR, nMulL, nDivR, vIn, vInR, iteZ, iteP, lEq, lEqR, forall_eq, forall_const, true_implies, false_implies, not_true_eq_false, not_false_eq_true, true_and, and_true, implies_true, Decidable.not_not]
            refine ⟨fun z7 => s_X7_next hL4 a4 (fun G5 k6 a5 => ?_), fun z7 => kX5_readShapeTerms_73 hL4 ?_⟩
            · rw [if_pos z7] at hQ1
              have := ih (rdTerm T q j).2.1 (fun k => if k = q.1 then tt else tn k) ((rdTerm T q j).2.2 + 2 + 1) G5 (by omega) (k6.1.lay hL4) (kk4.tr (k6.toq.mono (fun i k z => Or.inl z))) (hq4'.kq k6.toq (fun i k z => by omega)) (by omega) a5 htn2 (by rw [k6.toq.I (by omega), s4, en]) hQ1
              rw [en] at this
              exact this
            · rw [if_neg z7] at hQ1
              exact s_X5_faultHere hL4 a4 (hQ1 G4 kk4 a4.1 (fun y => absurd y (fx_pos (by decide))))
          · rw [if_pos z6] at hQ1
            exact hQ1 G4 kk4 a4.1 (fun _ => ⟨hq4', htn2, by rw [s4, en]⟩)
  exact key 5 eQ (fun _ => 0) i G (Nat.le_refl _) hL Kq.rf hq rfl hA (fun _ => by decide) (by rw [hs]; rfl) hQ
theorem s_X5_readQuestion {Q : Int32 → St → Prop} (hL : Lay G.2.2) (hh : h = 39 ∨ h = 49) (ht : t = 59 ∨ t = 62) (hb : XTb G h b) (hT : XTp G T) (hQ : ∀ G', Kq (sSt t) G G' → XTp G' T → ((rdQst T b).1 = 0 → XTq G' t (rdQst T b).2.1 ∧ (∀ k, (rdQst T b).2.2.1 k ≤ 5) ∧ (∀ k, (rdQst T b).2.2.2 k < 5) ∧ sI G' 4 1 = nI (shC (rdQst T b).2.2.1 + shT (rdQst T b).2.2.2 (rdQst T b).2.1.1)) → Q (nI (rdQst T b).1) G') : EvI K mX5_readQuestion 5 0 [(0, .ref 4), (1, .ref h), (2, .ref t)] [] G Q := by
  have t1000 := hT.2.1
  refine kX5_readQuestion_0 hL hh ht (kX8_clear_0 hL ht ?_)
  have k0 : Kq (fun i _ => t ≤ i ∧ i ≤ t + 2) G (uI G t 2 0) := kq_I (by omega)
  have q0 : XTq (uI G t 2 0) t eQ := ⟨by (simp [gI, gL, gIL, gLI, eQ] <;> try rfl), by decide, fun k hk => absurd hk (Nat.not_lt_zero k)⟩
  refine s_X7_rewind hL (hT.kq k0 (fun i k z => by omega)) (fun G1 k1 a1 => ?_)
  have hL1 := k1.1.lay hL
  have k2 : Kq (fun i k => i = 4 ∧ k = 1) G1 (uI G1 4 1 0) := kq_I ⟨rfl, rfl⟩
  have kk2 : Kq (sSt t) G (uI G1 4 1 0) := ((k0.mono (fun i k z => Or.inr (Or.inr z))).tr (k1.toq.mono (fun i k z => Or.inl z))).tr (k2.mono (fun i k z => Or.inr (Or.inl z)))
  have b2 : XTb (uI G1 4 1 0) h b := hb.kq kk2 (fun i k z => by unfold sSt at z; omega)
  have q2 : XTq (uI G1 4 1 0) t eQ := (q0.kq k1.toq (fun i k z => by omega)).kq k2 (fun i k z => by omega)
  refine s_X5_readShapeRows hL1 hh b2 (a1.kq k2 (fun i k z => by omega)) (by (simp [gI, gL, gIL, gLI] <;> try rfl)) (fun G3 k3 t3 r3 => ?_)
  have hL3 := k3.lay hL1
  have kk3 : Kq (sSt t) G G3 := kk2.tr (k3.mono (fun i k z => by unfold sSh at z; unfold sSt; omega))
  have hlt : (rdSR T b 5 (fun _ => 0) 0).1 < 20000 := by
    have : ∀ m cn i, (rdSR T b m cn i).1 < 20000 := by
      intro m
      induction m with
      | zero => intro cn i; rw [rdSR]; split <;> first | exact rdName_lt t1000 | exact fx_lt t1000 (by decide)
      | succ m ih =>
        intro cn i
        rw [rdSR]
        repeat' split
        · exact rdName_lt t1000
        · exact ih _ _
        · simp
        · exact fx_lt t1000 (by decide)
    exact this _ _ _
  unfold rdQst at hQ
  try simp (disch := omega) only [nLe, nLeR, nLeL, nLt, nLtR, nLtL, nEq, nEqR, nEqL, nClamp, nClampR, nAdd, nAddR, nAddL, nSub, nSubR, nMul, nMulR, nMulL, nDivR, vIn, vInR, iteZ, iteP, lEq, lEqR, forall_eq, forall_const, true_implies, false_implies, not_true_eq_false, not_false_eq_true, true_and, and_true, implies_true, Decidable.not_not]
  refine ⟨fun z => ?_, fun z => ?_⟩
  · rw [if_neg (by simp [z])] at hQ
    obtain ⟨c1, c2, c3⟩ := r3 z
    refine s_X5_readShapeTerms hL3 hh ht (b2.kq k3 (fun i k z => by unfold sSh at z; omega)) (q2.kq k3 (fun i k z => by unfold sSh at z; omega)) c1 c3 c2 (fun G4 k4 t4 r4 => hQ G4 (kk3.tr k4) t4 (fun y => ?_))
    obtain ⟨d1, d2, d3⟩ := r4 y
    exact ⟨d1, c3, d2, d3⟩
  · rw [if_pos z] at hQ
    exact hQ G3 kk3 t3 (fun y => absurd y z)
end RDX4

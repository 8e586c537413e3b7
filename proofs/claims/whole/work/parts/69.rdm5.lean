section RDM6
variable {K : KT} {G G1 : St} {t N i f n0 : Nat} {b : TBt} {w : RWt} {q : TQt} {T : TPt} {S : Nat → Nat → Prop}
/-- the terms as they are being read -/
def MQr (G : St) (q : TQt) : Prop := sI G 66 21 = nI q.1 ∧ q.1 ≤ 4 ∧ ∀ k, k < q.1 → sI G 79 (4 + k) = nI (q.2.1 k) ∧ q.2.1 k ≤ 3 ∧ sL G 80 (4 + k) = q.2.2 k
def sQr : Nat → Nat → Prop := fun i k => i = 66 ∧ (k = 7 ∨ k = 8 ∨ k = 21) ∨ (i = 79 ∨ i = 80) ∧ 4 ≤ k
theorem MQr.kq (hq : MQr G q) (hk : Kq S G G1) (hs : ∀ i k, S i k → ¬ (i = 66 ∧ k = 21 ∨ (i = 79 ∨ i = 80) ∧ 4 ≤ k)) : MQr G1 q := by
  obtain ⟨h1, h2, h3⟩ := hq
  refine ⟨(hk.I (fun z => hs _ _ z (by omega))).trans h1, h2, fun k hk' => ?_⟩
  obtain ⟨a, b, c⟩ := h3 k hk'
  exact ⟨(hk.I (fun z => hs _ _ z (by omega))).trans a, b, (hk.L (fun z => hs _ _ z (by omega))).trans c⟩
theorem s_X12_readTerm {Q : St → Prop} (hL : Lay G.2.2) (hA : MAt G T N i f) (hq : MQr G q) (hQ : ∀ G', Kq sQr G G' → MAt G' T N (if f = 0 then (rdTerm T q i).2.2 else i) (if f = 0 then (rdTerm T q i).1 else f) → (f = 0 → MQr G' (rdTerm T q i).2.1) → Q G') : EvV K mX12_readTerm 1 0 [(0, .ref 66)] [] G Q := by
  have hi := hA.lt
  have hlt := hA.flt
  have hq4 := hq.2.1
  have h4t := tk_4 (T := T) i
  -- behind a fault
  have stop : ∀ (x : Int32) (G1 : St) (g : Nat), g ≠ 0 → g < 20000 → Kq sQr G G1 → MAt G1 T N i g → Q G1 → EvV K mX12_readTerm 1 63 [(0, .ref 66), (1, .int x)] [] G1 Q := by
    intro x G1 g hg hg2 k1 A1 hQ1
    refine kX12_readTerm_63 (k1.lay hL) ?_
    try simp (disch := omega) only [nLe, nLeR, nLeL, nLt, nLtR, nLtL, nEq, nEqR, nEqL, nClamp, nClampR, nAdd, nAddR, nAddL, nSub, nSubR, nMul, nMulR, nMulL, nDivR, vIn, vInR, iteZ, iteP, lEq, lEqR, forall_eq, forall_const, true_implies, false_implies, not_true_eq_false, not_false_eq_true, true_and, and_true, implies_true, Decidable.not_not, Nat.le_refl, A1.f0]
    exact ⟨fun z => by omega, fun _ => hQ1⟩
  by_cases hf : f = 0
  · subst hf
    simp only [if_true] at hQ
    -- kind x, over a number or not
    have f63 : ∀ (nb : Prop) [Decidable nb] (kd : Nat), kd = kdT (tk T i) → kd ≠ 9 → q.1 < 4 → (nb ↔ kd = 2 ∨ kd = 3) → EvV K mX12_readTerm 1 63 [(0, .ref 66), (1, .int (if nb then 1 else 0))] [] G Q := by
      intro nb _ kd hkd h9 h4 hnb
      have h3 : kd ≤ 3 := by
        rw [hkd] at h9 ⊢
        revert h9
        unfold kdT
        repeat' split
        all_goals simp
      have hne : (tk T i).1 ≠ 0 := by
        rw [hkd] at h9
        revert h9
        unfold kdT
        repeat' split
        all_goals intro h9
        · rename_i y; rw [isW_k y]; decide
        · rename_i y; rw [isW_k y]; decide
        · rename_i y; rw [isW_k y]; decide
        · rename_i y; rw [tk_1 y]; decide
        · exact absurd rfl h9
      have base : rdTerm T q i = if kd = 0 then (0, addQ q 0 (vl T i), i + 1) else if okTm T i = true then (0, addQ q kd (vl T (i + 1)), i + 2) else (fx T (i + 1) 1, q, i + 1) := by
        conv => lhs; unfold rdTerm
        rw [← hkd, if_neg h9, if_neg (by omega)]
      -- the kind is written
      have f121 : EvV K mX12_readTerm 1 121 [(0, .ref 66), (1, .int (if nb then 1 else 0)), (2, .int (nI (4 + q.1)))] [.int (nI kd), .int (nI (4 + q.1)), .ref 79] G Q := by
        have k1 : Kq (fun i k => i = 79 ∧ k = 4 + q.1) G (uI G 79 (4 + q.1) (nI kd)) := kq_I ⟨rfl, rfl⟩
        have A1 := hA.kq k1 (fun i k z => by omega)
        have kk1 : Kq sQr G (uI G 79 (4 + q.1) (nI kd)) := k1.mono (fun i k z => by unfold sQr; omega)
        have e79 : sI (uI G 79 (4 + q.1) (nI kd)) 79 (4 + q.1) = nI kd := by (simp [gI, gL, gIL, gLI] <;> try rfl)
        have o79 : ∀ k, k < q.1 → sI (uI G 79 (4 + q.1) (nI kd)) 79 (4 + k) = nI (q.2.1 k) ∧ sL (uI G 79 (4 + q.1) (nI kd)) 80 (4 + k) = q.2.2 k := by
          intro k hk
          have e : ¬ k = q.1 := by omega
          exact ⟨by (simp [gI, gL, gIL, gLI, e] <;> try rfl); exact (hq.2.2 k hk).1, by (simp [gI, gL, gIL, gLI] <;> try rfl); exact (hq.2.2 k hk).2.2⟩
        have e21 : sI (uI G 79 (4 + q.1) (nI kd)) 66 21 = nI q.1 := by (simp [gI, gL, gIL, gLI] <;> try rfl); exact hq.1
        refine kX12_readTerm_121 hL ?_
        try simp (disch := omega) only [nLe, nLeR, nLeL, nLt, nLtR, nLtL, nEq, nEqR, nEqL, nClamp, nClampR, nAdd, nAddR, nAddL, nSub, nSubR, nMul, nMulR, nMulL, nDivR, vIn, vInR, iteZ, iteP, lEq, lEqR, forall_eq, forall_const, true_implies, false_implies, not_true_eq_false, not_false_eq_true, true_and, and_true, implies_true, Decidable.not_not, Nat.le_refl, e79]
        generalize uI G 79 (4 + q.1) (nI kd) = G1 at *
        have hL1 := kk1.lay hL
        -- the end: value and index
        have f177 : ∀ (G2 : St) (j : Nat), Kq (fun i k => i = 66 ∧ k = 7) G1 G2 → MAt G2 T N j 0 → (tk T j).1 ≠ 0 → (tk T j).1 ≠ 4 → rdTerm T q i = (0, addQ q kd (vl T j), j + 1) → EvV K mX12_readTerm 1 177 [(0, .ref 66), (2, .int (nI (4 + q.1)))] [] G2 Q := by
          intro G2 j k2 A2 h0 h4' e
          rw [e] at hQ
          have hj := A2.lt
          have e21' : sI G2 66 21 = nI q.1 := by rw [k2.I (by omega)]; exact e21
          refine kX12_readTerm_177 (k2.lay hL1) ?_
          try simp (disch := omega) only [nLe, nLeR, nLeL, nLt, nLtR, nLtL, nEq, nEqR, nEqL, nClamp, nClampR, nAdd, nAddR, nAddL, nSub, nSubR, nMul, nMulR, nMulL, nDivR, vIn, vInR, iteZ, iteP, lEq, lEqR, forall_eq, forall_const, true_implies, false_implies, not_true_eq_false, not_false_eq_true, true_and, and_true, implies_true, Decidable.not_not, Nat.le_refl, A2.f0, A2.2.2.1, e21']
          rw [A2.v h0 h4']
          refine ⟨by omega, by omega, ?_⟩
          have k3 : Kq (fun i k => i = 80 ∧ k = 4 + q.1) G2 (uL G2 80 (4 + q.1) (vl T j)) := kq_L ⟨rfl, rfl⟩
          have k4 : Kq (fun i k => i = 66 ∧ k = 7) (uL G2 80 (4 + q.1) (vl T j)) (uI (uL G2 80 (4 + q.1) (vl T j)) 66 7 (nI (j + 1))) := kq_I ⟨rfl, rfl⟩
          have k5 : Kq (fun i k => i = 66 ∧ k = 21) (uI (uL G2 80 (4 + q.1) (vl T j)) 66 7 (nI (j + 1))) (uI (uI (uL G2 80 (4 + q.1) (vl T j)) 66 7 (nI (j + 1))) 66 21 (nI (q.1 + 1))) := kq_I ⟨rfl, rfl⟩
          refine hQ _ ((((kk1.tr (k2.mono (fun i k z => by unfold sQr; omega))).tr (k3.mono (fun i k z => by unfold sQr; omega))).tr (k4.mono (fun i k z => by unfold sQr; omega))).tr (k5.mono (fun i k z => by unfold sQr; omega))) (((A2.kq k3 (fun i k z => by omega)).go k4 (by (simp [gI, gL, gIL, gLI] <;> try rfl)) h0).kq k5 (fun i k z => by omega)) (fun _ => ⟨by (simp [gI, gL, gIL, gLI, addQ] <;> try rfl), by simp [addQ]; omega, fun k hk => ?_⟩)
          have hk : k < q.1 + 1 := hk
          by_cases e : k = q.1
          · subst e
            refine ⟨?_, by simp [addQ]; exact h3, by (simp [gI, gL, gIL, gLI, addQ] <;> try rfl)⟩
            (simp [gI, gL, gIL, gLI, addQ] <;> try rfl)
            rw [k2.I (by omega)]; exact e79
          · obtain ⟨u1, u2⟩ := o79 k (by omega)
            refine ⟨?_, by simp [addQ, e]; exact (hq.2.2 k (by omega)).2.1, ?_⟩
            · (simp [gI, gL, gIL, gLI, addQ, e] <;> try rfl)
              rw [k2.I (by omega)]; exact u1
            · (simp [gI, gL, gIL, gLI, addQ, e] <;> try rfl)
              rw [k2.L (by omega)]; exact u2
        have f172 : ∀ (G2 : St) (j : Nat), Kq (fun i k => i = 66 ∧ k = 7) G1 G2 → MAt G2 T N j 0 → rdTerm T q i = (fx T j 1, q, j) → EvV K mX12_readTerm 1 172 [(0, .ref 66), (2, .int (nI (4 + q.1)))] [] G2 Q := by
          intro G2 j k2 A2 e
          rw [e] at hQ
          have hL2 := k2.lay hL1
          refine kX12_readTerm_172 hL2 (s_X12_wrong (x := 1) hL2 A2 (by decide) (fun G3 k3 A3 => kX12_readTerm_177 (k3.lay hL2) ?_))
          rw [if_pos rfl] at A3
          have hlt3 := A3.flt
          have h0 := fx_pos (T := T) (i := j) (w := 1) (by decide)
          try simp (disch := omega) only [nLe, nLeR, nLeL, nLt, nLtR, nLtL, nEq, nEqR, nEqL, nClamp, nClampR, nAdd, nAddR, nAddL, nSub, nSubR, nMul, nMulR, nMulL, nDivR, vIn, vInR, iteZ, iteP, lEq, lEqR, forall_eq, forall_const, true_implies, false_implies, not_true_eq_false, not_false_eq_true, true_and, and_true, implies_true, Decidable.not_not, Nat.le_refl, A3.f0]
          refine ⟨fun z => by omega, fun _ => hQ G3 ((kk1.tr (k2.mono (fun i k z => by unfold sQr; omega))).tr (k3.mono (fun i k z => by unfold sQr; omega))) A3 (fun _ => ⟨?_, hq4, fun k hk => ?_⟩)⟩
          · rw [k3.I (by omega), k2.I (by omega)]; exact e21
          · obtain ⟨u1, u2⟩ := o79 k hk
            exact ⟨by rw [k3.I (by omega), k2.I (by omega)]; exact u1, (hq.2.2 k hk).2.1, by rw [k3.L (by omega), k2.L (by omega)]; exact u2⟩
        refine ⟨by omega, by omega, fun hk0 => kX12_readTerm_141 hL1 ?_, fun hk0 => kX12_readTerm_141 hL1 ?_⟩
        · rw [if_neg hk0] at base
          have k2 : Kq (fun i k => i = 66 ∧ k = 7) G1 (uI G1 66 7 (nI (i + 1))) := kq_I ⟨rfl, rfl⟩
          have A2 := A1.go k2 (by (simp [gI, gL, gIL, gLI] <;> try rfl)) hne
          have hi2 := A2.lt
          have e68 : sI G1 68 (i + 1) = nI (tk T (i + 1)).1 := by have := A2.tok.1; rw [k2.I (by omega)] at this; exact this
          have h4t2 := tk_4 (T := T) (i + 1)
          try simp (disch := omega) only [nLe, nLeR, nLeL, nLt, nLtR, nLtL, nEq, nEqR, nEqL, nClamp, nClampR, nAdd, nAddR, nAddL, nSub, nSubR, nMul, nMulR, nMulL, nDivR, vIn, vInR, iteZ, iteP, lEq, lEqR, forall_eq, forall_const, true_implies, false_implies, not_true_eq_false, not_false_eq_true, true_and, and_true, implies_true, Decidable.not_not, Nat.le_refl, hA.2.2.1, A1.2.2.1, e68]
          refine ⟨fun z => s_X12_isName hL1 A2 ?_, fun z => ⟨by omega, fun z2 => ?_, fun z2 => ?_⟩⟩
          · have h1 : kd = 1 := by
              have : ¬ (kd = 2 ∨ kd = 3) := fun y => z (hnb.mpr y)
              omega
            have eo : okTm T i = isN (tk T (i + 1)) := by unfold okTm; rw [← hkd, if_pos h1]
            rw [eo] at base
            try simp (disch := omega) only [nLe, nLeR, nLeL, nLt, nLtR, nLtL, nEq, nEqR, nEqL, nClamp, nClampR, nAdd, nAddR, nAddL, nSub, nSubR, nMul, nMulR, nMulL, nDivR, vIn, vInR, iteZ, iteP, lEq, lEqR, forall_eq, forall_const, true_implies, false_implies, not_true_eq_false, not_false_eq_true, true_and, and_true, implies_true, Decidable.not_not, Nat.le_refl]
            refine ⟨fun y => f177 _ (i + 1) k2 A2 (by rw [tk_1 y]; decide) (by rw [tk_1 y]; decide) (by rw [base, if_pos y]), fun y => f172 _ (i + 1) k2 A2 (by rw [base, if_neg y])⟩
          · have h1 : ¬ kd = 1 := by have := hnb.mp z; omega
            have eo : okTm T i = true := by unfold okTm; rw [← hkd, if_neg h1]; simp [z2]
            exact f177 _ (i + 1) k2 A2 (by omega) (by omega) (by rw [base, if_pos eo])
          · have h1 : ¬ kd = 1 := by have := hnb.mp z; omega
            have eo : ¬ okTm T i = true := by unfold okTm; rw [← hkd, if_neg h1]; simp [z2]
            exact f172 _ (i + 1) k2 A2 (by rw [base, if_neg eo])
        · rw [if_pos hk0] at base
          have hnn : ¬ nb := fun y => by have := hnb.mp y; omega
          have hn : isN (tk T i) = true := by
            rw [hk0] at hkd
            rw [hk0, hkd] at h9
            revert hkd h9
            unfold kdT
            repeat' split
            all_goals simp_all
          have k2 : Kq (fun i k => i = 66 ∧ k = 7) G1 (uI G1 66 7 (nI (i + 0))) := kq_I ⟨rfl, rfl⟩
          have A2 : MAt (uI G1 66 7 (nI (i + 0))) T N i 0 := by
            obtain ⟨a, b, cc, d, e, g⟩ := A1
            exact ⟨a.kq k2 (fun i k z => by omega), b.kq k2 (fun i k z => by omega), by (simp [gI, gL, gIL, gLI] <;> try rfl), d, by (simp [gI, gL, gIL, gLI, e] <;> try rfl), g⟩
          try simp (disch := omega) only [nLe, nLeR, nLeL, nLt, nLtR, nLtL, nEq, nEqR, nEqL, nClamp, nClampR, nAdd, nAddR, nAddL, nSub, nSubR, nMul, nMulR, nMulL, nDivR, vIn, vInR, iteZ, iteP, lEq, lEqR, forall_eq, forall_const, true_implies, false_implies, not_true_eq_false, not_false_eq_true, true_and, and_true, implies_true, Decidable.not_not, Nat.le_refl, hA.2.2.1, A1.2.2.1]
          refine ⟨fun _ => s_X12_isName hL1 A2 ?_, fun y => absurd y hnn⟩
          try simp (disch := omega) only [nLe, nLeR, nLeL, nLt, nLtR, nLtL, nEq, nEqR, nEqL, nClamp, nClampR, nAdd, nAddR, nAddL, nSub, nSubR, nMul, nMulR, nMulL, nDivR, vIn, vInR, iteZ, iteP, lEq, lEqR, forall_eq, forall_const, true_implies, false_implies, not_true_eq_false, not_false_eq_true, true_and, and_true, implies_true, Decidable.not_not, Nat.le_refl]
          refine ⟨fun y => ?_, fun y => absurd hn y⟩
          exact f177 _ i k2 A2 hne (by rw [tk_1 hn]; decide) (by rw [base, hk0])
      refine kX12_readTerm_63 hL ?_
      try simp (disch := omega) only [nLe, nLeR, nLeL, nLt, nLtR, nLtL, nEq, nEqR, nEqL, nClamp, nClampR, nAdd, nAddR, nAddL, nSub, nSubR, nMul, nMulR, nMulL, nDivR, vIn, vInR, iteZ, iteP, lEq, lEqR, forall_eq, forall_const, true_implies, false_implies, not_true_eq_false, not_false_eq_true, true_and, and_true, implies_true, Decidable.not_not, Nat.le_refl, hA.f0, hq.1]
      refine s_X12_isWord (x := 4) hL hA (by decide) ?_
      rw [show mw 4 = 279252 from rfl]
      try simp (disch := omega) only [nLe, nLeR, nLeL, nLt, nLtR, nLtL, nEq, nEqR, nEqL, nClamp, nClampR, nAdd, nAddR, nAddL, nSub, nSubR, nMul, nMulR, nMulL, nDivR, vIn, vInR, iteZ, iteP, lEq, lEqR, forall_eq, forall_const, true_implies, false_implies, not_true_eq_false, not_false_eq_true, true_and, and_true, implies_true, Decidable.not_not, Nat.le_refl]
      refine ⟨fun z1 => s_X12_isWord (x := 5) hL hA (by decide) ?_, fun z1 => ?_⟩
      · rw [show mw 5 = 311436 from rfl]
        try simp (disch := omega) only [nLe, nLeR, nLeL, nLt, nLtR, nLtL, nEq, nEqR, nEqL, nClamp, nClampR, nAdd, nAddR, nAddL, nSub, nSubR, nMul, nMulR, nMulL, nDivR, vIn, vInR, iteZ, iteP, lEq, lEqR, forall_eq, forall_const, true_implies, false_implies, not_true_eq_false, not_false_eq_true, true_and, and_true, implies_true, Decidable.not_not, Nat.le_refl]
        refine ⟨fun z2 => s_X12_isWord (x := 6) hL hA (by decide) ?_, fun z2 => ?_⟩
        · rw [show mw 6 = 11438892 from rfl]
          try simp (disch := omega) only [nLe, nLeR, nLeL, nLt, nLtR, nLtL, nEq, nEqR, nEqL, nClamp, nClampR, nAdd, nAddR, nAddL, nSub, nSubR, nMul, nMulR, nMulL, nDivR, vIn, vInR, iteZ, iteP, lEq, lEqR, forall_eq, forall_const, true_implies, false_implies, not_true_eq_false, not_false_eq_true, true_and, and_true, implies_true, Decidable.not_not, Nat.le_refl]
          refine ⟨fun z3 => ?_, fun z3 => ?_⟩
          · have e : kd = 0 := by
              rw [hkd] at h9 ⊢
              revert h9
              unfold kdT
              rw [if_neg z1, if_neg z2, if_neg z3]
              split
              · simp
              · simp
            rw [e] at f121; exact f121
          · have e : kd = 3 := by rw [hkd]; unfold kdT; rw [if_neg z1, if_neg z2, if_pos z3]
            rw [e] at f121; exact f121
        · have e : kd = 2 := by rw [hkd]; unfold kdT; rw [if_neg z1, if_pos z2]
          rw [e] at f121; exact f121
      · have e : kd = 1 := by rw [hkd]; unfold kdT; rw [if_pos z1]
        rw [e] at f121; exact f121
    have f50 : ∀ (nb : Prop) [Decidable nb], kdT (tk T i) ≠ 9 → (nb ↔ kdT (tk T i) = 2 ∨ kdT (tk T i) = 3) → EvV K mX12_readTerm 1 50 [(0, .ref 66), (1, .int (if nb then 1 else 0))] [] G Q := by
      intro nb _ h9 hnb
      refine kX12_readTerm_50 hL ?_
      try simp (disch := omega) only [nLe, nLeR, nLeL, nLt, nLtR, nLtL, nEq, nEqR, nEqL, nClamp, nClampR, nAdd, nAddR, nAddL, nSub, nSubR, nMul, nMulR, nMulL, nDivR, vIn, vInR, iteZ, iteP, lEq, lEqR, forall_eq, forall_const, true_implies, false_implies, not_true_eq_false, not_false_eq_true, true_and, and_true, implies_true, Decidable.not_not, Nat.le_refl, hq.1]
      refine ⟨fun z => f63 nb _ rfl h9 (by omega) hnb, fun z => s_X12_wrong (x := 5) hL hA (by decide) (fun G1 k1 A1 => ?_)⟩
      rw [if_pos rfl] at A1
      have e : rdTerm T q i = (fx T i 5, q, i) := by unfold rdTerm; rw [if_neg h9, if_pos (by omega)]
      rw [e] at hQ
      have kk1 : Kq sQr G G1 := k1.mono (fun i k z => by unfold sQr; omega)
      exact stop _ G1 _ (fx_pos (by decide)) A1.flt kk1 A1 (hQ G1 kk1 A1 (fun _ => hq.kq k1 (fun i k z => by omega)))
    have f22 : ∀ (nb : Prop) [Decidable nb], (nb ↔ isW (tk T i) 311436 = true ∨ isW (tk T i) 11438892 = true) → EvV K mX12_readTerm 1 22 [(0, .ref 66)] [.int (if nb then 1 else 0)] G Q := by
      intro nb _ hnb
      have hx : ∀ x, rsvd x = true → isN (tk T i) = true → isW (tk T i) x = false := fun x h1 h2 => isN_isW h2 h1
      have hw : ∀ x y, x ≠ y → isW (tk T i) x = true → isW (tk T i) y = false := by
        intro x y hxy h
        unfold isW at h ⊢
        simp at h ⊢
        intro _ e
        omega
      refine kX12_readTerm_22 hL (s_X12_isName hL hA ?_)
      try simp (disch := omega) only [nLe, nLeR, nLeL, nLt, nLtR, nLtL, nEq, nEqR, nEqL, nClamp, nClampR, nAdd, nAddR, nAddL, nSub, nSubR, nMul, nMulR, nMulL, nDivR, vIn, vInR, iteZ, iteP, lEq, lEqR, forall_eq, forall_const, true_implies, false_implies, not_true_eq_false, not_false_eq_true, true_and, and_true, implies_true, Decidable.not_not, Nat.le_refl]
      refine ⟨fun hn => f50 nb ?_ ?_, fun hn => ⟨fun z => f50 nb ?_ ?_, fun z => s_X12_isWord (x := 4) hL hA (by decide) ?_⟩⟩
      · unfold kdT; rw [if_neg (by simp [hx 279252 (by decide) hn]), if_neg (by simp [hx 311436 (by decide) hn]), if_neg (by simp [hx 11438892 (by decide) hn]), if_pos hn]; decide
      · rw [hnb]; unfold kdT; rw [if_neg (by simp [hx 279252 (by decide) hn]), if_neg (by simp [hx 311436 (by decide) hn]), if_neg (by simp [hx 11438892 (by decide) hn]), if_pos hn]; simp [hx 311436 (by decide) hn, hx 11438892 (by decide) hn]
      · rcases hnb.mp z with y | y
        · unfold kdT; rw [if_neg (by simp [hw _ 279252 (by decide) y]), if_pos y]; decide
        · unfold kdT; rw [if_neg (by simp [hw _ 279252 (by decide) y]), if_neg (by simp [hw _ 311436 (by decide) y]), if_pos y]; decide
      · refine ⟨fun _ => ?_, fun _ => z⟩
        rcases hnb.mp z with y | y
        · left; unfold kdT; rw [if_neg (by simp [hw _ 279252 (by decide) y]), if_pos y]
        · right; unfold kdT; rw [if_neg (by simp [hw _ 279252 (by decide) y]), if_neg (by simp [hw _ 311436 (by decide) y]), if_pos y]
      · rw [show mw 4 = 279252 from rfl]
        have z1 : ¬ isW (tk T i) 311436 = true := fun y => z (hnb.mpr (Or.inl y))
        have z2 : ¬ isW (tk T i) 11438892 = true := fun y => z (hnb.mpr (Or.inr y))
        try simp (disch := omega) only [nLe, nLeR, nLeL, nLt, nLtR, nLtL, nEq, nEqR, nEqL, nClamp, nClampR, nAdd, nAddR, nAddL, nSub, nSubR, nMul, nMulR, nMulL, nDivR, vIn, vInR, iteZ, iteP, lEq, lEqR, forall_eq, forall_const, true_implies, false_implies, not_true_eq_false, not_false_eq_true, true_and, and_true, implies_true, Decidable.not_not, Nat.le_refl]
        refine ⟨fun y => f50 nb ?_ ?_, fun y => s_X12_wrong (x := 1) hL hA (by decide) (fun G1 k1 A1 => ?_)⟩
        · unfold kdT; rw [if_pos y]; decide
        · refine ⟨fun u => absurd u z, fun u => ?_⟩
          unfold kdT at u; rw [if_pos y] at u; omega
        · rw [if_pos rfl] at A1
          have e9 : kdT (tk T i) = 9 := by unfold kdT; rw [if_neg y, if_neg z1, if_neg z2, if_neg hn]
          have e : rdTerm T q i = (fx T i 1, q, i) := by unfold rdTerm; rw [if_pos e9]
          rw [e] at hQ
          have kk1 : Kq sQr G G1 := k1.mono (fun i k z => by unfold sQr; omega)
          exact stop _ G1 _ (fx_pos (by decide)) A1.flt kk1 A1 (hQ G1 kk1 A1 (fun _ => hq.kq k1 (fun i k z => by omega)))
    refine kX12_readTerm_0 hL (s_X12_isWord (x := 5) hL hA (by decide) ?_)
    rw [show mw 5 = 311436 from rfl]
    try simp (disch := omega) only [nLe, nLeR, nLeL, nLt, nLtR, nLtL, nEq, nEqR, nEqL, nClamp, nClampR, nAdd, nAddR, nAddL, nSub, nSubR, nMul, nMulR, nMulL, nDivR, vIn, vInR, iteZ, iteP, lEq, lEqR, forall_eq, forall_const, true_implies, false_implies, not_true_eq_false, not_false_eq_true, true_and, and_true, implies_true, Decidable.not_not, Nat.le_refl]
    refine ⟨fun z => ?_, fun z => s_X12_isWord (x := 6) hL hA (by decide) ?_⟩
    · have := f22 True ⟨fun _ => Or.inl z, fun _ => trivial⟩
      simpa using this
    · rw [show mw 6 = 11438892 from rfl]
      try simp (disch := omega) only [nLe, nLeR, nLeL, nLt, nLtR, nLtL, nEq, nEqR, nEqL, nClamp, nClampR, nAdd, nAddR, nAddL, nSub, nSubR, nMul, nMulR, nMulL, nDivR, vIn, vInR, iteZ, iteP, lEq, lEqR, forall_eq, forall_const, true_implies, false_implies, not_true_eq_false, not_false_eq_true, true_and, and_true, implies_true, Decidable.not_not, Nat.le_refl]
      refine ⟨fun z2 => ?_, fun z2 => ?_⟩
      · have := f22 False ⟨fun y => absurd y id, fun y => by rcases y with y | y; exact z y; exact z2 y⟩
        simpa using this
      · have := f22 True ⟨fun _ => Or.inr z2, fun _ => trivial⟩
        simpa using this
  · -- a fault stands
    rw [if_neg hf, if_neg hf] at hQ
    have hQ' : ∀ G', Kq sQr G G' → MAt G' T N i f → Q G' := fun G' k' A' => hQ G' k' A' (fun y => absurd y hf)
    have f22 : EvV K mX12_readTerm 1 22 [(0, .ref 66)] [.int 0] G Q := by
      refine kX12_readTerm_22 hL (s_X12_isName hL hA ?_)
      rw [if_neg (fun y => hf y.1)]
      refine ⟨fun y => absurd rfl y, fun _ => ⟨fun y => absurd rfl y, fun _ => s_X12_isWord (x := 4) hL hA (by decide) ?_⟩⟩
      rw [if_neg (fun y => hf y.1)]
      refine ⟨fun y => absurd rfl y, fun _ => s_X12_wrong (x := 1) hL hA (by decide) (fun G1 k1 A1 => ?_)⟩
      rw [if_neg hf] at A1
      have kk1 : Kq sQr G G1 := k1.mono (fun i k z => by unfold sQr; omega)
      exact stop _ G1 f hf hlt kk1 A1 (hQ' G1 kk1 A1)
    refine kX12_readTerm_0 hL (s_X12_isWord (x := 5) hL hA (by decide) ?_)
    rw [if_neg (fun y => hf y.1)]
    refine ⟨fun y => absurd rfl y, fun _ => s_X12_isWord (x := 6) hL hA (by decide) ?_⟩
    rw [if_neg (fun y => hf y.1)]
    exact ⟨fun _ => f22, fun y => absurd rfl y⟩
end RDM6

theorem addQ_1 {q : TQt} {k : Nat} {v : Int64} : (addQ q k v).1 = q.1 + 1 := rfl
section RDM7
variable {K : KT} {G G1 : St} {t N i f n0 : Nat} {b : TBt} {w : RWt} {q : TQt} {T : TPt} {S : Nat → Nat → Prop}
/-- all that reading terms may write -/
def sQ0 : Nat → Nat → Prop := fun i k => ctS i k ∨ i = 66 ∧ (k = 0 ∨ k = 21) ∨ (i = 79 ∨ i = 80) ∧ 4 ≤ k
theorem rdTerm_bad {T : TPt} {q : TQt} {i : Nat} (h : (rdTerm T q i).1 ≠ 0) : (rdTerm T q i).2.1 = q := by
  revert h
  unfold rdTerm
  repeat' split
  all_goals simp
theorem s_X12_ask {Q : Int32 → St → Prop} (hL : Lay G.2.2) (hT : MTp G T) (hW : MWd G)
    (hno : (rdAsk T 5 eQ 0).1 ≠ 0 → ∀ G', Kq sQ0 G G' → MTp G' (0, T.2) → Q (nI (rdAsk T 5 eQ 0).1) G')
    (hyes : (rdAsk T 5 eQ 0).1 = 0 → ∀ G', Kq (fun i k => sQ0 i k ∨ i = 66 ∧ (k = 15 ∨ k = 20) ∨ i = 79 ∨ i = 80) G G' → MTp G' (0, T.2) → MTq G' (rdAsk T 5 eQ 0).2.1 → sI G' 66 15 = 1 → Q (nI 0) G') : EvI K mX12_ask 2 0 [(0, .ref 66)] [] G Q := by
  have t1000 := hT.2.1
  refine kX12_ask_0 hL ?_
  have k0 : Kq (fun i k => i = 66 ∧ k = 0) G (uI G 66 0 0) := kq_I ⟨rfl, rfl⟩
  have hT0 : MTp (uI G 66 0 0) T := ⟨by (simp [gI, gL, gIL, gLI, hT.1] <;> try rfl), hT.2.1, fun j hj => by (simp [gI, gL, gIL, gLI] <;> try rfl); exact hT.2.2 j hj⟩
  refine s_X12_cutAll hL hT0 (hW.kq k0 (fun i k z => by omega)) (fun G1 N k1 t1 A1 => ?_)
  have k2 : Kq (fun i k => i = 66 ∧ k = 21) G1 (uI G1 66 21 0) := kq_I ⟨rfl, rfl⟩
  have A2 := A1.kq k2 (fun i k z => by omega)
  have q2 : MQr (uI G1 66 21 0) eQ := ⟨by (simp [gI, gL, gIL, gLI, eQ] <;> try rfl), by decide, fun k hk => absurd hk (Nat.not_lt_zero k)⟩
  have t2 : sI (uI G1 66 21 0) 66 2 = nI 0 := by (simp [gI, gL, gIL, gLI] <;> try rfl); exact t1.1
  have kk2 : Kq sQ0 G (uI G1 66 21 0) := ((k0.mono (S' := sQ0) (fun i k z => by unfold sQ0; omega)).tr (k1.mono (S' := sQ0) (fun i k z => Or.inl z))).tr (k2.mono (S' := sQ0) (fun i k z => by unfold sQ0; omega))
  generalize uI G1 66 21 0 = G2 at *
  have hL2 := kk2.lay hL
  have hend : ∀ (G3 : St) (r : Nat × TQt × Nat), r = rdAsk T 5 eQ 0 → Kq sQr G2 G3 → MAt G3 T N r.2.2 r.1 → MQr G3 r.2.1 → EvI K mX12_ask 2 44 [(0, .ref 66)] [] G3 Q := by
    intro G3 r hr k3 A3 q3
    have hlt := A3.flt
    have kk3 : Kq sQ0 G G3 := kk2.tr (k3.mono (fun i k z => by unfold sQr at z; unfold sQ0 ctS; omega))
    have t3 : sI G3 66 2 = nI 0 := by rw [k3.I (by unfold sQr; omega)]; exact t2
    have hL3 := k3.lay hL2
    refine kX12_ask_44 hL3 ?_
    try simp (disch := omega) only [nLe, nLeR, nLeL, nLt, nLtR, nLtL, nEq, nEqR, nEqL, nClamp, nClampR, nAdd, nAddR, nAddL, nSub, nSubR, nMul, nMulR, nMulL, nDivR, vIn, vInR, iteZ, iteP, lEq, lEqR, forall_eq, forall_const, true_implies, false_implies, not_true_eq_false, not_false_eq_true, true_and, and_true, implies_true, Decidable.not_not, Nat.le_refl, A3.f0, q3.1]
    refine ⟨fun z => ?_, fun z => ?_⟩
    · rw [hr] at z ⊢
      exact hno z G3 kk3 ⟨t3, Nat.zero_le _, fun j hj => absurd hj (Nat.not_lt_zero j)⟩
    · have lp : ∀ (m x : Nat) (G4 : St), x + m = 4 → Kq (fun i k => i = 66 ∧ k = 20 ∨ (i = 79 ∨ i = 80) ∧ k < 4) G3 G4 → sI G4 66 20 = nI r.2.1.1 → (∀ k, k < x → sI G4 79 k = sI G3 79 (4 + k) ∧ sL G4 80 k = sL G3 80 (4 + k)) → EvI K mX12_ask 2 61 [(0, .ref 66), (1, .int (nI x))] [] G4 Q := by
        intro m
        induction m with
        | zero =>
          intro x G4 hx k4 n4 h4
          have e8 : sI G4 66 8 = nI 0 := by rw [k4.I (by omega), A3.f0, z]
          refine kX12_ask_61 (k4.lay hL3) ?_
          try simp (disch := omega) only [nLe, nLeR, nLeL, nLt, nLtR, nLtL, nEq, nEqR, nEqL, nClamp, nClampR, nAdd, nAddR, nAddL, nSub, nSubR, nMul, nMulR, nMulL, nDivR, vIn, vInR, iteZ, iteP, lEq, lEqR, forall_eq, forall_const, true_implies, false_implies, not_true_eq_false, not_false_eq_true, true_and, and_true, implies_true, Decidable.not_not, Nat.le_refl]
          refine ⟨fun _ => ?_, fun z => by omega⟩
          rw [e8]
          have hq : MTq (uI G4 66 15 1) r.2.1 := by
            refine ⟨by (simp [gI, gL, gIL, gLI, n4] <;> try rfl), q3.2.1, fun k hk => ?_⟩
            have := q3.2.1
            obtain ⟨a, b, c⟩ := q3.2.2 k hk
            obtain ⟨u, v⟩ := h4 k (by omega)
            exact ⟨by (simp [gI, gL, gIL, gLI] <;> try rfl); rw [u, a], b, by (simp [gI, gL, gIL, gLI] <;> try rfl); rw [v, c]⟩
          rw [hr] at hq z
          refine hyes z _ (((kk3.mono (fun i k z => Or.inl z)).tr (k4.mono (fun i k z => by omega))).sI (by omega)) ⟨?_, Nat.zero_le _, fun j hj => absurd hj (Nat.not_lt_zero j)⟩ hq (by (simp [gI, gL, gIL, gLI] <;> try rfl))
          (simp [gI, gL, gIL, gLI] <;> try rfl)
          rw [k4.I (by omega)]; exact t3
        | succ m ih =>
          intro x G4 hx k4 n4 h4
          have e79 : sI G4 79 (4 + x) = sI G3 79 (4 + x) := k4.I (by omega)
          have e80 : sL G4 80 (4 + x) = sL G3 80 (4 + x) := k4.L (by omega)
          refine kX12_ask_61 (k4.lay hL3) ?_
          try simp (disch := omega) only [nLe, nLeR, nLeL, nLt, nLtR, nLtL, nEq, nEqR, nEqL, nClamp, nClampR, nAdd, nAddR, nAddL, nSub, nSubR, nMul, nMulR, nMulL, nDivR, vIn, vInR, iteZ, iteP, lEq, lEqR, forall_eq, forall_const, true_implies, false_implies, not_true_eq_false, not_false_eq_true, true_and, and_true, implies_true, Decidable.not_not, Nat.le_refl, e79, e80]
          refine ⟨fun z => by omega, fun _ => ⟨by omega, by omega, by omega, by omega, ih (x + 1) _ (by omega) ((k4.sI (by omega)).sL (by omega)) (by (simp [gI, gL, gIL, gLI, n4] <;> try rfl)) (fun k hk => ?_)⟩⟩
          by_cases e : k = x
          · (simp [gI, gL, gIL, gLI, e] <;> try rfl)
          · (simp [gI, gL, gIL, gLI, e] <;> try rfl)
            exact h4 k (by omega)
      exact lp 4 0 _ rfl (kq_I (by omega)) (by (simp [gI, gL, gIL, gLI] <;> try rfl)) (fun k hk => absurd hk (Nat.not_lt_zero k))
  have key : ∀ (m : Nat) (v : TQt) (j : Nat) (G3 : St), v.1 + m = 4 → Kq sQr G2 G3 → MAt G3 T N (rdTerm T v j).2.2 (rdTerm T v j).1 → MQr G3 (rdTerm T v j).2.1 → rdAsk T (m + 1) v j = rdAsk T 5 eQ 0 → EvI K mX12_ask 2 18 [(0, .ref 66)] [] G3 Q := by
    intro m
    induction m with
    | zero =>
      intro v j G3 hc k3 A3 q3 he
      have hlt := A3.flt
      have hz : (rdTerm T v j).1 ≠ 0 := by
        intro y
        have := (rdTerm_ok y).1
        omega
      rw [rdAsk, if_pos hz] at he
      refine kX12_ask_18 (k3.lay hL2) ?_
      try simp (disch := omega) only [nLe, nLeR, nLeL, nLt, nLtR, nLtL, nEq, nEqR, nEqL, nClamp, nClampR, nAdd, nAddR, nAddL, nSub, nSubR, nMul, nMulR, nMulL, nDivR, vIn, vInR, iteZ, iteP, lEq, lEqR, forall_eq, forall_const, true_implies, false_implies, not_true_eq_false, not_false_eq_true, true_and, and_true, implies_true, Decidable.not_not, Nat.le_refl, A3.f0]
      exact ⟨fun _ => hend G3 _ he k3 A3 q3, fun y => absurd y hz⟩
    | succ m ih =>
      intro v j G3 hc k3 A3 q3 he
      have hlt := A3.flt
      have hj := A3.lt
      have h4 := tk_4 (T := T) (rdTerm T v j).2.2
      rw [rdAsk] at he
      refine kX12_ask_18 (k3.lay hL2) ?_
      try simp (disch := omega) only [nLe, nLeR, nLeL, nLt, nLtR, nLtL, nEq, nEqR, nEqL, nClamp, nClampR, nAdd, nAddR, nAddL, nSub, nSubR, nMul, nMulR, nMulL, nDivR, vIn, vInR, iteZ, iteP, lEq, lEqR, forall_eq, forall_const, true_implies, false_implies, not_true_eq_false, not_false_eq_true, true_and, and_true, implies_true, Decidable.not_not, Nat.le_refl, A3.f0, A3.2.2.1, A3.tok.1]
      refine ⟨fun hz => ?_, fun hz => ⟨by omega, fun z0 => ?_, fun z0 => ?_⟩⟩
      · rw [if_pos hz] at he
        exact hend G3 _ he k3 A3 q3
      · rw [if_neg (by simp [hz]), if_pos z0] at he
        exact hend G3 _ he k3 A3 q3
      · rw [if_neg (by simp [hz]), if_neg z0] at he
        rw [hz] at A3
        refine s_X12_readTerm (k3.lay hL2) A3 q3 (fun G4 k4 A4 q4 => ?_)
        rw [if_pos rfl, if_pos rfl] at A4
        refine ih (rdTerm T v j).2.1 _ G4 ?_ (k3.tr k4) A4 (q4 rfl) he
        obtain ⟨-, k, j', -, e, -⟩ := rdTerm_ok hz
        rw [e]
        show v.1 + 1 + m = 4
        omega
  refine s_X12_readTerm hL2 A2 q2 (fun G3 k3 A3 q3 => ?_)
  rw [if_pos rfl, if_pos rfl] at A3
  exact key 4 eQ 0 G3 rfl k3 A3 (q3 rfl) rfl
/-- the tables that a question tells -/
def MQi (G : St) (n : Nat) (tn : Nat → Nat) : Prop := ∀ k, k < n → sI G 82 k = nI (tn k)
def sQo : Nat → Nat → Prop := fun i k => sQr i k ∨ i = 82
theorem s_X12_readOfTerm {Q : St → Prop} {tn : Nat → Nat} (hL : Lay G.2.2) (hA : MAt G T N i f) (hq : MQr G q) (hb : MTb G 0 b) (hd : dsN b) (htn : MQi G q.1 tn) (hQ : ∀ G' j, Kq sQo G G' → MAt G' T N j (if f = 0 then (rdOf T b q i).1 else f) → (f = 0 → (rdOf T b q i).1 = 0 → j = (rdOf T b q i).2.2.2 ∧ MQr G' (rdOf T b q i).2.1 ∧ MQi G' (rdOf T b q i).2.1.1 (fun k => if k = q.1 then (rdOf T b q i).2.2.1 else tn k)) → Q G') : EvV K mX12_readOfTerm 3 0 [(0, .ref 66)] [] G Q := by
  have hb5 := hb.2.1
  refine kX12_readOfTerm_0 hL (s_X12_readTerm hL hA hq (fun G1 k1 A1 q1 => ?_))
  have hL1 := k1.lay hL
  have kk1 : Kq sQo G G1 := k1.mono (fun i k z => Or.inl z)
  have b1 : MTb G1 0 b := hb.kq k1 (fun i k z => by unfold sQr at z; omega)
  refine s_X12_takeWord (c := 7) hL1 A1 (by decide) (fun G2 k2 A2 => ?_)
  have hL2 := k2.lay hL1
  have kk2 : Kq sQo G G2 := kk1.tr (k2.mono (fun i k z => by unfold sAt at z; unfold sQo sQr; omega))
  have b2 : MTb G2 0 b := b1.kq k2 (fun i k z => by unfold sAt at z; omega)
  rw [show mw 7 = 411 from rfl] at A2
  -- any fault goes through
  have thru : ∀ (j g : Nat) (x : Int32) (G3 : St), g ≠ 0 → Kq sQo G G3 → MAt G3 T N j g → g = (if f = 0 then (rdOf T b q i).1 else f) → EvV K mX12_readOfTerm 3 65 [(0, .ref 66), (1, .int x)] [] G3 Q := by
    intro j g x G3 hg k3 A3 e
    have hlt := A3.flt
    refine kX12_readOfTerm_65 (k3.lay hL) ?_
    try simp (disch := omega) only [nLe, nLeR, nLeL, nLt, nLtR, nLtL, nEq, nEqR, nEqL, nClamp, nClampR, nAdd, nAddR, nAddL, nSub, nSubR, nMul, nMulR, nMulL, nDivR, vIn, vInR, iteZ, iteP, lEq, lEqR, forall_eq, forall_const, true_implies, false_implies, not_true_eq_false, not_false_eq_true, true_and, and_true, implies_true, Decidable.not_not, Nat.le_refl, A3.f0]
    refine ⟨fun _ => hQ G3 j k3 (by rw [← e]; exact A3) (fun hf h0 => ?_), fun y => absurd y hg⟩
    rw [if_pos hf, h0] at e
    exact absurd e hg
  have thru0 : ∀ (j g : Nat) (G3 : St), g ≠ 0 → Kq sQo G G3 → MAt G3 T N j g → g = (if f = 0 then (rdOf T b q i).1 else f) → EvI K mX12_isName 0 0 [(0, .ref 66)] [] G3 (fun r3 G3 => (r3 = 0 → EvV K mX12_readOfTerm 3 26 [(0, .ref 66)] [.int (-1)] G3 Q) ∧ (¬ r3 = 0 → EvI K mX12_findTable 0 0 [(0, .ref 66), (1, .int 0)] [] G3 (fun r4 G4 => EvV K mX12_readOfTerm 3 26 [(0, .ref 66)] [.int r4] G4 Q))) := by
    intro j g G3 hg k3 A3 e
    have hlt := A3.flt
    refine s_X12_isName (k3.lay hL) A3 ?_
    rw [if_neg (fun y => hg y.1)]
    refine ⟨fun _ => kX12_readOfTerm_26 (k3.lay hL) ?_, fun y => absurd rfl y⟩
    try simp (disch := omega) only [nLe, nLeR, nLeL, nLt, nLtR, nLtL, nEq, nEqR, nEqL, nClamp, nClampR, nAdd, nAddR, nAddL, nSub, nSubR, nMul, nMulR, nMulL, nDivR, vIn, vInR, iteZ, iteP, lEq, lEqR, forall_eq, forall_const, true_implies, false_implies, not_true_eq_false, not_false_eq_true, true_and, and_true, implies_true, Decidable.not_not, Nat.le_refl, A3.f0]
    refine ⟨fun _ => kX12_readOfTerm_49 (k3.lay hL) ?_, fun y => absurd y hg⟩
    try simp (disch := omega) only [nLe, nLeR, nLeL, nLt, nLtR, nLtL, nEq, nEqR, nEqL, nClamp, nClampR, nAdd, nAddR, nAddL, nSub, nSubR, nMul, nMulR, nMulL, nDivR, vIn, vInR, iteZ, iteP, lEq, lEqR, forall_eq, forall_const, true_implies, false_implies, not_true_eq_false, not_false_eq_true, true_and, and_true, implies_true, Decidable.not_not, Nat.le_refl, A3.f0]
    exact ⟨fun _ => thru j g _ G3 hg k3 A3 e, fun y => absurd y hg⟩
  by_cases hf : f = 0
  · subst hf
    simp only [if_true, true_and] at A1 A2 q1 hQ thru thru0
    have q1 := q1 trivial
    by_cases h1 : (rdTerm T q i).1 = 0
    · rw [h1] at A1 A2
      simp only [if_true, true_and] at A2
      have q2 := q1.kq k2 (fun i k z => by unfold sAt at z; omega)
      by_cases h2 : isW (tk T (rdTerm T q i).2.2) 411 = true
      · rw [if_pos h2, if_pos h2] at A2
        obtain ⟨hq4, kd, jj, -, eq, -⟩ := rdTerm_ok h1
        have hi2 := A2.lt
        have bad : ∀ (x : Nat) (y : Int32), x ≤ 5 → 0 < x → rdName T b ((rdTerm T q i).2.2 + 1) = fx T ((rdTerm T q i).2.2 + 1) x → EvV K mX12_wrong 0 0 [(0, .ref 66), (1, .int (nI x))] [] G2 (fun G3 => EvV K mX12_readOfTerm 3 65 [(0, .ref 66), (1, .int y)] [] G3 Q) := by
          intro x y hx hx0 e
          refine s_X12_wrong hL2 A2 hx (fun G3 k3 A3 => ?_)
          rw [if_pos rfl] at A3
          have h0 := fx_pos (T := T) (i := (rdTerm T q i).2.2 + 1) hx0
          refine thru _ _ y G3 h0 (kk2.tr (k3.mono (fun i k z => by unfold sQo sQr; omega))) A3 ?_
          unfold rdOf
          rw [if_neg (by simp [h1]), if_neg (by simp [h2]), if_pos (by rw [e]; exact h0), e]
        refine s_X12_isName hL2 A2 ?_
        try simp (disch := omega) only [nLe, nLeR, nLeL, nLt, nLtR, nLtL, nEq, nEqR, nEqL, nClamp, nClampR, nAdd, nAddR, nAddL, nSub, nSubR, nMul, nMulR, nMulL, nDivR, vIn, vInR, iteZ, iteP, lEq, lEqR, forall_eq, forall_const, true_implies, false_implies, not_true_eq_false, not_false_eq_true, true_and, and_true, implies_true, Decidable.not_not, Nat.le_refl]
        refine ⟨fun hn => kX12_readOfTerm_26 hL2 ?_, fun hn => s_X12_findTable (p := 0) hL2 (by decide) A2 hn b2 hd (kX12_readOfTerm_26 hL2 ?_)⟩
        · try simp (disch := omega) only [nLe, nLeR, nLeL, nLt, nLtR, nLtL, nEq, nEqR, nEqL, nClamp, nClampR, nAdd, nAddR, nAddL, nSub, nSubR, nMul, nMulR, nMulL, nDivR, vIn, vInR, iteZ, iteP, lEq, lEqR, forall_eq, forall_const, true_implies, false_implies, not_true_eq_false, not_false_eq_true, true_and, and_true, implies_true, Decidable.not_not, Nat.le_refl, A2.f0]
          refine s_X12_isName hL2 A2 ?_
          try simp (disch := omega) only [nLe, nLeR, nLeL, nLt, nLtR, nLtL, nEq, nEqR, nEqL, nClamp, nClampR, nAdd, nAddR, nAddL, nSub, nSubR, nMul, nMulR, nMulL, nDivR, vIn, vInR, iteZ, iteP, lEq, lEqR, forall_eq, forall_const, true_implies, false_implies, not_true_eq_false, not_false_eq_true, true_and, and_true, implies_true, Decidable.not_not, Nat.le_refl]
          refine ⟨fun y => absurd y hn, fun _ => bad 1 _ (by decide) (by decide) ?_⟩
          unfold rdName
          rw [if_pos (by simpa using hn)]
        · try simp (disch := omega) only [nLe, nLeR, nLeL, nLt, nLtR, nLtL, nEq, nEqR, nEqL, nClamp, nClampR, nAdd, nAddR, nAddL, nSub, nSubR, nMul, nMulR, nMulL, nDivR, vIn, vInR, iteZ, iteP, lEq, lEqR, forall_eq, forall_const, true_implies, false_implies, not_true_eq_false, not_false_eq_true, true_and, and_true, implies_true, Decidable.not_not, Nat.le_refl, A2.f0]
          refine s_X12_isName hL2 A2 ?_
          try simp (disch := omega) only [nLe, nLeR, nLeL, nLt, nLtR, nLtL, nEq, nEqR, nEqL, nClamp, nClampR, nAdd, nAddR, nAddL, nSub, nSubR, nMul, nMulR, nMulL, nDivR, vIn, vInR, iteZ, iteP, lEq, lEqR, forall_eq, forall_const, true_implies, false_implies, not_true_eq_false, not_false_eq_true, true_and, and_true, implies_true, Decidable.not_not, Nat.le_refl]
          refine ⟨fun _ => kX12_readOfTerm_49 hL2 ?_, fun y => absurd hn y⟩
          try simp (disch := omega) only [nLe, nLeR, nLeL, nLt, nLtR, nLtL, nEq, nEqR, nEqL, nClamp, nClampR, nAdd, nAddR, nAddL, nSub, nSubR, nMul, nMulR, nMulL, nDivR, vIn, vInR, iteZ, iteP, lEq, lEqR, forall_eq, forall_const, true_implies, false_implies, not_true_eq_false, not_false_eq_true, true_and, and_true, implies_true, Decidable.not_not, Nat.le_refl, A2.f0]
          by_cases hf : fT b (vl T ((rdTerm T q i).2.2 + 1)) < b.1
          · rw [if_pos hf]
            try simp (disch := omega) only [nLe, nLeR, nLeL, nLt, nLtR, nLtL, nEq, nEqR, nEqL, nClamp, nClampR, nAdd, nAddR, nAddL, nSub, nSubR, nMul, nMulR, nMulL, nDivR, vIn, vInR, iteZ, iteP, lEq, lEqR, forall_eq, forall_const, true_implies, false_implies, not_true_eq_false, not_false_eq_true, true_and, and_true, implies_true, Decidable.not_not, Nat.le_refl]
            refine ⟨fun _ => kX12_readOfTerm_65 hL2 ?_, fun y => by omega⟩
            have en : (rdTerm T q i).2.1.1 = q.1 + 1 := by rw [eq]; rfl
            have e21 := q2.1
            rw [en] at e21
            try simp (disch := omega) only [nLe, nLeR, nLeL, nLt, nLtR, nLtL, nEq, nEqR, nEqL, nClamp, nClampR, nAdd, nAddR, nAddL, nSub, nSubR, nMul, nMulR, nMulL, nDivR, vIn, vInR, iteZ, iteP, lEq, lEqR, forall_eq, forall_const, true_implies, false_implies, not_true_eq_false, not_false_eq_true, true_and, and_true, implies_true, Decidable.not_not, Nat.le_refl, A2.f0, e21, A2.2.2.1]
            refine ⟨by omega, ?_⟩
            have e : rdOf T b q i = (0, (rdTerm T q i).2.1, fT b (vl T ((rdTerm T q i).2.2 + 1)), (rdTerm T q i).2.2 + 2) := by
              unfold rdOf
              have : rdName T b ((rdTerm T q i).2.2 + 1) = 0 := by unfold rdName; rw [if_neg (by simp [hn]), if_pos hf]
              rw [if_neg (by simp [h1]), if_neg (by simp [h2]), if_neg (by simp [this])]
            rw [e] at hQ
            have hne : (tk T ((rdTerm T q i).2.2 + 1)).1 ≠ 0 := by rw [tk_1 hn]; decide
            have k3 : Kq (fun i k => i = 82) G2 (uI G2 82 (q.1 + 1 - 1) (nI (fT b (vl T ((rdTerm T q i).2.2 + 1))))) := kq_I rfl
            have k4 : Kq (fun i k => i = 66 ∧ k = 7) (uI G2 82 (q.1 + 1 - 1) (nI (fT b (vl T ((rdTerm T q i).2.2 + 1))))) (uI (uI G2 82 (q.1 + 1 - 1) (nI (fT b (vl T ((rdTerm T q i).2.2 + 1))))) 66 7 (nI ((rdTerm T q i).2.2 + 1 + 1))) := kq_I ⟨rfl, rfl⟩
            refine hQ _ _ ((kk2.tr (k3.mono (fun i k z => Or.inr z))).tr (k4.mono (fun i k z => by unfold sQo sQr; omega))) ((A2.kq k3 (fun i k z => by omega)).go k4 (by (simp [gI, gL, gIL, gLI] <;> try rfl)) hne) (fun _ _ => ⟨rfl, (q2.kq k3 (fun i k z => by omega)).kq k4 (fun i k z => by omega), fun k hk => ?_⟩)
            have hk : k < (rdTerm T q i).2.1.1 := hk
            rw [en] at hk
            by_cases e3 : k = q.1
            · (simp [gI, gL, gIL, gLI, e3] <;> try rfl)
            · have e4 : ¬ k = q.1 + 1 - 1 := by omega
              rw [gI, if_neg (by simp), gI, if_neg (by omega)]
              rw [k2.I (by unfold sAt; omega), k1.I (by unfold sQr; omega), htn k (by omega)]
              simp [e3]
          · rw [if_neg hf]
            refine ⟨fun y => absurd y (by decide), fun _ => bad 2 _ (by decide) (by decide) ?_⟩
            unfold rdName
            rw [if_neg (by simp [hn]), if_neg hf]
      · rw [if_neg h2, if_neg h2] at A2
        have h0 := fx_pos (T := T) (i := (rdTerm T q i).2.2) (w := 1) (by decide)
        refine thru0 _ _ G2 h0 kk2 A2 ?_
        unfold rdOf
        rw [if_neg (by simp [h1]), if_pos (by simpa using h2)]
    · rw [if_neg (fun y => h1 y.1), if_neg h1] at A2
      refine thru0 _ _ G2 h1 kk2 A2 ?_
      unfold rdOf
      rw [if_pos h1]
  · simp only [if_neg hf] at A1 A2
    rw [if_neg (fun y => hf y.1)] at A2
    exact thru0 _ _ G2 hf kk2 A2 (by rw [if_neg hf])
/-- all that reading a question may write -/
def sQq : Nat → Nat → Prop := fun i k => sQ0 i k ∨ i = 81 ∨ i = 82
theorem s_X12_question {Q : Int32 → St → Prop} (hL : Lay G.2.2) (hT : MTp G T) (hW : MWd G) (hb : MTb G 0 b) (hd : dsN b)
    (hno : (rdQst T b).1 ≠ 0 → ∀ G', Kq sQq G G' → MTp G' (0, T.2) → Q (nI ((rdQst T b).1 + 100000)) G')
    (hyes : (rdQst T b).1 = 0 → ∀ G', Kq sQq G G' → MTp G' (0, T.2) → MQr G' (rdQst T b).2.1 → (∀ t, t < 5 → sI G' 81 t = nI ((rdQst T b).2.2.1 t)) → MQi G' (rdQst T b).2.1.1 (rdQst T b).2.2.2 → EvI K mX12_findAsked 6 0 [(0, .ref 66)] [] G' Q) : EvI K mX12_question 7 0 [(0, .ref 66)] [] G Q := by
  have t1000 := hT.2.1
  have hb5 := hb.2.1
  refine kX12_question_0 hL ?_
  have k0 : Kq (fun i k => i = 66 ∧ k = 0) G (uI G 66 0 0) := kq_I ⟨rfl, rfl⟩
  have hT0 : MTp (uI G 66 0 0) T := ⟨by (simp [gI, gL, gIL, gLI, hT.1] <;> try rfl), hT.2.1, fun j hj => by (simp [gI, gL, gIL, gLI] <;> try rfl); exact hT.2.2 j hj⟩
  refine s_X12_cutAll hL hT0 (hW.kq k0 (fun i k z => by omega)) (fun G1 N k1 t1 A1 => ?_)
  have k2 : Kq (fun i k => i = 66 ∧ k = 21) G1 (uI G1 66 21 0) := kq_I ⟨rfl, rfl⟩
  have A2 := A1.kq k2 (fun i k z => by omega)
  have q2 : MQr (uI G1 66 21 0) eQ := ⟨by (simp [gI, gL, gIL, gLI, eQ] <;> try rfl), by decide, fun k hk => absurd hk (Nat.not_lt_zero k)⟩
  have t2 : sI (uI G1 66 21 0) 66 2 = nI 0 := by (simp [gI, gL, gIL, gLI] <;> try rfl); exact t1.1
  have kk2 : Kq sQq G (uI G1 66 21 0) := ((k0.mono (S' := sQq) (fun i k z => by unfold sQq sQ0; omega)).tr (k1.mono (S' := sQq) (fun i k z => Or.inl (Or.inl z)))).tr (k2.mono (S' := sQq) (fun i k z => by unfold sQq sQ0; omega))
  generalize uI G1 66 21 0 = G2 at *
  have hL2 := kk2.lay hL
  have b2 : MTb G2 0 b := hb.kq kk2 (fun i k z => by unfold sQq sQ0 ctS at z; omega)
  -- behind the fault is known
  have hend : ∀ (G3 : St) (j f : Nat), Kq (fun i k => sQo i k ∨ i = 81) G2 G3 → MAt G3 T N j f → f = (rdQst T b).1 → (f = 0 → MQr G3 (rdQst T b).2.1 ∧ (∀ t, t < 5 → sI G3 81 t = nI ((rdQst T b).2.2.1 t)) ∧ MQi G3 (rdQst T b).2.1.1 (rdQst T b).2.2.2) → EvI K mX12_question 7 193 [(0, .ref 66)] [] G3 Q := by
    intro G3 j f k3 A3 e h0
    have hlt := A3.flt
    have kk3 : Kq sQq G G3 := kk2.tr (k3.mono (fun i k z => by unfold sQo sQr at z; unfold sQq sQ0 ctS; omega))
    have t3 : MTp G3 (0, T.2) := ⟨by rw [k3.I (by unfold sQo sQr; omega)]; exact t2, Nat.zero_le _, fun j hj => absurd hj (Nat.not_lt_zero j)⟩
    refine kX12_question_193 (k3.lay hL2) ?_
    try simp (disch := omega) only [nLe, nLeR, nLeL, nLt, nLtR, nLtL, nEq, nEqR, nEqL, nClamp, nClampR, nAdd, nAddR, nAddL, nSub, nSubR, nMul, nMulR, nMulL, nDivR, vIn, vInR, iteZ, iteP, lEq, lEqR, forall_eq, forall_const, true_implies, false_implies, not_true_eq_false, not_false_eq_true, true_and, and_true, implies_true, Decidable.not_not, Nat.le_refl, A3.f0]
    refine ⟨fun z => ?_, fun z => ?_⟩
    · have hz : f = 0 := by omega
      obtain ⟨u1, u2, u3⟩ := h0 hz
      exact hyes (by omega) G3 kk3 t3 u1 u2 u3
    · rw [e] at z ⊢
      exact hno (by omega) G3 kk3 t3
  -- the terms
  have terms : ∀ (G3 : St) (j : Nat) (cn : Nat → Nat), Kq (fun i k => sQo i k ∨ i = 81) G2 G3 → MAt G3 T N j 0 → MQr G3 eQ → (∀ t, t < 5 → sI G3 81 t = nI (cn t)) → rdSR T b 5 (fun _ => 0) 0 = (0, cn, j) → EvV K mX12_readOfTerm 3 0 [(0, .ref 66)] [] G3 (fun G4 => EvI K mX12_question 7 153 [(0, .ref 66)] [] G4 Q) := by
    intro G3 j cn k3 A3 q3 c3 er
    have eq : rdQst T b = ((rdST T b 5 eQ (fun _ => 0) j).1, (rdST T b 5 eQ (fun _ => 0) j).2.1, cn, (rdST T b 5 eQ (fun _ => 0) j).2.2) := by
      unfold rdQst
      rw [er, if_neg (by simp)]
    rw [eq] at hend
    have key : ∀ (m : Nat) (v : TQt) (tn : Nat → Nat) (j : Nat) (G4 : St), v.1 + m = 4 → Kq (fun i k => sQo i k ∨ i = 81) G2 G4 → MAt G4 T N j 0 → MQr G4 v → MQi G4 v.1 tn → (∀ t, t < 5 → sI G4 81 t = nI (cn t)) → (∀ (G5 : St) (j2 f : Nat), Kq (fun i k => sQo i k ∨ i = 81) G2 G5 → MAt G5 T N j2 f → f = (rdST T b (m + 1) v tn j).1 → (f = 0 → MQr G5 (rdST T b (m + 1) v tn j).2.1 ∧ (∀ t, t < 5 → sI G5 81 t = nI (cn t)) ∧ MQi G5 (rdST T b (m + 1) v tn j).2.1.1 (rdST T b (m + 1) v tn j).2.2) → EvI K mX12_question 7 193 [(0, .ref 66)] [] G5 Q) → EvV K mX12_readOfTerm 3 0 [(0, .ref 66)] [] G4 (fun G5 => EvI K mX12_question 7 153 [(0, .ref 66)] [] G5 Q) := by
      intro m
      induction m with
      | zero =>
        intro v tn j G4 hc k4 A4 q4 i4 c4 hE
        refine s_X12_readOfTerm (k4.lay hL2) A4 q4 (b2.kq k4 (fun i k z => by unfold sQo sQr at z; omega)) hd i4 (fun G5 j5 k5 A5 r5 => ?_)
        simp only [if_true] at A5
        have hz : (rdOf T b v j).1 ≠ 0 := by
          intro y
          have := (rdTerm_ok (rdOf_ok y).1).1
          omega
        have hlt := A5.flt
        have kk5 : Kq (fun i k => sQo i k ∨ i = 81) G2 G5 := k4.tr (k5.mono (fun i k z => Or.inl z))
        rw [rdST, if_pos hz] at hE
        have hL5 := kk5.lay hL2
        refine kX12_question_153 hL5 (s_X12_hasSign (c := 44) hL5 A5 (by decide) (fun G6 k6 A6 => ?_))
        rw [if_neg (fun y => hz y.1)] at A6 ⊢
        have hlt6 := A6.flt
        try simp (disch := omega) only [nLe, nLeR, nLeL, nLt, nLtR, nLtL, nEq, nEqR, nEqL, nClamp, nClampR, nAdd, nAddR, nAddL, nSub, nSubR, nMul, nMulR, nMulL, nDivR, vIn, vInR, iteZ, iteP, lEq, lEqR, forall_eq, forall_const, true_implies, false_implies, not_true_eq_false, not_false_eq_true, true_and, and_true, implies_true, Decidable.not_not, Nat.le_refl, A6.f0]
        refine ⟨fun _ => ?_, fun y => absurd y hz⟩
        exact hE G6 j5 _ (kk5.tr (k6.mono (fun i k z => by unfold sQo sQr; omega))) A6 rfl (fun y => absurd y hz)
      | succ m ih =>
        intro v tn j G4 hc k4 A4 q4 i4 c4 hE
        refine s_X12_readOfTerm (k4.lay hL2) A4 q4 (b2.kq k4 (fun i k z => by unfold sQo sQr at z; omega)) hd i4 (fun G5 j5 k5 A5 r5 => ?_)
        simp only [if_true, true_implies] at A5 r5
        have kk5 : Kq (fun i k => sQo i k ∨ i = 81) G2 G5 := k4.tr (k5.mono (fun i k z => Or.inl z))
        have c5 : ∀ t, t < 5 → sI G5 81 t = nI (cn t) := fun t ht => by rw [k5.I (by unfold sQo sQr; omega)]; exact c4 t ht
        rw [rdST] at hE
        have hL5 := kk5.lay hL2
        refine kX12_question_153 hL5 (s_X12_hasSign (c := 44) hL5 A5 (by decide) (fun G6 k6 A6 => ?_))
        have kk6 : Kq (fun i k => sQo i k ∨ i = 81) G2 G6 := kk5.tr (k6.mono (fun i k z => by unfold sQo sQr; omega))
        have hL6 := kk6.lay hL2
        have c6 : ∀ t, t < 5 → sI G6 81 t = nI (cn t) := fun t ht => by rw [k6.I (by omega)]; exact c5 t ht
        by_cases hz : (rdOf T b v j).1 = 0
        · obtain ⟨u1, u2, u3⟩ := r5 hz
          have u2' := u2.kq k6 (fun i k z => by omega)
          have u3' : MQi G6 (rdOf T b v j).2.1.1 (fun k => if k = v.1 then (rdOf T b v j).2.2.1 else tn k) := fun k hk => by rw [k6.I (by omega)]; exact u3 k hk
          rw [if_neg (by simp [hz]), ← u1] at hE
          rw [hz] at A6
          simp only [true_and] at A6
          by_cases hs : isS (tk T j5) 44 = true
          · have hne : (tk T j5).1 ≠ 0 := by rw [isS_k hs]; decide
            rw [if_pos ⟨hz, hs⟩]
            rw [if_pos hs] at A6
            rw [if_neg hne, if_pos hs] at hE
            refine ⟨fun y => absurd y (by decide), fun _ => ih _ _ _ G6 ?_ kk6 A6 u2' u3' c6 hE⟩
            obtain ⟨-, kd, jj, -, eqq, -⟩ := rdTerm_ok (rdOf_ok hz).1
            rw [(rdOf_ok hz).2.2.2]
            show (rdTerm T v j).2.1.1 + m = 4
            rw [eqq]
            show v.1 + 1 + m = 4
            omega
          · rw [if_neg (fun y => hs y.2)]
            rw [if_neg hs] at A6
            have hj6 := A6.lt
            have h4 := tk_4 (T := T) j5
            try simp (disch := omega) only [nLe, nLeR, nLeL, nLt, nLtR, nLtL, nEq, nEqR, nEqL, nClamp, nClampR, nAdd, nAddR, nAddL, nSub, nSubR, nMul, nMulR, nMulL, nDivR, vIn, vInR, iteZ, iteP, lEq, lEqR, forall_eq, forall_const, true_implies, false_implies, not_true_eq_false, not_false_eq_true, true_and, and_true, implies_true, Decidable.not_not, Nat.le_refl, A6.f0, A6.2.2.1, A6.tok.1]
            refine ⟨by omega, fun z0 => ?_, fun z0 => s_X12_wrong (x := 1) hL6 A6 (by decide) (fun G7 k7 A7 => ?_)⟩
            · rw [if_pos z0] at hE
              exact hE G6 j5 0 kk6 A6 rfl (fun _ => ⟨u2', c6, u3'⟩)
            · rw [if_neg z0, if_neg hs] at hE
              rw [if_pos rfl] at A7
              exact hE G7 j5 _ (kk6.tr (k7.mono (fun i k z => by unfold sQo sQr; omega))) A7 rfl (fun y => absurd y (fx_pos (by decide)))
        · rw [if_neg (fun y => hz y.1)] at A6 ⊢
          rw [if_pos hz] at hE
          have hlt6 := A6.flt
          try simp (disch := omega) only [nLe, nLeR, nLeL, nLt, nLtR, nLtL, nEq, nEqR, nEqL, nClamp, nClampR, nAdd, nAddR, nAddL, nSub, nSubR, nMul, nMulR, nMulL, nDivR, vIn, vInR, iteZ, iteP, lEq, lEqR, forall_eq, forall_const, true_implies, false_implies, not_true_eq_false, not_false_eq_true, true_and, and_true, implies_true, Decidable.not_not, Nat.le_refl, A6.f0]
          refine ⟨fun _ => ?_, fun y => absurd y hz⟩
          exact hE G6 j5 _ kk6 A6 rfl (fun y => absurd y hz)
    exact key 4 eQ (fun _ => 0) j G3 rfl k3 A3 q3 (fun k hk => absurd hk (Nat.not_lt_zero k)) c3 hend
  -- a fault ahead of the terms
  have fterms : ∀ (G3 : St) (j f : Nat), f ≠ 0 → Kq (fun i k => sQo i k ∨ i = 81) G2 G3 → MAt G3 T N j f → MQr G3 eQ → (rdSR T b 5 (fun _ => 0) 0).1 = f → EvV K mX12_readOfTerm 3 0 [(0, .ref 66)] [] G3 (fun G4 => EvI K mX12_question 7 153 [(0, .ref 66)] [] G4 Q) := by
    intro G3 j f hf k3 A3 q3 er
    have eq : (rdQst T b).1 = f := by
      unfold rdQst
      rw [if_pos (by rw [er]; exact hf)]; exact er
    refine s_X12_readOfTerm (tn := fun _ => 0) (k3.lay hL2) A3 q3 (b2.kq k3 (fun i k z => by unfold sQo sQr at z; omega)) hd (fun k hk => absurd hk (Nat.not_lt_zero k)) (fun G5 j5 k5 A5 r5 => ?_)
    rw [if_neg hf] at A5
    have kk5 : Kq (fun i k => sQo i k ∨ i = 81) G2 G5 := k3.tr (k5.mono (fun i k z => Or.inl z))
    have hL5 := kk5.lay hL2
    refine kX12_question_153 hL5 (s_X12_hasSign (c := 44) hL5 A5 (by decide) (fun G6 k6 A6 => ?_))
    rw [if_neg (fun y => hf y.1)] at A6 ⊢
    have hlt6 := A6.flt
    try simp (disch := omega) only [nLe, nLeR, nLeL, nLt, nLtR, nLtL, nEq, nEqR, nEqL, nClamp, nClampR, nAdd, nAddR, nAddL, nSub, nSubR, nMul, nMulR, nMulL, nDivR, vIn, vInR, iteZ, iteP, lEq, lEqR, forall_eq, forall_const, true_implies, false_implies, not_true_eq_false, not_false_eq_true, true_and, and_true, implies_true, Decidable.not_not, Nat.le_refl, A6.f0]
    refine ⟨fun _ => ?_, fun y => absurd y hf⟩
    exact hend G6 j5 _ (kk5.tr (k6.mono (fun i k z => by unfold sQo sQr; omega))) A6 eq.symm (fun y => absurd y hf)
  -- the names of tables
  have names : ∀ (m : Nat) (cn : Nat → Nat) (j : Nat) (G3 : St), m ≤ 5 → Kq (fun i k => sQo i k ∨ i = 81) G2 G3 → MAt G3 T N j 0 → MQr G3 eQ → (∀ t, t < 5 → sI G3 81 t = nI (cn t)) → rdSR T b m cn j = rdSR T b 5 (fun _ => 0) 0 → EvI K mX12_question 7 38 [(0, .ref 66), (1, .int (nI (5 - m))), (2, .int 1)] [] G3 Q := by
    intro m
    induction m with
    | zero =>
      intro cn j G3 hm k3 A3 q3 c3 he
      have hL3 := k3.lay hL2
      have b3 : MTb G3 0 b := b2.kq k3 (fun i k z => by unfold sQo sQr at z; omega)
      rw [rdSR] at he
      have bad : ∀ (x : Nat) (y : Int32), x ≤ 5 → 0 < x → (rdSR T b 5 (fun _ => 0) 0).1 = fx T j x → EvV K mX12_wrong 0 0 [(0, .ref 66), (1, .int (nI x))] [] G3 (fun G4 => EvI K mX12_question 7 103 [(0, .ref 66), (1, .int (nI 5)), (3, .int y)] [] G4 Q) := by
        intro x y hx hx0 e
        refine s_X12_wrong hL3 A3 hx (fun G4 k4 A4 => kX12_question_103 (k4.lay hL3) ?_)
        rw [if_pos rfl] at A4
        have h0 := fx_pos (T := T) (i := j) hx0
        have hlt := A4.flt
        have kk4 : Kq (fun i k => sQo i k ∨ i = 81) G2 G4 := k3.tr (k4.mono (fun i k z => by unfold sQo sQr; omega))
        have hL4 := k4.lay hL3
        try simp (disch := omega) only [nLe, nLeR, nLeL, nLt, nLtR, nLtL, nEq, nEqR, nEqL, nClamp, nClampR, nAdd, nAddR, nAddL, nSub, nSubR, nMul, nMulR, nMulL, nDivR, vIn, vInR, iteZ, iteP, lEq, lEqR, forall_eq, forall_const, true_implies, false_implies, not_true_eq_false, not_false_eq_true, true_and, and_true, implies_true, Decidable.not_not, Nat.le_refl, A4.f0]
        refine ⟨fun _ => kX12_question_133 hL4 (s_X12_hasSign (c := 44) hL4 A4 (by decide) (fun G5 k5 A5 => ?_)), fun z => absurd z h0⟩
        rw [if_neg (fun y => h0 y.1)] at A5 ⊢
        have hL5 := k5.lay hL4
        refine kX12_question_38 hL5 ?_
        try simp (disch := omega) only [nLe, nLeR, nLeL, nLt, nLtR, nLtL, nEq, nEqR, nEqL, nClamp, nClampR, nAdd, nAddR, nAddL, nSub, nSubR, nMul, nMulR, nMulL, nDivR, vIn, vInR, iteZ, iteP, lEq, lEqR, forall_eq, forall_const, true_implies, false_implies, not_true_eq_false, not_false_eq_true, true_and, and_true, implies_true, Decidable.not_not, Nat.le_refl, A5.f0]
        refine ⟨fun _ => kX12_question_143 hL5 (s_X12_takeSign (c := 58) hL5 A5 (by decide) (fun G6 k6 A6 => ?_)), fun z => absurd z h0⟩
        rw [if_neg (fun y => h0 y.1), if_neg h0] at A6
        exact fterms G6 _ _ h0 ((kk4.tr (k5.mono (fun i k z => by unfold sQo sQr; omega))).tr (k6.mono (fun i k z => by unfold sAt at z; unfold sQo sQr; omega))) A6 (((q3.kq k4 (fun i k z => by omega)).kq k5 (fun i k z => by omega)).kq k6 (fun i k z => by unfold sAt at z; omega)) e
      have f65 : ∀ x : Int32, (isN (tk T j) = true → x = if fT b (vl T j) < b.1 then nI (fT b (vl T j)) else -1) → EvI K mX12_question 7 65 [(0, .ref 66), (1, .int (nI 5))] [.int x] G3 Q := by
        intro x hx
        refine kX12_question_65 hL3 (s_X12_isName hL3 A3 ?_)
        try simp (disch := omega) only [nLe, nLeR, nLeL, nLt, nLtR, nLtL, nEq, nEqR, nEqL, nClamp, nClampR, nAdd, nAddR, nAddL, nSub, nSubR, nMul, nMulR, nMulL, nDivR, vIn, vInR, iteZ, iteP, lEq, lEqR, forall_eq, forall_const, true_implies, false_implies, not_true_eq_false, not_false_eq_true, true_and, and_true, implies_true, Decidable.not_not, Nat.le_refl]
        refine ⟨fun hn => ?_, fun hn => bad 1 x (by decide) (by decide) ?_⟩
        · rw [hx hn]
          by_cases hf : fT b (vl T j) < b.1
          · rw [if_pos hf]
            try simp (disch := omega) only [nLe, nLeR, nLeL, nLt, nLtR, nLtL, nEq, nEqR, nEqL, nClamp, nClampR, nAdd, nAddR, nAddL, nSub, nSubR, nMul, nMulR, nMulL, nDivR, vIn, vInR, iteZ, iteP, lEq, lEqR, forall_eq, forall_const, true_implies, false_implies, not_true_eq_false, not_false_eq_true, true_and, and_true, implies_true, Decidable.not_not, Nat.le_refl]
            refine ⟨fun _ => bad 5 _ (by decide) (by decide) ?_, fun y => by omega⟩
            rw [← he, if_neg (by simp [rdName, hn, hf])]
          · rw [if_neg hf]
            refine ⟨fun y => absurd y (by decide), fun _ => bad 2 _ (by decide) (by decide) ?_⟩
            have e : rdName T b j = fx T j 2 := by simp [rdName, hn, hf]
            rw [← he, if_pos (by rw [e]; exact fx_pos (by decide))]; exact e
        · have e : rdName T b j = fx T j 1 := by simp [rdName, hn]
          rw [← he, if_pos (by rw [e]; exact fx_pos (by decide))]; exact e
      refine kX12_question_38 hL3 ?_
      try simp (disch := omega) only [nLe, nLeR, nLeL, nLt, nLtR, nLtL, nEq, nEqR, nEqL, nClamp, nClampR, nAdd, nAddR, nAddL, nSub, nSubR, nMul, nMulR, nMulL, nDivR, vIn, vInR, iteZ, iteP, lEq, lEqR, forall_eq, forall_const, true_implies, false_implies, not_true_eq_false, not_false_eq_true, true_and, and_true, implies_true, Decidable.not_not, Nat.le_refl, A3.f0]
      refine ⟨fun y => absurd y (by decide), fun _ => s_X12_isName hL3 A3 ?_⟩
      try simp (disch := omega) only [nLe, nLeR, nLeL, nLt, nLtR, nLtL, nEq, nEqR, nEqL, nClamp, nClampR, nAdd, nAddR, nAddL, nSub, nSubR, nMul, nMulR, nMulL, nDivR, vIn, vInR, iteZ, iteP, lEq, lEqR, forall_eq, forall_const, true_implies, false_implies, not_true_eq_false, not_false_eq_true, true_and, and_true, implies_true, Decidable.not_not, Nat.le_refl]
      exact ⟨fun hn => f65 _ (fun y => absurd y hn), fun hn => s_X12_findTable (p := 0) hL3 (by decide) A3 hn b3 hd (f65 _ (fun _ => rfl))⟩
    | succ m ih =>
      intro cn j G3 hm k3 A3 q3 c3 he
      have hL3 := k3.lay hL2
      have b3 : MTb G3 0 b := b2.kq k3 (fun i k z => by unfold sQo sQr at z; omega)
      rw [rdSR] at he
      have bad : ∀ (x : Nat) (y : Int32), x ≤ 5 → 0 < x → (rdSR T b 5 (fun _ => 0) 0).1 = fx T j x → EvV K mX12_wrong 0 0 [(0, .ref 66), (1, .int (nI x))] [] G3 (fun G4 => EvI K mX12_question 7 103 [(0, .ref 66), (1, .int (nI (5 - (m + 1)))), (3, .int y)] [] G4 Q) := by
        intro x y hx hx0 e
        refine s_X12_wrong hL3 A3 hx (fun G4 k4 A4 => kX12_question_103 (k4.lay hL3) ?_)
        rw [if_pos rfl] at A4
        have h0 := fx_pos (T := T) (i := j) hx0
        have hlt := A4.flt
        have kk4 : Kq (fun i k => sQo i k ∨ i = 81) G2 G4 := k3.tr (k4.mono (fun i k z => by unfold sQo sQr; omega))
        have hL4 := k4.lay hL3
        try simp (disch := omega) only [nLe, nLeR, nLeL, nLt, nLtR, nLtL, nEq, nEqR, nEqL, nClamp, nClampR, nAdd, nAddR, nAddL, nSub, nSubR, nMul, nMulR, nMulL, nDivR, vIn, vInR, iteZ, iteP, lEq, lEqR, forall_eq, forall_const, true_implies, false_implies, not_true_eq_false, not_false_eq_true, true_and, and_true, implies_true, Decidable.not_not, Nat.le_refl, A4.f0]
        refine ⟨fun _ => kX12_question_133 hL4 (s_X12_hasSign (c := 44) hL4 A4 (by decide) (fun G5 k5 A5 => ?_)), fun z => absurd z h0⟩
        rw [if_neg (fun y => h0 y.1)] at A5 ⊢
        have hL5 := k5.lay hL4
        refine kX12_question_38 hL5 ?_
        try simp (disch := omega) only [nLe, nLeR, nLeL, nLt, nLtR, nLtL, nEq, nEqR, nEqL, nClamp, nClampR, nAdd, nAddR, nAddL, nSub, nSubR, nMul, nMulR, nMulL, nDivR, vIn, vInR, iteZ, iteP, lEq, lEqR, forall_eq, forall_const, true_implies, false_implies, not_true_eq_false, not_false_eq_true, true_and, and_true, implies_true, Decidable.not_not, Nat.le_refl, A5.f0]
        refine ⟨fun _ => kX12_question_143 hL5 (s_X12_takeSign (c := 58) hL5 A5 (by decide) (fun G6 k6 A6 => ?_)), fun z => absurd z h0⟩
        rw [if_neg (fun y => h0 y.1), if_neg h0] at A6
        exact fterms G6 _ _ h0 ((kk4.tr (k5.mono (fun i k z => by unfold sQo sQr; omega))).tr (k6.mono (fun i k z => by unfold sAt at z; unfold sQo sQr; omega))) A6 (((q3.kq k4 (fun i k z => by omega)).kq k5 (fun i k z => by omega)).kq k6 (fun i k z => by unfold sAt at z; omega)) e
      have f65 : ∀ x : Int32, (isN (tk T j) = true → x = if fT b (vl T j) < b.1 then nI (fT b (vl T j)) else -1) → EvI K mX12_question 7 65 [(0, .ref 66), (1, .int (nI (5 - (m + 1))))] [.int x] G3 Q := by
        intro x hx
        refine kX12_question_65 hL3 (s_X12_isName hL3 A3 ?_)
        try simp (disch := omega) only [nLe, nLeR, nLeL, nLt, nLtR, nLtL, nEq, nEqR, nEqL, nClamp, nClampR, nAdd, nAddR, nAddL, nSub, nSubR, nMul, nMulR, nMulL, nDivR, vIn, vInR, iteZ, iteP, lEq, lEqR, forall_eq, forall_const, true_implies, false_implies, not_true_eq_false, not_false_eq_true, true_and, and_true, implies_true, Decidable.not_not, Nat.le_refl]
        refine ⟨fun hn => ?_, fun hn => bad 1 x (by decide) (by decide) ?_⟩
        · rw [hx hn]
          by_cases hf : fT b (vl T j) < b.1
          · rw [if_pos hf]
            try simp (disch := omega) only [nLe, nLeR, nLeL, nLt, nLtR, nLtL, nEq, nEqR, nEqL, nClamp, nClampR, nAdd, nAddR, nAddL, nSub, nSubR, nMul, nMulR, nMulL, nDivR, vIn, vInR, iteZ, iteP, lEq, lEqR, forall_eq, forall_const, true_implies, false_implies, not_true_eq_false, not_false_eq_true, true_and, and_true, implies_true, Decidable.not_not, Nat.le_refl]
            refine ⟨fun _ => ⟨fun _ => kX12_question_103 hL3 ?_, fun y => by omega⟩, fun y => by omega⟩
            rw [if_neg (by simp [rdName, hn, hf])] at he
            have c81 := c3 (fT b (vl T j)) (by omega)
            generalize htt : fT b (vl T j) = tt at *
            try simp (disch := omega) only [nLe, nLeR, nLeL, nLt, nLtR, nLtL, nEq, nEqR, nEqL, nClamp, nClampR, nAdd, nAddR, nAddL, nSub, nSubR, nMul, nMulR, nMulL, nDivR, vIn, vInR, iteZ, iteP, lEq, lEqR, forall_eq, forall_const, true_implies, false_implies, not_true_eq_false, not_false_eq_true, true_and, and_true, implies_true, Decidable.not_not, Nat.le_refl, A3.f0, c81, A3.2.2.1]
            refine ⟨by omega, by omega, ?_⟩
            have hne : (tk T j).1 ≠ 0 := by rw [tk_1 hn]; decide
            have k4 : Kq (fun i k => i = 81) G3 (uI G3 81 tt (nI (cn tt + 1))) := kq_I rfl
            have k5 : Kq (fun i k => i = 66 ∧ k = 7) (uI G3 81 tt (nI (cn tt + 1))) (uI (uI G3 81 tt (nI (cn tt + 1))) 66 7 (nI (j + 1))) := kq_I ⟨rfl, rfl⟩
            have A5 := (A3.kq k4 (fun i k z => by omega)).go k5 (by (simp [gI, gL, gIL, gLI] <;> try rfl)) hne
            have q5 := (q3.kq k4 (fun i k z => by omega)).kq k5 (fun i k z => by omega)
            have kk5 : Kq (fun i k => sQo i k ∨ i = 81) G2 (uI (uI G3 81 tt (nI (cn tt + 1))) 66 7 (nI (j + 1))) := (k3.tr (k4.mono (fun i k z => Or.inr z))).tr (k5.mono (fun i k z => by unfold sQo sQr; omega))
            have c5 : ∀ t, t < 5 → sI (uI (uI G3 81 tt (nI (cn tt + 1))) 66 7 (nI (j + 1))) 81 t = nI ((fun u => if u = tt then cn u + 1 else cn u) t) := by
              intro t ht
              by_cases e : t = tt
              · (simp [gI, gL, gIL, gLI, e] <;> try rfl)
              · (simp [gI, gL, gIL, gLI, e] <;> try rfl); exact c3 t ht
            generalize uI (uI G3 81 tt (nI (cn tt + 1))) 66 7 (nI (j + 1)) = G5 at *
            have hL5 := kk5.lay hL2
            refine kX12_question_133 hL5 (s_X12_hasSign (c := 44) hL5 A5 (by decide) (fun G6 k6 A6 => ?_))
            simp only [true_and] at A6 ⊢
            have kk6 : Kq (fun i k => sQo i k ∨ i = 81) G2 G6 := kk5.tr (k6.mono (fun i k z => by unfold sQo sQr; omega))
            have hL6 := kk6.lay hL2
            have q6 := q5.kq k6 (fun i k z => by omega)
            have c6 : ∀ t, t < 5 → sI G6 81 t = nI ((fun u => if u = tt then cn u + 1 else cn u) t) := fun t ht => by rw [k6.I (by omega)]; exact c5 t ht
            by_cases hs : isS (tk T (j + 1)) 44 = true
            · rw [if_pos hs] at A6 ⊢
              rw [if_pos hs] at he
              rw [show 5 - (m + 1) + 1 = 5 - m by omega]
              exact ih _ _ G6 (by omega) kk6 A6 q6 c6 he
            · rw [if_neg hs] at A6 ⊢
              rw [if_neg hs] at he
              refine kX12_question_38 hL6 ?_
              try simp (disch := omega) only [nLe, nLeR, nLeL, nLt, nLtR, nLtL, nEq, nEqR, nEqL, nClamp, nClampR, nAdd, nAddR, nAddL, nSub, nSubR, nMul, nMulR, nMulL, nDivR, vIn, vInR, iteZ, iteP, lEq, lEqR, forall_eq, forall_const, true_implies, false_implies, not_true_eq_false, not_false_eq_true, true_and, and_true, implies_true, Decidable.not_not, Nat.le_refl, A6.f0]
              refine kX12_question_143 hL6 (s_X12_takeSign (c := 58) hL6 A6 (by decide) (fun G7 k7 A7 => ?_))
              simp only [if_true, true_and] at A7
              have kk7 : Kq (fun i k => sQo i k ∨ i = 81) G2 G7 := kk6.tr (k7.mono (fun i k z => by unfold sAt at z; unfold sQo sQr; omega))
              have q7 := q6.kq k7 (fun i k z => by unfold sAt at z; omega)
              by_cases h58 : isS (tk T (j + 1)) 58 = true
              · rw [if_pos h58] at he
                rw [if_pos h58, if_pos h58] at A7
                exact terms G7 (j + 2) _ kk7 A7 q7 (fun t ht => by rw [k7.I (by unfold sAt; omega)]; exact c6 t ht) he.symm
              · rw [if_neg h58] at he
                rw [if_neg h58, if_neg h58] at A7
                exact fterms G7 _ _ (fx_pos (by decide)) kk7 A7 q7 (by rw [← he])
          · rw [if_neg hf]
            refine ⟨fun y => absurd y (by decide), fun _ => bad 2 _ (by decide) (by decide) ?_⟩
            have e : rdName T b j = fx T j 2 := by simp [rdName, hn, hf]
            rw [← he, if_pos (by rw [e]; exact fx_pos (by decide))]; exact e
        · have e : rdName T b j = fx T j 1 := by simp [rdName, hn]
          rw [← he, if_pos (by rw [e]; exact fx_pos (by decide))]; exact e
      refine kX12_question_38 hL3 ?_
      try simp (disch := omega) only [nLe, nLeR, nLeL, nLt, nLtR, nLtL, nEq, nEqR, nEqL, nClamp, nClampR, nAdd, nAddR, nAddL, nSub, nSubR, nMul, nMulR, nMulL, nDivR, vIn, vInR, iteZ, iteP, lEq, lEqR, forall_eq, forall_const, true_implies, false_implies, not_true_eq_false, not_false_eq_true, true_and, and_true, implies_true, Decidable.not_not, Nat.le_refl, A3.f0]
      refine ⟨fun y => absurd y (by decide), fun _ => s_X12_isName hL3 A3 ?_⟩
      try simp (disch := omega) only [nLe, nLeR, nLeL, nLt, nLtR, nLtL, nEq, nEqR, nEqL, nClamp, nClampR, nAdd, nAddR, nAddL, nSub, nSubR, nMul, nMulR, nMulL, nDivR, vIn, vInR, iteZ, iteP, lEq, lEqR, forall_eq, forall_const, true_implies, false_implies, not_true_eq_false, not_false_eq_true, true_and, and_true, implies_true, Decidable.not_not, Nat.le_refl]
      exact ⟨fun hn => f65 _ (fun y => absurd y hn), fun hn => s_X12_findTable (p := 0) hL3 (by decide) A3 hn b3 hd (f65 _ (fun _ => rfl))⟩
  -- the counts are set to 0
  have zero : ∀ (m x : Nat) (G3 : St), x + m = 5 → Kq (fun i k => i = 81) G2 G3 → (∀ t, t < x → sI G3 81 t = 0) → EvI K mX12_question 7 16 [(0, .ref 66), (1, .int (nI x))] [] G3 Q := by
    intro m
    induction m with
    | zero =>
      intro x G3 hx k3 z3
      refine kX12_question_16 (k3.lay hL2) ?_
      try simp (disch := omega) only [nLe, nLeR, nLeL, nLt, nLtR, nLtL, nEq, nEqR, nEqL, nClamp, nClampR, nAdd, nAddR, nAddL, nSub, nSubR, nMul, nMulR, nMulL, nDivR, vIn, vInR, iteZ, iteP, lEq, lEqR, forall_eq, forall_const, true_implies, false_implies, not_true_eq_false, not_false_eq_true, true_and, and_true, implies_true, Decidable.not_not, Nat.le_refl]
      refine ⟨fun _ => ?_, fun z => by omega⟩
      exact names 5 (fun _ => 0) 0 G3 (Nat.le_refl _) (k3.mono (fun i k z => Or.inr z)) (A2.kq k3 (fun i k z => by omega)) (q2.kq k3 (fun i k z => by omega)) (fun t ht => z3 t (by omega)) rfl
    | succ m ih =>
      intro x G3 hx k3 z3
      refine kX12_question_16 (k3.lay hL2) ?_
      try simp (disch := omega) only [nLe, nLeR, nLeL, nLt, nLtR, nLtL, nEq, nEqR, nEqL, nClamp, nClampR, nAdd, nAddR, nAddL, nSub, nSubR, nMul, nMulR, nMulL, nDivR, vIn, vInR, iteZ, iteP, lEq, lEqR, forall_eq, forall_const, true_implies, false_implies, not_true_eq_false, not_false_eq_true, true_and, and_true, implies_true, Decidable.not_not, Nat.le_refl]
      refine ⟨fun z => by omega, fun _ => ⟨by omega, ih (x + 1) _ (by omega) (k3.sI rfl) (fun t ht => ?_)⟩⟩
      by_cases e : t = x
      · (simp [gI, gL, gIL, gLI, e] <;> try rfl)
      · (simp [gI, gL, gIL, gLI, e] <;> try rfl); exact z3 t (by omega)
  exact zero 5 0 G2 rfl Kq.rf (fun t ht => absurd ht (Nat.not_lt_zero t))
end RDM7

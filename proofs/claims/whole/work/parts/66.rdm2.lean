section RDM2
variable {K : KT} {G G1 : St} {t N i f : Nat} {b : TBt} {w : RWt} {q : TQt} {T : TPt} {S : Nat → Nat → Prop}
/-- what the model writes when tables are read -/
def sMt : Nat → Nat → Prop := fun i k => i = 66 ∧ (k = 7 ∨ k = 8) ∨ i = 72 ∧ k = 1 ∨ (i = 73 ∨ i = 74) ∧ 5 ≤ k ∨ (i = 75 ∨ i = 76) ∧ 20 ≤ k
theorem MAt.f0 (hA : MAt G T N i f) : sI G 66 8 = nI f := hA.2.2.2.2.1
theorem MAt.flt (hA : MAt G T N i f) : f < 20000 := hA.2.2.2.2.2
theorem MAt.v (hA : MAt G T N i f) (h0 : (tk T i).1 ≠ 0) (h4 : (tk T i).1 ≠ 4) : sL G 70 i = vl T i := hA.tok.2.2 h0 h4
/-- the told part stays -/
theorem mt_told {p : Nat} (hk : Kq sMt G G1) (hb : MTb G 0 b) : MTb G1 0 b := hb.kq hk (fun i k z => by unfold sMt at z; omega)
theorem s_X12_readColumn {Q : St → Prop} (hL : Lay G.2.2) (hA : MAt G T N i 0) (hb : MTb G 1 b) (hd : dsN b) (ht : t < b.1) (hQ : ∀ G', Kq sMt G G' → MAt G' T N (rdCol T b t i).2.2 (rdCol T b t i).1 → ((rdCol T b t i).1 = 0 → MTb G' 1 (rdCol T b t i).2.1) → Q G') : EvV K mX12_readColumn 1 0 [(0, .ref 66), (1, .int (nI (5 + t)))] [] G Q := by
  have hi := hA.lt
  have f0 := hA.f0
  have hat := hA.2.2.1
  have hb5 := hb.2.1
  obtain ⟨n1, n2, n3, n4⟩ := hb.2.2 t ht
  have hsame : ∀ (G' : St) (x : Nat), Kq (fun i k => i = 66 ∧ k = 8) G G' → MAt G' T N i x → x ≠ 0 → (∀ G', Kq sMt G G' → MAt G' T N i x → Q G') → EvV K mX12_readColumn 1 102 [(0, .ref 66), (1, .int (nI (5 + t)))] [] G' Q := by
    intro G' x hk hA' hx hQ'
    have hlt := hA'.flt
    refine kX12_readColumn_102 (hk.lay hL) ?_
    try simp (disch := omega) only [nLe, nLeR, nLeL, nLt, nLtR, nLtL, nEq, nEqR, nEqL, nClamp, nClampR, nAdd, nAddR, nAddL, nSub, nSubR, nMul, nMulR, nMulL, nDivR, vIn, vInR, iteZ, iteP, lEq, lEqR, forall_eq, forall_const, true_implies, false_implies, not_true_eq_false, not_false_eq_true, true_and, and_true, implies_true, Decidable.not_not, Nat.le_refl, hA'.f0]
    exact ⟨fun z => by omega, fun _ => hQ' G' (hk.mono (fun i k z => by unfold sMt; omega)) hA'⟩
  -- behind the loop
  have fin : ∀ c : Prop, [Decidable c] → (isN (tk T i) = true → (c ↔ fC b t (vl T i) < b.2.2.1 t)) → EvV K mX12_readColumn 1 60 [(0, .ref 66), (1, .int (nI (5 + t))), (2, .int (if c then 1 else 0))] [] G Q := by
    intro c hdc hc
    refine kX12_readColumn_60 hL (s_X12_isName hL hA ?_)
    try simp (disch := omega) only [nLe, nLeR, nLeL, nLt, nLtR, nLtL, nEq, nEqR, nEqL, nClamp, nClampR, nAdd, nAddR, nAddL, nSub, nSubR, nMul, nMulR, nMulL, nDivR, vIn, vInR, iteZ, iteP, lEq, lEqR, forall_eq, forall_const, true_implies, false_implies, not_true_eq_false, not_false_eq_true, true_and, and_true, implies_true, Decidable.not_not, Nat.le_refl, n2]
    refine ⟨fun hn => ⟨fun zc => ⟨by omega, fun z4 => ?_, fun z4 => ?_⟩, fun zc => ?_⟩, fun hn => ?_⟩
    · -- a name, new, and there is room
      have hn0 : (tk T i).1 ≠ 0 := by rw [tk_1 hn]; decide
      have hcc : ¬ fC b t (vl T i) < b.2.2.1 t := fun y => zc ((hc hn).mpr y)
      have base : rdCol T b t i = (if isN (tk T (i + 1)) = true then (if fT b (vl T (i + 1)) < b.1 then (0, addC b t (vl T i) (fT b (vl T (i + 1))), i + 2) else (fx T (i + 1) 2, b, i + 1)) else if isW (tk T (i + 1)) 397973 = true then (0, addC b t (vl T i) 5, i + 2) else if isW (tk T (i + 1)) 212302449 = true then (0, addC b t (vl T i) 6, i + 2) else (fx T (i + 1) 1, b, i + 1)) := by
        conv => lhs; unfold rdCol
        rw [if_neg (by simp [hn]), if_neg hcc, if_neg (by omega)]
      refine kX12_readColumn_102 hL ?_
      try simp (disch := omega) only [nLe, nLeR, nLeL, nLt, nLtR, nLtL, nEq, nEqR, nEqL, nClamp, nClampR, nAdd, nAddR, nAddL, nSub, nSubR, nMul, nMulR, nMulL, nDivR, vIn, vInR, iteZ, iteP, lEq, lEqR, forall_eq, forall_const, true_implies, false_implies, not_true_eq_false, not_false_eq_true, true_and, and_true, implies_true, Decidable.not_not, Nat.le_refl, f0, n2, hat]
      refine ⟨by omega, by omega, by omega, ?_⟩
      rw [hA.v hn0 (by rw [tk_1 hn]; decide)]
      have k1 : Kq (fun i k => i = 75 ∧ 20 ≤ k) G (uL G 75 (4 * (5 + t) + b.2.2.1 t) (vl T i)) := kq_L ⟨rfl, by omega⟩
      have A1 := hA.kq k1 (fun i k z => by omega)
      have k2 : Kq (fun i k => i = 66 ∧ k = 7) (uL G 75 (4 * (5 + t) + b.2.2.1 t) (vl T i)) (uI (uL G 75 (4 * (5 + t) + b.2.2.1 t) (vl T i)) 66 7 (nI (i + 1))) := kq_I ⟨rfl, rfl⟩
      have A2 := A1.go k2 (by (simp [gI, gL, gIL, gLI] <;> try rfl)) hn0
      have kk : Kq sMt G (uI (uL G 75 (4 * (5 + t) + b.2.2.1 t) (vl T i)) 66 7 (nI (i + 1))) := (k1.mono (fun i k z => by unfold sMt; omega)).tr (k2.mono (fun i k z => by unfold sMt; omega))
      generalize hG2 : uI (uL G 75 (4 * (5 + t) + b.2.2.1 t) (vl T i)) 66 7 (nI (i + 1)) = G2 at *
      have hL2 : Lay G2.2.2 := kk.lay hL
      have b2 : MTb G2 1 b := by
        refine ⟨?_, hb5, fun u hu => ?_⟩
        · rw [← hG2]; (simp [gI, gL, gIL, gLI, hb.1] <;> try rfl)
        · obtain ⟨m1, m2, m3, m4⟩ := hb.2.2 u hu
          refine ⟨by rw [← hG2]; (simp [gI, gL, gIL, gLI, m1] <;> try rfl), by rw [← hG2]; (simp [gI, gL, gIL, gLI, m2] <;> try rfl), m3, fun c hc => ?_⟩
          obtain ⟨o1, o2⟩ := m4 c hc
          have : ¬ 20 * 1 + 4 * u + c = 4 * (5 + t) + b.2.2.1 t := by
            by_cases e : u = t
            · subst e; omega
            · omega
          refine ⟨?_, by rw [← hG2]; (simp [gI, gL, gIL, gLI, o2] <;> try rfl)⟩
          rw [← hG2, gLI, gL, if_neg (fun y => this y.2)]; exact o1
      have c75 : sL G2 75 (4 * (5 + t) + b.2.2.1 t) = vl T i := by rw [← hG2]; (simp [gI, gL, gIL, gLI] <;> try rfl)
      -- the kind is written
      have put : ∀ (G3 : St) (k : Nat), Kq (fun i k => False) G2 G3 → rdCol T b t i = (0, addC b t (vl T i) k, i + 2) → (tk T (i + 1)).1 ≠ 0 → EvV K mX12_readColumn 1 239 [(0, .ref 66), (1, .int (nI (5 + t)))] [] (uI G3 76 (4 * (5 + t) + b.2.2.1 t) (nI k)) Q := by
        intro G3 k k3 e hne
        rw [e] at hQ
        have A3 := A2.kq k3 (fun i k z => absurd z id)
        have b3 := b2.kq k3 (fun i k z => absurd z id)
        have hL3 := k3.lay hL2
        refine kX12_readColumn_239 hL3 ?_
        (simp [gI, gL, gIL, gLI, A3.f0] <;> try rfl)
        try simp (disch := omega) only [nLe, nLeR, nLeL, nLt, nLtR, nLtL, nEq, nEqR, nEqL, nClamp, nClampR, nAdd, nAddR, nAddL, nSub, nSubR, nMul, nMulR, nMulL, nDivR, vIn, vInR, iteZ, iteP, lEq, lEqR, forall_eq, forall_const, true_implies, false_implies, not_true_eq_false, not_false_eq_true, true_and, and_true, implies_true, Decidable.not_not, Nat.le_refl, (b3.2.2 t ht).2.1, A3.2.2.1]
        refine ⟨by omega, ?_⟩
        have q3 : Kq (fun i k => i = 76 ∧ 20 ≤ k) G3 (uI G3 76 (4 * (5 + t) + b.2.2.1 t) (nI k)) := kq_I ⟨rfl, by omega⟩
        have q4 : Kq (fun i k => i = 66 ∧ k = 7) (uI G3 76 (4 * (5 + t) + b.2.2.1 t) (nI k)) (uI (uI G3 76 (4 * (5 + t) + b.2.2.1 t) (nI k)) 66 7 (nI (i + 1 + 1))) := kq_I ⟨rfl, rfl⟩
        have q5 : Kq (fun i k => i = 74 ∧ 5 ≤ k) (uI (uI G3 76 (4 * (5 + t) + b.2.2.1 t) (nI k)) 66 7 (nI (i + 1 + 1))) (uI (uI (uI G3 76 (4 * (5 + t) + b.2.2.1 t) (nI k)) 66 7 (nI (i + 1 + 1))) 74 (5 + t) (nI (b.2.2.1 t + 1))) := kq_I ⟨rfl, by omega⟩
        have A5 := ((A3.kq q3 (fun i k z => by omega)).go q4 (by (simp [gI, gL, gIL, gLI] <;> try rfl)) hne).kq q5 (fun i k z => by omega)
        refine hQ _ ((((kk.tr (k3.mono (fun i k z => absurd z id))).tr (q3.mono (fun i k z => by unfold sMt; omega))).tr (q4.mono (fun i k z => by unfold sMt; omega))).tr (q5.mono (fun i k z => by unfold sMt; omega))) A5 (fun _ => ?_)
        have c75' : sL G3 75 (4 * (5 + t) + b.2.2.1 t) = vl T i := by rw [k3.L id]; exact c75
        refine ⟨by (simp [gI, gL, gIL, gLI, addC, b3.1] <;> try rfl), hb5, fun u hu => ?_⟩
        have hu : u < b.1 := hu
        obtain ⟨m1, m2, m3, m4⟩ := b3.2.2 u hu
        by_cases e2 : u = t
        · subst e2
          refine ⟨by (simp [gI, gL, gIL, gLI, addC] <;> try rfl); exact m1, by (simp [gI, gL, gIL, gLI, addC] <;> try rfl), by simp [addC]; omega, fun c hc => ?_⟩
          have hc : c < b.2.2.1 u + 1 := by simpa [addC] using hc
          by_cases e3 : c = b.2.2.1 u
          · subst e3
            refine ⟨?_, ?_⟩
            · rw [gLI, gLI, gLI, show 20 * 1 + 4 * u + b.2.2.1 u = 4 * (5 + u) + b.2.2.1 u by omega, c75']; simp [addC]
            · rw [gI, if_neg (by simp), gI, if_neg (by simp), gI, if_pos ⟨rfl, by omega⟩]; simp [addC]
          · obtain ⟨o1, o2⟩ := m4 c (by omega)
            refine ⟨?_, ?_⟩
            · rw [gLI, gLI, gLI, o1]; simp [addC, e3]
            · rw [gI, if_neg (by simp), gI, if_neg (by simp), gI, if_neg (by omega), o2]; simp [addC, e3]
        · refine ⟨by (simp [gI, gL, gIL, gLI, addC] <;> try rfl); exact m1, ?_, by simp [addC, e2]; exact m3, fun c hc => ?_⟩
          · rw [gI, if_neg (by omega), gI, if_neg (by simp), gI, if_neg (by simp), m2]; simp [addC, e2]
          · have hc : c < b.2.2.1 u := by simpa [addC, e2] using hc
            obtain ⟨o1, o2⟩ := m4 c hc
            refine ⟨?_, ?_⟩
            · rw [gLI, gLI, gLI, o1]; simp [addC, e2]
            · rw [gI, if_neg (by simp), gI, if_neg (by simp), gI, if_neg (by omega), o2]; simp [addC, e2]
      have bad : ∀ x : Nat, x ≤ 5 → 0 < x → rdCol T b t i = (fx T (i + 1) x, b, i + 1) → EvV K mX12_wrong 0 0 [(0, .ref 66), (1, .int (nI x))] [] G2 (fun G6 => EvV K mX12_readColumn 1 239 [(0, .ref 66), (1, .int (nI (5 + t)))] [] G6 Q) := by
        intro x hx hx0 e
        rw [e] at hQ
        refine s_X12_wrong hL2 A2 hx (fun G3 k3 A3 => kX12_readColumn_239 (k3.lay hL2) ?_)
        rw [if_pos rfl] at A3
        have hlt := A3.flt
        try simp (disch := omega) only [nLe, nLeR, nLeL, nLt, nLtR, nLtL, nEq, nEqR, nEqL, nClamp, nClampR, nAdd, nAddR, nAddL, nSub, nSubR, nMul, nMulR, nMulL, nDivR, vIn, vInR, iteZ, iteP, lEq, lEqR, forall_eq, forall_const, true_implies, false_implies, not_true_eq_false, not_false_eq_true, true_and, and_true, implies_true, Decidable.not_not, Nat.le_refl, A3.f0]
        exact ⟨fun _ => hQ G3 (kk.tr (k3.mono (fun i k z => by unfold sMt; omega))) A3 (fun y => absurd y (fx_pos hx0)), fun y => absurd y (fx_pos hx0)⟩
      have w180 : (isW (tk T (i + 1)) 397973 = true ∨ isW (tk T (i + 1)) 212302449 = true) → isN (tk T (i + 1)) = false → EvV K mX12_readColumn 1 180 [(0, .ref 66), (1, .int (nI (5 + t))), (3, .int (nI (4 * (5 + t) + b.2.2.1 t)))] [] G2 Q := by
        intro hw hnn
        have hne : (tk T (i + 1)).1 ≠ 0 := by
          rcases hw with y | y
          · rw [isW_k y]; decide
          · rw [isW_k y]; decide
        refine kX12_readColumn_180 hL2 (s_X12_isWord (x := 1) hL2 A2 (by decide) ?_)
        rw [show mw 1 = 397973 from rfl]
        try simp (disch := omega) only [nLe, nLeR, nLeL, nLt, nLtR, nLtL, nEq, nEqR, nEqL, nClamp, nClampR, nAdd, nAddR, nAddL, nSub, nSubR, nMul, nMulR, nMulL, nDivR, vIn, vInR, iteZ, iteP, lEq, lEqR, forall_eq, forall_const, true_implies, false_implies, not_true_eq_false, not_false_eq_true, true_and, and_true, implies_true, Decidable.not_not, Nat.le_refl]
        refine ⟨fun z => ⟨by omega, ?_⟩, fun z => ⟨by omega, ?_⟩⟩
        · have hw2 : isW (tk T (i + 1)) 212302449 = true := hw.resolve_left z
          exact put G2 6 Kq.rf (by rw [base, if_neg (by simp [hnn]), if_neg z, if_pos hw2]) hne
        · exact put G2 5 Kq.rf (by rw [base, if_neg (by simp [hnn]), if_pos z]) hne
      have f162 : ∀ x : Int32, (isN (tk T (i + 1)) = true → x = if fT b (vl T (i + 1)) < b.1 then nI (fT b (vl T (i + 1))) else -1) → EvV K mX12_readColumn 1 162 [(0, .ref 66), (1, .int (nI (5 + t))), (3, .int (nI (4 * (5 + t) + b.2.2.1 t)))] [.int x] G2 Q := by
        intro x hx
        refine kX12_readColumn_162 hL2 (s_X12_isWord (x := 1) hL2 A2 (by decide) ?_)
        rw [show mw 1 = 397973 from rfl]
        try simp (disch := omega) only [nLe, nLeR, nLeL, nLt, nLtR, nLtL, nEq, nEqR, nEqL, nClamp, nClampR, nAdd, nAddR, nAddL, nSub, nSubR, nMul, nMulR, nMulL, nDivR, vIn, vInR, iteZ, iteP, lEq, lEqR, forall_eq, forall_const, true_implies, false_implies, not_true_eq_false, not_false_eq_true, true_and, and_true, implies_true, Decidable.not_not, Nat.le_refl]
        refine ⟨fun z1 => w180 (Or.inl z1) ?_, fun z1 => s_X12_isWord (x := 2) hL2 A2 (by decide) ?_⟩
        · cases hnn : isN (tk T (i + 1)) with
          | false => rfl
          | true => rw [isN_isW hnn (by decide)] at z1; cases z1
        · rw [show mw 2 = 212302449 from rfl]
          try simp (disch := omega) only [nLe, nLeR, nLeL, nLt, nLtR, nLtL, nEq, nEqR, nEqL, nClamp, nClampR, nAdd, nAddR, nAddL, nSub, nSubR, nMul, nMulR, nMulL, nDivR, vIn, vInR, iteZ, iteP, lEq, lEqR, forall_eq, forall_const, true_implies, false_implies, not_true_eq_false, not_false_eq_true, true_and, and_true, implies_true, Decidable.not_not, Nat.le_refl]
          refine ⟨fun z2 => s_X12_isName hL2 A2 ?_, fun z2 => w180 (Or.inr z2) ?_⟩
          · try simp (disch := omega) only [nLe, nLeR, nLeL, nLt, nLtR, nLtL, nEq, nEqR, nEqL, nClamp, nClampR, nAdd, nAddR, nAddL, nSub, nSubR, nMul, nMulR, nMulL, nDivR, vIn, vInR, iteZ, iteP, lEq, lEqR, forall_eq, forall_const, true_implies, false_implies, not_true_eq_false, not_false_eq_true, true_and, and_true, implies_true, Decidable.not_not, Nat.le_refl]
            refine ⟨fun hnn => ?_, fun hnn => bad 1 (by decide) (by decide) (by rw [base, if_neg hnn, if_neg z1, if_neg z2])⟩
            rw [if_pos hnn] at base
            rw [hx hnn]
            by_cases hf : fT b (vl T (i + 1)) < b.1
            · rw [if_pos hf] at base ⊢
              try simp (disch := omega) only [nLe, nLeR, nLeL, nLt, nLtR, nLtL, nEq, nEqR, nEqL, nClamp, nClampR, nAdd, nAddR, nAddL, nSub, nSubR, nMul, nMulR, nMulL, nDivR, vIn, vInR, iteZ, iteP, lEq, lEqR, forall_eq, forall_const, true_implies, false_implies, not_true_eq_false, not_false_eq_true, true_and, and_true, implies_true, Decidable.not_not, Nat.le_refl]
              exact ⟨fun _ => ⟨by omega, put G2 _ Kq.rf base (by rw [tk_1 hnn]; decide)⟩, fun y => by omega⟩
            · rw [if_neg hf] at base ⊢
              exact ⟨fun y => absurd y (by decide), fun _ => bad 2 (by decide) (by decide) base⟩
          · cases hnn : isN (tk T (i + 1)) with
            | false => rfl
            | true => rw [isN_isW hnn (by decide)] at z2; cases z2
      refine s_X12_isName hL2 A2 ?_
      try simp (disch := omega) only [nLe, nLeR, nLeL, nLt, nLtR, nLtL, nEq, nEqR, nEqL, nClamp, nClampR, nAdd, nAddR, nAddL, nSub, nSubR, nMul, nMulR, nMulL, nDivR, vIn, vInR, iteZ, iteP, lEq, lEqR, forall_eq, forall_const, true_implies, false_implies, not_true_eq_false, not_false_eq_true, true_and, and_true, implies_true, Decidable.not_not, Nat.le_refl]
      refine ⟨fun y => f162 _ (fun y2 => absurd y2 y), fun y => s_X12_findTable (p := 1) hL2 (by decide) A2 y b2 hd ?_⟩
      exact f162 _ (fun _ => rfl)
    · -- too many
      refine s_X12_wrong (x := 5) hL hA (by decide) (fun G1 k1 A1 => ?_)
      rw [if_pos rfl] at A1
      have e : rdCol T b t i = (fx T i 5, b, i) := by
        unfold rdCol
        rw [if_neg (by simp [hn]), if_neg (fun y => zc ((hc hn).mpr y)), if_pos (by omega)]
      rw [e] at hQ
      exact hsame G1 _ k1 A1 (fx_pos (by decide)) (fun G2 k2 A2 => hQ G2 k2 A2 (fun y => absurd y (fx_pos (by decide))))
    · refine s_X12_wrong (x := 3) hL hA (by decide) (fun G1 k1 A1 => ?_)
      rw [if_pos rfl] at A1
      have e : rdCol T b t i = (fx T i 3, b, i) := by
        unfold rdCol
        rw [if_neg (by simp [hn]), if_pos ((hc hn).mp zc)]
      rw [e] at hQ
      exact hsame G1 _ k1 A1 (fx_pos (by decide)) (fun G2 k2 A2 => hQ G2 k2 A2 (fun y => absurd y (fx_pos (by decide))))
    · refine s_X12_wrong (x := 1) hL hA (by decide) (fun G1 k1 A1 => ?_)
      rw [if_pos rfl] at A1
      have e : rdCol T b t i = (fx T i 1, b, i) := by
        unfold rdCol
        rw [if_pos (by simpa using hn)]
      rw [e] at hQ
      exact hsame G1 _ k1 A1 (fx_pos (by decide)) (fun G2 k2 A2 => hQ G2 k2 A2 (fun y => absurd y (fx_pos (by decide))))
  refine kX12_readColumn_0 hL ?_
  have key : ∀ (m c : Nat) (p : Prop) [Decidable p], c + m = b.2.2.1 t → (isN (tk T i) = true → (p ↔ ∃ j, j < c ∧ b.2.2.2.1 t j = vl T i)) → EvV K mX12_readColumn 1 4 [(0, .ref 66), (1, .int (nI (5 + t))), (2, .int (if p then 1 else 0)), (3, .int (nI c))] [] G Q := by
    intro m
    induction m with
    | zero =>
      intro c p _ hc hp
      refine kX12_readColumn_4 hL ?_
      try simp (disch := omega) only [nLe, nLeR, nLeL, nLt, nLtR, nLtL, nEq, nEqR, nEqL, nClamp, nClampR, nAdd, nAddR, nAddL, nSub, nSubR, nMul, nMulR, nMulL, nDivR, vIn, vInR, iteZ, iteP, lEq, lEqR, forall_eq, forall_const, true_implies, false_implies, not_true_eq_false, not_false_eq_true, true_and, and_true, implies_true, Decidable.not_not, Nat.le_refl, n2]
      refine ⟨by omega, fun _ => fin p (fun hn => ?_), fun z => by omega⟩
      rw [hp hn]
      constructor
      · rintro ⟨j, hj, ej⟩
        rcases Nat.lt_or_ge (fC b t (vl T i)) (b.2.2.1 t) with y | y
        · exact y
        · have := fa_first_no (fun c => b.2.2.2.1 t c == vl T i) (b.2.2.1 t) j (show j < fC b t (vl T i) by omega)
          simp at this
          exact absurd ej this
      · intro y
        have := fa_first_yes (fun c => b.2.2.2.1 t c == vl T i) (b.2.2.1 t) y
        exact ⟨fC b t (vl T i), by omega, eq_of_beq this⟩
    | succ m ih =>
      intro c p _ hc hp
      have st : ∀ (q : Prop) [Decidable q], (isN (tk T i) = true → (q ↔ ∃ j, j < c + 1 ∧ b.2.2.2.1 t j = vl T i)) → EvV K mX12_readColumn 1 53 [(0, .ref 66), (1, .int (nI (5 + t))), (3, .int (nI c))] [.int (if q then 1 else 0)] G Q := by
        intro q _ hq
        refine kX12_readColumn_53 hL ?_
        try simp (disch := omega) only [nLe, nLeR, nLeL, nLt, nLtR, nLtL, nEq, nEqR, nEqL, nClamp, nClampR, nAdd, nAddR, nAddL, nSub, nSubR, nMul, nMulR, nMulL, nDivR, vIn, vInR, iteZ, iteP, lEq, lEqR, forall_eq, forall_const, true_implies, false_implies, not_true_eq_false, not_false_eq_true, true_and, and_true, implies_true, Decidable.not_not, Nat.le_refl]
        exact ih (c + 1) q (by omega) hq
      refine kX12_readColumn_4 hL ?_
      try simp (disch := omega) only [nLe, nLeR, nLeL, nLt, nLtR, nLtL, nEq, nEqR, nEqL, nClamp, nClampR, nAdd, nAddR, nAddL, nSub, nSubR, nMul, nMulR, nMulL, nDivR, vIn, vInR, iteZ, iteP, lEq, lEqR, forall_eq, forall_const, true_implies, false_implies, not_true_eq_false, not_false_eq_true, true_and, and_true, implies_true, Decidable.not_not, Nat.le_refl, n2, f0, hat]
      refine ⟨by omega, fun z => by omega, fun _ => ⟨fun zp => ?_, fun zp => ⟨by omega, by omega, fun ze => ?_, fun ze => ?_⟩⟩⟩
      · have := st True (fun hn => ⟨fun _ => by obtain ⟨j, hj, ej⟩ := (hp hn).mp zp; exact ⟨j, by omega, ej⟩, fun _ => trivial⟩)
        simpa using this
      · have := st False (fun hn => ⟨fun y => absurd y id, fun ⟨j, hj, ej⟩ => by
          rcases Nat.lt_succ_iff_lt_or_eq.mp hj with y | y
          · exact zp ((hp hn).mpr ⟨j, y, ej⟩)
          · subst y
            rw [hA.v (by rw [tk_1 hn]; decide) (by rw [tk_1 hn]; decide), show 4 * (5 + t) + j = 20 * 1 + 4 * t + j by omega, (n4 j (by omega)).1] at ze
            exact ze ej⟩)
        simpa using this
      · have := st True (fun hn => ⟨fun _ => ⟨c, by omega, by
          rw [hA.v (by rw [tk_1 hn]; decide) (by rw [tk_1 hn]; decide), show 4 * (5 + t) + c = 20 * 1 + 4 * t + c by omega, (n4 c (by omega)).1] at ze
          exact ze⟩, fun _ => trivial⟩)
        simpa using this
  have := key (b.2.2.1 t) 0 False (by omega) (fun _ => ⟨fun y => absurd y id, fun ⟨j, hj, _⟩ => absurd hj (Nat.not_lt_zero j)⟩)
  rw [if_neg id] at this
  exact this
end RDM2

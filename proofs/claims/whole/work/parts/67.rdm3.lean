theorem addT_ds {b : TBt} {v : Int64} (h : dsN b) (hv : ¬ fT b v < b.1) : dsN (addT b v) := by
  have hno : ∀ t, t < b.1 → b.2.1 t ≠ v := by
    intro t ht e
    have := fa_first_no (fun t => b.2.1 t == v) b.1 t (show t < fT b v by omega)
    simp at this
    exact this e
  intro t u ht hu e
  have ht : t < b.1 + 1 := ht
  have hu : u < b.1 + 1 := hu
  simp only [addT] at e
  by_cases h1 : t = b.1
  · by_cases h2 : u = b.1
    · omega
    · rw [if_pos h1, if_neg h2] at e
      exact absurd e.symm (hno u (by omega))
  · by_cases h2 : u = b.1
    · rw [if_neg h1, if_pos h2] at e
      exact absurd e (hno t (by omega))
    · rw [if_neg h1, if_neg h2] at e
      exact h t u (by omega) (by omega) e
theorem rdCols_nm {T : TPt} {t : Nat} : ∀ (m : Nat) (b : TBt) (i : Nat), (rdCols T t m b i).1 = 0 → (rdCols T t m b i).2.1.2.1 = b.2.1
  | 0, b, i, _ => rfl
  | m + 1, b, i, h => by
    rw [rdCols] at h ⊢
    by_cases h1 : (rdCol T b t (i + 1)).1 = 0
    · obtain ⟨k, -, -, -, -, e⟩ := rdCol_ok h1
      rw [if_neg (by simp [h1])] at h ⊢
      have e1 : (rdCol T b t (i + 1)).2.1.2.1 = b.2.1 := by rw [e]; rfl
      split
      · rename_i hs
        rw [if_pos hs] at h
        rw [rdCols_nm m _ _ h, e1]
      · split <;> exact e1
    · rw [if_pos h1] at h
      exact absurd h h1
theorem rdTab_ds {T : TPt} {b : TBt} {i : Nat} (hd : dsN b) (h : (rdTab T b i).1 = 0) : dsN (rdTab T b i).2.1 := by
  revert h
  unfold rdTab
  split
  · intro h; exact absurd h (fx_pos (by decide))
  · split
    · intro h; exact absurd h (fx_pos (by decide))
    · split
      · intro h; exact absurd h (fx_pos (by decide))
      · split
        · intro h; exact absurd h (fx_pos (by decide))
        · rename_i hf
          intro h
          have h1 := rdCols_n _ _ _ h
          have h2 := rdCols_nm _ _ _ h
          have h3 := addT_ds hd hf
          unfold dsN at h3 ⊢
          rw [h1, h2]
          exact h3
section RDM3
variable {K : KT} {G G1 : St} {t N i f : Nat} {b : TBt} {w : RWt} {q : TQt} {T : TPt} {S : Nat → Nat → Prop}
theorem s_X12_readTable {Q : St → Prop} (hL : Lay G.2.2) (hA : MAt G T N i 0) (hb : MTb G 1 b) (hd : dsN b) (hQ : ∀ G', Kq sMt G G' → MAt G' T N (rdTab T b i).2.2 (rdTab T b i).1 → ((rdTab T b i).1 = 0 → MTb G' 1 (rdTab T b i).2.1) → Q G') : EvV K mX12_readTable 2 0 [(0, .ref 66)] [] G Q := by
  have hb5 := hb.2.1
  have t1000 := hA.1.2.2.2.2.2
  have stop : ∀ (pc : Nat) (G1 : St) (x : Nat), x ≤ 5 → 0 < x → rdTab T b i = (fx T i x, b, i) → Kq sMt G G1 → MAt G1 T N i (fx T i x) → EvV K mX12_readTable 2 31 [(0, .ref 66)] [] G1 Q := by
    intro pc G1 x hx hx0 e k1 A1
    rw [e] at hQ
    have hlt := A1.flt
    have h0 := fx_pos (T := T) (i := i) hx0
    refine kX12_readTable_31 (k1.lay hL) ?_
    try simp (disch := omega) only [nLe, nLeR, nLeL, nLt, nLtR, nLtL, nEq, nEqR, nEqL, nClamp, nClampR, nAdd, nAddR, nAddL, nSub, nSubR, nMul, nMulR, nMulL, nDivR, vIn, vInR, iteZ, iteP, lEq, lEqR, forall_eq, forall_const, true_implies, false_implies, not_true_eq_false, not_false_eq_true, true_and, and_true, implies_true, Decidable.not_not, Nat.le_refl, A1.f0]
    exact ⟨fun z => by omega, fun _ => hQ G1 k1 A1 (fun y => absurd y h0)⟩
  refine kX12_readTable_0 hL (s_X12_isWord (x := 0) hL hA (by decide) ?_)
  rw [show mw 0 = 10650290 from rfl]
  try simp (disch := omega) only [nLe, nLeR, nLeL, nLt, nLtR, nLtL, nEq, nEqR, nEqL, nClamp, nClampR, nAdd, nAddR, nAddL, nSub, nSubR, nMul, nMulR, nMulL, nDivR, vIn, vInR, iteZ, iteP, lEq, lEqR, forall_eq, forall_const, true_implies, false_implies, not_true_eq_false, not_false_eq_true, true_and, and_true, implies_true, Decidable.not_not, Nat.le_refl, hb.1]
  refine ⟨fun hw => ⟨fun h5 => ?_, fun h5 => ?_⟩, fun hw => ?_⟩
  · -- go on
    have hne : (tk T i).1 ≠ 0 := by rw [isW_k hw]; decide
    refine kX12_readTable_31 hL ?_
    try simp (disch := omega) only [nLe, nLeR, nLeL, nLt, nLtR, nLtL, nEq, nEqR, nEqL, nClamp, nClampR, nAdd, nAddR, nAddL, nSub, nSubR, nMul, nMulR, nMulL, nDivR, vIn, vInR, iteZ, iteP, lEq, lEqR, forall_eq, forall_const, true_implies, false_implies, not_true_eq_false, not_false_eq_true, true_and, and_true, implies_true, Decidable.not_not, Nat.le_refl, hA.f0, hA.2.2.1]
    have k1 : Kq (fun i k => i = 66 ∧ k = 7) G (uI G 66 7 (nI (i + 1))) := kq_I ⟨rfl, rfl⟩
    have A1 := hA.go k1 (by (simp [gI, gL, gIL, gLI] <;> try rfl)) hne
    have kk1 : Kq sMt G (uI G 66 7 (nI (i + 1))) := k1.mono (fun i k z => by unfold sMt; omega)
    have b1 : MTb (uI G 66 7 (nI (i + 1))) 1 b := hb.kq k1 (fun i k z => by omega)
    generalize uI G 66 7 (nI (i + 1)) = G1 at *
    have hL1 := kk1.lay hL
    have base : rdTab T b i = if isN (tk T (i + 1)) = false then (fx T (i + 1) 1, b, i + 1) else if fT b (vl T (i + 1)) < b.1 then (fx T (i + 1) 3, b, i + 1) else rdCols T b.1 5 (addT b (vl T (i + 1))) (i + 1) := by
      conv => lhs; unfold rdTab
      rw [if_neg (by simp [hw]), if_neg (by omega)]
    have stop2 : ∀ (G2 : St) (x : Nat), x ≤ 5 → 0 < x → rdTab T b i = (fx T (i + 1) x, b, i + 1) → Kq sMt G G2 → MAt G2 T N (i + 1) (fx T (i + 1) x) → EvV K mX12_readTable 2 77 [(0, .ref 66)] [] G2 Q := by
      intro G2 x hx hx0 e k2 A2
      rw [e] at hQ
      have hlt := A2.flt
      have h0 := fx_pos (T := T) (i := i + 1) hx0
      refine kX12_readTable_77 (k2.lay hL) ?_
      try simp (disch := omega) only [nLe, nLeR, nLeL, nLt, nLtR, nLtL, nEq, nEqR, nEqL, nClamp, nClampR, nAdd, nAddR, nAddL, nSub, nSubR, nMul, nMulR, nMulL, nDivR, vIn, vInR, iteZ, iteP, lEq, lEqR, forall_eq, forall_const, true_implies, false_implies, not_true_eq_false, not_false_eq_true, true_and, and_true, implies_true, Decidable.not_not, Nat.le_refl, A2.f0]
      exact ⟨fun z => by omega, fun _ => hQ G2 k2 A2 (fun y => absurd y h0)⟩
    refine s_X12_isName hL1 A1 ?_
    try simp (disch := omega) only [nLe, nLeR, nLeL, nLt, nLtR, nLtL, nEq, nEqR, nEqL, nClamp, nClampR, nAdd, nAddR, nAddL, nSub, nSubR, nMul, nMulR, nMulL, nDivR, vIn, vInR, iteZ, iteP, lEq, lEqR, forall_eq, forall_const, true_implies, false_implies, not_true_eq_false, not_false_eq_true, true_and, and_true, implies_true, Decidable.not_not, Nat.le_refl]
    refine ⟨fun hn => s_X12_findTable (p := 1) hL1 (by decide) A1 hn b1 hd ?_, fun hn => ?_⟩
    · rw [if_neg (by simp [hn])] at base
      by_cases hf : fT b (vl T (i + 1)) < b.1
      · rw [if_pos hf] at base ⊢
        try simp (disch := omega) only [nLe, nLeR, nLeL, nLt, nLtR, nLtL, nEq, nEqR, nEqL, nClamp, nClampR, nAdd, nAddR, nAddL, nSub, nSubR, nMul, nMulR, nMulL, nDivR, vIn, vInR, iteZ, iteP, lEq, lEqR, forall_eq, forall_const, true_implies, false_implies, not_true_eq_false, not_false_eq_true, true_and, and_true, implies_true, Decidable.not_not, Nat.le_refl]
        refine ⟨fun z => by omega, fun _ => s_X12_wrong (x := 3) hL1 A1 (by decide) (fun G2 k2 A2 => ?_)⟩
        rw [if_pos rfl] at A2
        exact stop2 G2 3 (by decide) (by decide) base (kk1.tr (k2.mono (fun i k z => by unfold sMt; omega))) A2
      · rw [if_neg hf] at base ⊢
        refine ⟨fun _ => ?_, fun z => absurd (by decide) z⟩
        have hne1 : (tk T (i + 1)).1 ≠ 0 := by rw [tk_1 hn]; decide
        have hi1 := A1.lt
        refine kX12_readTable_77 hL1 ?_
        try simp (disch := omega) only [nLe, nLeR, nLeL, nLt, nLtR, nLtL, nEq, nEqR, nEqL, nClamp, nClampR, nAdd, nAddR, nAddL, nSub, nSubR, nMul, nMulR, nMulL, nDivR, vIn, vInR, iteZ, iteP, lEq, lEqR, forall_eq, forall_const, true_implies, false_implies, not_true_eq_false, not_false_eq_true, true_and, and_true, implies_true, Decidable.not_not, Nat.le_refl, A1.f0, A1.2.2.1, b1.1]
        refine ⟨by omega, by omega, by omega, ?_⟩
        rw [A1.v hne1 (by rw [tk_1 hn]; decide)]
        have k2 : Kq (fun i k => (i = 73 ∨ i = 74) ∧ 5 ≤ k ∨ i = 72 ∧ k = 1) G1 (uI (uI (uL G1 73 (5 + b.1) (vl T (i + 1))) 74 (5 + b.1) 0) 72 1 (nI (b.1 + 1))) := ((kq_L (by omega)).sI (by omega)).sI (by omega)
        have b2 : MTb (uI (uI (uL G1 73 (5 + b.1) (vl T (i + 1))) 74 (5 + b.1) 0) 72 1 (nI (b.1 + 1))) 1 (addT b (vl T (i + 1))) := by
          refine ⟨by (simp [gI, gL, gIL, gLI, addT] <;> try rfl), by simp [addT]; omega, fun u hu => ?_⟩
          have hu : u < b.1 + 1 := hu
          by_cases e : u = b.1
          · subst e
            exact ⟨by (simp [gI, gL, gIL, gLI, addT] <;> try rfl), by (simp [gI, gL, gIL, gLI, addT] <;> try rfl), by simp [addT], fun c hc => by simp [addT] at hc⟩
          · obtain ⟨m1, m2, m3, m4⟩ := b1.2.2 u (by omega)
            refine ⟨by (simp [gI, gL, gIL, gLI, addT, e] <;> try rfl); exact m1, by (simp [gI, gL, gIL, gLI, addT, e] <;> try rfl); exact m2, by simp [addT, e]; exact m3, fun c hc => ?_⟩
            have hc : c < b.2.2.1 u := by simpa [addT, e] using hc
            exact ⟨by (simp [gI, gL, gIL, gLI, addT] <;> try rfl); exact (m4 c hc).1, by (simp [gI, gL, gIL, gLI, addT] <;> try rfl); exact (m4 c hc).2⟩
        generalize uI (uI (uL G1 73 (5 + b.1) (vl T (i + 1))) 74 (5 + b.1) 0) 72 1 (nI (b.1 + 1)) = G2 at *
        have A2 := A1.kq k2 (fun i k z => by omega)
        have k3 : Kq (fun i k => i = 66 ∧ k = 7) G2 (uI G2 66 7 (nI (i + 1 + 1))) := kq_I ⟨rfl, rfl⟩
        have A3 := A2.go k3 (by (simp [gI, gL, gIL, gLI] <;> try rfl)) hne1
        have kk3 : Kq sMt G (uI G2 66 7 (nI (i + 1 + 1))) := (kk1.tr (k2.mono (fun i k z => by unfold sMt; omega))).tr (k3.mono (fun i k z => by unfold sMt; omega))
        have b3 := b2.kq k3 (fun i k z => by omega)
        generalize uI G2 66 7 (nI (i + 1 + 1)) = G3 at *
        have hL3 := kk3.lay hL
        have hds := addT_ds hd hf
        -- the columns
        have key : ∀ (m : Nat) (c : TBt) (j : Nat) (G4 : St), m ≤ 4 → c.1 = b.1 + 1 → c.2.1 = (addT b (vl T (i + 1))).2.1 → c.2.2.1 b.1 + m = 4 → Lay G4.2.2 → Kq sMt G G4 → MAt G4 T N (rdCol T c b.1 (j + 1)).2.2 (rdCol T c b.1 (j + 1)).1 → ((rdCol T c b.1 (j + 1)).1 = 0 → MTb G4 1 (rdCol T c b.1 (j + 1)).2.1) → (∀ G', Kq sMt G G' → MAt G' T N (rdCols T b.1 (m + 1) c j).2.2 (rdCols T b.1 (m + 1) c j).1 → ((rdCols T b.1 (m + 1) c j).1 = 0 → MTb G' 1 (rdCols T b.1 (m + 1) c j).2.1) → Q G') → EvV K mX12_readTable 2 141 [(0, .ref 66), (1, .int (nI (5 + b.1)))] [] G4 Q := by
          intro m
          induction m with
          | zero =>
            intro c j G4 hm c1 c2 c3 hL4 k4 A4 b4 hQ4
            have hr : (rdCol T c b.1 (j + 1)).1 ≠ 0 := by
              intro z
              obtain ⟨k, -, h4, -⟩ := rdCol_ok z
              omega
            rw [rdCols, if_pos hr] at hQ4
            refine kX12_readTable_141 hL4 (s_X12_hasSign (c := 44) hL4 A4 (by decide) (fun G5 k5 A5 => ?_))
            rw [if_neg (fun y => hr y.1)] at A5 ⊢
            refine ⟨fun _ => s_X12_takeSign (c := 59) (k5.lay hL4) A5 (by decide) (fun G6 k6 A6 => ?_), fun y => absurd rfl y⟩
            rw [if_neg (fun y => hr y.1), if_neg hr] at A6
            exact hQ4 G6 ((k4.tr (k5.mono (fun i k z => by unfold sMt; omega))).tr (k6.mono (fun i k z => by unfold sAt at z; unfold sMt; omega))) A6 (fun y => absurd y hr)
          | succ m ih =>
            intro c j G4 hm c1 c2 c3 hL4 k4 A4 b4 hQ4
            rw [rdCols] at hQ4
            refine kX12_readTable_141 hL4 (s_X12_hasSign (c := 44) hL4 A4 (by decide) (fun G5 k5 A5 => ?_))
            have hL5 := k5.lay hL4
            have kk5 : Kq sMt G G5 := k4.tr (k5.mono (fun i k z => by unfold sMt; omega))
            by_cases hr : (rdCol T c b.1 (j + 1)).1 = 0
            · obtain ⟨k, -, h4, -, -, e⟩ := rdCol_ok hr
              have b5 := (b4 hr).kq k5 (fun i k z => by omega)
              rw [if_neg (by simp [hr])] at hQ4
              by_cases hs : isS (tk T (rdCol T c b.1 (j + 1)).2.2) 44 = true
              · rw [if_pos ⟨hr, hs⟩] at A5 ⊢
                rw [if_pos hs] at hQ4
                refine ⟨fun y => absurd y (by decide), fun _ => ?_⟩
                have e1 : (rdCol T c b.1 (j + 1)).2.1.1 = c.1 := by rw [e]; rfl
                have e2 : (rdCol T c b.1 (j + 1)).2.1.2.1 = c.2.1 := by rw [e]; rfl
                have e3 : (rdCol T c b.1 (j + 1)).2.1.2.2.1 b.1 = c.2.2.1 b.1 + 1 := by rw [e]; exact addC_n.2
                rw [hr] at A5
                refine s_X12_readColumn hL5 A5 b5 ?_ (by omega) (fun G6 k6 A6 b6 => ?_)
                · unfold dsN at hds ⊢
                  rw [e1, e2, c1, c2]; exact hds
                · exact ih (rdCol T c b.1 (j + 1)).2.1 (rdCol T c b.1 (j + 1)).2.2 G6 (by omega) (by omega) (e2.trans c2) (by omega) (k6.lay hL5) (kk5.tr k6) A6 b6 hQ4
              · rw [if_neg (fun y => hs y.2)] at A5 ⊢
                rw [if_neg hs] at hQ4
                refine ⟨fun _ => s_X12_takeSign (c := 59) hL5 A5 (by decide) (fun G6 k6 A6 => ?_), fun y => absurd rfl y⟩
                have kk6 : Kq sMt G G6 := kk5.tr (k6.mono (fun i k z => by unfold sAt at z; unfold sMt; omega))
                have b6 := b5.kq k6 (fun i k z => by unfold sAt at z; omega)
                rw [if_pos hr] at A6
                by_cases h59 : isS (tk T (rdCol T c b.1 (j + 1)).2.2) 59 = true
                · rw [if_pos ⟨hr, h59⟩, if_pos h59] at A6
                  rw [if_pos h59] at hQ4
                  exact hQ4 G6 kk6 A6 (fun _ => b6)
                · rw [if_neg (fun y => h59 y.2), if_neg h59] at A6
                  rw [if_neg h59] at hQ4
                  exact hQ4 G6 kk6 A6 (fun _ => b6)
            · rw [if_pos hr] at hQ4
              rw [if_neg (fun y => hr y.1)] at A5 ⊢
              refine ⟨fun _ => s_X12_takeSign (c := 59) hL5 A5 (by decide) (fun G6 k6 A6 => ?_), fun y => absurd rfl y⟩
              rw [if_neg (fun y => hr y.1), if_neg hr] at A6
              exact hQ4 G6 (kk5.tr (k6.mono (fun i k z => by unfold sAt at z; unfold sMt; omega))) A6 (fun y => absurd y hr)
        refine s_X12_readColumn hL3 A3 b3 hds (t := b.1) (Nat.lt_succ_self _) (fun G4 k4 A4 b4 => ?_)
        rw [base] at hQ
        exact key 4 (addT b (vl T (i + 1))) (i + 1) G4 (Nat.le_refl _) rfl rfl (by simp [addT]) (k4.lay hL3) (kk3.tr k4) A4 b4 hQ
    · rw [if_pos (by simpa using hn)] at base
      refine s_X12_wrong (x := 1) hL1 A1 (by decide) (fun G2 k2 A2 => ?_)
      rw [if_pos rfl] at A2
      exact stop2 G2 1 (by decide) (by decide) base (kk1.tr (k2.mono (fun i k z => by unfold sMt; omega))) A2
  · refine s_X12_wrong (x := 5) hL hA (by decide) (fun G1 k1 A1 => ?_)
    rw [if_pos rfl] at A1
    exact stop 0 G1 5 (by decide) (by decide) (by unfold rdTab; rw [if_neg (by simp [hw]), if_pos (by omega)]) (k1.mono (fun i k z => by unfold sMt; omega)) A1
  · refine s_X12_wrong (x := 1) hL hA (by decide) (fun G1 k1 A1 => ?_)
    rw [if_pos rfl] at A1
    exact stop 0 G1 1 (by decide) (by decide) (by unfold rdTab; rw [if_pos (by simpa using hw)]) (k1.mono (fun i k z => by unfold sMt; omega)) A1
def sTT : Nat → Nat → Prop := fun i k => i = 66 ∧ (k = 15 ∨ k = 16 ∨ k = 20 ∨ k = 29 ∨ k = 54) ∨ i = 72 ∧ k = 0 ∨ (i = 73 ∨ i = 74) ∧ k < 5 ∨ (i = 75 ∨ i = 76) ∧ k < 20 ∨ i = 83 ∨ i = 99
theorem s_X12_takesTables {Q : St → Prop} (hL : Lay G.2.2) (hb : MTb G 1 b) (hQ : ∀ G', Kq sTT G G' → MTb G' 0 b → sI G' 66 16 = 0 → sI G' 66 20 = 0 → sI G' 66 29 = 0 → sI G' 66 54 = 0 → sI G' 66 15 = 1 → (∀ k, k < 120 → sI G' 83 k = 0) → (∀ k, k < 7776 → sI G' 99 k = 0) → Q G') : EvV K mX12_takesTables 0 0 [(0, .ref 66)] [] G Q := by
  obtain ⟨b1, b2, b3⟩ := hb
  have l4 : ∀ (m x : Nat) (G4 : St), x + m = 7776 → Lay G4.2.2 → (∀ k, k < x → sI G4 99 k = 0) → (∀ G', Kq (fun i k => i = 66 ∧ k = 15 ∨ i = 99) G4 G' → sI G' 66 15 = 1 → (∀ k, k < 7776 → sI G' 99 k = 0) → Q G') → EvV K mX12_takesTables 0 140 [(0, .ref 66), (1, .int (nI x))] [] G4 Q := by
    intro m
    induction m with
    | zero =>
      intro x G4 hx hL4 h99 hQ4
      refine kX12_takesTables_140 hL4 ?_
      try simp (disch := omega) only [nLe, nLeR, nLeL, nLt, nLtR, nLtL, nEq, nEqR, nEqL, nClamp, nClampR, nAdd, nAddR, nAddL, nSub, nSubR, nMul, nMulR, nMulL, nDivR, vIn, vInR, iteZ, iteP, lEq, lEqR, forall_eq, forall_const, true_implies, false_implies, not_true_eq_false, not_false_eq_true, true_and, and_true, implies_true, Decidable.not_not, Nat.le_refl]
      refine ⟨fun _ => hQ4 _ (kq_I (by omega)) (by (simp [gI, gL, gIL, gLI] <;> try rfl)) (fun k hk => ?_), fun z => by omega⟩
      (simp [gI, gL, gIL, gLI] <;> try rfl)
      exact h99 k (by omega)
    | succ m ih =>
      intro x G4 hx hL4 h99 hQ4
      refine kX12_takesTables_140 hL4 ?_
      try simp (disch := omega) only [nLe, nLeR, nLeL, nLt, nLtR, nLtL, nEq, nEqR, nEqL, nClamp, nClampR, nAdd, nAddR, nAddL, nSub, nSubR, nMul, nMulR, nMulL, nDivR, vIn, vInR, iteZ, iteP, lEq, lEqR, forall_eq, forall_const, true_implies, false_implies, not_true_eq_false, not_false_eq_true, true_and, and_true, implies_true, Decidable.not_not, Nat.le_refl]
      refine ⟨fun z => by omega, fun _ => ⟨by omega, ih (x + 1) _ (by omega) hL4 (fun k hk => ?_) (fun G5 k5 a c => hQ4 G5 ((kq_I (by omega)).tr k5) a c)⟩⟩
      by_cases e : k = x
      · (simp [gI, gL, gIL, gLI, e] <;> try rfl)
      · (simp [gI, gL, gIL, gLI, e] <;> try rfl)
        exact h99 k (by omega)
  have l3 : ∀ (m x : Nat) (G4 : St), x + m = 120 → Lay G4.2.2 → (∀ k, k < x → sI G4 83 k = 0) → (∀ G', Kq (fun i k => i = 66 ∧ k = 15 ∨ i = 99 ∨ i = 83) G4 G' → sI G' 66 15 = 1 → (∀ k, k < 120 → sI G' 83 k = 0) → (∀ k, k < 7776 → sI G' 99 k = 0) → Q G') → EvV K mX12_takesTables 0 119 [(0, .ref 66), (1, .int (nI x))] [] G4 Q := by
    intro m
    induction m with
    | zero =>
      intro x G4 hx hL4 h83 hQ4
      refine kX12_takesTables_119 hL4 ?_
      try simp (disch := omega) only [nLe, nLeR, nLeL, nLt, nLtR, nLtL, nEq, nEqR, nEqL, nClamp, nClampR, nAdd, nAddR, nAddL, nSub, nSubR, nMul, nMulR, nMulL, nDivR, vIn, vInR, iteZ, iteP, lEq, lEqR, forall_eq, forall_const, true_implies, false_implies, not_true_eq_false, not_false_eq_true, true_and, and_true, implies_true, Decidable.not_not, Nat.le_refl]
      refine ⟨fun _ => l4 7776 0 G4 rfl hL4 (fun k hk => absurd hk (Nat.not_lt_zero k)) (fun G5 k5 a c => hQ4 G5 (k5.mono (fun i k z => by omega)) a (fun k hk => ?_) c), fun z => by omega⟩
      rw [k5.I (by omega)]; exact h83 k (by omega)
    | succ m ih =>
      intro x G4 hx hL4 h83 hQ4
      refine kX12_takesTables_119 hL4 ?_
      try simp (disch := omega) only [nLe, nLeR, nLeL, nLt, nLtR, nLtL, nEq, nEqR, nEqL, nClamp, nClampR, nAdd, nAddR, nAddL, nSub, nSubR, nMul, nMulR, nMulL, nDivR, vIn, vInR, iteZ, iteP, lEq, lEqR, forall_eq, forall_const, true_implies, false_implies, not_true_eq_false, not_false_eq_true, true_and, and_true, implies_true, Decidable.not_not, Nat.le_refl]
      refine ⟨fun z => by omega, fun _ => ⟨by omega, ih (x + 1) _ (by omega) hL4 (fun k hk => ?_) (fun G5 k5 a c d => hQ4 G5 ((kq_I (by omega)).tr k5) a c d)⟩⟩
      by_cases e : k = x
      · (simp [gI, gL, gIL, gLI, e] <;> try rfl)
      · (simp [gI, gL, gIL, gLI, e] <;> try rfl)
        exact h83 k (by omega)
  have l2 : ∀ (m x : Nat) (G4 : St), x + m = 20 → Lay G4.2.2 → Kq sTT G G4 → sI G4 72 0 = nI b.1 → (∀ k, k < 5 → sL G4 73 k = sL G 73 (5 + k) ∧ sI G4 74 k = sI G 74 (5 + k)) → (∀ k, k < x → sL G4 75 k = sL G 75 (20 + k) ∧ sI G4 76 k = sI G 76 (20 + k)) → EvV K mX12_takesTables 0 55 [(0, .ref 66), (1, .int (nI x))] [] G4 Q := by
    intro m
    induction m with
    | zero =>
      intro x G4 hx hL4 k4 n4 t4 c4
      refine kX12_takesTables_55 hL4 ?_
      try simp (disch := omega) only [nLe, nLeR, nLeL, nLt, nLtR, nLtL, nEq, nEqR, nEqL, nClamp, nClampR, nAdd, nAddR, nAddL, nSub, nSubR, nMul, nMulR, nMulL, nDivR, vIn, vInR, iteZ, iteP, lEq, lEqR, forall_eq, forall_const, true_implies, false_implies, not_true_eq_false, not_false_eq_true, true_and, and_true, implies_true, Decidable.not_not, Nat.le_refl]
      refine ⟨fun _ => l3 120 0 _ rfl hL4 (fun k hk => absurd hk (Nat.not_lt_zero k)) (fun G5 k5 a c d => ?_), fun z => by omega⟩
      have k0 : Kq sTT G4 (uI (uI (uI (uI G4 66 16 0) 66 20 0) 66 29 0) 66 54 0) := (((kq_I (by simp [sTT])).sI (by simp [sTT])).sI (by simp [sTT])).sI (by simp [sTT])
      refine hQ G5 ((k4.tr k0).tr (k5.mono (fun i k z => by unfold sTT; omega))) ⟨?_, b2, fun u hu => ?_⟩ ?_ ?_ ?_ ?_ a c d
      · rw [k5.I (by omega)]; (simp [gI, gL, gIL, gLI, n4] <;> try rfl)
      · obtain ⟨m1, m2, m3, m4⟩ := b3 u hu
        refine ⟨?_, ?_, m3, fun c hc => ?_⟩
        · rw [k5.L (by omega)]; (simp [gI, gL, gIL, gLI] <;> try rfl)
          rw [(t4 u (by omega)).1]; exact m1
        · rw [k5.I (by omega)]; (simp [gI, gL, gIL, gLI] <;> try rfl)
          rw [(t4 u (by omega)).2]; exact m2
        · obtain ⟨o1, o2⟩ := m4 c hc
          refine ⟨?_, ?_⟩
          · rw [k5.L (by omega)]; (simp [gI, gL, gIL, gLI] <;> try rfl)
            rw [(c4 _ (by omega)).1, ← o1]; congr 1; omega
          · rw [k5.I (by omega)]; (simp [gI, gL, gIL, gLI] <;> try rfl)
            rw [(c4 _ (by omega)).2, ← o2]; congr 1; omega
      · rw [k5.I (by omega)]; (simp [gI, gL, gIL, gLI] <;> try rfl)
      · rw [k5.I (by omega)]; (simp [gI, gL, gIL, gLI] <;> try rfl)
      · rw [k5.I (by omega)]; (simp [gI, gL, gIL, gLI] <;> try rfl)
      · rw [k5.I (by omega)]; (simp [gI, gL, gIL, gLI] <;> try rfl)
    | succ m ih =>
      intro x G4 hx hL4 k4 n4 t4 c4
      have h20 : sL G4 75 (20 + x) = sL G 75 (20 + x) ∧ sI G4 76 (20 + x) = sI G 76 (20 + x) := ⟨k4.L (by unfold sTT; omega), k4.I (by unfold sTT; omega)⟩
      refine kX12_takesTables_55 hL4 ?_
      try simp (disch := omega) only [nLe, nLeR, nLeL, nLt, nLtR, nLtL, nEq, nEqR, nEqL, nClamp, nClampR, nAdd, nAddR, nAddL, nSub, nSubR, nMul, nMulR, nMulL, nDivR, vIn, vInR, iteZ, iteP, lEq, lEqR, forall_eq, forall_const, true_implies, false_implies, not_true_eq_false, not_false_eq_true, true_and, and_true, implies_true, Decidable.not_not, Nat.le_refl, h20.1, h20.2]
      refine ⟨fun z => by omega, fun _ => ⟨by omega, by omega, by omega, by omega, ih (x + 1) _ (by omega) hL4 ((k4.sL (by unfold sTT; omega)).sI (by unfold sTT; omega)) (by (simp [gI, gL, gIL, gLI, n4] <;> try rfl)) (fun k hk => by (simp [gI, gL, gIL, gLI] <;> try rfl); exact t4 k hk) (fun k hk => ?_)⟩⟩
      by_cases e : k = x
      · (simp [gI, gL, gIL, gLI, e] <;> try rfl)
      · (simp [gI, gL, gIL, gLI, e] <;> try rfl)
        exact c4 k (by omega)
  have l1 : ∀ (m x : Nat) (G4 : St), x + m = 5 → Lay G4.2.2 → Kq sTT G G4 → sI G4 72 0 = nI b.1 → (∀ k, k < x → sL G4 73 k = sL G 73 (5 + k) ∧ sI G4 74 k = sI G 74 (5 + k)) → EvV K mX12_takesTables 0 14 [(0, .ref 66), (1, .int (nI x))] [] G4 Q := by
    intro m
    induction m with
    | zero =>
      intro x G4 hx hL4 k4 n4 t4
      refine kX12_takesTables_14 hL4 ?_
      try simp (disch := omega) only [nLe, nLeR, nLeL, nLt, nLtR, nLtL, nEq, nEqR, nEqL, nClamp, nClampR, nAdd, nAddR, nAddL, nSub, nSubR, nMul, nMulR, nMulL, nDivR, vIn, vInR, iteZ, iteP, lEq, lEqR, forall_eq, forall_const, true_implies, false_implies, not_true_eq_false, not_false_eq_true, true_and, and_true, implies_true, Decidable.not_not, Nat.le_refl]
      exact ⟨fun _ => l2 20 0 G4 rfl hL4 k4 n4 (fun k hk => t4 k (by omega)) (fun k hk => absurd hk (Nat.not_lt_zero k)), fun z => by omega⟩
    | succ m ih =>
      intro x G4 hx hL4 k4 n4 t4
      have h5 : sL G4 73 (5 + x) = sL G 73 (5 + x) ∧ sI G4 74 (5 + x) = sI G 74 (5 + x) := ⟨k4.L (by unfold sTT; omega), k4.I (by unfold sTT; omega)⟩
      refine kX12_takesTables_14 hL4 ?_
      try simp (disch := omega) only [nLe, nLeR, nLeL, nLt, nLtR, nLtL, nEq, nEqR, nEqL, nClamp, nClampR, nAdd, nAddR, nAddL, nSub, nSubR, nMul, nMulR, nMulL, nDivR, vIn, vInR, iteZ, iteP, lEq, lEqR, forall_eq, forall_const, true_implies, false_implies, not_true_eq_false, not_false_eq_true, true_and, and_true, implies_true, Decidable.not_not, Nat.le_refl, h5.1, h5.2]
      refine ⟨fun z => by omega, fun _ => ⟨by omega, by omega, by omega, by omega, ih (x + 1) _ (by omega) hL4 ((k4.sL (by unfold sTT; omega)).sI (by unfold sTT; omega)) (by (simp [gI, gL, gIL, gLI, n4] <;> try rfl)) (fun k hk => ?_)⟩⟩
      by_cases e : k = x
      · (simp [gI, gL, gIL, gLI, e] <;> try rfl)
      · (simp [gI, gL, gIL, gLI, e] <;> try rfl)
        exact t4 k (by omega)
  refine kX12_takesTables_0 hL ?_
  rw [b1]
  exact l1 5 0 _ rfl hL (kq_I (by simp [sTT])) (by (simp [gI, gL, gIL, gLI] <;> try rfl)) (fun k hk => absurd hk (Nat.not_lt_zero k))
/-- all that reading tables may write -/
def sT0 : Nat → Nat → Prop := fun i k => ctS i k ∨ sMt i k ∨ i = 66 ∧ k = 0
theorem s_X12_tables {Q : Int32 → St → Prop} (hL : Lay G.2.2) (hT : MTp G T) (hW : MWd G)
    (hno : (rdTabs T 6 eT 0).1 ≠ 0 → ∀ G', Kq sT0 G G' → MTp G' (0, T.2) → Q (nI (rdTabs T 6 eT 0).1) G')
    (hyes : (rdTabs T 6 eT 0).1 = 0 → ∀ G', Kq (fun i k => sT0 i k ∨ sTT i k) G G' → MTp G' (0, T.2) → MTb G' 0 (rdTabs T 6 eT 0).2.1 → sI G' 66 16 = 0 → sI G' 66 20 = 0 → sI G' 66 29 = 0 → sI G' 66 54 = 0 → sI G' 66 15 = 1 → (∀ k, k < 120 → sI G' 83 k = 0) → (∀ k, k < 7776 → sI G' 99 k = 0) → Q (nI 0) G') : EvI K mX12_tables 3 0 [(0, .ref 66)] [] G Q := by
  have t1000 := hT.2.1
  refine kX12_tables_0 hL ?_
  have k0 : Kq (fun i k => i = 66 ∧ k = 0) G (uI G 66 0 0) := kq_I ⟨rfl, rfl⟩
  have hT0 : MTp (uI G 66 0 0) T := ⟨by (simp [gI, gL, gIL, gLI, hT.1] <;> try rfl), hT.2.1, fun j hj => by (simp [gI, gL, gIL, gLI] <;> try rfl); exact hT.2.2 j hj⟩
  refine s_X12_cutAll hL hT0 (hW.kq k0 (fun i k z => by omega)) (fun G1 N k1 t1 A1 => ?_)
  have kk1 : Kq sT0 G G1 := (k0.mono (fun i k z => Or.inr (Or.inr z))).tr (k1.mono (fun i k z => Or.inl z))
  have k2 : Kq (fun i k => i = 72 ∧ k = 1) G1 (uI G1 72 1 0) := kq_I ⟨rfl, rfl⟩
  have hend : ∀ (G2 : St) (r : Nat × TBt × Nat), r = rdTabs T 6 eT 0 → Kq sT0 G G2 → MAt G2 T N r.2.2 r.1 → (r.1 = 0 → MTb G2 1 r.2.1) → MTp G2 (0, T.2) → EvI K mX12_tables 3 42 [(0, .ref 66)] [] G2 Q := by
    intro G2 r hr kk2 A2 b2 t2
    have hlt := A2.flt
    refine kX12_tables_42 (kk2.lay hL) ?_
    try simp (disch := omega) only [nLe, nLeR, nLeL, nLt, nLtR, nLtL, nEq, nEqR, nEqL, nClamp, nClampR, nAdd, nAddR, nAddL, nSub, nSubR, nMul, nMulR, nMulL, nDivR, vIn, vInR, iteZ, iteP, lEq, lEqR, forall_eq, forall_const, true_implies, false_implies, not_true_eq_false, not_false_eq_true, true_and, and_true, implies_true, Decidable.not_not, Nat.le_refl, A2.f0]
    refine ⟨fun z => ?_, fun z => s_X12_takesTables (kk2.lay hL) (b2 z) (fun G3 k3 a b c d e g h i => ?_)⟩
    · rw [hr] at z ⊢
      exact hno z G2 kk2 t2
    · have e8 : sI G3 66 8 = nI 0 := by rw [k3.I (by unfold sTT; omega), A2.f0, z]
      rw [e8]
      rw [hr] at z a
      refine hyes z G3 ((kk2.mono (fun i k z => Or.inl z)).tr (k3.mono (fun i k z => Or.inr z))) ⟨?_, Nat.zero_le _, fun j hj => absurd hj (Nat.not_lt_zero j)⟩ a b c d e g h i
      rw [k3.I (by unfold sTT; omega)]; exact t2.1
  have key : ∀ (m : Nat) (c : TBt) (j f : Nat) (G2 : St), f < 20000 → (f = 0 → c.1 + m = 6) → (f = 0 → dsN c) → Kq sT0 G G2 → MAt G2 T N j f → (f = 0 → MTb G2 1 c) → MTp G2 (0, T.2) → (if f = 0 then rdTabs T m c j else (f, c, j)) = rdTabs T 6 eT 0 → EvI K mX12_tables 3 16 [(0, .ref 66)] [] G2 Q := by
    intro m
    induction m with
    | zero =>
      intro c j f G2 hf hc hd kk2 A2 b2 t2 he
      have hj := A2.lt
      by_cases hz : f = 0
      · have := (b2 hz).2.1
        have := hc hz
        omega
      · rw [if_neg hz] at he
        refine kX12_tables_16 (kk2.lay hL) ?_
        try simp (disch := omega) only [nLe, nLeR, nLeL, nLt, nLtR, nLtL, nEq, nEqR, nEqL, nClamp, nClampR, nAdd, nAddR, nAddL, nSub, nSubR, nMul, nMulR, nMulL, nDivR, vIn, vInR, iteZ, iteP, lEq, lEqR, forall_eq, forall_const, true_implies, false_implies, not_true_eq_false, not_false_eq_true, true_and, and_true, implies_true, Decidable.not_not, Nat.le_refl, A2.f0]
        exact ⟨fun _ => hend G2 _ he kk2 A2 (fun y => absurd y hz) t2, fun y => absurd y hz⟩
    | succ m ih =>
      intro c j f G2 hf hc hd kk2 A2 b2 t2 he
      have hj := A2.lt
      have h4 := tk_4 (T := T) j
      have hL2 := kk2.lay hL
      refine kX12_tables_16 hL2 ?_
      try simp (disch := omega) only [nLe, nLeR, nLeL, nLt, nLtR, nLtL, nEq, nEqR, nEqL, nClamp, nClampR, nAdd, nAddR, nAddL, nSub, nSubR, nMul, nMulR, nMulL, nDivR, vIn, vInR, iteZ, iteP, lEq, lEqR, forall_eq, forall_const, true_implies, false_implies, not_true_eq_false, not_false_eq_true, true_and, and_true, implies_true, Decidable.not_not, Nat.le_refl, A2.f0, A2.2.2.1, A2.tok.1]
      refine ⟨fun hz => ?_, fun hz => ⟨by omega, fun z0 => ?_, fun z0 => ?_⟩⟩
      · rw [if_neg hz] at he
        exact hend G2 _ he kk2 A2 (fun y => absurd y hz) t2
      · rw [if_pos hz, rdTabs, if_pos z0] at he
        subst hz
        exact hend G2 _ he kk2 A2 b2 t2
      · rw [if_pos hz, rdTabs, if_neg z0] at he
        subst hz
        refine s_X12_readTable hL2 A2 (b2 rfl) (hd rfl) (fun G3 k3 A3 b3 => ?_)
        have t3 : MTp G3 (0, T.2) := ⟨by rw [k3.I (by unfold sMt; omega)]; exact t2.1, Nat.zero_le _, fun j hj => absurd hj (Nat.not_lt_zero j)⟩
        by_cases y : (rdTab T c j).1 = 0
        · refine ih (rdTab T c j).2.1 _ (rdTab T c j).1 G3 (rdTab_lt t1000) (fun z => ?_) (fun z => rdTab_ds (hd rfl) z) (kk2.tr (k3.mono (fun i k z => Or.inr (Or.inl z)))) A3 b3 t3 ?_
          · have := (rdTab_n z).1
            have := hc rfl
            omega
          · rw [if_pos y]; rw [if_neg (by simp [y])] at he; exact he
        · refine ih (rdTab T c j).2.1 _ (rdTab T c j).1 G3 (rdTab_lt t1000) (fun z => absurd z y) (fun z => absurd z y) (kk2.tr (k3.mono (fun i k z => Or.inr (Or.inl z)))) A3 (fun z => absurd z y) t3 ?_
          rw [if_neg y]
          rw [if_pos y] at he
          exact he
  refine key 6 eT 0 0 _ (by decide) (fun _ => rfl) (fun _ t u ht => absurd ht (Nat.not_lt_zero t)) (kk1.tr (k2.mono (fun i k z => Or.inr (Or.inl (Or.inr (Or.inl z)))))) (A1.kq k2 (fun i k z => by omega)) (fun _ => ⟨by (simp [gI, gL, gIL, gLI, eT] <;> try rfl), by decide, fun t ht => absurd ht (Nat.not_lt_zero t)⟩) ⟨by (simp [gI, gL, gIL, gLI] <;> try rfl); exact t1.1, Nat.zero_le _, fun j hj => absurd hj (Nat.not_lt_zero j)⟩ (by rw [if_pos rfl])
end RDM3

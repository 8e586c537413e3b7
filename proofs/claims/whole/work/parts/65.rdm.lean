/-! the model reads -/
section RDM
variable {K : KT} {G G1 : St} {t N i f : Nat} {b : TBt} {w : RWt} {q : TQt} {T : TPt} {S : Nat → Nat → Prop}
theorem MTb.kq {p : Nat} (hb : MTb G p b) (hk : Kq S G G1) (hs : ∀ i k, S i k → ¬ (i = 72 ∧ k = p ∨ (i = 73 ∨ i = 74) ∧ 5 * p ≤ k ∧ k < 5 * p + 5 ∨ (i = 75 ∨ i = 76) ∧ 20 * p ≤ k ∧ k < 20 * p + 20)) : MTb G1 p b := by
  obtain ⟨h1, h2, h3⟩ := hb
  refine ⟨(hk.I (fun z => hs _ _ z (by omega))).trans h1, h2, fun t ht => ?_⟩
  obtain ⟨a1, a2, a3, a4⟩ := h3 t ht
  refine ⟨(hk.L (fun z => hs _ _ z (by omega))).trans a1, (hk.I (fun z => hs _ _ z (by omega))).trans a2, a3, fun c hc => ?_⟩
  obtain ⟨c1, c2⟩ := a4 c hc
  exact ⟨(hk.L (fun z => hs _ _ z (by omega))).trans c1, (hk.I (fun z => hs _ _ z (by omega))).trans c2⟩
theorem MWd.kq (hw : MWd G) (hk : Kq S G G1) (hs : ∀ i k, S i k → ¬ i = 71) : MWd G1 := fun k h => (hk.L (fun z => hs _ _ z rfl)).trans (hw k h)
theorem MCt.kq (hc : MCt G T N) (hk : Kq S G G1) (hs : ∀ i k, S i k → ¬ (i = 68 ∨ i = 69 ∨ i = 70)) : MCt G1 T N := by
  obtain ⟨a, b, c, d, e, g⟩ := hc
  refine ⟨a, b, c, fun j hj => ?_, e, g⟩
  obtain ⟨u, v, w⟩ := d j hj
  exact ⟨(hk.I (fun z => hs _ _ z (by omega))).trans u, (hk.I (fun z => hs _ _ z (by omega))).trans v, fun x y => (hk.L (fun z => hs _ _ z (by omega))).trans (w x y)⟩
theorem MAt.kq (hA : MAt G T N i f) (hk : Kq S G G1) (hs : ∀ i k, S i k → ¬ (i = 68 ∨ i = 69 ∨ i = 70 ∨ i = 71 ∨ i = 66 ∧ (k = 7 ∨ k = 8))) : MAt G1 T N i f := by
  obtain ⟨a, b, c, d, e, g⟩ := hA
  exact ⟨a.kq hk (fun i k z y => hs i k z (by omega)), b.kq hk (fun i k z y => hs i k z (by omega)), (hk.I (fun z => hs _ _ z (by omega))).trans c, d, (hk.I (fun z => hs _ _ z (by omega))).trans e, g⟩
theorem MAt.tok (hA : MAt G T N i f) : mtk G T i := hA.1.2.2.2.1 i hA.2.2.2.1
theorem MAt.lt (hA : MAt G T N i f) : i ≤ 1000 := Nat.le_trans hA.2.2.2.1 hA.1.1
theorem MAt.go (hA : MAt G T N i f) (hk : Kq (fun i k => i = 66 ∧ k = 7) G G1) (h : sI G1 66 7 = nI (i + 1)) (hn : (tk T i).1 ≠ 0) : MAt G1 T N (i + 1) f := by
  obtain ⟨a, b, c, d, e, g⟩ := hA
  refine ⟨a.kq hk (fun i k z => by omega), b.kq hk (fun i k z => by omega), h, ?_, (hk.I (by omega)).trans e, g⟩
  rcases Nat.lt_or_eq_of_le d with q | q
  · exact q
  · rw [q] at hn; exact absurd a.2.1 hn
theorem s_X12_wrong {Q : St → Prop} {x : Nat} (hL : Lay G.2.2) (hA : MAt G T N i f) (hx : x ≤ 5) (hQ : ∀ G', Kq (fun i k => i = 66 ∧ k = 8) G G' → MAt G' T N i (if f = 0 then fx T i x else f) → Q G') : EvV K mX12_wrong 0 0 [(0, .ref 66), (1, .int (nI x))] [] G Q := by
  have hi := hA.lt
  have h2 := hA.tok.2.1
  obtain ⟨a, b, c, d, e, g⟩ := id hA
  refine kX12_wrong_0 hL ?_
  try simp (disch := omega) only [nLe, nLeR, nLeL, nLt, nLtR, nLtL, nEq, nEqR, nEqL, nClamp, nClampR, nAdd, nAddR, nAddL, nSub, nSubR, nMul, nMulR, nMulL, nDivR, vIn, vInR, iteZ, iteP, lEq, lEqR, forall_eq, forall_const, true_implies, false_implies, not_true_eq_false, not_false_eq_true, true_and, and_true, implies_true, Decidable.not_not, e, c]
  refine ⟨fun z => hQ G Kq.rf (by rw [if_neg z]; exact hA), fun z => ⟨by omega, ?_⟩⟩
  try simp (disch := omega) only [nLe, nLeR, nLeL, nLt, nLtR, nLtL, nEq, nEqR, nEqL, nClamp, nClampR, nAdd, nAddR, nAddL, nSub, nSubR, nMul, nMulR, nMulL, nDivR, vIn, vInR, iteZ, iteP, lEq, lEqR, forall_eq, forall_const, true_implies, false_implies, not_true_eq_false, not_false_eq_true, true_and, and_true, implies_true, Decidable.not_not, h2]
  have hk : Kq (fun i k => i = 66 ∧ k = 8) G (uI G 66 8 (nI (x + 16 * (tk T i).2.1))) := kq_I ⟨rfl, rfl⟩
  refine hQ _ hk ⟨a.kq hk (fun i k z => by omega), b.kq hk (fun i k z => by omega), by (simp [gI, gL, gIL, gLI, c] <;> try rfl), d, ?_, ?_⟩
  · rw [if_pos z]; (simp [gI, gL, gIL, gLI, fx] <;> try rfl)
  · rw [if_pos z]; exact fx_lt a.2.2.2.2.2 hx
theorem s_X12_isSign {Q : Int32 → St → Prop} {c : Nat} (hL : Lay G.2.2) (hA : MAt G T N i f) (hc : c < 256) (hQ : Q (if f = 0 ∧ isS (tk T i) c = true then 1 else 0) G) : EvI K mX12_isSign 0 0 [(0, .ref 66), (1, .int (nI c))] [] G Q := by
  have hi := hA.lt
  obtain ⟨h1, -, h3⟩ := hA.tok
  obtain ⟨a, -, cc, d, e, g⟩ := id hA
  have h4 := tk_4 (T := T) i
  refine kX12_isSign_0 hL ?_
  try simp (disch := omega) only [nLe, nLeR, nLeL, nLt, nLtR, nLtL, nEq, nEqR, nEqL, nClamp, nClampR, nAdd, nAddR, nAddL, nSub, nSubR, nMul, nMulR, nMulL, nDivR, vIn, vInR, iteZ, iteP, lEq, lEqR, forall_eq, forall_const, true_implies, false_implies, not_true_eq_false, not_false_eq_true, true_and, and_true, implies_true, Decidable.not_not, e, cc, h1]
  refine ⟨fun z => ?_, fun z => ⟨by omega, fun z2 => ?_, fun z2 => ⟨by omega, ?_⟩⟩⟩
  · rw [if_neg (fun y => z y.1)] at hQ; exact hQ
  · rw [if_neg (by simp [isS, z2])] at hQ; exact hQ
  · have hv := tk_v (G := G) (T := T) (i := i) a.2.2.2.2.1 (by omega)
    try simp (disch := omega) only [nLe, nLeR, nLeL, nLt, nLtR, nLtL, nEq, nEqR, nEqL, nClamp, nClampR, nAdd, nAddR, nAddL, nSub, nSubR, nMul, nMulR, nMulL, nDivR, vIn, vInR, iteZ, iteP, lEq, lEqR, forall_eq, forall_const, true_implies, false_implies, not_true_eq_false, not_false_eq_true, true_and, and_true, implies_true, Decidable.not_not, h3 (by omega) (by omega), nI_l]
    refine ⟨fun z3 => ?_, fun z3 => ?_⟩
    · rw [if_neg (by simp [isS, z3])] at hQ; exact hQ
    · rw [if_pos (by simp [isS, z, z2, z3])] at hQ; exact hQ
theorem s_X12_isWord {Q : Int32 → St → Prop} {x : Nat} (hL : Lay G.2.2) (hA : MAt G T N i f) (hx : x < 8) (hQ : Q (if f = 0 ∧ isW (tk T i) (mw x) = true then 1 else 0) G) : EvI K mX12_isWord 0 0 [(0, .ref 66), (1, .int (nI x))] [] G Q := by
  have hi := hA.lt
  obtain ⟨h1, -, h3⟩ := hA.tok
  obtain ⟨a, b, cc, d, e, g⟩ := id hA
  have h4 := tk_4 (T := T) i
  have hm := mw_lt x
  refine kX12_isWord_0 hL ?_
  try simp (disch := omega) only [nLe, nLeR, nLeL, nLt, nLtR, nLtL, nEq, nEqR, nEqL, nClamp, nClampR, nAdd, nAddR, nAddL, nSub, nSubR, nMul, nMulR, nMulL, nDivR, vIn, vInR, iteZ, iteP, lEq, lEqR, forall_eq, forall_const, true_implies, false_implies, not_true_eq_false, not_false_eq_true, true_and, and_true, implies_true, Decidable.not_not, e, cc, h1, b x hx]
  refine ⟨fun z => ?_, fun z => ⟨by omega, fun z2 => ?_, fun z2 => ⟨by omega, by omega, ?_⟩⟩⟩
  · rw [if_neg (fun y => z y.1)] at hQ; exact hQ
  · rw [if_neg (by simp [isW, z2])] at hQ; exact hQ
  · have hv := tk_v (G := G) (T := T) (i := i) a.2.2.2.2.1 (by omega)
    try simp (disch := omega) only [nLe, nLeR, nLeL, nLt, nLtR, nLtL, nEq, nEqR, nEqL, nClamp, nClampR, nAdd, nAddR, nAddL, nSub, nSubR, nMul, nMulR, nMulL, nDivR, vIn, vInR, iteZ, iteP, lEq, lEqR, forall_eq, forall_const, true_implies, false_implies, not_true_eq_false, not_false_eq_true, true_and, and_true, implies_true, Decidable.not_not, h3 (by omega) (by omega)]
    refine ⟨fun z3 => ?_, fun z3 => ?_⟩
    · rw [if_neg (by simp [isW, z3])] at hQ; exact hQ
    · rw [if_pos (by simp [isW, z, z2, z3])] at hQ; exact hQ
theorem rsvd_mw (n : Nat) : rsvd n = true ↔ ∃ k, k < 8 ∧ n = mw k := by
  unfold rsvd
  constructor
  · intro h
    simp at h
    rcases h with ((((((h | h) | h) | h) | h) | h) | h) | h
    · exact ⟨0, by decide, h⟩
    · exact ⟨1, by decide, h⟩
    · exact ⟨2, by decide, h⟩
    · exact ⟨3, by decide, h⟩
    · exact ⟨4, by decide, h⟩
    · exact ⟨5, by decide, h⟩
    · exact ⟨6, by decide, h⟩
    · exact ⟨7, by decide, h⟩
  · rintro ⟨k, hk, rfl⟩
    rcases (show k = 0 ∨ k = 1 ∨ k = 2 ∨ k = 3 ∨ k = 4 ∨ k = 5 ∨ k = 6 ∨ k = 7 by omega) with rfl | rfl | rfl | rfl | rfl | rfl | rfl | rfl <;> decide
theorem isN_isW {k : Nat × Nat × Nat × Nat} {x : Nat} (h : isN k = true) (hx : rsvd x = true) : isW k x = false := by
  unfold isN at h
  unfold isW
  simp at h ⊢
  intro _ e
  rw [e, hx] at h
  simp at h
theorem s_X12_isName {Q : Int32 → St → Prop} (hL : Lay G.2.2) (hA : MAt G T N i f) (hQ : Q (if f = 0 ∧ isN (tk T i) = true then 1 else 0) G) : EvI K mX12_isName 0 0 [(0, .ref 66)] [] G Q := by
  have hi := hA.lt
  obtain ⟨h1, -, h3⟩ := hA.tok
  obtain ⟨a, b, cc, d, e, g⟩ := id hA
  have h4 := tk_4 (T := T) i
  have lp0 : ∀ m k, k + m = 8 → Q 0 G → EvI K mX12_isName 0 28 [(0, .ref 66), (1, .int 0), (2, .int (nI k))] [] G Q := by
    intro m
    induction m with
    | zero =>
      intro k hk hQ
      refine kX12_isName_28 hL ?_
      try simp (disch := omega) only [nLe, nLeR, nLeL, nLt, nLtR, nLtL, nEq, nEqR, nEqL, nClamp, nClampR, nAdd, nAddR, nAddL, nSub, nSubR, nMul, nMulR, nMulL, nDivR, vIn, vInR, iteZ, iteP, lEq, lEqR, forall_eq, forall_const, true_implies, false_implies, not_true_eq_false, not_false_eq_true, true_and, and_true, implies_true, Decidable.not_not]
      exact ⟨fun _ => ⟨by decide, hQ⟩, fun z => by omega⟩
    | succ m ih =>
      intro k hk hQ
      refine kX12_isName_28 hL ?_
      try simp (disch := omega) only [nLe, nLeR, nLeL, nLt, nLtR, nLtL, nEq, nEqR, nEqL, nClamp, nClampR, nAdd, nAddR, nAddL, nSub, nSubR, nMul, nMulR, nMulL, nDivR, vIn, vInR, iteZ, iteP, lEq, lEqR, forall_eq, forall_const, true_implies, false_implies, not_true_eq_false, not_false_eq_true, true_and, and_true, implies_true, Decidable.not_not]
      refine ⟨fun z => by omega, fun _ => ?_⟩
      refine kX12_isName_61 hL (kX12_isName_62 hL ?_)
      try simp (disch := omega) only [nLe, nLeR, nLeL, nLt, nLtR, nLtL, nEq, nEqR, nEqL, nClamp, nClampR, nAdd, nAddR, nAddL, nSub, nSubR, nMul, nMulR, nMulL, nDivR, vIn, vInR, iteZ, iteP, lEq, lEqR, forall_eq, forall_const, true_implies, false_implies, not_true_eq_false, not_false_eq_true, true_and, and_true, implies_true, Decidable.not_not]
      exact ih (k + 1) (by omega) hQ
  refine kX12_isName_0 hL ?_
  try simp (disch := omega) only [nLe, nLeR, nLeL, nLt, nLtR, nLtL, nEq, nEqR, nEqL, nClamp, nClampR, nAdd, nAddR, nAddL, nSub, nSubR, nMul, nMulR, nMulL, nDivR, vIn, vInR, iteZ, iteP, lEq, lEqR, forall_eq, forall_const, true_implies, false_implies, not_true_eq_false, not_false_eq_true, true_and, and_true, implies_true, Decidable.not_not, e, cc, h1]
  refine ⟨fun z => lp0 8 0 rfl ?_, fun z => ⟨by omega, fun z2 => lp0 8 0 rfl ?_, fun z2 => ?_⟩⟩
  · rw [if_neg (fun y => z y.1)] at hQ; exact hQ
  · rw [if_neg (by simp [isN, z2])] at hQ; exact hQ
  · have hv := tk_v (G := G) (T := T) (i := i) a.2.2.2.2.1 (by omega)
    have h3' := h3 (by omega) (by omega)
    have lp1 : ∀ m k, k + m = 8 → (∀ j, j < k → (tk T i).2.2.1 ≠ mw j) → EvI K mX12_isName 0 28 [(0, .ref 66), (1, .int 1), (2, .int (nI k))] [] G Q := by
      intro m
      induction m with
      | zero =>
        intro k hk hne
        refine kX12_isName_28 hL ?_
        try simp (disch := omega) only [nLe, nLeR, nLeL, nLt, nLtR, nLtL, nEq, nEqR, nEqL, nClamp, nClampR, nAdd, nAddR, nAddL, nSub, nSubR, nMul, nMulR, nMulL, nDivR, vIn, vInR, iteZ, iteP, lEq, lEqR, forall_eq, forall_const, true_implies, false_implies, not_true_eq_false, not_false_eq_true, true_and, and_true, implies_true, Decidable.not_not]
        refine ⟨fun _ => ⟨by decide, ?_⟩, fun z => by omega⟩
        have : rsvd (tk T i).2.2.1 = false := by
          cases hr : rsvd (tk T i).2.2.1 with
          | false => rfl
          | true =>
            obtain ⟨j, hj, ej⟩ := (rsvd_mw _).mp hr
            exact absurd ej (hne j (by omega))
        rw [if_pos (by simp [isN, z, z2, this])] at hQ; exact hQ
      | succ m ih =>
        intro k hk hne
        have hm := mw_lt k
        refine kX12_isName_28 hL ?_
        try simp (disch := omega) only [nLe, nLeR, nLeL, nLt, nLtR, nLtL, nEq, nEqR, nEqL, nClamp, nClampR, nAdd, nAddR, nAddL, nSub, nSubR, nMul, nMulR, nMulL, nDivR, vIn, vInR, iteZ, iteP, lEq, lEqR, forall_eq, forall_const, true_implies, false_implies, not_true_eq_false, not_false_eq_true, true_and, and_true, implies_true, Decidable.not_not, cc, h3', b k (by omega)]
        refine ⟨fun z => by omega, fun _ => ⟨fun y => absurd y (by decide), fun _ => ⟨by omega, by omega, fun ee => ?_, fun ee => ?_⟩⟩⟩
        · refine kX12_isName_61 hL (kX12_isName_62 hL ?_)
          try simp (disch := omega) only [nLe, nLeR, nLeL, nLt, nLtR, nLtL, nEq, nEqR, nEqL, nClamp, nClampR, nAdd, nAddR, nAddL, nSub, nSubR, nMul, nMulR, nMulL, nDivR, vIn, vInR, iteZ, iteP, lEq, lEqR, forall_eq, forall_const, true_implies, false_implies, not_true_eq_false, not_false_eq_true, true_and, and_true, implies_true, Decidable.not_not]
          refine lp0 m (k + 1) (by omega) ?_
          rw [if_neg (by simp [isN, (rsvd_mw _).mpr ⟨k, by omega, ee⟩])] at hQ; exact hQ
        · refine kX12_isName_62 hL ?_
          try simp (disch := omega) only [nLe, nLeR, nLeL, nLt, nLtR, nLtL, nEq, nEqR, nEqL, nClamp, nClampR, nAdd, nAddR, nAddL, nSub, nSubR, nMul, nMulR, nMulL, nDivR, vIn, vInR, iteZ, iteP, lEq, lEqR, forall_eq, forall_const, true_implies, false_implies, not_true_eq_false, not_false_eq_true, true_and, and_true, implies_true, Decidable.not_not]
          refine ih (k + 1) (by omega) (fun j hj => ?_)
          rcases Nat.lt_succ_iff_lt_or_eq.mp hj with y | y
          · exact hne j y
          · subst y; exact ee
    exact lp1 8 0 rfl (fun j hj => absurd hj (Nat.not_lt_zero j))
theorem isS_k {k : Nat × Nat × Nat × Nat} {c : Nat} (h : isS k c = true) : k.1 = 3 := by simp [isS] at h; exact h.1
theorem isW_k {k : Nat × Nat × Nat × Nat} {c : Nat} (h : isW k c = true) : k.1 = 1 := by simp [isW] at h; exact h.1
theorem s_X12_hasSign {Q : Int32 → St → Prop} {c : Nat} (hL : Lay G.2.2) (hA : MAt G T N i f) (hc : c < 256) (hQ : ∀ G', Kq (fun i k => i = 66 ∧ k = 7) G G' → MAt G' T N (if f = 0 ∧ isS (tk T i) c = true then i + 1 else i) f → Q (if f = 0 ∧ isS (tk T i) c = true then 1 else 0) G') : EvI K mX12_hasSign 1 0 [(0, .ref 66), (1, .int (nI c))] [] G Q := by
  refine kX12_hasSign_0 hL (s_X12_isSign hL hA hc ?_)
  have hk : ∀ v, Kq (fun i k => i = 66 ∧ k = 7) G (uI G 66 7 v) := fun v => kq_I ⟨rfl, rfl⟩
  by_cases h : f = 0 ∧ isS (tk T i) c = true
  · rw [if_pos h] at hQ ⊢
    rw [if_pos h] at hQ
    refine ⟨fun z => absurd z (by decide), fun _ => ⟨by decide, hQ _ (hk _) (hA.go (hk _) ?_ (by rw [isS_k h.2]; decide))⟩⟩
    (simp [gI, gL, gIL, gLI, hA.2.2.1, nAddR] <;> try rfl)
  · rw [if_neg h] at hQ ⊢
    rw [if_neg h] at hQ
    refine ⟨fun _ => ⟨by decide, hQ _ (hk _) ?_⟩, fun z => absurd rfl z⟩
    obtain ⟨a, b, cc, d, e, g⟩ := hA
    exact ⟨a.kq (hk _) (fun i k z => by omega), b.kq (hk _) (fun i k z => by omega), by (simp [gI, gL, gIL, gLI, cc] <;> try rfl), d, by (simp [gI, gL, gIL, gLI, e] <;> try rfl), g⟩
theorem s_X12_hasWord {Q : Int32 → St → Prop} {c : Nat} (hL : Lay G.2.2) (hA : MAt G T N i f) (hc : c < 8) (hQ : ∀ G', Kq (fun i k => i = 66 ∧ k = 7) G G' → MAt G' T N (if f = 0 ∧ isW (tk T i) (mw c) = true then i + 1 else i) f → Q (if f = 0 ∧ isW (tk T i) (mw c) = true then 1 else 0) G') : EvI K mX12_hasWord 1 0 [(0, .ref 66), (1, .int (nI c))] [] G Q := by
  refine kX12_hasWord_0 hL (s_X12_isWord hL hA hc ?_)
  have hk : ∀ v, Kq (fun i k => i = 66 ∧ k = 7) G (uI G 66 7 v) := fun v => kq_I ⟨rfl, rfl⟩
  by_cases h : f = 0 ∧ isW (tk T i) (mw c) = true
  · rw [if_pos h] at hQ ⊢
    rw [if_pos h] at hQ
    refine ⟨fun z => absurd z (by decide), fun _ => ⟨by decide, hQ _ (hk _) (hA.go (hk _) ?_ (by rw [isW_k h.2]; decide))⟩⟩
    (simp [gI, gL, gIL, gLI, hA.2.2.1, nAddR] <;> try rfl)
  · rw [if_neg h] at hQ ⊢
    rw [if_neg h] at hQ
    refine ⟨fun _ => ⟨by decide, hQ _ (hk _) ?_⟩, fun z => absurd rfl z⟩
    obtain ⟨a, b, cc, d, e, g⟩ := hA
    exact ⟨a.kq (hk _) (fun i k z => by omega), b.kq (hk _) (fun i k z => by omega), by (simp [gI, gL, gIL, gLI, cc] <;> try rfl), d, by (simp [gI, gL, gIL, gLI, e] <;> try rfl), g⟩
def sAt : Nat → Nat → Prop := fun i k => i = 66 ∧ (k = 7 ∨ k = 8)
theorem s_X12_takeSign {Q : St → Prop} {c : Nat} (hL : Lay G.2.2) (hA : MAt G T N i f) (hc : c < 256) (hQ : ∀ G', Kq sAt G G' → MAt G' T N (if f = 0 ∧ isS (tk T i) c = true then i + 1 else i) (if f = 0 then if isS (tk T i) c = true then 0 else fx T i 1 else f) → Q G') : EvV K mX12_takeSign 1 0 [(0, .ref 66), (1, .int (nI c))] [] G Q := by
  refine kX12_takeSign_0 hL (s_X12_isSign hL hA hc ?_)
  by_cases h : f = 0 ∧ isS (tk T i) c = true
  · rw [if_pos h] at hQ ⊢
    rw [if_pos h.1, if_pos h.2] at hQ
    have hk : Kq (fun i k => i = 66 ∧ k = 7) G (uI G 66 7 (sI G 66 7 + 1)) := kq_I ⟨rfl, rfl⟩
    refine ⟨fun z => absurd z (by decide), fun _ => hQ _ (hk.mono (fun i k z => by unfold sAt; omega)) ?_⟩
    have := hA.go hk (by (simp [gI, gL, gIL, gLI, hA.2.2.1, nAddR] <;> try rfl)) (by rw [isS_k h.2]; decide)
    rw [h.1] at this
    exact this
  · rw [if_neg h] at hQ ⊢
    refine ⟨fun _ => s_X12_wrong (x := 1) hL hA (by decide) (fun G1 k1 a1 => hQ G1 (k1.mono (fun i k z => by unfold sAt; omega)) ?_), fun z => absurd rfl z⟩
    by_cases h2 : f = 0
    · rw [if_pos h2] at a1 ⊢
      rw [if_neg (fun y => h ⟨h2, y⟩)]
      exact a1
    · rw [if_neg h2] at a1 ⊢
      exact a1
theorem s_X12_takeWord {Q : St → Prop} {c : Nat} (hL : Lay G.2.2) (hA : MAt G T N i f) (hc : c < 8) (hQ : ∀ G', Kq sAt G G' → MAt G' T N (if f = 0 ∧ isW (tk T i) (mw c) = true then i + 1 else i) (if f = 0 then if isW (tk T i) (mw c) = true then 0 else fx T i 1 else f) → Q G') : EvV K mX12_takeWord 2 0 [(0, .ref 66), (1, .int (nI c))] [] G Q := by
  refine kX12_takeWord_0 hL (s_X12_hasWord hL hA hc (fun G1 k1 a1 => ?_))
  by_cases h : f = 0 ∧ isW (tk T i) (mw c) = true
  · rw [if_pos h] at hQ a1 ⊢
    rw [if_pos h.1, if_pos h.2] at hQ
    rw [h.1] at a1
    exact ⟨fun _ => hQ _ (k1.mono (fun i k z => by unfold sAt; omega)) a1, fun z => absurd z (by decide)⟩
  · rw [if_neg h] at hQ a1 ⊢
    refine ⟨fun z => absurd rfl z, fun _ => s_X12_wrong (x := 1) (k1.lay hL) a1 (by decide) (fun G2 k2 a2 => hQ G2 ((k1.mono (fun i k z => by unfold sAt; omega)).tr (k2.mono (fun i k z => by unfold sAt; omega))) ?_)⟩
    by_cases h2 : f = 0
    · rw [if_pos h2] at a2 ⊢
      rw [if_neg (fun y => h ⟨h2, y⟩)]
      exact a2
    · rw [if_neg h2] at a2 ⊢
      exact a2
/-- no two tables have one name -/
def dsN (b : TBt) : Prop := ∀ t u, t < b.1 → u < b.1 → b.2.1 t = b.2.1 u → t = u
theorem s_X12_findTable {Q : Int32 → St → Prop} {p : Nat} (hL : Lay G.2.2) (hp : p < 2) (hA : MAt G T N i f) (hn : isN (tk T i) = true) (hb : MTb G p b) (hd : dsN b) (hQ : Q (if fT b (vl T i) < b.1 then nI (fT b (vl T i)) else -1) G) : EvI K mX12_findTable 0 0 [(0, .ref 66), (1, .int (nI p))] [] G Q := by
  have hi := hA.lt
  obtain ⟨h1, -, h3⟩ := hA.tok
  obtain ⟨a, -, cc, d, e, g⟩ := id hA
  have h3' : sL G 70 i = vl T i := h3 (by rw [tk_1 hn]; decide) (by rw [tk_1 hn]; decide)
  obtain ⟨b1, b2, b3⟩ := hb
  refine kX12_findTable_0 hL ?_
  have key : ∀ (m t : Nat) (x : Int32), t + m = b.1 → x = (if fT b (vl T i) < t then nI (fT b (vl T i)) else -1) → EvI K mX12_findTable 0 4 [(0, .ref 66), (1, .int (nI p)), (2, .int x), (3, .int (nI t))] [] G Q := by
    intro m
    induction m with
    | zero =>
      intro t x ht hx
      refine kX12_findTable_4 hL ?_
      try simp (disch := omega) only [nLe, nLeR, nLeL, nLt, nLtR, nLtL, nEq, nEqR, nEqL, nClamp, nClampR, nAdd, nAddR, nAddL, nSub, nSubR, nMul, nMulR, nMulL, nDivR, vIn, vInR, iteZ, iteP, lEq, lEqR, forall_eq, forall_const, true_implies, false_implies, not_true_eq_false, not_false_eq_true, true_and, and_true, implies_true, Decidable.not_not, b1]
      refine ⟨by omega, fun _ => ?_, fun z => by omega⟩
      rw [hx, show t = b.1 by omega]
      exact hQ
    | succ m ih =>
      intro t x ht hx
      have fin : ∀ y, y = (if fT b (vl T i) < t + 1 then nI (fT b (vl T i)) else -1) → EvI K mX12_findTable 0 42 [(0, .ref 66), (1, .int (nI p)), (3, .int (nI t))] [.int y] G Q := by
        intro y hy
        refine kX12_findTable_42 hL ?_
        try simp (disch := omega) only [nLe, nLeR, nLeL, nLt, nLtR, nLtL, nEq, nEqR, nEqL, nClamp, nClampR, nAdd, nAddR, nAddL, nSub, nSubR, nMul, nMulR, nMulL, nDivR, vIn, vInR, iteZ, iteP, lEq, lEqR, forall_eq, forall_const, true_implies, false_implies, not_true_eq_false, not_false_eq_true, true_and, and_true, implies_true, Decidable.not_not]
        exact ih (t + 1) y (by omega) hy
      refine kX12_findTable_4 hL ?_
      try simp (disch := omega) only [nLe, nLeR, nLeL, nLt, nLtR, nLtL, nEq, nEqR, nEqL, nClamp, nClampR, nAdd, nAddR, nAddL, nSub, nSubR, nMul, nMulR, nMulL, nDivR, vIn, vInR, iteZ, iteP, lEq, lEqR, forall_eq, forall_const, true_implies, false_implies, not_true_eq_false, not_false_eq_true, true_and, and_true, implies_true, Decidable.not_not, b1, cc, h3', (b3 t (by omega)).1]
      refine ⟨by omega, fun z => by omega, fun _ => ⟨by omega, by omega, fun z => fin x ?_, fun z => fin (nI t) ?_⟩⟩
      · have : fT b (vl T i) ≠ t := by
          intro y
          have h := fa_first_yes (fun t => b.2.1 t == vl T i) b.1 (show fT b (vl T i) < b.1 by omega)
          change (b.2.1 (fT b (vl T i)) == vl T i) = true at h
          rw [y] at h
          exact z (by simpa using h)
        rw [hx]
        by_cases y : fT b (vl T i) < t
        · rw [if_pos y, if_pos (by omega)]
        · rw [if_neg y, if_neg (by omega)]
      · have hle : fT b (vl T i) ≤ t := by
          rcases Nat.lt_or_ge t (fT b (vl T i)) with y | y
          · have h := fa_first_no (fun t => b.2.1 t == vl T i) b.1 t y
            simp at h
            exact absurd z h
          · exact y
        have heq : fT b (vl T i) = t := by
          have h := fa_first_yes (fun t => b.2.1 t == vl T i) b.1 (show fT b (vl T i) < b.1 by omega)
          change (b.2.1 (fT b (vl T i)) == vl T i) = true at h
          exact hd _ _ (by omega) (by omega) ((by simpa using h : b.2.1 (fT b (vl T i)) = vl T i).trans z.symm)
        rw [if_pos (by omega), heq]
  exact key b.1 0 (-1) (by omega) (by rw [if_neg (by omega)])
end RDM

section TAPE2
variable {K : KT} {G : St} {T : TPt}
theorem tok_le {p : Nat} (h : p ≤ T.1) : (tok T p).2.2.2 ≤ T.1 ∧ p ≤ (tok T p).2.1 ∧ (tok T p).2.1 ≤ T.1 := by
  have h1 := rn_le (P := isBl) h
  have h2 := rn_ge isBl T p
  unfold tok
  simp only []
  split
  · exact ⟨h1, h2, h1⟩
  · rename_i q
    have h3 := rn_le (P := isLt) (T := T) (p := rn isBl T p) (by omega)
    have h4 := rn_le (P := isDg) (T := T) (p := rn isBl T p) (by omega)
    split
    · exact ⟨h3, h2, h1⟩
    · split
      · exact ⟨h4, h2, h1⟩
      · exact ⟨by show rn isBl T p + 1 ≤ T.1; omega, h2, h1⟩
theorem s_X7_takeSign {Q : St → Prop} {q : Nat} (hL : Lay G.2.2) (hT : XTp G T) (hq : q < T.1) (hn : sI G 2 1 = nI q) (hQ : ∀ G', KpT G G' → sI G' 2 3 = nI (if T.2 q = 44 ∨ T.2 q = 58 ∨ T.2 q = 59 then 3 else 4) → sI G' 2 4 = sI G 2 4 → sI G' 2 1 = nI (q + 1) → sL G' 2 5 = lN (T.2 q) → Q G') : EvV K mX7_takeSign 0 0 [(0, .ref 2)] [] G Q := by
  have h1000 := hT.2.1
  obtain ⟨s1, s2⟩ := hT.2.2 q hq
  have s3 := okS_lt s2
  refine kX7_takeSign_0 hL ?_
  try simp (disch := omega) only [nLe, nLeR, nLeL, nLt, nLtR, nLtL, nEq, nEqR, nEqL, nClamp, nClampR, nAdd, nAddR, nAddL, nSub, nSubR, nMul, nMulR, nMulL, nDivR, vIn, vInR, iteZ, iteP, lEq, lEqR, forall_eq, forall_const, true_implies, false_implies, not_true_eq_false, not_false_eq_true, true_and, and_true, implies_true, Decidable.not_not, hn, s1, nI_l]
  have j : ∀ v : Nat, v = (if T.2 q = 44 ∨ T.2 q = 58 ∨ T.2 q = 59 then 3 else 4) → EvV K mX7_takeSign 0 53 [(0, .ref 2)] [.int (nI v), .ref 2] (uL G 2 5 (lN (T.2 q))) Q := by
    intro v hv
    refine kX7_takeSign_53 hL (hQ _ ((kpT_L.tr (kpT_I (by decide))).tr (kpT_I (by decide))) ?_ ?_ ?_ ?_)
    · (simp [gI, gL, gIL, gLI, hv] <;> try rfl)
    · (simp [gI, gL, gIL, gLI] <;> try rfl)
    · rw [gI]; (simp [gI, gL, gIL, gLI, hn, nAddR] <;> try rfl)
    · (simp [gI, gL, gIL, gLI] <;> try rfl)
  exact ⟨by omega, fun e => j 3 (by simp [e]), fun e1 => ⟨fun e => j 3 (by simp [e]), fun e2 => ⟨fun e => j 4 (by simp [e, e1, e2]), fun e => j 3 (by simp [e])⟩⟩⟩
theorem s_X7_advance {Q : St → Prop} {p : Nat} (hL : Lay G.2.2) (hT : XTp G T) (hp : sI G 2 1 = nI p) (hpT : p ≤ T.1) (hQ : ∀ G', KpT G G' → XTk G' (tok T p) → Q G') : EvV K mX7_advance 2 0 [(0, .ref 2)] [] G Q := by
  have h1000 := hT.2.1
  have fin : ∀ (G1 : St) (e : Nat), e ≤ T.1 → KpT G G1 → Lay G1.2.2 → rn isBl T p = e → sI G1 2 1 = nI e → EvV K mX7_advance 2 52 [(0, .ref 2)] [] G1 Q := by
    intro G1 e he hk hL1 er hn1
    have hT1 := hk.tp hT
    refine kX7_advance_52 hL1 ?_
    try simp (disch := omega) only [nLe, nLeR, nLeL, nLt, nLtR, nLtL, nEq, nEqR, nEqL, nClamp, nClampR, nAdd, nAddR, nAddL, nSub, nSubR, nMul, nMulR, nMulL, nDivR, vIn, vInR, iteZ, iteP, lEq, lEqR, forall_eq, forall_const, true_implies, false_implies, not_true_eq_false, not_false_eq_true, true_and, and_true, implies_true, Decidable.not_not, hn1, hT1.1]
    refine ⟨fun z => ⟨by omega, ?_⟩, fun z => ?_⟩
    · obtain ⟨s1, s2⟩ := hT1.2.2 e z
      have s3 := okS_lt s2
      have k2 : KpT G1 (uL (uI G1 2 4 (nI e)) 2 5 0) := (kpT_I (by decide)).tr kpT_L
      have hT2 := k2.tp hT1
      rw [s1]
      refine s_X7_isLetter s3 hL1 ?_
      try simp (disch := omega) only [nLe, nLeR, nLeL, nLt, nLtR, nLtL, nEq, nEqR, nEqL, nClamp, nClampR, nAdd, nAddR, nAddL, nSub, nSubR, nMul, nMulR, nMulL, nDivR, vIn, vInR, iteZ, iteP, lEq, lEqR, forall_eq, forall_const, true_implies, false_implies, not_true_eq_false, not_false_eq_true, true_and, and_true, implies_true, Decidable.not_not, gI, gIL, gLI, hn1]
      simp only [reduceCtorEq, Nat.reduceEqDiff, false_and, and_false, if_false, ite_false]
      try simp (disch := omega) only [nLe, nLeR, nLeL, nLt, nLtR, nLtL, nEq, nEqR, nEqL, nClamp, nClampR, nAdd, nAddR, nAddL, nSub, nSubR, nMul, nMulR, nMulL, nDivR, vIn, vInR, iteZ, iteP, lEq, lEqR, forall_eq, forall_const, true_implies, false_implies, not_true_eq_false, not_false_eq_true, true_and, and_true, implies_true, Decidable.not_not]
      refine ⟨fun z1 => ⟨by omega, ?_⟩, fun z1 => ?_⟩
      · rw [s1]
        refine s_X7_isDigit s3 hL1 ?_
        try simp (disch := omega) only [nLe, nLeR, nLeL, nLt, nLtR, nLtL, nEq, nEqR, nEqL, nClamp, nClampR, nAdd, nAddR, nAddL, nSub, nSubR, nMul, nMulR, nMulL, nDivR, vIn, vInR, iteZ, iteP, lEq, lEqR, forall_eq, forall_const, true_implies, false_implies, not_true_eq_false, not_false_eq_true, true_and, and_true, implies_true, Decidable.not_not]
        refine ⟨fun z2 => s_X7_takeSign (q := e) hL1 hT2 z (by (simp [gI, gL, gIL, gLI, hn1] <;> try rfl)) (fun G2 k3 a b c d => hQ _ ((hk.tr k2).tr k3) ?_), fun z2 => s_X7_takeNumber (q := e) hL1 hT2 z (by (simp [gI, gL, gIL, gLI] <;> try rfl)) (by (simp [gI, gL, gIL, gLI, hn1] <;> try rfl)) (by (simp [gI, gL, gIL, gLI] <;> try rfl)) (fun G2 k3 a b c d => hQ _ ((hk.tr k2).tr k3) ?_)⟩
        · have e1 : tok T p = (if T.2 e = 44 ∨ T.2 e = 58 ∨ T.2 e = 59 then 3 else 4, e, T.2 e, e + 1) := by
            unfold tok
            simp only [er]
            rw [if_neg (by omega), if_neg z1, if_neg z2]
          rw [e1]
          exact ⟨a, by rw [b]; (simp [gI, gL, gIL, gLI] <;> try rfl), c, fun _ => d⟩
        · have e1 : tok T p = (if rn isDg T e - e ≤ 4 then 2 else 4, e, dv T e (rn isDg T e - e), rn isDg T e) := by
            unfold tok
            simp only [er]
            rw [if_neg (by omega), if_neg z1, if_pos z2]
          rw [e1]
          refine ⟨a, b, c, fun q4 => d ?_⟩
          simp at q4
          omega
      · refine s_X7_takeWord (q := e) hL1 hT2 z (by (simp [gI, gL, gIL, gLI] <;> try rfl)) (by (simp [gI, gL, gIL, gLI, hn1] <;> try rfl)) (by (simp [gI, gL, gIL, gLI] <;> try rfl)) (fun G2 k3 a b c d => hQ _ ((hk.tr k2).tr k3) ?_)
        have e1 : tok T p = (if rn isLt T e - e ≤ 8 then 1 else 4, e, wv T e (rn isLt T e - e), rn isLt T e) := by
          unfold tok
          simp only [er]
          rw [if_neg (by omega), if_pos z1]
        rw [e1]
        refine ⟨a, b, c, fun q4 => d ?_⟩
        simp at q4
        omega
    · have e1 : tok T p = (0, e, 0, e) := by
        unfold tok
        simp only [er]
        rw [if_pos (by omega)]
      refine hQ _ (hk.tr (((kpT_I (by decide)).tr kpT_L).tr (kpT_I (by decide)))) ?_
      rw [e1]
      refine ⟨?_, ?_, ?_, fun _ => ?_⟩
      · (simp [gI, gL, gIL, gLI] <;> try rfl)
      · (simp [gI, gL, gIL, gLI] <;> try rfl)
      · (simp [gI, gL, gIL, gLI, hn1] <;> try rfl)
      · (simp [gI, gL, gIL, gLI] <;> try rfl)
  have key : ∀ (m e : Nat) (G1 : St), e + m = T.1 → p ≤ e → KpT G G1 → Lay G1.2.2 → (∀ j, p ≤ j → j < e → isBl (T.2 j) = true) → sI G1 2 1 = nI e → EvV K mX7_advance 2 0 [(0, .ref 2)] [] G1 Q := by
    intro m
    induction m with
    | zero =>
      intro e G1 he hpe hk hL1 ha hn1
      have hT1 := hk.tp hT
      refine kX7_advance_0 hL1 ?_
      try simp (disch := omega) only [nLe, nLeR, nLeL, nLt, nLtR, nLtL, nEq, nEqR, nEqL, nClamp, nClampR, nAdd, nAddR, nAddL, nSub, nSubR, nMul, nMulR, nMulL, nDivR, vIn, vInR, iteZ, iteP, lEq, lEqR, forall_eq, forall_const, true_implies, false_implies, not_true_eq_false, not_false_eq_true, true_and, and_true, implies_true, Decidable.not_not, hn1, hT1.1]
      exact ⟨fun _ => fin G1 e (by omega) hk hL1 (rn_eq hpe (by omega) ha (fun z => by omega)) hn1, fun z => by omega⟩
    | succ m ih =>
      intro e G1 he hpe hk hL1 ha hn1
      have hT1 := hk.tp hT
      obtain ⟨s1, s2⟩ := hT1.2.2 e (by omega)
      have s3 := okS_lt s2
      have yes : isBl (T.2 e) = true → EvV K mX7_advance 2 39 [(0, .ref 2)] [] G1 Q := by
        intro hb
        refine kX7_advance_39 hL1 ?_
        try simp (disch := omega) only [nLe, nLeR, nLeL, nLt, nLtR, nLtL, nEq, nEqR, nEqL, nClamp, nClampR, nAdd, nAddR, nAddL, nSub, nSubR, nMul, nMulR, nMulL, nDivR, vIn, vInR, iteZ, iteP, lEq, lEqR, forall_eq, forall_const, true_implies, false_implies, not_true_eq_false, not_false_eq_true, true_and, and_true, implies_true, Decidable.not_not, hn1]
        refine ih (e + 1) _ (by omega) (by omega) (hk.tr (kpT_I (by decide))) hL1 (fun j h1 h2 => ?_) (by (simp [gI, gL, gIL, gLI] <;> try rfl))
        rcases Nat.lt_succ_iff_lt_or_eq.mp h2 with z | z
        · exact ha j h1 z
        · subst z; exact hb
      refine kX7_advance_0 hL1 ?_
      try simp (disch := omega) only [nLe, nLeR, nLeL, nLt, nLtR, nLtL, nEq, nEqR, nEqL, nClamp, nClampR, nAdd, nAddR, nAddL, nSub, nSubR, nMul, nMulR, nMulL, nDivR, vIn, vInR, iteZ, iteP, lEq, lEqR, forall_eq, forall_const, true_implies, false_implies, not_true_eq_false, not_false_eq_true, true_and, and_true, implies_true, Decidable.not_not, hn1, hT1.1, s1]
      refine ⟨fun z => by omega, fun z => ⟨by omega, fun z1 => yes (by simp [isBl, z1]), fun z1 => ⟨by omega, fun z2 => ?_, fun z2 => yes (by simp [isBl, z2])⟩⟩⟩
      exact fin G1 e (by omega) hk hL1 (rn_eq hpe (by omega) ha (fun _ => by simp [isBl, z1, z2])) hn1
  exact key (T.1 - p) p G (by omega) (Nat.le_refl _) KpT.rf hL (fun j h1 h2 => by omega) hp
/-! the tokens in their order -/
def tp (T : TPt) : Nat → Nat
  | 0 => 0
  | i + 1 => (tok T (tp T i)).2.2.2
def tk (T : TPt) (i : Nat) : Nat × Nat × Nat × Nat := tok T (tp T i)
theorem tp_le (T : TPt) : ∀ i, tp T i ≤ T.1
  | 0 => Nat.zero_le _
  | i + 1 => (tok_le (tp_le T i)).1
/-- the class stands at token i -/
def XAt (G : St) (T : TPt) (i : Nat) : Prop := XTp G T ∧ XTk G (tk T i)
theorem s_X7_next {Q : St → Prop} {i : Nat} (hL : Lay G.2.2) (hA : XAt G T i) (hQ : ∀ G', KpT G G' → XAt G' T (i + 1) → Q G') : EvV K mX7_advance 2 0 [(0, .ref 2)] [] G Q :=
  s_X7_advance (p := tp T (i + 1)) hL hA.1 hA.2.2.2.1 (tp_le T (i + 1)) (fun G1 k1 h1 => hQ G1 k1 ⟨k1.tp hA.1, h1⟩)
theorem s_X7_rewind {Q : St → Prop} (hL : Lay G.2.2) (hT : XTp G T) (hQ : ∀ G', KpT G G' → XAt G' T 0 → Q G') : EvV K mX7_rewind 3 0 [(0, .ref 2)] [] G Q := by
  have k1 : KpT G (uI G 2 1 0) := kpT_I (by decide)
  exact kX7_rewind_0 hL (s_X7_advance (p := 0) (T := T) hL (k1.tp hT) (by (simp [gI, gL, gIL, gLI] <;> try rfl)) (Nat.zero_le _) (fun G1 k2 h1 => hQ G1 (k1.tr k2) ⟨(k1.tr k2).tp hT, h1⟩))
theorem tok_v {p : Nat} (h : p ≤ T.1) (hs : ∀ j, j < T.1 → okS (T.2 j)) (h4 : (tok T p).1 ≠ 4) : (tok T p).2.2.1 < 282429536481 ∧ (tok T p).1 < 4 ∧ ((tok T p).1 = 2 → (tok T p).2.2.1 < 10000) ∧ ((tok T p).1 = 1 → 0 < (tok T p).2.2.1) := by
  have h1 := rn_le (P := isBl) h
  revert h4
  unfold tok
  simp only []
  split
  · intro _; simp
  · rename_i q
    have hq := okS_lt (hs (rn isBl T p) (by omega))
    split
    · rename_i hl
      intro h4
      have h5 : rn isLt T (rn isBl T p) - rn isBl T p ≤ 8 := by simp at h4; omega
      have h6 := wv_lt (T := T) (p := rn isBl T p) (k := rn isLt T (rn isBl T p) - rn isBl T p) (fun j hj => rn_in (P := isLt) (p := rn isBl T p) (by omega) (by omega))
      have h7 := pw_lt h5
      refine ⟨by show wv _ _ _ < _; omega, by simp [h5], fun z => by simp [h5] at z, fun _ => ?_⟩
      have h8 : rn isBl T p < rn isLt T (rn isBl T p) := by
        rcases Nat.lt_or_ge (rn isBl T p) (rn isLt T (rn isBl T p)) with z | z
        · exact z
        · have := rn_end (P := isLt) (T := T) (p := rn isBl T p) (by omega)
          rw [Nat.le_antisymm z (rn_ge _ _ _), hl] at this; cases this
      show 0 < wv T (rn isBl T p) (rn isLt T (rn isBl T p) - rn isBl T p)
      obtain ⟨k, hk⟩ : ∃ k, rn isLt T (rn isBl T p) - rn isBl T p = k + 1 := ⟨rn isLt T (rn isBl T p) - rn isBl T p - 1, by omega⟩
      have h9 := of_decide_eq_true (rn_in (P := isLt) (T := T) (p := rn isBl T p) (j := rn isBl T p + k) (by omega) (by omega))
      rw [hk, wv]
      omega
    · split
      · intro h4
        have h5 : rn isDg T (rn isBl T p) - rn isBl T p ≤ 4 := by simp at h4; omega
        have h6 := dv_lt (T := T) (p := rn isBl T p) (k := rn isDg T (rn isBl T p) - rn isBl T p) (fun j hj => rn_in (P := isDg) (p := rn isBl T p) (by omega) (by omega))
        have h7 : 10 ^ (rn isDg T (rn isBl T p) - rn isBl T p) ≤ 10 ^ 4 := Nat.pow_le_pow_right (by decide) h5
        have h8 : (10 : Nat) ^ 4 = 10000 := by decide
        exact ⟨by show dv _ _ _ < _; omega, by simp [h5], fun _ => by show dv _ _ _ < _; omega, fun z => by simp [h5] at z⟩
      · intro h4
        refine ⟨by show T.2 _ < _; omega, ?_, ?_, ?_⟩
        · split at h4 <;> simp_all
        · split at h4 <;> simp_all
        · split at h4 <;> simp_all
theorem tk_v {G : St} {i : Nat} (hA : ∀ j, j < T.1 → okS (T.2 j)) (h4 : (tk T i).1 ≠ 4) : (tk T i).2.2.1 < 282429536481 ∧ (tk T i).1 < 4 ∧ ((tk T i).1 = 2 → (tk T i).2.2.1 < 10000) ∧ ((tk T i).1 = 1 → 0 < (tk T i).2.2.1) := tok_v (tp_le T i) hA h4
/-- what a token is -/
def isW (k : Nat × Nat × Nat × Nat) (w : Nat) : Bool := k.1 == 1 && k.2.2.1 == w
def isS (k : Nat × Nat × Nat × Nat) (c : Nat) : Bool := k.1 == 3 && k.2.2.1 == c
def isN (k : Nat × Nat × Nat × Nat) : Bool := k.1 == 1 && !rsvd k.2.2.1
theorem tk_4 (i : Nat) : (tk T i).1 < 5 := by
  unfold tk tok
  simp only []
  split
  · simp
  · split
    · simp only []; split <;> simp
    · split
      · simp only []; split <;> simp
      · simp only []; split <;> simp
theorem s_X7_isWord {Q : Int32 → St → Prop} {i w : Nat} (hL : Lay G.2.2) (hA : XAt G T i) (hw : w < 282429536481) (hQ : Q (if isW (tk T i) w then 1 else 0) G) : EvI K mX7_isWord 0 0 [(0, .ref 2), (1, .long (lN w))] [] G Q := by
  have h4 := tk_4 (T := T) i
  refine kX7_isWord_0 hL ?_
  try simp (disch := omega) only [nLe, nLeR, nLeL, nLt, nLtR, nLtL, nEq, nEqR, nEqL, nClamp, nClampR, nAdd, nAddR, nAddL, nSub, nSubR, nMul, nMulR, nMulL, nDivR, vIn, vInR, iteZ, iteP, lEq, lEqR, forall_eq, forall_const, true_implies, false_implies, not_true_eq_false, not_false_eq_true, true_and, and_true, implies_true, Decidable.not_not, hA.2.1]
  refine ⟨fun z => ?_, fun z => ?_⟩
  · rw [if_neg (by simp [isW, z])] at hQ; exact hQ
  · have hv := tk_v (G := G) (T := T) (i := i) (fun j hj => (hA.1.2.2 j hj).2) (by omega)
    try simp (disch := omega) only [nLe, nLeR, nLeL, nLt, nLtR, nLtL, nEq, nEqR, nEqL, nClamp, nClampR, nAdd, nAddR, nAddL, nSub, nSubR, nMul, nMulR, nMulL, nDivR, vIn, vInR, iteZ, iteP, lEq, lEqR, forall_eq, forall_const, true_implies, false_implies, not_true_eq_false, not_false_eq_true, true_and, and_true, implies_true, Decidable.not_not, hA.2.2.2.2 (by omega)]
    refine ⟨fun z2 => ?_, fun z2 => ?_⟩
    · rw [if_neg (by simp [isW, z2])] at hQ; exact hQ
    · rw [if_pos (by simp [isW, z, z2])] at hQ; exact hQ
theorem s_X7_isSign {Q : Int32 → St → Prop} {i c : Nat} (hL : Lay G.2.2) (hA : XAt G T i) (hc : c < 256) (hQ : Q (if isS (tk T i) c then 1 else 0) G) : EvI K mX7_isSign 0 0 [(0, .ref 2), (1, .int (nI c))] [] G Q := by
  have h4 := tk_4 (T := T) i
  refine kX7_isSign_0 hL ?_
  try simp (disch := omega) only [nLe, nLeR, nLeL, nLt, nLtR, nLtL, nEq, nEqR, nEqL, nClamp, nClampR, nAdd, nAddR, nAddL, nSub, nSubR, nMul, nMulR, nMulL, nDivR, vIn, vInR, iteZ, iteP, lEq, lEqR, forall_eq, forall_const, true_implies, false_implies, not_true_eq_false, not_false_eq_true, true_and, and_true, implies_true, Decidable.not_not, hA.2.1]
  refine ⟨fun z => ?_, fun z => ?_⟩
  · rw [if_neg (by simp [isS, z])] at hQ; exact hQ
  · have hv := tk_v (G := G) (T := T) (i := i) (fun j hj => (hA.1.2.2 j hj).2) (by omega)
    try simp (disch := omega) only [nLe, nLeR, nLeL, nLt, nLtR, nLtL, nEq, nEqR, nEqL, nClamp, nClampR, nAdd, nAddR, nAddL, nSub, nSubR, nMul, nMulR, nMulL, nDivR, vIn, vInR, iteZ, iteP, lEq, lEqR, forall_eq, forall_const, true_implies, false_implies, not_true_eq_false, not_false_eq_true, true_and, and_true, implies_true, Decidable.not_not, hA.2.2.2.2 (by omega), nI_l]
    refine ⟨fun z2 => ?_, fun z2 => ?_⟩
    · rw [if_neg (by simp [isS, z2])] at hQ; exact hQ
    · rw [if_pos (by simp [isS, z, z2])] at hQ; exact hQ
theorem s_X7_isName {Q : Int32 → St → Prop} {i : Nat} (hL : Lay G.2.2) (hA : XAt G T i) (hQ : Q (if isN (tk T i) then 1 else 0) G) : EvI K mX7_isName 1 0 [(0, .ref 2)] [] G Q := by
  have h4 := tk_4 (T := T) i
  refine kX7_isName_0 hL ?_
  try simp (disch := omega) only [nLe, nLeR, nLeL, nLt, nLtR, nLtL, nEq, nEqR, nEqL, nClamp, nClampR, nAdd, nAddR, nAddL, nSub, nSubR, nMul, nMulR, nMulL, nDivR, vIn, vInR, iteZ, iteP, lEq, lEqR, forall_eq, forall_const, true_implies, false_implies, not_true_eq_false, not_false_eq_true, true_and, and_true, implies_true, Decidable.not_not, hA.2.1]
  refine ⟨fun z => ?_, fun z => ?_⟩
  · rw [if_neg (by simp [isN, z])] at hQ; exact hQ
  · have hv := tk_v (G := G) (T := T) (i := i) (fun j hj => (hA.1.2.2 j hj).2) (by omega)
    rw [hA.2.2.2.2 (by omega)]
    refine s_X10_isReserved (by omega) hL ?_
    try simp (disch := omega) only [nLe, nLeR, nLeL, nLt, nLtR, nLtL, nEq, nEqR, nEqL, nClamp, nClampR, nAdd, nAddR, nAddL, nSub, nSubR, nMul, nMulR, nMulL, nDivR, vIn, vInR, iteZ, iteP, lEq, lEqR, forall_eq, forall_const, true_implies, false_implies, not_true_eq_false, not_false_eq_true, true_and, and_true, implies_true, Decidable.not_not]
    refine ⟨fun z2 => ?_, fun z2 => ?_⟩
    · rw [if_neg (by simp [isN]; intro _; simpa using z2)] at hQ; exact hQ
    · rw [if_pos (by simp [isN, z]; simpa using z2)] at hQ; exact hQ
theorem s_X7_empty {Q : St → Prop} (hL : Lay G.2.2) (hQ : ∀ G', Kp (fun i => i = 2) G G' → XTp G' (0, T.2) → Q G') : EvV K mX7_empty 0 0 [(0, .ref 2)] [] G Q :=
  kX7_empty_0 hL (hQ _ (kp_uI rfl) ⟨by (simp [gI, gL, gIL, gLI] <;> try rfl), Nat.zero_le _, fun j hj => absurd hj (Nat.not_lt_zero j)⟩)
end TAPE2

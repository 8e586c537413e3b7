section MTAPE
variable {K : KT} {G : St} {T : TPt}
theorem rn_stop {P : Nat → Bool} {p : Nat} (h : p ≤ T.1) (h2 : p < T.1 → P (T.2 p) = false) : rn P T p = p := rn_eq (Nat.le_refl _) h (fun j a b => by omega) h2
theorem rn_step {P : Nat → Bool} {p : Nat} (h : p < T.1) (h2 : P (T.2 p) = true) : rn P T p = rn P T (p + 1) := by
  have a := rn_ge P T (p + 1)
  refine rn_eq (by omega) (rn_le h) (fun j a b => ?_) (fun z => rn_end z)
  rcases Nat.lt_or_ge p j with q | q
  · exact rn_in (p := p + 1) q b
  · rw [show j = p by omega]; exact h2
theorem tok_bl {p : Nat} (h : p < T.1) (h2 : isBl (T.2 p) = true) : tok T (p + 1) = tok T p := by unfold tok; rw [rn_step h h2]
theorem tok_end {p : Nat} (h : p = T.1) : tok T p = (0, p, 0, p) := by
  unfold tok
  simp only [rn_stop (P := isBl) (T := T) (p := p) (by omega) (fun z => by omega)]
  rw [if_pos (by omega)]
theorem tok_w {p : Nat} (h : p < T.1) (h2 : isBl (T.2 p) = false) (h3 : isLt (T.2 p) = true) : tok T p = (if rn isLt T p - p ≤ 8 then 1 else 4, p, wv T p (rn isLt T p - p), rn isLt T p) := by
  unfold tok
  simp only [rn_stop (P := isBl) (T := T) (p := p) (by omega) (fun _ => h2)]
  rw [if_neg (by omega), if_pos h3]
theorem tok_d {p : Nat} (h : p < T.1) (h2 : isBl (T.2 p) = false) (h3 : isLt (T.2 p) = false) (h4 : isDg (T.2 p) = true) : tok T p = (if rn isDg T p - p ≤ 4 then 2 else 4, p, dv T p (rn isDg T p - p), rn isDg T p) := by
  unfold tok
  simp only [rn_stop (P := isBl) (T := T) (p := p) (by omega) (fun _ => h2)]
  rw [if_neg (by omega), if_neg (by simp [h3]), if_pos h4]
theorem tok_s {p : Nat} (h : p < T.1) (h2 : isBl (T.2 p) = false) (h3 : isLt (T.2 p) = false) (h4 : isDg (T.2 p) = false) : tok T p = (if T.2 p = 44 ∨ T.2 p = 58 ∨ T.2 p = 59 then 3 else 4, p, T.2 p, p + 1) := by
  unfold tok
  simp only [rn_stop (P := isBl) (T := T) (p := p) (by omega) (fun _ => h2)]
  rw [if_neg (by omega), if_neg (by simp [h3]), if_neg (by simp [h4])]
/-- the model's eight words -/
def mw (k : Nat) : Nat := if k = 0 then 10650290 else if k = 1 then 397973 else if k = 2 then 212302449 else if k = 3 then 286880 else if k = 4 then 279252 else if k = 5 then 311436 else if k = 6 then 11438892 else 411
def MWd (G : St) : Prop := ∀ k, k < 8 → sL G 71 k = lN (mw k)
theorem mw_lt (k : Nat) : mw k < 282429536481 := by
  unfold mw
  repeat' split
  all_goals omega
/-- token j stands in the model's rows -/
def mtk (G : St) (T : TPt) (j : Nat) : Prop := sI G 68 j = nI (tk T j).1 ∧ sI G 69 j = nI (tk T j).2.1 ∧ ((tk T j).1 ≠ 0 → (tk T j).1 ≠ 4 → sL G 70 j = lN (tk T j).2.2.1)
/-- the model has cut T into N tokens -/
def MCt (G : St) (T : TPt) (N : Nat) : Prop := N ≤ 1000 ∧ (tk T N).1 = 0 ∧ (∀ j, j < N → (tk T j).1 ≠ 0) ∧ (∀ j, j ≤ N → mtk G T j) ∧ (∀ j, j < T.1 → okS (T.2 j)) ∧ T.1 ≤ 1000
/-- it stands at i, with fault f -/
def MAt (G : St) (T : TPt) (N i f : Nat) : Prop := MCt G T N ∧ MWd G ∧ sI G 66 7 = nI i ∧ i ≤ N ∧ sI G 66 8 = nI f ∧ f < 20000
theorem s_X12_isLetter {Q : Int32 → St → Prop} {c : Nat} (hc : c < 256) (hL : Lay G.2.2) (hQ : Q (if isLt c then 1 else 0) G) : EvI K mX12_isLetter 0 0 [(0, .int (nI c))] [] G Q := by
  unfold isLt at hQ
  refine kX12_isLetter_0 hL ?_
  try simp (disch := omega) only [nLe, nLeR, nLeL, nLt, nLtR, nLtL, nEq, nEqR, nEqL, nClamp, nClampR, nAdd, nAddR, nAddL, nSub, nSubR, nMul, nMulR, nMulL, nDivR, vIn, vInR, iteZ, iteP, lEq, lEqR, forall_eq, forall_const, true_implies, false_implies, not_true_eq_false, not_false_eq_true, true_and, and_true, implies_true, Decidable.not_not]
  refine ⟨fun q => ?_, fun q => ⟨fun q2 => ?_, fun q2 => ?_⟩⟩
  · rw [if_neg (by simp; omega)] at hQ; exact hQ
  · rw [if_neg (by simp; omega)] at hQ; exact hQ
  · rw [if_pos (by simp; omega)] at hQ; exact hQ
theorem s_X12_isDigit {Q : Int32 → St → Prop} {c : Nat} (hc : c < 256) (hL : Lay G.2.2) (hQ : Q (if isDg c then 1 else 0) G) : EvI K mX12_isDigit 0 0 [(0, .int (nI c))] [] G Q := by
  unfold isDg at hQ
  refine kX12_isDigit_0 hL ?_
  try simp (disch := omega) only [nLe, nLeR, nLeL, nLt, nLtR, nLtL, nEq, nEqR, nEqL, nClamp, nClampR, nAdd, nAddR, nAddL, nSub, nSubR, nMul, nMulR, nMulL, nDivR, vIn, vInR, iteZ, iteP, lEq, lEqR, forall_eq, forall_const, true_implies, false_implies, not_true_eq_false, not_false_eq_true, true_and, and_true, implies_true, Decidable.not_not]
  refine ⟨fun q => ?_, fun q => ⟨fun q2 => ?_, fun q2 => ?_⟩⟩
  · rw [if_neg (by simp; omega)] at hQ; exact hQ
  · rw [if_neg (by simp; omega)] at hQ; exact hQ
  · rw [if_pos (by simp; omega)] at hQ; exact hQ
theorem s_X12_isSignOf {Q : Int32 → St → Prop} {c : Nat} (hc : c < 256) (hL : Lay G.2.2) (hQ : Q (if c = 44 ∨ c = 58 ∨ c = 59 then 1 else 0) G) : EvI K mX12_isSignOf 0 0 [(0, .int (nI c))] [] G Q := by
  refine kX12_isSignOf_0 hL ?_
  try simp (disch := omega) only [nLe, nLeR, nLeL, nLt, nLtR, nLtL, nEq, nEqR, nEqL, nClamp, nClampR, nAdd, nAddR, nAddL, nSub, nSubR, nMul, nMulR, nMulL, nDivR, vIn, vInR, iteZ, iteP, lEq, lEqR, forall_eq, forall_const, true_implies, false_implies, not_true_eq_false, not_false_eq_true, true_and, and_true, implies_true, Decidable.not_not]
  refine ⟨fun q => ?_, fun q1 => ⟨fun q => ?_, fun q2 => ⟨fun q => ?_, fun q => ?_⟩⟩⟩
  · rw [if_pos (by omega)] at hQ; exact hQ
  · rw [if_pos (by omega)] at hQ; exact hQ
  · rw [if_neg (by omega)] at hQ; exact hQ
  · rw [if_pos (by omega)] at hQ; exact hQ
def ctS : Nat → Nat → Prop := fun i k => i = 68 ∨ i = 69 ∨ i = 70 ∨ i = 66 ∧ (k = 2 ∨ k = 3 ∨ k = 7 ∨ k = 8)
theorem s_X12_cutAll {Q : St → Prop} (hL : Lay G.2.2) (hT : MTp G T) (hW : MWd G) (hQ : ∀ G' N, Kq ctS G G' → MTp G' (0, T.2) → MAt G' T N 0 0 → Q G') : EvV K mX12_cutAll 1 0 [(0, .ref 66)] [] G Q := by
  obtain ⟨t1, t2, t3⟩ := hT
  refine kX12_cutAll_0 hL ?_
  -- the invariant at the head
  have key : ∀ (m k n : Nat) (G1 : St), k + m = T.1 → n ≤ k → Lay G1.2.2 → Kq ctS G G1 → sI G1 66 3 = nI T.1 → sI G1 66 2 = 0 → tok T k = tk T n → (∀ j, j < n → (tk T j).1 ≠ 0 ∧ mtk G1 T j) → EvV K mX12_cutAll 1 17 [(0, .ref 66), (1, .int (nI n)), (2, .int (nI k))] [] G1 Q := by
    intro m
    induction m using Nat.strongRecOn with
    | ind m ih =>
    intro k n G1 hk hnk hL1 hK h3 h2 htk hj
    refine kX12_cutAll_17 hL1 ?_
    try simp (disch := omega) only [nLe, nLeR, nLeL, nLt, nLtR, nLtL, nEq, nEqR, nEqL, nClamp, nClampR, nAdd, nAddR, nAddL, nSub, nSubR, nMul, nMulR, nMulL, nDivR, vIn, vInR, iteZ, iteP, lEq, lEqR, forall_eq, forall_const, true_implies, false_implies, not_true_eq_false, not_false_eq_true, true_and, and_true, implies_true, Decidable.not_not, h3]
    refine ⟨fun z => ⟨by omega, by omega, ?_⟩, fun z => ⟨by omega, ?_⟩⟩
    · have hk1 : k = T.1 := by omega
      have e0 : tk T n = (0, k, 0, k) := by rw [← htk]; exact tok_end hk1
      refine hQ _ n (hK.tr ((((kq_I (by simp [ctS])).sI (by simp [ctS])).sI (by simp [ctS])).sI (by simp [ctS]))) ⟨?_, Nat.zero_le _, fun j hj => absurd hj (Nat.not_lt_zero j)⟩ ⟨⟨by omega, by rw [e0], fun j h => (hj j h).1, fun j h => ?_, fun j h => (t3 j h).2, t2⟩, ?_, ?_, Nat.zero_le _, ?_, by omega⟩
      · (simp [gI, gL, gIL, gLI, h2] <;> try rfl)
      · rcases Nat.lt_or_eq_of_le h with q | q
        · obtain ⟨a, b, c⟩ := (hj j q).2
          have hne : ¬ j = n := by omega
          exact ⟨by (simp [gI, gL, gIL, gLI, hne, a] <;> try rfl), by (simp [gI, gL, gIL, gLI, hne, b] <;> try rfl), fun u v => by (simp [gI, gL, gIL, gLI] <;> try rfl); exact c u v⟩
        · subst q
          refine ⟨?_, ?_, fun u => absurd (by rw [e0]) u⟩
          · rw [e0]; (simp [gI, gL, gIL, gLI] <;> try rfl)
          · rw [e0]; (simp [gI, gL, gIL, gLI, hk1] <;> try rfl)
      · intro j h
        (simp [gI, gL, gIL, gLI] <;> try rfl)
        rw [hK.L (by simp [ctS])]; exact hW j h
      · (simp [gI, gL, gIL, gLI] <;> try rfl)
      · (simp [gI, gL, gIL, gLI] <;> try rfl)
    · have hlt : k < T.1 := by omega
      have hG67 : ∀ j, j < T.1 → sI G1 67 j = nI (T.2 j) := fun j h => by rw [hK.I (by simp [ctS])]; exact (t3 j h).1
      have s3 := okS_lt (t3 k hlt).2
      rw [hG67 k hlt]
      -- a blank
      have bl : isBl (T.2 k) = true → EvV K mX12_cutAll 1 44 [(0, .ref 66), (1, .int (nI n)), (2, .int (nI k))] [] G1 Q := by
        intro hb
        refine kX12_cutAll_44 hL1 ?_
        try simp (disch := omega) only [nLe, nLeR, nLeL, nLt, nLtR, nLtL, nEq, nEqR, nEqL, nClamp, nClampR, nAdd, nAddR, nAddL, nSub, nSubR, nMul, nMulR, nMulL, nDivR, vIn, vInR, iteZ, iteP, lEq, lEqR, forall_eq, forall_const, true_implies, false_implies, not_true_eq_false, not_false_eq_true, true_and, and_true, implies_true, Decidable.not_not]
        exact ih (m - 1) (by omega) (k + 1) n G1 (by omega) (by omega) hL1 hK h3 h2 ((tok_bl hlt hb).trans htk) hj
      -- a token has been cut
      have cut : ∀ (G2 : St) (e : Nat) (v : Int64), k < e → e ≤ T.1 → Kq (fun i k => i = 68 ∨ i = 69) G1 G2 → (tok T k).2.2.2 = e → (tok T k).2.1 = k → (tok T k).1 ≠ 0 → sI G2 68 n = nI (tok T k).1 → sI G2 69 n = nI k → ((tok T k).1 ≠ 4 → v = lN (tok T k).2.2.1) → (∀ j, j < n → sI G2 68 j = sI G1 68 j ∧ sI G2 69 j = sI G1 69 j) → EvV K mX12_cutAll 1 265 [(0, .ref 66), (1, .int (nI n)), (2, .int (nI e)), (5, .long v)] [] G2 Q := by
        intro G2 e v h1e h2e k2 a b c d1 d2 d3 d4
        refine kX12_cutAll_265 (k2.lay hL1) ?_
        try simp (disch := omega) only [nLe, nLeR, nLeL, nLt, nLtR, nLtL, nEq, nEqR, nEqL, nClamp, nClampR, nAdd, nAddR, nAddL, nSub, nSubR, nMul, nMulR, nMulL, nDivR, vIn, vInR, iteZ, iteP, lEq, lEqR, forall_eq, forall_const, true_implies, false_implies, not_true_eq_false, not_false_eq_true, true_and, and_true, implies_true, Decidable.not_not]
        have k3 : Kq ctS G1 (uL G2 70 n v) := (k2.mono (fun i k h => by unfold ctS; omega)).sL (by simp [ctS])
        refine ⟨by omega, ih (T.1 - e) (by omega) e (n + 1) _ (by omega) (by omega) (k2.lay hL1) (hK.tr k3) ?_ ?_ ?_ (fun j hjn => ?_)⟩
        · (simp [gI, gL, gIL, gLI] <;> try rfl); rw [k2.I (by simp)]; exact h3
        · (simp [gI, gL, gIL, gLI] <;> try rfl); rw [k2.I (by simp)]; exact h2
        · show tok T e = tok T (tk T n).2.2.2
          rw [← htk, a]
        · rcases Nat.lt_succ_iff_lt_or_eq.mp hjn with q | q
          · obtain ⟨u0, u1, u2, u3⟩ := hj j q
            have hne : ¬ j = n := by omega
            refine ⟨u0, ?_, ?_, fun w1 w2 => ?_⟩
            · (simp [gI, gL, gIL, gLI] <;> try rfl); rw [(d4 j q).1, u1]
            · (simp [gI, gL, gIL, gLI] <;> try rfl); rw [(d4 j q).2, u2]
            · (simp [gI, gL, gIL, gLI, hne] <;> try rfl); rw [k2.L (by simp)]; exact u3 w1 w2
          · subst q
            rw [htk] at c d1 d3 b
            refine ⟨c, ?_, ?_, fun _ w => ?_⟩
            · (simp [gI, gL, gIL, gLI] <;> try rfl); exact d1
            · (simp [gI, gL, gIL, gLI] <;> try rfl); rw [d2, b]
            · (simp [gI, gL, gIL, gLI] <;> try rfl); exact d3 w
      try simp (disch := omega) only [nLe, nLeR, nLeL, nLt, nLtR, nLtL, nEq, nEqR, nEqL, nClamp, nClampR, nAdd, nAddR, nAddL, nSub, nSubR, nMul, nMulR, nMulL, nDivR, vIn, vInR, iteZ, iteP, lEq, lEqR, forall_eq, forall_const, true_implies, false_implies, not_true_eq_false, not_false_eq_true, true_and, and_true, implies_true, Decidable.not_not]
      have nb : T.2 k ≠ 10 → T.2 k ≠ 32 → isBl (T.2 k) = false := fun a b => by simp [isBl, a, b]
      have kk : Kq (fun i k => i = 68 ∨ i = 69) G1 (uI G1 69 n (nI k)) := kq_I (by simp)
      refine ⟨fun z1 => bl (by simp [isBl, z1]), fun z1 => ⟨fun z2 => ⟨by omega, s_X12_isLetter s3 hL1 ?_⟩, fun z2 => bl (by simp [isBl, z2])⟩⟩
      try simp (disch := omega) only [nLe, nLeR, nLeL, nLt, nLtR, nLtL, nEq, nEqR, nEqL, nClamp, nClampR, nAdd, nAddR, nAddL, nSub, nSubR, nMul, nMulR, nMulL, nDivR, vIn, vInR, iteZ, iteP, lEq, lEqR, forall_eq, forall_const, true_implies, false_implies, not_true_eq_false, not_false_eq_true, true_and, and_true, implies_true, Decidable.not_not]
      refine ⟨fun zl => s_X12_isDigit s3 hL1 ?_, fun zl => ?_⟩
      · try simp (disch := omega) only [nLe, nLeR, nLeL, nLt, nLtR, nLtL, nEq, nEqR, nEqL, nClamp, nClampR, nAdd, nAddR, nAddL, nSub, nSubR, nMul, nMulR, nMulL, nDivR, vIn, vInR, iteZ, iteP, lEq, lEqR, forall_eq, forall_const, true_implies, false_implies, not_true_eq_false, not_false_eq_true, true_and, and_true, implies_true, Decidable.not_not]
        refine ⟨fun zd => s_X12_isSignOf s3 hL1 ?_, fun zd => ?_⟩
        · try simp (disch := omega) only [nLe, nLeR, nLeL, nLt, nLtR, nLtL, nEq, nEqR, nEqL, nClamp, nClampR, nAdd, nAddR, nAddL, nSub, nSubR, nMul, nMulR, nMulL, nDivR, vIn, vInR, iteZ, iteP, lEq, lEqR, forall_eq, forall_const, true_implies, false_implies, not_true_eq_false, not_false_eq_true, true_and, and_true, implies_true, Decidable.not_not, nI_l]
          have et := tok_s hlt (nb z1 z2) (by simpa using zl) (by simpa using zd)
          refine ⟨fun zs => ⟨by omega, cut _ (k + 1) _ (by omega) (by omega) (kk.sI (by simp)) (by rw [et]) (by rw [et]) (by rw [et, if_neg zs]; simp) (by rw [et, if_neg zs]; (simp [gI, gL, gIL, gLI] <;> try rfl)) (by (simp [gI, gL, gIL, gLI] <;> try rfl)) (fun w => by rw [et]) (fun j h => ⟨by (simp [gI, gL, gIL, gLI, (show ¬ j = n by omega)] <;> try rfl), by (simp [gI, gL, gIL, gLI, (show ¬ j = n by omega)] <;> try rfl)⟩)⟩, fun zs => ⟨by omega, cut _ (k + 1) _ (by omega) (by omega) (kk.sI (by simp)) (by rw [et]) (by rw [et]) (by rw [et, if_pos zs]; simp) (by rw [et, if_pos zs]; (simp [gI, gL, gIL, gLI] <;> try rfl)) (by (simp [gI, gL, gIL, gLI] <;> try rfl)) (fun w => by rw [et]) (fun j h => ⟨by (simp [gI, gL, gIL, gLI, (show ¬ j = n by omega)] <;> try rfl), by (simp [gI, gL, gIL, gLI, (show ¬ j = n by omega)] <;> try rfl)⟩)⟩⟩
        · have et := tok_d hlt (nb z1 z2) (by simpa using zl) zd
          have hr1 := rn_le (P := isDg) (T := T) (p := k) (by omega)
          have hr2 : k < rn isDg T k := by rw [rn_step hlt zd]; have := rn_ge isDg T (k + 1); omega
          have fin : ∀ v : Int64, (rn isDg T k - k ≤ 4 → v = lN (dv T k (rn isDg T k - k))) → EvV K mX12_cutAll 1 218 [(0, .ref 66), (1, .int (nI n)), (2, .int (nI (rn isDg T k))), (4, .int (nI k)), (5, .long v)] [] (uI G1 69 n (nI k)) Q := by
            intro v hv
            refine kX12_cutAll_218 hL1 ?_
            try simp (disch := omega) only [nLe, nLeR, nLeL, nLt, nLtR, nLtL, nEq, nEqR, nEqL, nClamp, nClampR, nAdd, nAddR, nAddL, nSub, nSubR, nMul, nMulR, nMulL, nDivR, vIn, vInR, iteZ, iteP, lEq, lEqR, forall_eq, forall_const, true_implies, false_implies, not_true_eq_false, not_false_eq_true, true_and, and_true, implies_true, Decidable.not_not]
            refine ⟨fun zs => ⟨by omega, cut _ _ _ hr2 hr1 (kk.sI (by simp)) (by rw [et]) (by rw [et]) (by rw [et, if_pos zs]; simp) (by rw [et, if_pos zs]; (simp [gI, gL, gIL, gLI] <;> try rfl)) (by (simp [gI, gL, gIL, gLI] <;> try rfl)) (fun w => by rw [et]; exact hv zs) (fun j h => ⟨by (simp [gI, gL, gIL, gLI, (show ¬ j = n by omega)] <;> try rfl), by (simp [gI, gL, gIL, gLI, (show ¬ j = n by omega)] <;> try rfl)⟩)⟩, fun zs => ⟨by omega, cut _ _ _ hr2 hr1 (kk.sI (by simp)) (by rw [et]) (by rw [et]) (by rw [et, if_neg zs]; simp) (by rw [et, if_neg zs]; (simp [gI, gL, gIL, gLI] <;> try rfl)) (by (simp [gI, gL, gIL, gLI] <;> try rfl)) (fun w => absurd (by rw [et, if_neg zs]) w) (fun j h => ⟨by (simp [gI, gL, gIL, gLI, (show ¬ j = n by omega)] <;> try rfl), by (simp [gI, gL, gIL, gLI, (show ¬ j = n by omega)] <;> try rfl)⟩)⟩⟩
          have lp : ∀ (r e : Nat) (v : Int64), e + r = rn isDg T k → k ≤ e → (e - k ≤ 4 → v = lN (dv T k (e - k))) → EvV K mX12_cutAll 1 159 [(0, .ref 66), (1, .int (nI n)), (2, .int (nI e)), (4, .int (nI k)), (5, .long v)] [] (uI G1 69 n (nI k)) Q := by
            intro r
            induction r with
            | zero =>
              intro e v he hke hv
              have he : e = rn isDg T k := by omega
              subst he
              refine kX12_cutAll_159 hL1 ?_
              (simp [gI, gL, gIL, gLI, h3] <;> try rfl)
              try simp (disch := omega) only [nLe, nLeR, nLeL, nLt, nLtR, nLtL, nEq, nEqR, nEqL, nClamp, nClampR, nAdd, nAddR, nAddL, nSub, nSubR, nMul, nMulR, nMulL, nDivR, vIn, vInR, iteZ, iteP, lEq, lEqR, forall_eq, forall_const, true_implies, false_implies, not_true_eq_false, not_false_eq_true, true_and, and_true, implies_true, Decidable.not_not]
              refine ⟨fun _ => fin v hv, fun z5 => ⟨by omega, ?_⟩⟩
              rw [hG67 _ (by omega)]
              refine s_X12_isDigit (okS_lt (t3 _ (by omega)).2) hL1 ?_
              rw [rn_end (P := isDg) (T := T) (p := k) (by omega)]
              try simp (disch := omega) only [nLe, nLeR, nLeL, nLt, nLtR, nLtL, nEq, nEqR, nEqL, nClamp, nClampR, nAdd, nAddR, nAddL, nSub, nSubR, nMul, nMulR, nMulL, nDivR, vIn, vInR, iteZ, iteP, lEq, lEqR, forall_eq, forall_const, true_implies, false_implies, not_true_eq_false, not_false_eq_true, true_and, and_true, implies_true, Decidable.not_not]
              exact ⟨fun _ => fin v hv, fun q => absurd q (by simp)⟩
            | succ r ih2 =>
              intro e v he hke hv
              have hd := rn_in (P := isDg) (T := T) hke (show e < rn isDg T k by omega)
              have hd2 := of_decide_eq_true hd
              refine kX12_cutAll_159 hL1 ?_
              (simp [gI, gL, gIL, gLI, h3] <;> try rfl)
              try simp (disch := omega) only [nLe, nLeR, nLeL, nLt, nLtR, nLtL, nEq, nEqR, nEqL, nClamp, nClampR, nAdd, nAddR, nAddL, nSub, nSubR, nMul, nMulR, nMulL, nDivR, vIn, vInR, iteZ, iteP, lEq, lEqR, forall_eq, forall_const, true_implies, false_implies, not_true_eq_false, not_false_eq_true, true_and, and_true, implies_true, Decidable.not_not]
              refine ⟨fun z5 => by omega, fun z5 => ⟨by omega, ?_⟩⟩
              rw [hG67 _ (by omega)]
              refine s_X12_isDigit (okS_lt (t3 _ (by omega)).2) hL1 ?_
              rw [hd]
              try simp (disch := omega) only [nLe, nLeR, nLeL, nLt, nLtR, nLtL, nEq, nEqR, nEqL, nClamp, nClampR, nAdd, nAddR, nAddL, nSub, nSubR, nMul, nMulR, nMulL, nDivR, vIn, vInR, iteZ, iteP, lEq, lEqR, forall_eq, forall_const, true_implies, false_implies, not_true_eq_false, not_false_eq_true, true_and, and_true, implies_true, Decidable.not_not]
              refine ⟨fun q => ?_, fun q => ⟨by omega, ?_⟩⟩
              · refine kX12_cutAll_210 hL1 ?_
                try simp (disch := omega) only [nLe, nLeR, nLeL, nLt, nLtR, nLtL, nEq, nEqR, nEqL, nClamp, nClampR, nAdd, nAddR, nAddL, nSub, nSubR, nMul, nMulR, nMulL, nDivR, vIn, vInR, iteZ, iteP, lEq, lEqR, forall_eq, forall_const, true_implies, false_implies, not_true_eq_false, not_false_eq_true, true_and, and_true, implies_true, Decidable.not_not]
                exact ih2 (e + 1) v (by omega) (by omega) (fun q2 => by omega)
              · refine kX12_cutAll_210 hL1 ?_
                (simp [gI, gL, gIL, gLI] <;> try rfl)
                try simp (disch := omega) only [nLe, nLeR, nLeL, nLt, nLtR, nLtL, nEq, nEqR, nEqL, nClamp, nClampR, nAdd, nAddR, nAddL, nSub, nSubR, nMul, nMulR, nMulL, nDivR, vIn, vInR, iteZ, iteP, lEq, lEqR, forall_eq, forall_const, true_implies, false_implies, not_true_eq_false, not_false_eq_true, true_and, and_true, implies_true, Decidable.not_not]
                refine ih2 (e + 1) _ (by omega) (by omega) (fun q2 => ?_)
                rw [hG67 _ (by omega), hv (by omega), show e + 1 - k = (e - k) + 1 by omega, dv, show k + (e - k) = e by omega]
                have := d_step (a := dv T k (e - k)) hd2.1 (okS_lt (t3 e (by omega)).2)
                rw [← this, Int64.mul_comm]
          exact lp (rn isDg T k - k) k 0 (by omega) (Nat.le_refl _) (fun _ => by rw [Nat.sub_self]; rfl)
      · have et := tok_w hlt (nb z1 z2) zl
        have hr1 := rn_le (P := isLt) (T := T) (p := k) (by omega)
        have hr2 : k < rn isLt T k := by rw [rn_step hlt zl]; have := rn_ge isLt T (k + 1); omega
        have fin : ∀ v : Int64, (rn isLt T k - k ≤ 8 → v = lN (wv T k (rn isLt T k - k))) → EvV K mX12_cutAll 1 129 [(0, .ref 66), (1, .int (nI n)), (2, .int (nI (rn isLt T k))), (4, .int (nI k)), (5, .long v)] [] (uI G1 69 n (nI k)) Q := by
          intro v hv
          refine kX12_cutAll_129 hL1 ?_
          try simp (disch := omega) only [nLe, nLeR, nLeL, nLt, nLtR, nLtL, nEq, nEqR, nEqL, nClamp, nClampR, nAdd, nAddR, nAddL, nSub, nSubR, nMul, nMulR, nMulL, nDivR, vIn, vInR, iteZ, iteP, lEq, lEqR, forall_eq, forall_const, true_implies, false_implies, not_true_eq_false, not_false_eq_true, true_and, and_true, implies_true, Decidable.not_not]
          refine ⟨fun zs => ⟨by omega, cut _ _ _ hr2 hr1 (kk.sI (by simp)) (by rw [et]) (by rw [et]) (by rw [et, if_pos zs]; simp) (by rw [et, if_pos zs]; (simp [gI, gL, gIL, gLI] <;> try rfl)) (by (simp [gI, gL, gIL, gLI] <;> try rfl)) (fun w => by rw [et]; exact hv zs) (fun j h => ⟨by (simp [gI, gL, gIL, gLI, (show ¬ j = n by omega)] <;> try rfl), by (simp [gI, gL, gIL, gLI, (show ¬ j = n by omega)] <;> try rfl)⟩)⟩, fun zs => ⟨by omega, cut _ _ _ hr2 hr1 (kk.sI (by simp)) (by rw [et]) (by rw [et]) (by rw [et, if_neg zs]; simp) (by rw [et, if_neg zs]; (simp [gI, gL, gIL, gLI] <;> try rfl)) (by (simp [gI, gL, gIL, gLI] <;> try rfl)) (fun w => absurd (by rw [et, if_neg zs]) w) (fun j h => ⟨by (simp [gI, gL, gIL, gLI, (show ¬ j = n by omega)] <;> try rfl), by (simp [gI, gL, gIL, gLI, (show ¬ j = n by omega)] <;> try rfl)⟩)⟩⟩
        have lp : ∀ (r e : Nat) (v : Int64), e + r = rn isLt T k → k ≤ e → (e - k ≤ 8 → v = lN (wv T k (e - k))) → EvV K mX12_cutAll 1 70 [(0, .ref 66), (1, .int (nI n)), (2, .int (nI e)), (4, .int (nI k)), (5, .long v)] [] (uI G1 69 n (nI k)) Q := by
          intro r
          induction r with
          | zero =>
            intro e v he hke hv
            have he : e = rn isLt T k := by omega
            subst he
            refine kX12_cutAll_70 hL1 ?_
            (simp [gI, gL, gIL, gLI, h3] <;> try rfl)
            try simp (disch := omega) only [nLe, nLeR, nLeL, nLt, nLtR, nLtL, nEq, nEqR, nEqL, nClamp, nClampR, nAdd, nAddR, nAddL, nSub, nSubR, nMul, nMulR, nMulL, nDivR, vIn, vInR, iteZ, iteP, lEq, lEqR, forall_eq, forall_const, true_implies, false_implies, not_true_eq_false, not_false_eq_true, true_and, and_true, implies_true, Decidable.not_not]
            refine ⟨fun _ => fin v hv, fun z5 => ⟨by omega, ?_⟩⟩
            rw [hG67 _ (by omega)]
            refine s_X12_isLetter (okS_lt (t3 _ (by omega)).2) hL1 ?_
            rw [rn_end (P := isLt) (T := T) (p := k) (by omega)]
            try simp (disch := omega) only [nLe, nLeR, nLeL, nLt, nLtR, nLtL, nEq, nEqR, nEqL, nClamp, nClampR, nAdd, nAddR, nAddL, nSub, nSubR, nMul, nMulR, nMulL, nDivR, vIn, vInR, iteZ, iteP, lEq, lEqR, forall_eq, forall_const, true_implies, false_implies, not_true_eq_false, not_false_eq_true, true_and, and_true, implies_true, Decidable.not_not]
            exact ⟨fun _ => fin v hv, fun q => absurd q (by simp)⟩
          | succ r ih2 =>
            intro e v he hke hv
            have hd := rn_in (P := isLt) (T := T) hke (show e < rn isLt T k by omega)
            have hd2 := of_decide_eq_true hd
            refine kX12_cutAll_70 hL1 ?_
            (simp [gI, gL, gIL, gLI, h3] <;> try rfl)
            try simp (disch := omega) only [nLe, nLeR, nLeL, nLt, nLtR, nLtL, nEq, nEqR, nEqL, nClamp, nClampR, nAdd, nAddR, nAddL, nSub, nSubR, nMul, nMulR, nMulL, nDivR, vIn, vInR, iteZ, iteP, lEq, lEqR, forall_eq, forall_const, true_implies, false_implies, not_true_eq_false, not_false_eq_true, true_and, and_true, implies_true, Decidable.not_not]
            refine ⟨fun z5 => by omega, fun z5 => ⟨by omega, ?_⟩⟩
            rw [hG67 _ (by omega)]
            refine s_X12_isLetter (okS_lt (t3 _ (by omega)).2) hL1 ?_
            rw [hd]
            try simp (disch := omega) only [nLe, nLeR, nLeL, nLt, nLtR, nLtL, nEq, nEqR, nEqL, nClamp, nClampR, nAdd, nAddR, nAddL, nSub, nSubR, nMul, nMulR, nMulL, nDivR, vIn, vInR, iteZ, iteP, lEq, lEqR, forall_eq, forall_const, true_implies, false_implies, not_true_eq_false, not_false_eq_true, true_and, and_true, implies_true, Decidable.not_not]
            refine ⟨fun q => ?_, fun q => ⟨by omega, ?_⟩⟩
            · refine kX12_cutAll_121 hL1 ?_
              try simp (disch := omega) only [nLe, nLeR, nLeL, nLt, nLtR, nLtL, nEq, nEqR, nEqL, nClamp, nClampR, nAdd, nAddR, nAddL, nSub, nSubR, nMul, nMulR, nMulL, nDivR, vIn, vInR, iteZ, iteP, lEq, lEqR, forall_eq, forall_const, true_implies, false_implies, not_true_eq_false, not_false_eq_true, true_and, and_true, implies_true, Decidable.not_not]
              exact ih2 (e + 1) v (by omega) (by omega) (fun q2 => by omega)
            · (simp [gI, gL, gIL, gLI] <;> try rfl)
              try simp (disch := omega) only [nLe, nLeR, nLeL, nLt, nLtR, nLtL, nEq, nEqR, nEqL, nClamp, nClampR, nAdd, nAddR, nAddL, nSub, nSubR, nMul, nMulR, nMulL, nDivR, vIn, vInR, iteZ, iteP, lEq, lEqR, forall_eq, forall_const, true_implies, false_implies, not_true_eq_false, not_false_eq_true, true_and, and_true, implies_true, Decidable.not_not]
              rw [hG67 _ (by omega)]
              refine kX12_rank_0 hL1 (kX12_cutAll_121 hL1 ?_)
              try simp (disch := omega) only [nLe, nLeR, nLeL, nLt, nLtR, nLtL, nEq, nEqR, nEqL, nClamp, nClampR, nAdd, nAddR, nAddL, nSub, nSubR, nMul, nMulR, nMulL, nDivR, vIn, vInR, iteZ, iteP, lEq, lEqR, forall_eq, forall_const, true_implies, false_implies, not_true_eq_false, not_false_eq_true, true_and, and_true, implies_true, Decidable.not_not]
              refine ih2 (e + 1) _ (by omega) (by omega) (fun q2 => ?_)
              have hc := okS_lt (t3 e (by omega)).2
              rw [nI_l (by omega), hv (by omega), show e + 1 - k = (e - k) + 1 by omega, wv, show k + (e - k) = e by omega]
              show lN 27 * lN _ + lN _ = _
              rw [lN_mul, lN_add]
        exact lp (rn isLt T k - k) k 0 (by omega) (Nat.le_refl _) (fun _ => by rw [Nat.sub_self]; rfl)
  exact key T.1 0 0 _ (by omega) (Nat.le_refl _) hL ((kq_I (by simp [ctS])).sI (by simp [ctS])) (by (simp [gI, gL, gIL, gLI, t1] <;> try rfl)) (by (simp [gI, gL, gIL, gLI] <;> try rfl)) rfl (fun j h => absurd h (Nat.not_lt_zero j))
end MTAPE

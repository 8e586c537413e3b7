/-! the model: sets that hang together, joinings -/
theorem ro_c : ∀ j, j < 31 → ∀ r, r ≤ j → ∀ k, k < 17 → ((nI (2 ^ j) >>> (nI r &&& 31)) < (1 <<< (nI k &&& 31)) ↔ j < r + k) := by decide +kernel
section MSET
variable {K : KT} {G : St} {f P : Nat → Nat → Nat} {n t : Nat}
theorem s_rowOf {Q : Int32 → St → Prop} {j : Nat} (hj : j < 31) (hL : Lay G.2.2) (hQ : Q (nI j) G) : EvI K mX12_rowOf 0 0 [(0, .int (nI (2 ^ j)))] [] G Q := by
  have step : ∀ (k r : Nat), k < 17 → 0 < k → r ≤ j → (∀ r', r' ≤ j → (j < r + k → r' = r) → (r + k ≤ j → r' = r + k) → EvI K mX12_rowOf 0 5 [(0, .int (nI (2 ^ j))), (1, .int (nI r')), (2, .int (nI (k / 2)))] [] G Q) → EvI K mX12_rowOf 0 5 [(0, .int (nI (2 ^ j))), (1, .int (nI r)), (2, .int (nI k))] [] G Q := by
    intro k r hk h0 hr hgo
    refine kX12_rowOf_5 hL ?_
    rw [ro_c j hj r hr k hk]
    try simp (disch := omega) only [nLe, nLeR, nLeL, nLt, nLtR, nLtL, nEq, nEqR, nEqL, nClamp, nClampR, nAdd, nAddR, nAddL, nSub, nSubR, nMul, nMulR, nMulL, nDivR, vIn, vInR, iteZ, iteP, lEq, lEqR, forall_eq, forall_const, true_implies, false_implies, not_true_eq_false, not_false_eq_true, true_and, and_true, implies_true, Decidable.not_not, Nat.le_refl]
    refine ⟨fun z => by omega, fun _ => ⟨fun z => kX12_rowOf_24 hL ?_, fun z => kX12_rowOf_24 hL ?_⟩⟩
    · rw [show nI r + 0 = nI r from Int32.add_zero _]
      try simp (disch := omega) only [nLe, nLeR, nLeL, nLt, nLtR, nLtL, nEq, nEqR, nEqL, nClamp, nClampR, nAdd, nAddR, nAddL, nSub, nSubR, nMul, nMulR, nMulL, nDivR, vIn, vInR, iteZ, iteP, lEq, lEqR, forall_eq, forall_const, true_implies, false_implies, not_true_eq_false, not_false_eq_true, true_and, and_true, implies_true, Decidable.not_not, Nat.le_refl]
      exact hgo r hr (fun _ => rfl) (fun y => by omega)
    · try simp (disch := omega) only [nLe, nLeR, nLeL, nLt, nLtR, nLtL, nEq, nEqR, nEqL, nClamp, nClampR, nAdd, nAddR, nAddL, nSub, nSubR, nMul, nMulR, nMulL, nDivR, vIn, vInR, iteZ, iteP, lEq, lEqR, forall_eq, forall_const, true_implies, false_implies, not_true_eq_false, not_false_eq_true, true_and, and_true, implies_true, Decidable.not_not, Nat.le_refl]
      exact hgo (r + k) (by omega) (fun y => by omega) (fun _ => rfl)
  refine kX12_rowOf_0 hL ?_
  refine step 16 0 (by decide) (by decide) (Nat.zero_le _) (fun r1 a1 b1 c1 => ?_)
  refine step 8 r1 (by decide) (by decide) a1 (fun r2 a2 b2 c2 => ?_)
  refine step 4 r2 (by decide) (by decide) a2 (fun r3 a3 b3 c3 => ?_)
  refine step 2 r3 (by decide) (by decide) a3 (fun r4 a4 b4 c4 => ?_)
  refine step 1 r4 (by decide) (by decide) a4 (fun r5 a5 b5 c5 => ?_)
  refine kX12_rowOf_5 hL ⟨fun _ => ?_, fun z => absurd (by decide) z⟩
  have : r5 = j := by
    rcases Nat.lt_or_ge j 16 with q1 | q1 <;> rcases Nat.lt_or_ge j (r1 + 8) with q2 | q2 <;> rcases Nat.lt_or_ge j (r2 + 4) with q3 | q3 <;> rcases Nat.lt_or_ge j (r3 + 2) with q4 | q4 <;> rcases Nat.lt_or_ge j (r4 + 1) with q5 | q5 <;> simp only [Nat.zero_add] at * <;> omega
  rw [this]; exact hQ
theorem s_hang {Q : Int32 → St → Prop} {s : Nat} (hL : Lay G.2.2) (hX : MTi G f) (hf : okF f) (hs : s < 1073741824) (h0 : s ≠ 0) (hQ : Q (if dB (Cn (tdF f) s) = true then 1 else 0) G) : EvI K mX12_hang 1 0 [(0, .ref 66), (1, .int (nI s))] [] G Q := by
  have hs32 : s < 2 ^ 32 := by omega
  have hl := lo_bit h0 hs32
  have p2r : ∀ j, (2 ^ lo s).testBit j = true ↔ j = lo s := fun j => by rw [p2_bit, decide_eq_true_iff]; exact ⟨Eq.symm, Eq.symm⟩
  -- the ties of what is left
  have inner : ∀ (m y R A : Nat), pc y = m → sb y s → sb R s → (∀ B, B < 1073741824 → sb R B → sb B s → (∀ i j, y.testBit i = true → s.testBit j = true → (tdF f i).testBit j = true → B.testBit j = true) → (∀ j, B.testBit j = true → R.testBit j = true ∨ ∃ i, y.testBit i = true ∧ s.testBit j = true ∧ (tdF f i).testBit j = true) → EvI K mX12_hang 1 7 [(0, .ref 66), (1, .int (nI s)), (2, .int (nI B)), (3, .int (nI A))] [] G Q) → EvI K mX12_hang 1 17 [(0, .ref 66), (1, .int (nI s)), (2, .int (nI R)), (3, .int (nI A)), (4, .int (nI y))] [] G Q := by
    intro m
    induction m with
    | zero =>
      intro y R A hm hy hR hgo
      have e0 : y = 0 := (pc_pos (sb_lt hy hs32)).mp hm
      subst e0
      refine kX12_hang_17 hL ⟨fun _ => hgo R (sb_lt (n := 30) hR hs) (sb_rf R) hR (fun i j hi => by rw [Nat.zero_testBit] at hi; cases hi) (fun j hj => Or.inl hj), fun z => absurd rfl z⟩
    | succ m ih =>
      intro y R A hm hy hR hgo
      have hy0 : y ≠ 0 := fun e => by rw [e, pc_0] at hm; cases hm
      have hy30 : y < 2 ^ 30 := sb_lt (n := 30) hy hs
      have hy32 : y < 2 ^ 32 := by omega
      have hR30 : R < 2 ^ 30 := sb_lt (n := 30) hR hs
      have hly := lo_bit hy0 hy32
      have hloy : lo y < 30 := bt_lt hy30 hly
      have hcp := pc_clr hy0 hy32
      have htd := tdF_lt f (lo y)
      have cb : ∀ x, (clr y).testBit x = true ↔ y.testBit x = true ∧ x ≠ lo y := fun x => by rw [clr_bit hy0 hy32]; simp
      refine kX12_hang_17 hL ?_
      rw [low_and hy0 (by omega), clr_and hy0 hy32]
      try simp (disch := omega) only [nLe, nLeR, nLeL, nLt, nLtR, nLtL, nEq, nEqR, nEqL, nClamp, nClampR, nAdd, nAddR, nAddL, nSub, nSubR, nMul, nMulR, nMulL, nDivR, vIn, vInR, iteZ, iteP, lEq, lEqR, forall_eq, forall_const, true_implies, false_implies, not_true_eq_false, not_false_eq_true, true_and, and_true, implies_true, Decidable.not_not, Nat.le_refl]
      refine ⟨fun z => absurd z hy0, fun _ => s_rowOf (by omega) hL ?_⟩
      try simp (disch := omega) only [nLe, nLeR, nLeL, nLt, nLtR, nLtL, nEq, nEqR, nEqL, nClamp, nClampR, nAdd, nAddR, nAddL, nSub, nSubR, nMul, nMulR, nMulL, nDivR, vIn, vInR, iteZ, iteP, lEq, lEqR, forall_eq, forall_const, true_implies, false_implies, not_true_eq_false, not_false_eq_true, true_and, and_true, implies_true, Decidable.not_not, Nat.le_refl]
      rw [hX.2 _ hloy, fa_and, fa_or]
      have sb1 : sb (R ||| tdF f (lo y) &&& s) s := fun i hi => by
        rcases (or_bit _ _ _).mp hi with q | q
        · exact hR i q
        · exact ((and_bit _ _ _).mp q).2
      refine ⟨hloy, ih (clr y) (R ||| tdF f (lo y) &&& s) A (by omega) (fun i hi => hy i ((cb i).mp hi).1) sb1 (fun B hB h1 h2 h3 h4 => hgo B hB (fun i hi => h1 i ((or_bit _ _ _).mpr (Or.inl hi))) h2 (fun i j hi hj hij => ?_) (fun j hj => ?_))⟩
      · by_cases e : i = lo y
        · subst e
          exact h1 j ((or_bit _ _ _).mpr (Or.inr ((and_bit _ _ _).mpr ⟨hij, hj⟩)))
        · exact h3 i j ((cb i).mpr ⟨hi, e⟩) hj hij
      · rcases h4 j hj with q | ⟨i, a, b, c⟩
        · rcases (or_bit _ _ _).mp q with q | q
          · exact Or.inl q
          · have := (and_bit _ _ _).mp q
            exact Or.inr ⟨lo y, hly, this.2, this.1⟩
        · exact Or.inr ⟨i, ((cb i).mp a).1, b, c⟩
  have outer : ∀ (m R A : Nat), pc s ≤ pc R + m → sb R s → R.testBit (lo s) = true → (A = R ∨ pc A < pc R) → A < 1073741824 → (∀ i j, A.testBit i = true → s.testBit j = true → (tdF f i).testBit j = true → R.testBit j = true) → (∀ B, B.testBit (lo s) = true → (∀ i j, B.testBit i = true → s.testBit j = true → (tdF f i).testBit j = true → B.testBit j = true) → sb R B) → EvI K mX12_hang 1 7 [(0, .ref 66), (1, .int (nI s)), (2, .int (nI R)), (3, .int (nI A))] [] G Q := by
    have done : ∀ R, sb R s → R.testBit (lo s) = true → (∀ i j, R.testBit i = true → s.testBit j = true → (tdF f i).testBit j = true → R.testBit j = true) → (∀ B, B.testBit (lo s) = true → (∀ i j, B.testBit i = true → s.testBit j = true → (tdF f i).testBit j = true → B.testBit j = true) → sb R B) → EvI K mX12_hang 1 7 [(0, .ref 66), (1, .int (nI s)), (2, .int (nI R)), (3, .int (nI R))] [] G Q := by
      intro R hR hlR hcl hmin
      have hR30 : R < 2 ^ 30 := sb_lt (n := 30) hR hs
      have iff := Cn_reach (tdF_sy hf) hs32 hR hlR hcl hmin
      refine kX12_hang_7 hL ⟨fun _ => ?_, fun z => absurd rfl z⟩
      try simp (disch := omega) only [nLe, nLeR, nLeL, nLt, nLtR, nLtL, nEq, nEqR, nEqL, nClamp, nClampR, nAdd, nAddR, nAddL, nSub, nSubR, nMul, nMulR, nMulL, nDivR, vIn, vInR, iteZ, iteP, lEq, lEqR, forall_eq, forall_const, true_implies, false_implies, not_true_eq_false, not_false_eq_true, true_and, and_true, implies_true, Decidable.not_not, Nat.le_refl]
      refine ⟨fun z => ?_, fun z => ?_⟩
      · rw [if_neg (fun u => z (iff.mpr (dB_iff.mp u)))] at hQ; exact hQ
      · rw [if_pos (dB_iff.mpr (iff.mp z))] at hQ; exact hQ
    intro m
    induction m with
    | zero =>
      intro R A hm hR hlR hA hA30 hcl hmin
      have hR30 : R < 2 ^ 30 := sb_lt (n := 30) hR hs
      rcases hA with e | hlt
      · subst e; exact done A hR hlR hcl hmin
      · have e : R = s := pc_eq hs32 hR (by omega)
        refine kX12_hang_7 hL ?_
        try simp (disch := omega) only [nLe, nLeR, nLeL, nLt, nLtR, nLtL, nEq, nEqR, nEqL, nClamp, nClampR, nAdd, nAddR, nAddL, nSub, nSubR, nMul, nMulR, nMulL, nDivR, vIn, vInR, iteZ, iteP, lEq, lEqR, forall_eq, forall_const, true_implies, false_implies, not_true_eq_false, not_false_eq_true, true_and, and_true, implies_true, Decidable.not_not, Nat.le_refl]
        refine ⟨fun z => by rw [z] at hlt; omega, fun _ => inner (pc R) R R R rfl hR hR (fun B hB h1 h2 h3 h4 => ?_)⟩
        have eB : B = R := sb_ext (by rw [e]; exact h2) h1
        rw [eB]
        exact done R hR hlR (fun i j hi hj hij => by rw [← eB]; exact h3 i j hi hj hij) hmin
    | succ m ih =>
      intro R A hm hR hlR hA hA30 hcl hmin
      have hR30 : R < 2 ^ 30 := sb_lt (n := 30) hR hs
      rcases hA with e | hlt
      · subst e; exact done A hR hlR hcl hmin
      · refine kX12_hang_7 hL ?_
        try simp (disch := omega) only [nLe, nLeR, nLeL, nLt, nLtR, nLtL, nEq, nEqR, nEqL, nClamp, nClampR, nAdd, nAddR, nAddL, nSub, nSubR, nMul, nMulR, nMulL, nDivR, vIn, vInR, iteZ, iteP, lEq, lEqR, forall_eq, forall_const, true_implies, false_implies, not_true_eq_false, not_false_eq_true, true_and, and_true, implies_true, Decidable.not_not, Nat.le_refl]
        refine ⟨fun z => by rw [z] at hlt; omega, fun _ => inner (pc R) R R R rfl hR hR (fun B hB h1 h2 h3 h4 => ?_)⟩
        rcases Classical.em (B = R) with e | e
        · rw [e]
          exact done R hR hlR (fun i j hi hj hij => by rw [← e]; exact h3 i j hi hj hij) hmin
        · have hlt2 : pc R < pc B := by
            rcases Nat.lt_or_ge (pc R) (pc B) with q | q
            · exact q
            · exact absurd (pc_eq (by omega) h1 q).symm e
          refine ih B R (by omega) h2 (h1 _ hlR) (Or.inr hlt2) hR30 h3 (fun C hC hCc j hj => ?_)
          rcases h4 j hj with q | ⟨i, a, b, c⟩
          · exact hmin C hC hCc j q
          · exact hCc i j (hmin C hC hCc i a) b c
  refine kX12_hang_0 hL ?_
  rw [low_and h0 (by omega)]
  have hp0 : pc (2 ^ lo s) = 1 := pc_one _ (bt_lt hs32 hl)
  refine outer (pc s) (2 ^ lo s) 0 (by omega) (fun j hj => by rw [(p2r j).mp hj]; exact hl) ((p2r _).mpr rfl) (Or.inr (by rw [pc_0]; omega)) (by decide) (fun i j hi => by rw [Nat.zero_testBit] at hi; cases hi) (fun B hB _ j hj => by rw [(p2r j).mp hj]; exact hB)
theorem s_heldIn {Q : Int32 → St → Prop} {s : Nat} (hL : Lay G.2.2) (hH : MHt G P t) (ht : t ≤ 4) (hs : s < 1073741824) (hQ : Q (nI (ru (hdF P t) s)) G) : EvI K mX12_heldIn 1 0 [(0, .ref 66), (1, .int (nI s))] [] G Q := by
  have key : ∀ (m y a : Nat), pc y = m → y < 1073741824 → a < 16 → (∀ B, (∀ j, B.testBit j = true ↔ a.testBit j = true ∨ (ru (hdF P t) y).testBit j = true) → Q (nI B) G) → EvI K mX12_heldIn 1 4 [(0, .ref 66), (2, .int (nI a)), (3, .int (nI y))] [] G Q := by
    intro m
    induction m with
    | zero =>
      intro y a hm hy ha hgo
      have e0 : y = 0 := (pc_pos (by omega)).mp hm
      subst e0
      refine kX12_heldIn_4 hL ⟨fun _ => hgo a (fun j => ⟨Or.inl, fun h => h.elim id (fun h => ?_)⟩), fun z => absurd rfl z⟩
      obtain ⟨i, h1, h2⟩ := (ru_bit (by decide)).mp h
      rw [Nat.zero_testBit] at h1; cases h1
    | succ m ih =>
      intro y a hm hy ha hgo
      have hy0 : y ≠ 0 := fun e => by rw [e, pc_0] at hm; cases hm
      have hy32 : y < 2 ^ 32 := by omega
      have hly := lo_bit hy0 hy32
      have hloy : lo y < 30 := bt_lt (n := 30) hy hly
      have hcp := pc_clr hy0 hy32
      have hh := hdF_lt P t (lo y)
      have h16 : hdF P t (lo y) < 2 ^ 4 := Nat.lt_of_lt_of_le hh (Nat.pow_le_pow_right (by decide) ht)
      refine kX12_heldIn_4 hL ?_
      rw [low_and hy0 (by omega), clr_and hy0 hy32]
      try simp (disch := omega) only [nLe, nLeR, nLeL, nLt, nLtR, nLtL, nEq, nEqR, nEqL, nClamp, nClampR, nAdd, nAddR, nAddL, nSub, nSubR, nMul, nMulR, nMulL, nDivR, vIn, vInR, iteZ, iteP, lEq, lEqR, forall_eq, forall_const, true_implies, false_implies, not_true_eq_false, not_false_eq_true, true_and, and_true, implies_true, Decidable.not_not, Nat.le_refl]
      refine ⟨fun z => absurd z hy0, fun _ => s_rowOf (by omega) hL ?_⟩
      try simp (disch := omega) only [nLe, nLeR, nLeL, nLt, nLtR, nLtL, nEq, nEqR, nEqL, nClamp, nClampR, nAdd, nAddR, nAddL, nSub, nSubR, nMul, nMulR, nMulL, nDivR, vIn, vInR, iteZ, iteP, lEq, lEqR, forall_eq, forall_const, true_implies, false_implies, not_true_eq_false, not_false_eq_true, true_and, and_true, implies_true, Decidable.not_not, Nat.le_refl]
      rw [(hH _ hloy).2, fa_or]
      refine ⟨hloy, ih (clr y) (a ||| hdF P t (lo y)) (by omega) (Nat.lt_of_le_of_lt clr_lt hy) (Nat.or_lt_two_pow (n := 4) ha h16) (fun B hB => hgo B (fun j => ?_))⟩
      rw [hB j, or_bit, ru_bit (Nat.lt_of_le_of_lt clr_lt hy32), ru_bit hy32, or_assoc]
      constructor
      · rintro (h | h | ⟨i, h1, h2⟩)
        · exact Or.inl h
        · exact Or.inr ⟨lo y, hly, h⟩
        · rw [clr_bit hy0 hy32] at h1
          simp at h1
          exact Or.inr ⟨i, h1.1, h2⟩
      · rintro (h | ⟨i, h1, h2⟩)
        · exact Or.inl h
        · by_cases e : i = lo y
          · subst e; exact Or.inr (Or.inl h2)
          · exact Or.inr (Or.inr ⟨i, by rw [clr_bit hy0 hy32]; simp [h1, e], h2⟩)
  refine kX12_heldIn_0 hL (key (pc s) s 0 rfl hs (by decide) (fun B hB => ?_))
  have : B = ru (hdF P t) s := sb_ext (fun j hj => by
    rcases (hB j).mp hj with q | q
    · rw [Nat.zero_testBit] at q; cases q
    · exact q) (fun j hj => (hB j).mpr (Or.inr hj))
  rw [this]; exact hQ
theorem s_isJoining {Q : Int32 → St → Prop} {s : Nat} (hL : Lay G.2.2) (hX : MTi G f) (hf : okF f) (hH : MHt G P t) (ht : t ≤ 4) (ht1 : 1 ≤ t) (hs : s < 1073741824) (hQ : Q (if jqF f P t s = true then 1 else 0) G) : EvI K mX12_isJoining 2 0 [(0, .ref 66), (1, .int (nI s)), (2, .int (nI (2 ^ t - 1)))] [] G Q := by
  have hs32 : s < 2 ^ 32 := by omega
  have p2t : 2 ^ t ≤ 2 ^ 4 := Nat.pow_le_pow_right (by decide) ht
  have p2t1 : 2 ^ 1 ≤ 2 ^ t := Nat.pow_le_pow_right (by decide) ht1
  have ru0 : ru (hdF P t) 0 = 0 := by unfold ru; rw [bl_0]; rfl
  refine kX12_isJoining_0 hL (s_heldIn hL hH ht hs ?_)
  have hr := ruh_lt (P := P) ht s
  try simp (disch := omega) only [nLe, nLeR, nLeL, nLt, nLtR, nLtL, nEq, nEqR, nEqL, nClamp, nClampR, nAdd, nAddR, nAddL, nSub, nSubR, nMul, nMulR, nMulL, nDivR, vIn, vInR, iteZ, iteP, lEq, lEqR, forall_eq, forall_const, true_implies, false_implies, not_true_eq_false, not_false_eq_true, true_and, and_true, implies_true, Decidable.not_not, Nat.le_refl]
  refine ⟨fun z => ?_, fun z => ?_⟩
  · have key : ∀ (m y : Nat), pc y = m → sb y s → (∀ r, s.testBit r = true → y.testBit r = false → ¬ (ru (hdF P t) (wt s r) = 2 ^ t - 1 ∧ Cn (tdF f) (wt s r))) → EvI K mX12_isJoining 2 13 [(0, .ref 66), (1, .int (nI s)), (2, .int (nI (2 ^ t - 1))), (3, .int (nI y))] [] G Q := by
      intro m
      induction m with
      | zero =>
        intro y hm hy hd
        have e : y = 0 := (pc_pos (sb_lt hy hs32)).mp hm
        subst e
        refine kX12_isJoining_13 hL ⟨fun _ => ?_, fun z => absurd rfl z⟩
        have hj : jqF f P t s = true := dB_iff.mpr ⟨z, fun r hr => hd r hr (Nat.zero_testBit r)⟩
        rw [if_pos hj] at hQ
        exact hQ
      | succ m ih =>
        intro y hm hy hd
        have hy0 : y ≠ 0 := fun e => by rw [e, pc_0] at hm; cases hm
        have hy30 : y < 2 ^ 30 := sb_lt (n := 30) hy hs
        have hy32 : y < 2 ^ 32 := by omega
        have hl := lo_bit hy0 hy32
        have hw30 : wt s (lo y) < 2 ^ 30 := sb_lt (n := 30) (wt_sb hs32) hs
        have hcp := pc_clr hy0 hy32
        have next : ¬ (ru (hdF P t) (wt s (lo y)) = 2 ^ t - 1 ∧ Cn (tdF f) (wt s (lo y))) → EvI K mX12_isJoining 2 53 [(0, .ref 66), (1, .int (nI s)), (2, .int (nI (2 ^ t - 1))), (3, .int (nI y))] [] G Q := by
          intro hno
          refine kX12_isJoining_53 hL ?_
          rw [clr_and hy0 hy32]
          refine ih (clr y) (by omega) (fun i hi => ?_) (fun r hr hyr => ?_)
          · rw [clr_bit hy0 hy32] at hi; simp at hi; exact hy i hi.1
          · rw [clr_bit hy0 hy32] at hyr
            by_cases e : r = lo y
            · subst e; exact hno
            · simp [e] at hyr; exact hd r hr hyr
        refine kX12_isJoining_13 hL ?_
        rw [wt_lo hs hy0 hy]
        have hrw := ruh_lt (P := P) ht (wt s (lo y))
        try simp (disch := omega) only [nLe, nLeR, nLeL, nLt, nLtR, nLtL, nEq, nEqR, nEqL, nClamp, nClampR, nAdd, nAddR, nAddL, nSub, nSubR, nMul, nMulR, nMulL, nDivR, vIn, vInR, iteZ, iteP, lEq, lEqR, forall_eq, forall_const, true_implies, false_implies, not_true_eq_false, not_false_eq_true, true_and, and_true, implies_true, Decidable.not_not, Nat.le_refl]
        refine ⟨fun z => absurd z hy0, fun _ => ⟨fun z2 => next (fun u => ?_), fun z2 => s_heldIn hL hH ht hw30 ?_⟩⟩
        · rw [z2, ru0] at u; omega
        · try simp (disch := omega) only [nLe, nLeR, nLeL, nLt, nLtR, nLtL, nEq, nEqR, nEqL, nClamp, nClampR, nAdd, nAddR, nAddL, nSub, nSubR, nMul, nMulR, nMulL, nDivR, vIn, vInR, iteZ, iteP, lEq, lEqR, forall_eq, forall_const, true_implies, false_implies, not_true_eq_false, not_false_eq_true, true_and, and_true, implies_true, Decidable.not_not, Nat.le_refl]
          refine ⟨fun z3 => next (fun u => z3 u.1), fun z3 => s_hang hL hX hf hw30 z2 ?_⟩
          try simp (disch := omega) only [nLe, nLeR, nLeL, nLt, nLtR, nLtL, nEq, nEqR, nEqL, nClamp, nClampR, nAdd, nAddR, nAddL, nSub, nSubR, nMul, nMulR, nMulL, nDivR, vIn, vInR, iteZ, iteP, lEq, lEqR, forall_eq, forall_const, true_implies, false_implies, not_true_eq_false, not_false_eq_true, true_and, and_true, implies_true, Decidable.not_not, Nat.le_refl]
          refine ⟨fun z4 => next (fun u => z4 (dB_iff.mpr u.2)), fun z4 => ?_⟩
          have hj : jqF f P t s = false := dB_no.mpr (fun u => u.2 (lo y) (hy _ hl) ⟨z3, dB_iff.mp z4⟩)
          rw [if_neg (by rw [hj]; decide)] at hQ
          exact hQ
    exact key (pc s) s rfl (sb_rf s) (fun r h1 h2 => by rw [h1] at h2; cases h2)
  · have hj : jqF f P t s = false := dB_no.mpr (fun u => z u.1)
    rw [if_neg (by rw [hj]; decide)] at hQ
    exact hQ
theorem s_X12_holderIn {Q : Int32 → St → Prop} {s k : Nat} (hL : Lay G.2.2) (hH : MHt G P t) (hn : sI G 66 16 = nI n) (hn30 : n ≤ 30) (ht : t ≤ 4) (hk : k < t) (hP : ∀ k r, P k r ≤ 4 ∨ P k r = 9) (hPn : ∀ k r, n ≤ r → P k r = 9) (hs : s < 1073741824) (hex : ∃ r, s.testBit r = true ∧ P k r ≠ 9) (hQ : HI P s k (hi P s k) → Q (nI (hi P s k)) G) : EvI K mX12_holderIn 0 0 [(0, .ref 66), (1, .int (nI s)), (2, .int (nI k))] [] G Q := by
  have key : ∀ (m r : Nat) (x : Int32), r + m = n → ((x = -1 ∧ ∀ y, y < r → s.testBit y = true → P k y = 9) ∨ ∃ a, x = nI a ∧ a < r ∧ s.testBit a = true ∧ P k a ≠ 9 ∧ ∀ y, y < r → s.testBit y = true → (y < a → P k a < P k y) ∧ P k a ≤ P k y) → EvI K mX12_holderIn 0 5 [(0, .ref 66), (1, .int (nI s)), (2, .int (nI k)), (3, .int x), (4, .int (nI r))] [] G Q := by
    intro m
    induction m with
    | zero =>
      intro r x hm hx
      have er : r = n := by omega
      subst er
      refine kX12_holderIn_5 hL ?_
      rw [hn]
      try simp (disch := omega) only [nLe, nLeR, nLeL, nLt, nLtR, nLtL, nEq, nEqR, nEqL, nClamp, nClampR, nAdd, nAddR, nAddL, nSub, nSubR, nMul, nMulR, nMulL, nDivR, vIn, vInR, iteZ, iteP, lEq, lEqR, forall_eq, forall_const, true_implies, false_implies, not_true_eq_false, not_false_eq_true, true_and, and_true, implies_true, Decidable.not_not, Nat.le_refl]
      rcases hx with ⟨-, h⟩ | ⟨a, rfl, h1, h2, h3, h4⟩
      · obtain ⟨y, y1, y2⟩ := hex
        rcases Nat.lt_or_ge y r with q | q
        · exact absurd (h y q y1) y2
        · exact absurd (hPn k y q) y2
      · have hHI : HI P s k a := by
          refine ⟨h2, h3, fun y hy => ?_⟩
          rcases Nat.lt_or_ge y r with q | q
          · exact h4 y q hy
          · rw [hPn k y q]
            have := hP k a
            exact ⟨fun z => by omega, by omega⟩
        have e := hi_eq hHI
        rw [← e] at hHI
        rw [← e]
        rw [e] at hHI
        rw [← e] at hHI
        exact hQ hHI
    | succ m ih =>
      intro r x hm hx
      have hrn : r < n := by omega
      have hv := (hH r (by omega)).1 k (by omega)
      rw [if_pos hk] at hv
      have go : ∀ v : Int32, ((v = -1 ∧ ∀ y, y < r + 1 → s.testBit y = true → P k y = 9) ∨ ∃ a, v = nI a ∧ a < r + 1 ∧ s.testBit a = true ∧ P k a ≠ 9 ∧ ∀ y, y < r + 1 → s.testBit y = true → (y < a → P k a < P k y) ∧ P k a ≤ P k y) → EvI K mX12_holderIn 0 71 [(0, .ref 66), (1, .int (nI s)), (2, .int (nI k)), (4, .int (nI r))] [.int v] G Q := by
        intro v hv
        refine kX12_holderIn_71 hL ?_
        try simp (disch := omega) only [nLe, nLeR, nLeL, nLt, nLtR, nLtL, nEq, nEqR, nEqL, nClamp, nClampR, nAdd, nAddR, nAddL, nSub, nSubR, nMul, nMulR, nMulL, nDivR, vIn, vInR, iteZ, iteP, lEq, lEqR, forall_eq, forall_const, true_implies, false_implies, not_true_eq_false, not_false_eq_true, true_and, and_true, implies_true, Decidable.not_not, Nat.le_refl]
        exact ih (r + 1) v (by omega) hv
      -- this row does not hold it
      have skip : (s.testBit r = true → P k r = 9) → EvI K mX12_holderIn 0 70 [(0, .ref 66), (1, .int (nI s)), (2, .int (nI k)), (3, .int x), (4, .int (nI r))] [] G Q := by
        intro hno
        refine kX12_holderIn_70 hL (go x ?_)
        rcases hx with ⟨hx, h⟩ | ⟨a, hx, h1, h2, h3, h4⟩
        · refine Or.inl ⟨hx, fun y hy hys => ?_⟩
          rcases Nat.lt_succ_iff_lt_or_eq.mp hy with q | q
          · exact h y q hys
          · subst q; exact hno hys
        · refine Or.inr ⟨a, hx, by omega, h2, h3, fun y hy hys => ?_⟩
          rcases Nat.lt_succ_iff_lt_or_eq.mp hy with q | q
          · exact h4 y q hys
          · subst q
            rw [hno hys]
            have := hP k a
            exact ⟨fun z => by omega, by omega⟩
      refine kX12_holderIn_5 hL ?_
      rw [hn, bit_at (by omega) (by omega)]
      by_cases hb : s.testBit r = true
      · rw [if_pos hb]
        try simp (disch := omega) only [nLe, nLeR, nLeL, nLt, nLtR, nLtL, nEq, nEqR, nEqL, nClamp, nClampR, nAdd, nAddR, nAddL, nSub, nSubR, nMul, nMulR, nMulL, nDivR, vIn, vInR, iteZ, iteP, lEq, lEqR, forall_eq, forall_const, true_implies, false_implies, not_true_eq_false, not_false_eq_true, true_and, and_true, implies_true, Decidable.not_not, Nat.le_refl, hv]
        refine ⟨fun z => by omega, fun _ => ⟨by omega, kX12_holderIn_39 hL ?_⟩⟩
        by_cases hp : P k r = 9
        · rw [hp, hx_9]
          exact ⟨fun _ => skip (fun _ => hp), fun z => absurd (by decide) z⟩
        · have hp4 : P k r ≤ 4 := by have := hP k r; omega
          rw [hx_n hp]
          try simp (disch := omega) only [nLe, nLeR, nLeL, nLt, nLtR, nLtL, nEq, nEqR, nEqL, nClamp, nClampR, nAdd, nAddR, nAddL, nSub, nSubR, nMul, nMulR, nMulL, nDivR, vIn, vInR, iteZ, iteP, lEq, lEqR, forall_eq, forall_const, true_implies, false_implies, not_true_eq_false, not_false_eq_true, true_and, and_true, implies_true, Decidable.not_not, Nat.le_refl]
          refine ⟨fun z => by omega, fun _ => ?_⟩
          rcases hx with ⟨rfl, h⟩ | ⟨a, rfl, h1, h2, h3, h4⟩
          · refine ⟨fun _ => go _ (Or.inr ⟨r, rfl, by omega, hb, hp, fun y hy hys => ?_⟩), fun z => absurd (by decide) z⟩
            rcases Nat.lt_succ_iff_lt_or_eq.mp hy with q | q
            · rw [h y q hys]; exact ⟨fun _ => by omega, by omega⟩
            · subst q; exact ⟨fun z => by omega, by omega⟩
          · have ha4 : P k a ≤ 4 := by have := hP k a; omega
            have hva := (hH a (by omega)).1 k (by omega)
            rw [if_pos hk, hx_n h3] at hva
            try simp (disch := omega) only [nLe, nLeR, nLeL, nLt, nLtR, nLtL, nEq, nEqR, nEqL, nClamp, nClampR, nAdd, nAddR, nAddL, nSub, nSubR, nMul, nMulR, nMulL, nDivR, vIn, vInR, iteZ, iteP, lEq, lEqR, forall_eq, forall_const, true_implies, false_implies, not_true_eq_false, not_false_eq_true, true_and, and_true, implies_true, Decidable.not_not, Nat.le_refl, hva]
            refine ⟨fun z => by omega, fun _ => ⟨by omega, fun z => kX12_holderIn_70 hL (go _ (Or.inr ⟨a, rfl, by omega, h2, h3, fun y hy hys => ?_⟩)), fun z => go _ (Or.inr ⟨r, rfl, by omega, hb, hp, fun y hy hys => ?_⟩)⟩⟩
            · rcases Nat.lt_succ_iff_lt_or_eq.mp hy with q | q
              · exact h4 y q hys
              · subst q; exact ⟨fun z => by omega, z⟩
            · rcases Nat.lt_succ_iff_lt_or_eq.mp hy with q | q
              · have := (h4 y q hys).2
                exact ⟨fun _ => by omega, by omega⟩
              · subst q; exact ⟨fun z => by omega, by omega⟩
      · rw [if_neg hb]
        try simp (disch := omega) only [nLe, nLeR, nLeL, nLt, nLtR, nLtL, nEq, nEqR, nEqL, nClamp, nClampR, nAdd, nAddR, nAddL, nSub, nSubR, nMul, nMulR, nMulL, nDivR, vIn, vInR, iteZ, iteP, lEq, lEqR, forall_eq, forall_const, true_implies, false_implies, not_true_eq_false, not_false_eq_true, true_and, and_true, implies_true, Decidable.not_not, Nat.le_refl]
        refine ⟨fun z => by omega, fun _ => ⟨fun _ => kX12_holderIn_39 hL ⟨fun _ => skip (fun z => absurd z hb), fun z => absurd (by decide) z⟩, fun z => by omega⟩⟩
  exact kX12_holderIn_0 hL (key n 0 (-1) (by omega) (Or.inl ⟨rfl, fun y hy => absurd hy (Nat.not_lt_zero y)⟩))
theorem s_termsOf {Q : Int32 → St → Prop} {s : Nat} (hL : Lay G.2.2) (hH : MHt G P t) (hq : sI G 66 20 = nI t) (hn : sI G 66 16 = nI n) (hn30 : n ≤ 30) (ht : t ≤ 4) (hP : ∀ k r, P k r ≤ 4 ∨ P k r = 9) (hPn : ∀ k r, n ≤ r → P k r = 9) (hs : s < 1073741824) (hex : ∀ k, k < t → ∃ r, s.testBit r = true ∧ P k r ≠ 9) (hQ : Q (nI (trm P t s)) G) : EvI K mX12_termsOf 1 0 [(0, .ref 66), (1, .int (nI s))] [] G Q := by
  have key : ∀ (m k : Nat), k + m = t → EvI K mX12_termsOf 1 4 [(0, .ref 66), (1, .int (nI s)), (2, .int (nI (trm P k s))), (3, .int (nI k))] [] G Q := by
    intro m
    induction m with
    | zero =>
      intro k hm
      have ek : k = t := by omega
      subst ek
      refine kX12_termsOf_4 hL ?_
      rw [hq]
      try simp (disch := omega) only [nLe, nLeR, nLeL, nLt, nLtR, nLtL, nEq, nEqR, nEqL, nClamp, nClampR, nAdd, nAddR, nAddL, nSub, nSubR, nMul, nMulR, nMulL, nDivR, vIn, vInR, iteZ, iteP, lEq, lEqR, forall_eq, forall_const, true_implies, false_implies, not_true_eq_false, not_false_eq_true, true_and, and_true, implies_true, Decidable.not_not, Nat.le_refl]
      exact hQ
    | succ m ih =>
      intro k hm
      have hk4 : trm P k s ≤ k * 4 := trm_le (by omega) hP (fun j hj => hex j (by omega))
      refine kX12_termsOf_4 hL ?_
      rw [hq]
      try simp (disch := omega) only [nLe, nLeR, nLeL, nLt, nLtR, nLtL, nEq, nEqR, nEqL, nClamp, nClampR, nAdd, nAddR, nAddL, nSub, nSubR, nMul, nMulR, nMulL, nDivR, vIn, vInR, iteZ, iteP, lEq, lEqR, forall_eq, forall_const, true_implies, false_implies, not_true_eq_false, not_false_eq_true, true_and, and_true, implies_true, Decidable.not_not, Nat.le_refl]
      refine ⟨fun z => by omega, fun _ => s_X12_holderIn hL hH hn hn30 ht (by omega) hP hPn hs (hex k (by omega)) (fun hHI => ?_)⟩
      have hrn : hi P s k < n := by
        rcases Nat.lt_or_ge (hi P s k) n with q | q
        · exact q
        · exact absurd (hPn k _ q) hHI.2.1
      have hv := (hH (hi P s k) (by omega)).1 k (by omega)
      rw [if_pos (by omega), hx_n hHI.2.1] at hv
      have hp4 : P k (hi P s k) ≤ 4 := by have := hP k (hi P s k); have := hHI.2.1; omega
      try simp (disch := omega) only [nLe, nLeR, nLeL, nLt, nLtR, nLtL, nEq, nEqR, nEqL, nClamp, nClampR, nAdd, nAddR, nAddL, nSub, nSubR, nMul, nMulR, nMulL, nDivR, vIn, vInR, iteZ, iteP, lEq, lEqR, forall_eq, forall_const, true_implies, false_implies, not_true_eq_false, not_false_eq_true, true_and, and_true, implies_true, Decidable.not_not, Nat.le_refl, hv]
      refine ⟨by omega, ?_⟩
      have := ih (k + 1) (by omega)
      rw [show trm P (k + 1) s = trm P k s + P k (hi P s k) from by unfold trm; rw [fb_sm_succ]] at this
      exact this
  exact kX12_termsOf_0 hL (key t 0 (by omega))
theorem s_tiesOf {Q : Int32 → St → Prop} {s : Nat} (hL : Lay G.2.2) (hX : MTi G f) (hf : okF f) (hn : sI G 66 16 = nI n) (hn30 : n ≤ 30) (hs : s < 1073741824) (hsn : ∀ r, s.testBit r = true → r < n) (h0 : s ≠ 0) (h5 : pc s ≤ 5) (hc : Cn (tdF f) s) (hQ : Q (nI (ts f s)) G) : EvI K mX12_tiesOf 0 0 [(0, .ref 66), (1, .int (nI s))] [] G Q := by
  have hs32 : s < 2 ^ 32 := by omega
  have hl := lo_bit h0 hs32
  have hlo : lo s < 30 := bt_lt (n := 30) hs hl
  have ob : ∀ R, R < 1073741824 → ∀ j, (msk (fun j => s.testBit j && !R.testBit j) 30).testBit j = true ↔ s.testBit j = true ∧ R.testBit j = false := by
    intro R hR j
    rw [msk_bit]
    simp only [Bool.and_eq_true, decide_eq_true_eq, Bool.not_eq_true']
    exact ⟨fun h => h.2, fun h => ⟨bt_lt (n := 30) hs h.1, h⟩⟩
  have oe : ∀ R, R < 1073741824 → nI s &&& (nI R ^^^ (-1)) = nI (msk (fun j => s.testBit j && !R.testBit j) 30) := by
    intro R hR
    refine and_not (by omega) (by omega) (by have := msk_lt (fun j => s.testBit j && !R.testBit j) 30; omega) (fun j => ?_)
    rw [msk_bit]
    by_cases q : j < 30
    · simp [q]
    · have : s.testBit j = false := by
        cases z : s.testBit j
        · rfl
        · exact absurd (bt_lt (n := 30) hs z) q
      simp [q, this]
  have loop : ∀ (k R sum : Nat), sb R s → R.testBit (lo s) = true → pc R + k = pc s → sum ≤ 1000 - 11 * k → k ≤ 5 → (∀ x, Pm f s k R x → Q (nI (sum + x)) G) → EvI K mX12_tiesOf 0 7 [(0, .ref 66), (1, .int (nI s)), (2, .int (nI R)), (3, .int (nI sum))] [] G Q := by
    intro k
    induction k with
    | zero =>
      intro R sum hR hlR hpc hsum _ hgo
      have e : R = s := pc_eq hs32 hR (by omega)
      refine kX12_tiesOf_7 hL ⟨fun _ => ?_, fun z => absurd (by rw [e]) z⟩
      exact hgo 0 ⟨e, rfl⟩
    | succ k ih =>
      intro R sum hR hlR hpc hsum hk5 hgo
      have hR30 : R < 1073741824 := sb_lt (n := 30) hR hs
      have hne : R ≠ s := fun e => by rw [e] at hpc; omega
      obtain ⟨u0, v0, u1, v1, v2, uv⟩ := hc R hR (ne0' hlR) hne
      have huv0 : f u0 v0 ≠ 0 := (tdF_bit hf u0 v0).mp uv
      refine kX12_tiesOf_7 hL ?_
      try simp (disch := omega) only [nLe, nLeR, nLeL, nLt, nLtR, nLtL, nEq, nEqR, nEqL, nClamp, nClampR, nAdd, nAddR, nAddL, nSub, nSubR, nMul, nMulR, nMulL, nDivR, vIn, vInR, iteZ, iteP, lEq, lEqR, forall_eq, forall_const, true_implies, false_implies, not_true_eq_false, not_false_eq_true, true_and, and_true, implies_true, Decidable.not_not, Nat.le_refl]
      refine ⟨fun z => absurd z hne, fun _ => ?_⟩
      -- the best so far: of rows ahead of r, and of row r the columns ahead of c
      have inner : ∀ (m c r : Nat) (x y : Int32), c + m = n → r < n → R.testBit r = true → ((x = -1 ∧ ∀ u v, (u < r ∨ u = r ∧ v < c) → R.testBit u = true → s.testBit v = true → R.testBit v = false → f u v = 0) ∨ ∃ u v, x = nI (f u v) ∧ y = nI (2 ^ v) ∧ R.testBit u = true ∧ s.testBit v = true ∧ R.testBit v = false ∧ f u v ≠ 0 ∧ ∀ u' v', (u' < r ∨ u' = r ∧ v' < c) → R.testBit u' = true → s.testBit v' = true → R.testBit v' = false → f u' v' ≠ 0 → f u v ≤ f u' v') → (∀ x y : Int32, ((x = -1 ∧ ∀ u v, u < r + 1 → v < n → R.testBit u = true → s.testBit v = true → R.testBit v = false → f u v = 0) ∨ ∃ u v, x = nI (f u v) ∧ y = nI (2 ^ v) ∧ R.testBit u = true ∧ s.testBit v = true ∧ R.testBit v = false ∧ f u v ≠ 0 ∧ ∀ u' v', u' < r + 1 → v' < n → R.testBit u' = true → s.testBit v' = true → R.testBit v' = false → f u' v' ≠ 0 → f u v ≤ f u' v') → EvI K mX12_tiesOf 0 125 [(0, .ref 66), (1, .int (nI s)), (2, .int (nI R)), (3, .int (nI sum)), (4, .int x), (5, .int y), (6, .int (nI r))] [] G Q) → EvI K mX12_tiesOf 0 33 [(0, .ref 66), (1, .int (nI s)), (2, .int (nI R)), (3, .int (nI sum)), (4, .int x), (5, .int y), (6, .int (nI r)), (7, .int (nI c))] [] G Q := by
        intro m
        induction m with
        | zero =>
          intro c r x y hm hr hrR hx hgo2
          have ec : c = n := by omega
          subst ec
          refine kX12_tiesOf_33 hL ?_
          rw [hn]
          try simp (disch := omega) only [nLe, nLeR, nLeL, nLt, nLtR, nLtL, nEq, nEqR, nEqL, nClamp, nClampR, nAdd, nAddR, nAddL, nSub, nSubR, nMul, nMulR, nMulL, nDivR, vIn, vInR, iteZ, iteP, lEq, lEqR, forall_eq, forall_const, true_implies, false_implies, not_true_eq_false, not_false_eq_true, true_and, and_true, implies_true, Decidable.not_not, Nat.le_refl]
          refine hgo2 x y ?_
          rcases hx with ⟨e, h⟩ | ⟨u, v, a1, a2, a3, a4, a5, a6, a7⟩
          · exact Or.inl ⟨e, fun u v hu hv => h u v (by omega)⟩
          · exact Or.inr ⟨u, v, a1, a2, a3, a4, a5, a6, fun u' v' hu hv => a7 u' v' (by omega)⟩
        | succ m ihm =>
          intro c r x y hm hr hrR hx hgo2
          have hcn : c < n := by omega
          have hv := hX.1 r c (by omega) (by omega)
          have h11 := hf.2.1 r c
          have next : ∀ x y : Int32, ((x = -1 ∧ ∀ u v, (u < r ∨ u = r ∧ v < c + 1) → R.testBit u = true → s.testBit v = true → R.testBit v = false → f u v = 0) ∨ ∃ u v, x = nI (f u v) ∧ y = nI (2 ^ v) ∧ R.testBit u = true ∧ s.testBit v = true ∧ R.testBit v = false ∧ f u v ≠ 0 ∧ ∀ u' v', (u' < r ∨ u' = r ∧ v' < c + 1) → R.testBit u' = true → s.testBit v' = true → R.testBit v' = false → f u' v' ≠ 0 → f u v ≤ f u' v') → EvI K mX12_tiesOf 0 119 [(0, .ref 66), (1, .int (nI s)), (2, .int (nI R)), (3, .int (nI sum)), (4, .int x), (5, .int y), (6, .int (nI r)), (7, .int (nI c))] [] G Q := by
            intro x y hxy
            refine kX12_tiesOf_119 hL ?_
            try simp (disch := omega) only [nLe, nLeR, nLeL, nLt, nLtR, nLtL, nEq, nEqR, nEqL, nClamp, nClampR, nAdd, nAddR, nAddL, nSub, nSubR, nMul, nMulR, nMulL, nDivR, vIn, vInR, iteZ, iteP, lEq, lEqR, forall_eq, forall_const, true_implies, false_implies, not_true_eq_false, not_false_eq_true, true_and, and_true, implies_true, Decidable.not_not, Nat.le_refl]
            exact ihm (c + 1) r x y (by omega) hr hrR hxy hgo2
          have same : ¬ (s.testBit c = true ∧ R.testBit c = false ∧ f r c ≠ 0) → EvI K mX12_tiesOf 0 119 [(0, .ref 66), (1, .int (nI s)), (2, .int (nI R)), (3, .int (nI sum)), (4, .int x), (5, .int y), (6, .int (nI r)), (7, .int (nI c))] [] G Q := by
            intro hno
            refine next x y ?_
            rcases hx with ⟨e, h⟩ | ⟨u, v, a1, a2, a3, a4, a5, a6, a7⟩
            · refine Or.inl ⟨e, fun u v huv hu hv1 hv2 => ?_⟩
              by_cases e2 : u = r ∧ v = c
              · obtain ⟨rfl, rfl⟩ := e2
                rcases Classical.em (f u v = 0) with q | q
                · exact q
                · exact absurd ⟨hv1, hv2, q⟩ hno
              · exact h u v (by omega) hu hv1 hv2
            · refine Or.inr ⟨u, v, a1, a2, a3, a4, a5, a6, fun u' v' huv hu hv1 hv2 hn0 => ?_⟩
              by_cases e2 : u' = r ∧ v' = c
              · obtain ⟨rfl, rfl⟩ := e2
                exact absurd ⟨hv1, hv2, hn0⟩ hno
              · exact a7 u' v' (by omega) hu hv1 hv2 hn0
          have take : s.testBit c = true → R.testBit c = false → f r c ≠ 0 → (∀ u' v', (u' < r ∨ u' = r ∧ v' < c) → R.testBit u' = true → s.testBit v' = true → R.testBit v' = false → f u' v' ≠ 0 → f r c ≤ f u' v') → EvI K mX12_tiesOf 0 109 [(0, .ref 66), (1, .int (nI s)), (2, .int (nI R)), (3, .int (nI sum)), (6, .int (nI r)), (7, .int (nI c)), (8, .int (nI (f r c)))] [] G Q := by
            intro t1 t2 t3 t4
            refine kX12_tiesOf_109 hL ?_
            rw [shl_one (by omega)]
            refine next _ _ (Or.inr ⟨r, c, rfl, rfl, hrR, t1, t2, t3, fun u' v' huv hu hv1 hv2 hn0 => ?_⟩)
            by_cases e2 : u' = r ∧ v' = c
            · obtain ⟨rfl, rfl⟩ := e2; exact Nat.le_refl _
            · exact t4 u' v' (by omega) hu hv1 hv2 hn0
          refine kX12_tiesOf_33 hL ?_
          rw [hn, bit_at (by omega) (by omega), if_pos hrR, oe R hR30]
          generalize hO : msk (fun j => s.testBit j && !R.testBit j) 30 = O
          have hOb := ob R hR30
          rw [hO] at hOb
          have hO30 : O < 1073741824 := by rw [← hO]; exact msk_lt _ 30
          rw [bit_at (by omega) (by omega)]
          try simp (disch := omega) only [nLe, nLeR, nLeL, nLt, nLtR, nLtL, nEq, nEqR, nEqL, nClamp, nClampR, nAdd, nAddR, nAddL, nSub, nSubR, nMul, nMulR, nMulL, nDivR, vIn, vInR, iteZ, iteP, lEq, lEqR, forall_eq, forall_const, true_implies, false_implies, not_true_eq_false, not_false_eq_true, true_and, and_true, implies_true, Decidable.not_not, Nat.le_refl, hv]
          refine ⟨fun z => by omega, fun _ => ⟨by omega, fun z => same (fun u => ?_), fun z => ?_⟩⟩
          · have hOc := (hOb c).mpr ⟨u.1, u.2.1⟩
            rw [pk_shrN (by omega) (nI c &&& 31) c (s_l c (by omega)), nEqR (Nat.lt_of_le_of_lt (Nat.div_le_self _ _) (by omega)) (by decide)] at z
            rw [Nat.testBit_eq_decide_div_mod_eq, z] at hOc
            exact absurd hOc (by decide)
          · by_cases hOc : O.testBit c = true
            · rw [if_pos hOc]
              obtain ⟨c1, c2⟩ := (hOb c).mp hOc
              try simp (disch := omega) only [nLe, nLeR, nLeL, nLt, nLtR, nLtL, nEq, nEqR, nEqL, nClamp, nClampR, nAdd, nAddR, nAddL, nSub, nSubR, nMul, nMulR, nMulL, nDivR, vIn, vInR, iteZ, iteP, lEq, lEqR, forall_eq, forall_const, true_implies, false_implies, not_true_eq_false, not_false_eq_true, true_and, and_true, implies_true, Decidable.not_not, Nat.le_refl]
              by_cases hf0 : f r c = 0
              · have : tx (f r c) = -1 := by unfold tx; rw [if_pos hf0]
                rw [this]
                exact ⟨fun _ => same (fun u => u.2.2 hf0), fun z => absurd (by decide) z⟩
              · have : tx (f r c) = nI (f r c) := by unfold tx; rw [if_neg hf0]
                rw [this]
                try simp (disch := omega) only [nLe, nLeR, nLeL, nLt, nLtR, nLtL, nEq, nEqR, nEqL, nClamp, nClampR, nAdd, nAddR, nAddL, nSub, nSubR, nMul, nMulR, nMulL, nDivR, vIn, vInR, iteZ, iteP, lEq, lEqR, forall_eq, forall_const, true_implies, false_implies, not_true_eq_false, not_false_eq_true, true_and, and_true, implies_true, Decidable.not_not, Nat.le_refl]
                refine ⟨fun z => by omega, fun _ => ?_⟩
                rcases hx with ⟨rfl, h⟩ | ⟨u, v, rfl, a2, a3, a4, a5, a6, a7⟩
                · exact ⟨fun _ => take c1 c2 hf0 (fun u' v' a b c d e => absurd (h u' v' a b c d) e), fun z => absurd (by decide) z⟩
                · have hfuv := hf.2.1 u v
                  try simp (disch := omega) only [nLe, nLeR, nLeL, nLt, nLtR, nLtL, nEq, nEqR, nEqL, nClamp, nClampR, nAdd, nAddR, nAddL, nSub, nSubR, nMul, nMulR, nMulL, nDivR, vIn, vInR, iteZ, iteP, lEq, lEqR, forall_eq, forall_const, true_implies, false_implies, not_true_eq_false, not_false_eq_true, true_and, and_true, implies_true, Decidable.not_not, Nat.le_refl]
                  refine ⟨fun z => by omega, fun _ => ⟨fun z => next _ _ (Or.inr ⟨u, v, rfl, a2, a3, a4, a5, a6, fun u' v' huv hu hv1 hv2 hn0 => ?_⟩), fun z => take c1 c2 hf0 (fun u' v' a b c d e => by have := a7 u' v' a b c d e; omega)⟩⟩
                  by_cases e2 : u' = r ∧ v' = c
                  · obtain ⟨rfl, rfl⟩ := e2; exact z
                  · exact a7 u' v' (by omega) hu hv1 hv2 hn0
            · rw [if_neg hOc]
              try simp (disch := omega) only [nLe, nLeR, nLeL, nLt, nLtR, nLtL, nEq, nEqR, nEqL, nClamp, nClampR, nAdd, nAddR, nAddL, nSub, nSubR, nMul, nMulR, nMulL, nDivR, vIn, vInR, iteZ, iteP, lEq, lEqR, forall_eq, forall_const, true_implies, false_implies, not_true_eq_false, not_false_eq_true, true_and, and_true, implies_true, Decidable.not_not, Nat.le_refl]
              refine ⟨fun _ => same (fun u => hOc ((hOb c).mpr ⟨u.1, u.2.1⟩)), fun z => by omega⟩
      have outer : ∀ (m r : Nat) (x y : Int32), r + m = n → ((x = -1 ∧ ∀ u v, u < r → v < n → R.testBit u = true → s.testBit v = true → R.testBit v = false → f u v = 0) ∨ ∃ u v, x = nI (f u v) ∧ y = nI (2 ^ v) ∧ R.testBit u = true ∧ s.testBit v = true ∧ R.testBit v = false ∧ f u v ≠ 0 ∧ ∀ u' v', u' < r → v' < n → R.testBit u' = true → s.testBit v' = true → R.testBit v' = false → f u' v' ≠ 0 → f u v ≤ f u' v') → EvI K mX12_tiesOf 0 21 [(0, .ref 66), (1, .int (nI s)), (2, .int (nI R)), (3, .int (nI sum)), (4, .int x), (5, .int y), (6, .int (nI r))] [] G Q := by
        intro m
        induction m with
        | zero =>
          intro r x y hm hx
          have er : r = n := by omega
          subst er
          refine kX12_tiesOf_21 hL ?_
          rw [hn]
          try simp (disch := omega) only [nLe, nLeR, nLeL, nLt, nLtR, nLtL, nEq, nEqR, nEqL, nClamp, nClampR, nAdd, nAddR, nAddL, nSub, nSubR, nMul, nMulR, nMulL, nDivR, vIn, vInR, iteZ, iteP, lEq, lEqR, forall_eq, forall_const, true_implies, false_implies, not_true_eq_false, not_false_eq_true, true_and, and_true, implies_true, Decidable.not_not, Nat.le_refl]
          rcases hx with ⟨-, h⟩ | ⟨u, v, rfl, rfl, a3, a4, a5, a6, a7⟩
          · exact absurd (h u0 v0 (hsn _ (hR _ u1)) (hsn _ v1) u1 v1 v2) huv0
          · have hfuv := hf.2.1 u v
            rw [fa_or]
            try simp (disch := omega) only [nLe, nLeR, nLeL, nLt, nLtR, nLtL, nEq, nEqR, nEqL, nClamp, nClampR, nAdd, nAddR, nAddL, nSub, nSubR, nMul, nMulR, nMulL, nDivR, vIn, vInR, iteZ, iteP, lEq, lEqR, forall_eq, forall_const, true_implies, false_implies, not_true_eq_false, not_false_eq_true, true_and, and_true, implies_true, Decidable.not_not, Nat.le_refl]
            refine ih (R ||| 2 ^ v) (sum + f u v) (fun i z => ?_) ((or_bit _ _ _).mpr (Or.inl hlR)) (by rw [pc_add (bt_lt hs32 a4) a5]; omega) (by omega) (by omega) (fun x hx => ?_)
            · rcases (add_bit _ _ _).mp z with q | q
              · exact hR i q
              · rw [q]; exact a4
            · rw [Nat.add_assoc]
              exact hgo (f u v + x) ⟨u, v, x, a3, a4, a5, a6, fun u' v' a b c d => a7 u' v' (hsn _ (hR _ a)) (hsn _ b) a b c d, rfl, hx⟩
        | succ m ihm =>
          intro r x y hm hx
          have hrn : r < n := by omega
          have next : ∀ x y : Int32, ((x = -1 ∧ ∀ u v, u < r + 1 → v < n → R.testBit u = true → s.testBit v = true → R.testBit v = false → f u v = 0) ∨ ∃ u v, x = nI (f u v) ∧ y = nI (2 ^ v) ∧ R.testBit u = true ∧ s.testBit v = true ∧ R.testBit v = false ∧ f u v ≠ 0 ∧ ∀ u' v', u' < r + 1 → v' < n → R.testBit u' = true → s.testBit v' = true → R.testBit v' = false → f u' v' ≠ 0 → f u v ≤ f u' v') → EvI K mX12_tiesOf 0 125 [(0, .ref 66), (1, .int (nI s)), (2, .int (nI R)), (3, .int (nI sum)), (4, .int x), (5, .int y), (6, .int (nI r))] [] G Q := by
            intro x y hxy
            refine kX12_tiesOf_125 hL ?_
            try simp (disch := omega) only [nLe, nLeR, nLeL, nLt, nLtR, nLtL, nEq, nEqR, nEqL, nClamp, nClampR, nAdd, nAddR, nAddL, nSub, nSubR, nMul, nMulR, nMulL, nDivR, vIn, vInR, iteZ, iteP, lEq, lEqR, forall_eq, forall_const, true_implies, false_implies, not_true_eq_false, not_false_eq_true, true_and, and_true, implies_true, Decidable.not_not, Nat.le_refl]
            exact ihm (r + 1) x y (by omega) hxy
          refine kX12_tiesOf_21 hL ?_
          rw [hn]
          try simp (disch := omega) only [nLe, nLeR, nLeL, nLt, nLtR, nLtL, nEq, nEqR, nEqL, nClamp, nClampR, nAdd, nAddR, nAddL, nSub, nSubR, nMul, nMulR, nMulL, nDivR, vIn, vInR, iteZ, iteP, lEq, lEqR, forall_eq, forall_const, true_implies, false_implies, not_true_eq_false, not_false_eq_true, true_and, and_true, implies_true, Decidable.not_not, Nat.le_refl]
          refine ⟨fun z => by omega, fun _ => ?_⟩
          by_cases hrR : R.testBit r = true
          · refine inner n 0 r x y (by omega) hrn hrR ?_ next
            rcases hx with ⟨e, h⟩ | ⟨u, v, a1, a2, a3, a4, a5, a6, a7⟩
            · exact Or.inl ⟨e, fun u v huv hu hv1 hv2 => h u v (by omega) (hsn _ hv1) hu hv1 hv2⟩
            · exact Or.inr ⟨u, v, a1, a2, a3, a4, a5, a6, fun u' v' huv hu hv1 hv2 => a7 u' v' (by omega) (hsn _ hv1) hu hv1 hv2⟩
          · refine kX12_tiesOf_33 hL ?_
            rw [hn, bit_at (by omega) (by omega), if_neg hrR]
            try simp (disch := omega) only [nLe, nLeR, nLeL, nLt, nLtR, nLtL, nEq, nEqR, nEqL, nClamp, nClampR, nAdd, nAddR, nAddL, nSub, nSubR, nMul, nMulR, nMulL, nDivR, vIn, vInR, iteZ, iteP, lEq, lEqR, forall_eq, forall_const, true_implies, false_implies, not_true_eq_false, not_false_eq_true, true_and, and_true, implies_true, Decidable.not_not, Nat.le_refl]
            refine ⟨fun z => by omega, fun _ => ⟨fun _ => next x y ?_, fun z => by omega⟩⟩
            rcases hx with ⟨e, h⟩ | ⟨u, v, a1, a2, a3, a4, a5, a6, a7⟩
            · refine Or.inl ⟨e, fun u v hu hv huR => ?_⟩
              have : u ≠ r := fun e => by rw [e] at huR; exact hrR huR
              exact h u v (by omega) hv huR
            · refine Or.inr ⟨u, v, a1, a2, a3, a4, a5, a6, fun u' v' hu hv huR => ?_⟩
              have : u' ≠ r := fun e => by rw [e] at huR; exact hrR huR
              exact a7 u' v' (by omega) hv huR
      exact outer n 0 (-1) 0 (by omega) (Or.inl ⟨rfl, fun u v hu => absurd hu (Nat.not_lt_zero u)⟩)
  refine kX12_tiesOf_0 hL ?_
  rw [low_and h0 (by omega)]
  have p1 := pc_one (lo s) (by omega)
  have hps : 1 ≤ pc s := by
    rcases Nat.eq_zero_or_pos (pc s) with q | q
    · exact absurd ((pc_pos hs32).mp q) h0
    · exact q
  exact loop (pc s - 1) (2 ^ lo s) 0 (fun i z => by rw [p2_bit, decide_eq_true_iff] at z; subst z; exact hl) (by rw [p2_bit]; simp) (by omega) (by omega) (by omega) (fun x hx => by
    rw [Nat.zero_add, ← ts_eq hf.1 hs32 h0 hf.2.1 hx]; exact hQ)
end MSET

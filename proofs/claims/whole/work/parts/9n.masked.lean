/-! asked, said: the model -/
section MASKED
variable {K : KT} {G : St} {a : AS} {e : Nat}
theorem m_asked {Q : Int32 → St → Prop} {x y : Int32} (hL : Lay G.2.2) (h : MI G a) (ho : OkA e a) (he : e ≤ 1000) (hQ : ∀ G', Lay G'.2.2 → MI G' a → KM G G' → Q (rAsk a x y) G') : EvI K mX12_asked 7 0 [(0, .ref 66), (1, .int x), (2, .int y)] [] G Q := by
  have n30 : nQ a ≤ 30000 := ho.fl30
  refine kX12_asked_0 hL (s_isQuestion hL h ho (fun G1 l1 h1 f1 k1 => ?_))
  have hr := hQ G1 l1 h1 k1
  unfold rAsk at hr
  rcases num_cases x (n := nQ a) (by omega) with ⟨q, hq, eq⟩ | hnx
  · have hx : inR x (nQ a) := by rw [eq, inR_n (by omega)]; exact hq
    rw [if_pos hx]
    rw [if_pos hx, eq, nI_nat (by omega)] at hr
    rw [eq]
    refine ⟨fun z => absurd z (by decide), fun _ => s_X12_within l1 ?_⟩
    obtain ⟨s1, s2, s3⟩ := f1.qat ho hq
    by_cases hy : (0 : Int32).toInt ≤ y.toInt ∧ y.toInt ≤ (4 : Int32).toInt
    · rw [if_pos hy]
      refine ⟨fun _ => ⟨fun z => ?_, fun z => ?_, fun z => ?_, fun z => ?_, fun z1 z2 z3 z4 => ?_⟩, fun z => absurd z (by decide)⟩
      · rw [if_pos z] at hr
        try simp (disch := omega) only [nLe, nLeR, nLeL, nLt, nLtR, nLtL, nEq, nEqR, nEqL, nClamp, nClampR, nAdd, nAddR, nAddL, nSub, nSubR, nMul, nMulR, nMulL, nDivR, vIn, vInR, iteZ, iteP, lEq, lEqR, forall_eq, forall_const, true_implies, false_implies, not_true_eq_false, not_false_eq_true, true_and, and_true, implies_true, Decidable.not_not, Nat.le_refl, s3]
        exact ⟨by omega, hr⟩
      · rw [if_neg (by rw [z]; decide), if_pos z] at hr
        try simp (disch := omega) only [nLe, nLeR, nLeL, nLt, nLtR, nLtL, nEq, nEqR, nEqL, nClamp, nClampR, nAdd, nAddR, nAddL, nSub, nSubR, nMul, nMulR, nMulL, nDivR, vIn, vInR, iteZ, iteP, lEq, lEqR, forall_eq, forall_const, true_implies, false_implies, not_true_eq_false, not_false_eq_true, true_and, and_true, implies_true, Decidable.not_not, Nat.le_refl, s2]
        exact ⟨by omega, hr⟩
      · rw [if_neg (by rw [z]; decide), if_neg (by rw [z]; decide), if_pos z] at hr
        have y7 := ho.yq7 hq
        refine s_tablesOf l1 s1 ho hq ?_
        try simp (disch := omega) only [nLe, nLeR, nLeL, nLt, nLtR, nLtL, nEq, nEqR, nEqL, nClamp, nClampR, nAdd, nAddR, nAddL, nSub, nSubR, nMul, nMulR, nMulL, nDivR, vIn, vInR, iteZ, iteP, lEq, lEqR, forall_eq, forall_const, true_implies, false_implies, not_true_eq_false, not_false_eq_true, true_and, and_true, implies_true, Decidable.not_not, Nat.le_refl, h1.c.ch _ y7]
        exact ⟨y7, hr⟩
      · rw [if_neg (by rw [z]; decide), if_neg (by rw [z]; decide), if_neg (by rw [z]; decide), if_pos z] at hr
        exact s_X12_rankOf l1 h1 f1 ho he hq hr
      · have e4 : y = 4 := by
          have y1 : y.toInt ≠ 0 := fun z => z1 (by rw [fa_eq]; exact z)
          have y2 : y.toInt ≠ 1 := fun z => z2 (by rw [fa_eq]; exact z)
          have y3 : y.toInt ≠ 2 := fun z => z3 (by rw [fa_eq]; exact z)
          have y4 : y.toInt ≠ 3 := fun z => z4 (by rw [fa_eq]; exact z)
          have h0 : (0 : Int32).toInt = 0 := rfl
          have h3 : (4 : Int32).toInt = 4 := rfl
          rw [fa_eq]; omega
        refine s_saysSentence l1 h1 f1 ho hq (fun G2 l2 h2 k2 w2 => ?_)
        have hr2 := hQ G2 l2 h2 (k1.tr k2)
        unfold rAsk at hr2
        rw [if_pos hx, eq, nI_nat (by omega), if_neg z1, if_neg z2, if_neg z3, if_neg z4, if_pos e4] at hr2
        rw [w2.1]; exact hr2
    · rw [if_neg hy]
      rw [if_neg (fun z => hy (by rw [z]; decide)), if_neg (fun z => hy (by rw [z]; decide)), if_neg (fun z => hy (by rw [z]; decide)), if_neg (fun z => hy (by rw [z]; decide)), if_neg (fun z => hy (by rw [z]; decide))] at hr
      exact ⟨fun z => absurd rfl z, fun _ => hr⟩
  · rw [if_neg hnx]
    rw [if_neg hnx] at hr
    exact ⟨fun _ => hr, fun z => absurd rfl z⟩
theorem m_said {Q : Int32 → St → Prop} {x y : Int32} (hL : Lay G.2.2) (h : MI G a) (ho : OkA e a) (hQ : ∀ G', Lay G'.2.2 → MI G' a → KM G G' → Q (rSaid a x y) G') : EvI K mX12_said 7 0 [(0, .ref 66), (1, .int x), (2, .int y)] [] G Q := by
  have n30 : nQ a ≤ 30000 := ho.fl30
  refine kX12_said_0 hL (s_isQuestion hL h ho (fun G1 l1 h1 f1 k1 => ?_))
  rcases num_cases x (n := nQ a) (by omega) with ⟨q, hq, eq⟩ | hnx
  · have hx : inR x (nQ a) := by rw [eq, inR_n (by omega)]; exact hq
    rw [if_pos hx, eq]
    refine ⟨fun _ => s_saysSentence l1 h1 f1 ho hq (fun G2 l2 h2 k2 w2 => s_X12_within l2 ?_), fun z => absurd z (by decide)⟩
    have hr := hQ G2 l2 h2 (k1.tr k2)
    unfold rSaid at hr
    rw [eq, nI_nat (by omega)] at hr
    rw [eq] at hx
    have sl := ho.sl hq
    rw [w2.1, nI_dec (by omega)]
    rcases num_cases y (n := (sen a q).length) (by omega) with ⟨k, hk, ek⟩ | hny
    · have hy : inR y (sen a q).length := by rw [ek, inR_n (by omega)]; exact hk
      rw [if_pos (inR_w.mpr hy)]
      rw [if_pos ⟨hx, hy⟩, ek, nI_nat (by omega)] at hr
      rw [ek]
      have w3 := w2.2 k _ (getD_lt hk)
      refine ⟨fun z => absurd z (by decide), fun _ => ?_⟩
      try simp (disch := omega) only [nLe, nLeR, nLeL, nLt, nLtR, nLtL, nEq, nEqR, nEqL, nClamp, nClampR, nAdd, nAddR, nAddL, nSub, nSubR, nMul, nMulR, nMulL, nDivR, vIn, vInR, iteZ, iteP, lEq, lEqR, forall_eq, forall_const, true_implies, false_implies, not_true_eq_false, not_false_eq_true, true_and, and_true, implies_true, Decidable.not_not, Nat.le_refl, w3]
      exact ⟨by omega, hr⟩
    · rw [if_neg (fun z => hny (inR_w.mp z))]
      rw [if_neg (fun z => hny z.2)] at hr
      exact ⟨fun _ => hr, fun z => absurd rfl z⟩
  · rw [if_neg hnx]
    have hr := hQ G1 l1 h1 k1
    unfold rSaid at hr
    rw [if_neg (fun z => hnx z.1)] at hr
    exact ⟨fun z => absurd rfl z, fun _ => hr⟩
end MASKED

/-! the model's calls: rows, terms, joinings -/
section MTOPS
variable {K : KT} {G : St} {a : AS} {e : Nat}
theorem MI.th (h : MI G a) (ho : OkA e a) {v : Int32} : MI (uI G 66 0 v) a := h.kq ho.c4 (kq_I (S := fun i k => i = 66 ∧ k = 0) ⟨rfl, rfl⟩) (fun i k z => by unfold mS sAl; omega)
theorem km_th {v : Int32} : KM G (uI G 66 0 v) := kq_I ⟨by decide, by decide⟩
theorem ly_th (hL : Lay G.2.2) {v : Int32} : Lay (uI G 66 0 v).2.2 := hL
/-- thrown := 0, then all is found -/
theorem s_find0 {Q : St → Prop} (hL : Lay G.2.2) (h : MI G a) (ho : OkA e a) (hQ : ∀ G', Lay G'.2.2 → MI G' a → MF G' a → KM G G' → Q G') : EvV K mX12_findAll 5 0 [(0, .ref 66)] [] (uI G 66 0 0) Q :=
  s_findAll (ly_th hL) (h.th ho) ho (fun G' h1 h2 h3 h4 => hQ G' h1 h2 h3 (km_th.tr (h4.km (fun i k z => by unfold sAl at z; omega))))
theorem inR_w {x : Int32} {n : Nat} : ((0 : Int32).toInt ≤ x.toInt ∧ x.toInt ≤ (n : Int) - 1) ↔ inR x n := by
  rw [show (0 : Int32).toInt = 0 from rfl]
  show _ ↔ 0 ≤ _ ∧ _ < _
  omega
theorem nI_dec {n : Nat} (h : n < 2147483648) : (nI n - 1).toInt = (n : Int) - 1 := by
  by_cases z : n = 0
  · subst z; decide
  · rw [show nI n - 1 = nI (n - 1) from nSub (b := 1) (by omega), nI_toInt (by omega)]; omega
theorem m_holds {Q : Int32 → St → Prop} {x y : Int32} (hL : Lay G.2.2) (h : MI G a) (ho : OkA e a) (hQ : ∀ G', Lay G'.2.2 → MI G' a → KM G G' → Q (rHolds a x y) G') : EvI K mX12_holds 6 0 [(0, .ref 66), (1, .int x), (2, .int y)] [] G Q := by
  have q4 := ho.q4
  have w30 := ho.w30
  refine kX12_holds_0 hL (s_find0 hL h ho (fun G1 l1 h1 f1 k1 => ?_))
  have := hQ G1 l1 h1 k1
  unfold rHolds at this
  refine s_X12_isSeen l1 (h1.c.ms ho) ?_
  by_cases hx : snR a x
  · rw [if_pos hx]
    refine ⟨fun z => absurd z (by decide), fun _ => s_X12_within l1 ?_⟩
    rw [h1.c.tq.1, nI_dec (by omega)]
    by_cases hy : inR y a.q.1
    · rw [if_pos (inR_w.mpr hy)]
      refine ⟨fun z => absurd z (by decide), fun _ => ?_⟩
      rw [if_pos ⟨hy, hx⟩] at this
      obtain ⟨r, hr, er, -⟩ := ho.sn hx
      rcases num_cases y (n := a.q.1) (by omega) with ⟨k, hk, ek⟩ | hno
      · rw [er, ek, nI_nat (by omega), nI_nat (by omega)] at this
        rw [er, ek]
        have hh := (f1.ht r (by omega)).1 k (by omega)
        rw [if_pos hk] at hh
        try simp (disch := omega) only [nLe, nLeR, nLeL, nLt, nLtR, nLtL, nEq, nEqR, nEqL, nClamp, nClampR, nAdd, nAddR, nAddL, nSub, nSubR, nMul, nMulR, nMulL, nDivR, vIn, vInR, iteZ, iteP, lEq, lEqR, forall_eq, forall_const, true_implies, false_implies, not_true_eq_false, not_false_eq_true, true_and, and_true, implies_true, Decidable.not_not, Nat.le_refl, hh]
        exact ⟨by omega, this⟩
      · exact absurd hy hno
    · rw [if_neg (fun z => hy (inR_w.mp z))]
      rw [if_neg (fun z => hy z.1)] at this
      exact ⟨fun _ => this, fun z => absurd rfl z⟩
  · rw [if_neg hx]
    rw [if_neg (fun z => hx z.2)] at this
    exact ⟨fun _ => this, fun z => absurd rfl z⟩
theorem m_found {Q : Int32 → St → Prop} {x : Int32} (hL : Lay G.2.2) (h : MI G a) (ho : OkA e a) (hQ : ∀ G', Lay G'.2.2 → MI G' a → KM G G' → Q (rFound a x) G') : EvI K mX12_found 6 0 [(0, .ref 66), (1, .int x)] [] G Q := by
  have q4 := ho.q4
  have w30 := ho.w30
  refine kX12_found_0 hL (s_find0 hL h ho (fun G1 l1 h1 f1 k1 => s_X12_within l1 ?_))
  have hq := hQ G1 l1 h1 k1
  unfold rFound at hq
  rw [h1.c.tq.1, nI_dec (by omega)]
  rcases num_cases x (n := a.q.1) (by omega) with ⟨k, hk, ek⟩ | hno
  · have hx : inR x a.q.1 := by rw [ek, inR_n (by omega)]; exact hk
    rw [if_pos (inR_w.mpr hx)]
    rw [if_pos hx, ek, nI_nat (by omega)] at hq
    refine ⟨fun _ => ?_, fun z => absurd z (by decide)⟩
    rw [ek]
    have key : ∀ (m r : Nat), r + m = a.w.1 → EvI K mX12_found 6 29 [(0, .ref 66), (1, .int (nI k)), (2, .int (nI (fb_ct (fun r => a.P k r != 9) r))), (3, .int (nI r))] [] G1 Q := by
      intro m
      induction m with
      | zero =>
        intro r hm
        refine kX12_found_29 l1 ?_
        rw [h1.c.ro.1, show r = a.w.1 by omega]
        exact ⟨fun _ => hq, fun z => absurd (Int32.le_refl _) z⟩
      | succ m ih =>
        intro r hm
        have ct := fb_ct_le (fun r => a.P k r != 9) r
        have hh := (f1.ht r (by omega)).1 k (by omega)
        rw [if_pos hk] at hh
        have next : ∀ d, d = (if (a.P k r != 9) = true then 1 else 0) → EvI K mX12_found 6 56 [(0, .ref 66), (1, .int (nI k)), (3, .int (nI r))] [.int (nI d), .int (nI (fb_ct (fun r => a.P k r != 9) r))] G1 Q := by
          intro d hd
          refine kX12_found_56 l1 ?_
          have := ih (r + 1) (by omega)
          rw [fb_ct, ← hd] at this
          try simp (disch := omega) only [nLe, nLeR, nLeL, nLt, nLtR, nLtL, nEq, nEqR, nEqL, nClamp, nClampR, nAdd, nAddR, nAddL, nSub, nSubR, nMul, nMulR, nMulL, nDivR, vIn, vInR, iteZ, iteP, lEq, lEqR, forall_eq, forall_const, true_implies, false_implies, not_true_eq_false, not_false_eq_true, true_and, and_true, implies_true, Decidable.not_not, Nat.le_refl]
          exact this
        have p9 : a.P k r ≤ 9 := by have := ho.P1 k r; omega
        refine kX12_found_29 l1 ?_
        rw [h1.c.ro.1]
        try simp (disch := omega) only [nLe, nLeR, nLeL, nLt, nLtR, nLtL, nEq, nEqR, nEqL, nClamp, nClampR, nAdd, nAddR, nAddL, nSub, nSubR, nMul, nMulR, nMulL, nDivR, vIn, vInR, iteZ, iteP, lEq, lEqR, forall_eq, forall_const, true_implies, false_implies, not_true_eq_false, not_false_eq_true, true_and, and_true, implies_true, Decidable.not_not, Nat.le_refl, hh]
        refine ⟨fun z => by omega, fun _ => ⟨by omega, fun z => next 0 ?_, fun z => next 1 ?_⟩⟩
        · by_cases e9 : a.P k r = 9
          · simp [e9]
          · have := (hx_ge p9).mpr e9
            rw [fa_lt] at z
            rw [fa_le] at this
            omega
        · by_cases e9 : a.P k r = 9
          · rw [e9] at z; exact absurd (show (-1 : Int32) < 0 by decide) z
          · simp [e9]
    exact key a.w.1 0 (by omega)
  · rw [if_neg (fun z => hno (inR_w.mp z))]
    rw [if_neg hno] at hq
    exact ⟨fun z => absurd rfl z, fun _ => hq⟩
theorem m_tie {Q : Int32 → St → Prop} {x y : Int32} (hL : Lay G.2.2) (h : MI G a) (ho : OkA e a) (hQ : ∀ G', Lay G'.2.2 → MI G' a → KM G G' → Q (rTie a x y) G') : EvI K mX12_tie 6 0 [(0, .ref 66), (1, .int x), (2, .int y)] [] G Q := by
  have w30 := ho.w30
  refine kX12_tie_0 hL (s_find0 hL h ho (fun G1 l1 h1 f1 k1 => s_X12_isSeen l1 (h1.c.ms ho) ?_))
  have hq := hQ G1 l1 h1 k1
  unfold rTie at hq
  by_cases hx : snR a x
  · rw [if_pos hx]
    refine ⟨fun z => absurd z (by decide), fun _ => s_X12_isSeen l1 (h1.c.ms ho) ?_⟩
    by_cases hy : snR a y
    · rw [if_pos hy]
      rw [if_pos ⟨hx, hy⟩] at hq
      obtain ⟨r, hr, er, -⟩ := ho.sn hx
      obtain ⟨s, hs, es, -⟩ := ho.sn hy
      rw [er, es, nI_nat (by omega), nI_nat (by omega)] at hq
      rw [er, es]
      have hh := f1.ti.1 r s (by omega) (by omega)
      refine ⟨fun z => absurd z (by decide), fun _ => ?_⟩
      try simp (disch := omega) only [nLe, nLeR, nLeL, nLt, nLtR, nLtL, nEq, nEqR, nEqL, nClamp, nClampR, nAdd, nAddR, nAddL, nSub, nSubR, nMul, nMulR, nMulL, nDivR, vIn, vInR, iteZ, iteP, lEq, lEqR, forall_eq, forall_const, true_implies, false_implies, not_true_eq_false, not_false_eq_true, true_and, and_true, implies_true, Decidable.not_not, Nat.le_refl, hh]
      exact ⟨by omega, hq⟩
    · rw [if_neg hy]
      rw [if_neg (fun z => hy z.2)] at hq
      exact ⟨fun _ => hq, fun z => absurd rfl z⟩
  · rw [if_neg hx]
    rw [if_neg (fun z => hx z.1)] at hq
    exact ⟨fun _ => hq, fun z => absurd rfl z⟩
theorem s_isOne {Q : Int32 → St → Prop} {x : Int32} (hL : Lay G.2.2) (h : MI G a) (ho : OkA e a) (hQ : ∀ G', Lay G'.2.2 → MI G' a → MF G' a → KM G G' → Q (if inR x a.J.length then 1 else 0) G') : EvI K mX12_isOne 6 0 [(0, .ref 66), (1, .int x)] [] (uI G 66 0 0) Q := by
  have jl := ho.Jl
  refine kX12_isOne_0 (ly_th hL) (s_find0 hL h ho (fun G1 l1 h1 f1 k1 => ?_))
  have hq := hQ G1 l1 h1 f1 k1
  rw [f1.or.1.1, fa_lt, fa_le, nI_toInt (by omega), show (0 : Int32).toInt = 0 from rfl]
  refine ⟨fun z => ?_, fun z => ⟨fun z2 => ?_, fun z2 => ?_⟩⟩
  · rw [if_neg (by omega)] at hq; exact hq
  · rw [if_neg (by omega)] at hq; exact hq
  · rw [if_pos (by omega)] at hq; exact hq
/-- the set of a joining -/
theorem MF.at (f1 : MF G a) (ho : OkA e a) {i : Nat} (hi : i < a.J.length) : ∃ j, j < a.J.length ∧ sI G 92 i = nI j ∧ sI G 90 j = nI (a.O.getD i 0) ∧ sI G 91 j = nI (tpr a.f a.P a.q.1 (a.O.getD i 0)) ∧ a.O.getD i 0 ∈ a.J ∧ a.O[i]? = some (a.O.getD i 0) := by
  have hs := getD_lt (l := a.O) (q := i) (by rw [ho.Ol]; exact hi)
  obtain ⟨j, j1, j2, j3⟩ := f1.or.2 i _ hs
  exact ⟨j, j1, j2, (f1.or.1.2 j _ j3).1, (f1.or.1.2 j _ j3).2, ho.Om hs, hs⟩
theorem m_place {Q : Int32 → St → Prop} {x y : Int32} (hL : Lay G.2.2) (h : MI G a) (ho : OkA e a) (hQ : ∀ G', Lay G'.2.2 → MI G' a → KM G G' → Q (rPlace a x y) G') : EvI K mX12_place 7 0 [(0, .ref 66), (1, .int x), (2, .int y)] [] G Q := by
  have q4 := ho.q4
  have jl := ho.Jl
  refine kX12_place_0 hL (s_isOne hL h ho (fun G1 l1 h1 f1 k1 => ?_))
  have hq := hQ G1 l1 h1 k1
  unfold rPlace at hq
  rcases num_cases x (n := a.J.length) (by omega) with ⟨i, hi', ei⟩ | hnx
  · have hx : inR x a.J.length := by rw [ei, inR_n (by omega)]; exact hi'
    rw [if_pos hx]
    refine ⟨fun z => absurd z (by decide), fun _ => s_X12_within l1 ?_⟩
    rw [h1.c.tq.1, nI_dec (by omega)]
    rcases num_cases y (n := a.q.1) (by omega) with ⟨k, hk, ek⟩ | hno
    · have hy : inR y a.q.1 := by rw [ek, inR_n (by omega)]; exact hk
      rw [if_pos (inR_w.mpr hy)]
      rw [if_pos ⟨hy, hx⟩, ei, ek, nI_nat (by omega), nI_nat (by omega)] at hq
      rw [ei, ek]
      obtain ⟨j, j1, j2, j3, j4, j5, j6⟩ := f1.at ho hi'
      have oj := (ho.oJ.2 _ j5).2.2.2.1
      refine ⟨fun z => absurd z (by decide), fun _ => ?_⟩
      try simp (disch := omega) only [nLe, nLeR, nLeL, nLt, nLtR, nLtL, nEq, nEqR, nEqL, nClamp, nClampR, nAdd, nAddR, nAddL, nSub, nSubR, nMul, nMulR, nMulL, nDivR, vIn, vInR, iteZ, iteP, lEq, lEqR, forall_eq, forall_const, true_implies, false_implies, not_true_eq_false, not_false_eq_true, true_and, and_true, implies_true, Decidable.not_not, Nat.le_refl, j2]
      rw [j3]
      exact ⟨by omega, by omega, s_X12_holderIn l1 f1.ht h1.c.ro.1 ho.w30 ho.q4 hk ho.P1 ho.P2 oj.1 (oj.2.2.2.2 k hk) (fun _ => hq)⟩
    · rw [if_neg (fun z => hno (inR_w.mp z))]
      rw [if_neg (fun z => hno z.1)] at hq
      exact ⟨fun _ => hq, fun z => absurd rfl z⟩
  · rw [if_neg hnx]
    rw [if_neg (fun z => hnx z.2)] at hq
    exact ⟨fun _ => hq, fun z => absurd rfl z⟩
theorem OkA.cL (ho : OkA e a) {i : Nat} (hi : i < a.J.length) : a.mc i ∈ cL := mC_mem (b := a.b) ho.w30 ho.P1 ho.P2 ho.wb ho.b5 (ho.J1 (ho.Om (getD_lt (l := a.O) (q := i) (by rw [ho.Ol]; exact hi)))).1
theorem cL_31 {x : Nat} (hx : x ∈ cL) : x < 2147483648 := by
  unfold cL at hx
  simp only [List.mem_flatMap, List.mem_map, vL, vN, List.mem_range] at hx
  obtain ⟨a, ⟨a1, h1, a2, h2, a3, h3, a4, h4, a5, h5, rfl⟩, x1, y1, x2, y2, x3, y3, x4, y4, rfl⟩ := hx
  have dl : ∀ u, u ∈ dgt (a1, a2, a3, a4, a5) → u ≤ 4 := by
    intro u hu
    unfold dgt at hu
    simp only [List.mem_cons, List.mem_append] at hu
    rcases hu with rfl | hu | hu | hu | hu
    · decide
    all_goals (split at hu; cases hu; rw [List.mem_singleton] at hu; omega)
  have z1 := dl x1 y1
  have z2 := dl x2 y2
  have z3 := dl x3 y3
  have z4 := dl x4 y4
  dsimp only
  omega
theorem OkA.fl30 (ho : OkA e a) : (fL a.mc a.J.length).length ≤ 30000 := fL_30000 (fun i hi => ho.cL hi)
theorem s_qOf {Q : Int32 → St → Prop} {v : Nat} (hL : Lay G.2.2) (f1 : MF G a) (ho : OkA e a) (hv : v < 2147483648) (hQ : Q (lst (fun q => a.mc ((fL a.mc a.J.length).getD q 0) == v) (fL a.mc a.J.length).length) G) : EvI K mX12_questionOf 0 0 [(0, .ref 66), (1, .int (nI v))] [] G Q := by
  have h30 := ho.fl30
  refine s_questionOf hL f1.qs.2.1 (by omega) (fun q hq => ?_) hv hQ
  have hg := getD_lt hq
  exact ⟨(f1.qs.2.2 q _ hg).1, cL_31 (ho.cL (fL_lt (getE_mem hg)))⟩
theorem m_joining {Q : Int32 → St → Prop} {x y : Int32} (hL : Lay G.2.2) (h : MI G a) (ho : OkA e a) (hQ : ∀ G', Lay G'.2.2 → MI G' a → KM G G' → Q (rJoin a x y) G') : EvI K mX12_joining 7 0 [(0, .ref 66), (1, .int x), (2, .int y)] [] G Q := by
  have q4 := ho.q4
  have jl := ho.Jl
  refine kX12_joining_0 hL (s_isOne hL h ho (fun G1 l1 h1 f1 k1 => ?_))
  have hq := hQ G1 l1 h1 k1
  unfold rJoin at hq
  rcases num_cases x (n := a.J.length) (by omega) with ⟨i, hi', ei⟩ | hnx
  · have hx : inR x a.J.length := by rw [ei, inR_n (by omega)]; exact hi'
    rw [if_pos hx]
    rw [if_pos hx, ei, nI_nat (by omega)] at hq
    rw [ei]
    refine ⟨fun z => absurd z (by decide), fun _ => s_X12_within l1 ?_⟩
    obtain ⟨j, j1, j2, j3, j4, j5, j6⟩ := f1.at ho hi'
    have oJ := ho.oJ.2 _ j5
    have oj := oJ.2.2.2.1
    by_cases hy : (0 : Int32).toInt ≤ y.toInt ∧ y.toInt ≤ (3 : Int32).toInt
    · rw [if_pos hy]
      refine ⟨fun _ => ?_, fun z => absurd z (by decide)⟩
      try simp (disch := omega) only [nLe, nLeR, nLeL, nLt, nLtR, nLtL, nEq, nEqR, nEqL, nClamp, nClampR, nAdd, nAddR, nAddL, nSub, nSubR, nMul, nMulR, nMulL, nDivR, vIn, vInR, iteZ, iteP, lEq, lEqR, forall_eq, forall_const, true_implies, false_implies, not_true_eq_false, not_false_eq_true, true_and, and_true, implies_true, Decidable.not_not, Nat.le_refl, j2]
      rw [j3, j4]
      refine ⟨by omega, by omega, fun z => ?_, fun z => ?_, fun z => ?_, fun z1 z2 z3 => ?_⟩
      · rw [if_pos z] at hq; exact hq
      · rw [if_neg (by rw [z]; decide), if_pos z] at hq
        exact ⟨by omega, by omega, hq⟩
      · rw [if_neg (by rw [z]; decide), if_neg (by rw [z]; decide), if_pos z] at hq
        exact s_codeOf l1 ho.b5 h1.c.ro f1.ht h1.c.tq.1 ho.q4 ho.P1 ho.P2 oj oJ.2.2.2.2 (s_qOf l1 f1 ho (cL_31 (ho.cL hi')) hq)
      · have e3 : y = 3 := by
          have y1 : y.toInt ≠ 0 := fun z => z1 (by rw [fa_eq]; exact z)
          have y2 : y.toInt ≠ 1 := fun z => z2 (by rw [fa_eq]; exact z)
          have y3 : y.toInt ≠ 2 := fun z => z3 (by rw [fa_eq]; exact z)
          have h0 : (0 : Int32).toInt = 0 := rfl
          have h3 : (3 : Int32).toInt = 3 := rfl
          rw [fa_eq]; omega
        rw [if_neg z1, if_neg z2, if_neg z3, if_pos e3] at hq
        exact s_tiesOf l1 f1.ti ho.f' h1.c.ro.1 ho.w30 oj.1 oJ.2.2.2.2 oj.2.1 oj.2.2.1 oj.2.2.2.1 hq
    · rw [if_neg hy]
      rw [if_neg (fun z => hy (by rw [z]; decide)), if_neg (fun z => hy (by rw [z]; decide)), if_neg (fun z => hy (by rw [z]; decide)), if_neg (fun z => hy (by rw [z]; decide))] at hq
      exact ⟨fun z => absurd rfl z, fun _ => hq⟩
  · rw [if_neg hnx]
    rw [if_neg hnx] at hq
    exact ⟨fun _ => hq, fun z => absurd rfl z⟩
end MTOPS

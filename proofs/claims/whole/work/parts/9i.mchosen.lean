/-! the model: what was chosen -/
section MCHOSEN
variable {K : KT} {G : St} {a : AS} {e : Nat}
theorem MF.qat (f1 : MF G a) (ho : OkA e a) {q : Nat} (hq : q < nQ a) : sI G 96 q = nI (a.mc (fq a q)) ∧ sI G 97 q = nI (fq a q) ∧ sI G 98 q = nI (cQ a.mc a.J.length (fq a q)) := f1.qs.2.2 q _ (ho.fqE hq).1
theorem s_isQuestion {Q : Int32 → St → Prop} {x : Int32} (hL : Lay G.2.2) (h : MI G a) (ho : OkA e a) (hQ : ∀ G', Lay G'.2.2 → MI G' a → MF G' a → KM G G' → Q (if inR x (nQ a) then 1 else 0) G') : EvI K mX12_isQuestion 6 0 [(0, .ref 66), (1, .int x)] [] (uI G 66 0 0) Q := by
  have n30 : nQ a ≤ 30000 := ho.fl30
  refine kX12_isQuestion_0 (ly_th hL) (s_find0 hL h ho (fun G1 l1 h1 f1 k1 => ?_))
  have hq := hQ G1 l1 h1 f1 k1
  rw [f1.qs.1, fa_lt, fa_le, nI_toInt (show (fL a.mc a.J.length).length < 2147483648 by have : (fL a.mc a.J.length).length ≤ 30000 := n30; omega), show (0 : Int32).toInt = 0 from rfl]
  unfold nQ at hq
  refine ⟨fun z => ?_, fun z => ⟨fun z2 => ?_, fun z2 => ?_⟩⟩
  · rw [if_neg (by omega)] at hq; exact hq
  · rw [if_neg (by omega)] at hq; exact hq
  · rw [if_pos (by omega)] at hq; exact hq
theorem s_tablesOf {Q : Int32 → St → Prop} {q : Nat} (hL : Lay G.2.2) (h96 : sI G 96 q = nI (a.mc (fq a q))) (ho : OkA e a) (hq : q < nQ a) (hQ : Q (nI (yq a q)) G) : EvI K mX12_tablesOf 0 0 [(0, .ref 66), (1, .int (nI q))] [] G Q := by
  have n30 : nQ a ≤ 30000 := ho.fl30
  have c31 := cL_31 (ho.cL (ho.fqE hq).2)
  refine kX12_tablesOf_0 hL ?_
  try simp (disch := omega) only [nLe, nLeR, nLeL, nLt, nLtR, nLtL, nEq, nEqR, nEqL, nClamp, nClampR, nAdd, nAddR, nAddL, nSub, nSubR, nMul, nMulR, nMulL, nDivR, vIn, vInR, iteZ, iteP, lEq, lEqR, forall_eq, forall_const, true_implies, false_implies, not_true_eq_false, not_false_eq_true, true_and, and_true, implies_true, Decidable.not_not, Nat.le_refl, h96]
  exact ⟨by omega, hQ⟩
theorem OkA.yq7 (ho : OkA e a) {q : Nat} (hq : q < nQ a) : yq a q < 7776 := yL_lt _ (ho.yqE (ho.fqE hq).2).1
theorem s_X12_rankOf {Q : Int32 → St → Prop} {q : Nat} (hL : Lay G.2.2) (h : MI G a) (f1 : MF G a) (ho : OkA e a) (he : e ≤ 1000) (hq : q < nQ a) (hQ : Q (nI (rkQ a q)) G) : EvI K mX12_rankOf 1 0 [(0, .ref 66), (1, .int (nI q))] [] G Q := by
  have n30 : nQ a ≤ 30000 := ho.fl30
  have hcq := ho.ch (yq a q)
  have y7 := ho.yq7 hq
  have key : ∀ (m p : Nat), p + m = nQ a → EvI K mX12_rankOf 1 4 [(0, .ref 66), (1, .int (nI q)), (2, .int (nI (fb_ct (fun p => decide (a.ch (yq a q) < a.ch (yq a p) ∨ a.ch (yq a p) = a.ch (yq a q) ∧ p < q)) p))), (3, .int (nI p))] [] G Q := by
    intro m
    induction m with
    | zero =>
      intro p hm
      refine kX12_rankOf_4 hL ?_
      rw [f1.qs.1, show p = (fL a.mc a.J.length).length from by rw [show p = nQ a by omega]; rfl]
      exact ⟨fun _ => hQ, fun z => absurd (Int32.le_refl _) z⟩
    | succ m ih =>
      intro p hm
      have ct := fb_ct_le (fun p => decide (a.ch (yq a q) < a.ch (yq a p) ∨ a.ch (yq a p) = a.ch (yq a q) ∧ p < q)) p
      have hp : p < nQ a := by omega
      have hcp := ho.ch (yq a p)
      have p7 := ho.yq7 hp
      have := ih (p + 1) (by omega)
      rw [fb_ct] at this
      have go : ∀ d, d = (if decide (a.ch (yq a q) < a.ch (yq a p) ∨ a.ch (yq a p) = a.ch (yq a q) ∧ p < q) = true then 1 else 0) → EvI K mX12_rankOf 1 56 [(0, .ref 66), (1, .int (nI q)), (3, .int (nI p))] [.int (nI d), .int (nI (fb_ct (fun p => decide (a.ch (yq a q) < a.ch (yq a p) ∨ a.ch (yq a p) = a.ch (yq a q) ∧ p < q)) p))] G Q := by
        intro d hd
        refine kX12_rankOf_56 hL ?_
        rw [← hd] at this
        try simp (disch := omega) only [nLe, nLeR, nLeL, nLt, nLtR, nLtL, nEq, nEqR, nEqL, nClamp, nClampR, nAdd, nAddR, nAddL, nSub, nSubR, nMul, nMulR, nMulL, nDivR, vIn, vInR, iteZ, iteP, lEq, lEqR, forall_eq, forall_const, true_implies, false_implies, not_true_eq_false, not_false_eq_true, true_and, and_true, implies_true, Decidable.not_not, Nat.le_refl]
        exact this
      have z1 : sI G 66 43 = nI (nQ a) := f1.qs.1
      refine kX12_rankOf_4 hL ?_
      rw [z1]
      have ep := h.c.ch _ p7
      have eq := h.c.ch _ y7
      refine ⟨fun z => absurd z (by try simp (disch := omega) only [nLe, nLeR, nLeL, nLt, nLtR, nLtL, nEq, nEqR, nEqL, nClamp, nClampR, nAdd, nAddR, nAddL, nSub, nSubR, nMul, nMulR, nMulL, nDivR, vIn, vInR, iteZ, iteP, lEq, lEqR, forall_eq, forall_const, true_implies, false_implies, not_true_eq_false, not_false_eq_true, true_and, and_true, implies_true, Decidable.not_not, Nat.le_refl]; omega), fun _ => s_tablesOf hL (f1.qat ho hp).1 ho hp ⟨by rw [vIn (by omega)]; exact p7, s_tablesOf hL (f1.qat ho hq).1 ho hq ⟨by rw [vIn (by omega)]; exact y7, ?_⟩⟩⟩
      rw [nI_clamp (by omega), nI_clamp (by omega), ep, eq]
      have sub : (nI (a.ch (yq a p)) - nI (a.ch (yq a q))).toInt = (a.ch (yq a p) : Int) - a.ch (yq a q) := by
        rw [Int32.toInt_sub, nI_toInt (by omega), nI_toInt (by omega)]
        exact Int.bmod_eq_of_le (by omega) (by omega)
      have s1 : 0 < nI (a.ch (yq a p)) - nI (a.ch (yq a q)) ↔ a.ch (yq a q) < a.ch (yq a p) := by rw [fa_lt, sub, show (0 : Int32).toInt = 0 from rfl]; omega
      have s2 : nI (a.ch (yq a p)) - nI (a.ch (yq a q)) = 0 ↔ a.ch (yq a p) = a.ch (yq a q) := by rw [fa_eq, sub, show (0 : Int32).toInt = 0 from rfl]; omega
      rw [s1, s2]
      try simp (disch := omega) only [nLe, nLeR, nLeL, nLt, nLtR, nLtL, nEq, nEqR, nEqL, nClamp, nClampR, nAdd, nAddR, nAddL, nSub, nSubR, nMul, nMulR, nMulL, nDivR, vIn, vInR, iteZ, iteP, lEq, lEqR, forall_eq, forall_const, true_implies, false_implies, not_true_eq_false, not_false_eq_true, true_and, and_true, implies_true, Decidable.not_not, Nat.le_refl]
      refine ⟨fun z => go 1 (by rw [if_pos]; simp [z]), fun z => ⟨fun z2 => kX12_rankOf_55 hL (go 0 (by rw [if_neg]; simp; omega)), fun z2 => ⟨fun z3 => kX12_rankOf_55 hL (go 0 (by rw [if_neg]; simp; omega)), fun z3 => go 1 (by rw [if_pos]; simp; omega)⟩⟩⟩
  exact kX12_rankOf_0 hL (key (nQ a) 0 (by omega))
theorem m_choose {Q : Int32 → St → Prop} {x : Int32} (hL : Lay G.2.2) (h : MI G a) (ho : OkA e a) (he : e ≤ 1000) (hQ0 : ∀ G', Lay G'.2.2 → MI G' a → KM G G' → ¬ inR x (nQ a) → Q (-1) G') (hQ : ∀ G' q, Lay G'.2.2 → q < nQ a → x = nI q → MI G' (chA a (yq a q)) → KM G G' → Q (nI (a.ch (yq a q) + 1)) G') : EvI K mX12_choose 7 0 [(0, .ref 66), (1, .int x)] [] G Q := by
  have n30 : nQ a ≤ 30000 := ho.fl30
  refine kX12_choose_0 hL (s_isQuestion hL h ho (fun G1 l1 h1 f1 k1 => ?_))
  rcases num_cases x (n := nQ a) (by omega) with ⟨q, hq, eq⟩ | hnx
  · rw [if_pos (by rw [eq, inR_n (by omega)]; exact hq), eq]
    have y7 := ho.yq7 hq
    have hcq := ho.ch (yq a q)
    refine ⟨fun _ => s_tablesOf l1 (f1.qat ho hq).1 ho hq ?_, fun z => absurd z (by decide)⟩
    try simp (disch := omega) only [nLe, nLeR, nLeL, nLt, nLtR, nLtL, nEq, nEqR, nEqL, nClamp, nClampR, nAdd, nAddR, nAddL, nSub, nSubR, nMul, nMulR, nMulL, nDivR, vIn, vInR, iteZ, iteP, lEq, lEqR, forall_eq, forall_const, true_implies, false_implies, not_true_eq_false, not_false_eq_true, true_and, and_true, implies_true, Decidable.not_not, Nat.le_refl, h1.c.ch _ y7]
    have k2 : Kq (fun i k => i = 99) G1 (uI G1 99 (yq a q) (nI (a.ch (yq a q) + 1))) := kq_I rfl
    have l2 := k2.lay l1
    have f2 : MF (uI G1 99 (yq a q) (nI (a.ch (yq a q) + 1))) a := f1.kq k2 (fun i k z => by omega)
    refine ⟨y7, y7, s_tablesOf l2 (f2.qat ho hq).1 ho hq ?_⟩
    have e1 : sI (uI G1 99 (yq a q) (nI (a.ch (yq a q) + 1))) 99 (yq a q) = nI (a.ch (yq a q) + 1) := by rw [gI, if_pos ⟨rfl, rfl⟩]
    try simp (disch := omega) only [nLe, nLeR, nLeL, nLt, nLtR, nLtL, nEq, nEqR, nEqL, nClamp, nClampR, nAdd, nAddR, nAddL, nSub, nSubR, nMul, nMulR, nMulL, nDivR, vIn, vInR, iteZ, iteP, lEq, lEqR, forall_eq, forall_const, true_implies, false_implies, not_true_eq_false, not_false_eq_true, true_and, and_true, implies_true, Decidable.not_not, Nat.le_refl, e1]
    refine ⟨y7, hQ _ q l2 hq eq ⟨?_, fun z => ?_⟩ (k1.tr (k2.km (fun i k z => by omega)))⟩
    · have c1 := h1.c
      refine ⟨⟨c1.tp.1, c1.tp.2⟩, c1.wo, c1.tb, c1.ro, c1.hd, c1.tq, c1.pe, c1.wi, c1.lt, fun x hx => ?_, c1.m0, c1.mm⟩ <;> try assumption
      show _ = nI (if x = yq a q then a.ch x + 1 else a.ch x)
      rw [gI]
      by_cases ex : x = yq a q
      · rw [if_pos ⟨rfl, ex⟩, if_pos ex, ex]
      · rw [if_neg (fun z => ex z.2), if_neg ex]; exact c1.ch x hx
    · exact f2
  · rw [if_neg hnx]
    exact ⟨fun z => absurd rfl z, fun _ => hQ0 G1 l1 h1 k1 hnx⟩
end MCHOSEN

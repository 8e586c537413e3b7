/-! asked, said: the class -/
noncomputable def rAsk (a : AS) (x y : Int32) : Int32 := if inR x (nQ a) then (if y = 0 then nI (cQ a.mc a.J.length (fq a x.toInt.toNat)) else if y = 1 then nI (fq a x.toInt.toNat) else if y = 2 then nI (a.ch (yq a x.toInt.toNat)) else if y = 3 then nI (rkQ a x.toInt.toNat) else if y = 4 then nI (sen a x.toInt.toNat).length else -1) else -1
noncomputable def rSaid (a : AS) (x y : Int32) : Int32 := if inR x (nQ a) ∧ inR y (sen a x.toInt.toNat).length then nI ((sen a x.toInt.toNat).getD y.toInt.toNat 0) else -1
section ASKED
variable {K : KT} {G : St} {a : AS} {e : Nat}
theorem OkA.sl (ho : OkA e a) {q : Nat} (hq : q < nQ a) : (sen a q).length ≤ 200 := by
  obtain ⟨oj, -, -, -⟩ := ho.jq hq
  have h1 := tKs_len (fun t => nv (a.b.2.1 t)) a.q.2.1 (fun k => nv (a.q.2.2 k)) (tnS a.w.2.1 a.P (a.O.getD (fq a q) 0)) a.q.1 (tTs (fun t => nv (a.b.2.1 t)) (cnS a.w.2.1 (a.O.getD (fq a q) 0)) a.b.1 [] ++ [32, 58])
  have h2 := tTs_len (fun t => nv (a.b.2.1 t)) (cnS a.w.2.1 (a.O.getD (fq a q) 0)) a.b.1 []
  have h3 := sm5 (cn := cnS a.w.2.1 (a.O.getD (fq a q) 0)) (n := a.b.1) ho.b5 (Nat.le_trans cnS_sum oj.2.2.1)
  have h4 := ho.q4
  rw [List.length_append] at h1
  have h5 : ([] : List Nat).length = 0 := rfl
  have h6 : ([32, 58] : List Nat).length = 2 := rfl
  show (tKs _ _ _ _ _ _).length ≤ 200
  omega
theorem nQ0 (q0 : a.q.1 = 0) {x : Int32} : ¬ inR x (nQ a) := by
  unfold nQ AS.J
  rw [if_pos q0]
  intro z
  have := z.1
  have := z.2
  simp [fL] at this
  omega
theorem x_asked {Q : Int32 → St → Prop} {x y : Int32} (h : XI e sen G a) (ho : OkA e a) (he : e ≤ 1000) (hQ : ∀ G', XI e sen G' a → KX G G' → Q (rAsk a x y) G') : EvIa K mX11_asked 11 0 [(0, .ref 1), (1, .int x), (2, .int y)] [] G Q := by
  have n30 : nQ a ≤ 30000 := ho.fl30
  have no : ∀ G', XI e sen G' a → KX G G' → ¬ inR x (nQ a) → Q (-1) G' := fun G' h' k' hn => by
    have := hQ G' h' k'
    unfold rAsk at this
    rw [if_neg hn] at this; exact this
  refine kX11_asked_0 h.lay (s_searched h ho (fun q0 => ⟨h.lay, fun _ => no G h Kg.rf (nQ0 q0), fun z => absurd rfl z⟩) (fun G1 q0 h1 k1 f1 => ⟨h1.lay, fun z => absurd z (by decide), fun _ => ?_⟩))
  obtain ⟨g0, f16, f15, sd⟩ := h1.fs f1
  refine s_X4_has h1.lay (by omega) (sd.sz ho) ?_
  rcases num_cases x (n := nQ a) (by omega) with ⟨q, hq, eq⟩ | hnx
  · have hx : inR x (nQ a) := by rw [eq, inR_n (by omega)]; exact hq
    rw [if_pos hx]
    have hr := hQ G1 h1 k1.kx
    unfold rAsk at hr
    rw [if_pos hx, eq, nI_nat (by omega)] at hr
    rw [eq]
    have sz := sd.sz ho
    have hn2 := sd.n2' ho
    obtain ⟨s1, s2, s3⟩ := sd.at ho hq
    have r11 := h1.rm.2.2.2.2.2.2.2.2.2.2.1
    have r12 := h1.rm.2.2.2.2.2.2.2.2.2.2.2
    refine ⟨fun _ => ⟨fun z => ?_, fun z => ?_, fun z => ?_, fun z => ?_, fun z => ?_, fun z1 z2 z3 z4 z5 => ?_⟩, fun z => absurd z (by decide)⟩
    · rw [if_pos z] at hr
      refine kX4_joiningsOf_0 h1.lay (s_X4_has h1.lay (by omega) sz ?_)
      rw [if_pos ((inR_n (by omega)).mpr hq)]
      refine ⟨fun z => absurd z (by decide), fun _ => ?_⟩
      try simp (disch := omega) only [nLe, nLeR, nLeL, nLt, nLtR, nLtL, nEq, nEqR, nEqL, nClamp, nClampR, nAdd, nAddR, nAddL, nSub, nSubR, nMul, nMulR, nMulL, nDivR, vIn, vInR, iteZ, iteP, lEq, lEqR, forall_eq, forall_const, true_implies, false_implies, not_true_eq_false, not_false_eq_true, true_and, and_true, implies_true, Decidable.not_not, Nat.le_refl, s3]
      exact ⟨by omega, hr⟩
    · rw [if_neg (by rw [z]; decide), if_pos z] at hr
      refine kX4_firstOf_0 h1.lay (s_X4_has h1.lay (by omega) sz ?_)
      rw [if_pos ((inR_n (by omega)).mpr hq)]
      refine ⟨fun z => absurd z (by decide), fun _ => ?_⟩
      try simp (disch := omega) only [nLe, nLeR, nLeL, nLt, nLtR, nLtL, nEq, nEqR, nEqL, nClamp, nClampR, nAdd, nAddR, nAddL, nSub, nSubR, nMul, nMulR, nMulL, nDivR, vIn, vInR, iteZ, iteP, lEq, lEqR, forall_eq, forall_const, true_implies, false_implies, not_true_eq_false, not_false_eq_true, true_and, and_true, implies_true, Decidable.not_not, Nat.le_refl, s2]
      exact ⟨by omega, hr⟩
    · rw [if_neg (by rw [z]; decide), if_neg (by rw [z]; decide), if_pos z] at hr
      exact s_chosenOf h1.lay sd h1.c.ch ho hq hr
    · rw [if_neg (by rw [z]; decide), if_neg (by rw [z]; decide), if_neg (by rw [z]; decide), if_pos z] at hr
      exact s_X4_rankOf h1.lay sd h1.c.ch ho he hq hr
    · have hh := lay_h h1.lay
      have ht := lay_t h1.lay
      refine kX4_sentenceLength_0 h1.lay (by omega) (by omega) (s_tell h1 f1 ho hq (fun G2 h2 k2 f2 w2 => ?_))
      have hr2 := hQ G2 h2 (k1.kx.tr k2)
      unfold rAsk at hr2
      rw [if_pos hx, eq, nI_nat (by omega), if_neg (by rw [z]; decide), if_neg (by rw [z]; decide), if_neg (by rw [z]; decide), if_neg (by rw [z]; decide), if_pos z] at hr2
      rw [w2.1]
      exact hr2
    · rw [if_neg z1, if_neg z2, if_neg z3, if_neg z4, if_neg z5] at hr
      exact hr
  · rw [if_neg hnx]
    exact ⟨fun z => absurd rfl z, fun _ => no G1 h1 k1.kx hnx⟩
theorem x_said {Q : Int32 → St → Prop} {x y : Int32} (h : XI e sen G a) (ho : OkA e a) (hQ : ∀ G', XI e sen G' a → KX G G' → Q (rSaid a x y) G') : EvIa K mX11_said 11 0 [(0, .ref 1), (1, .int x), (2, .int y)] [] G Q := by
  have n30 : nQ a ≤ 30000 := ho.fl30
  have no : ∀ G', XI e sen G' a → KX G G' → ¬ inR x (nQ a) → Q (-1) G' := fun G' h' k' hn => by
    have := hQ G' h' k'
    unfold rSaid at this
    rw [if_neg (fun z => hn z.1)] at this; exact this
  refine kX11_said_0 h.lay (s_searched h ho (fun q0 => ⟨h.lay, fun _ => no G h Kg.rf (nQ0 q0), fun z => absurd rfl z⟩) (fun G1 q0 h1 k1 f1 => ⟨h1.lay, fun z => absurd z (by decide), fun _ => ?_⟩))
  obtain ⟨g0, f16, f15, sd⟩ := h1.fs f1
  refine s_X4_has h1.lay (by omega) (sd.sz ho) ?_
  rcases num_cases x (n := nQ a) (by omega) with ⟨q, hq, eq⟩ | hnx
  · have hx : inR x (nQ a) := by rw [eq, inR_n (by omega)]; exact hq
    rw [if_pos hx, eq]
    have hh := lay_h h1.lay
    have ht := lay_t h1.lay
    refine ⟨fun _ => kX4_sentenceSign_0 h1.lay (by omega) (by omega) (s_tell h1 f1 ho hq (fun G2 h2 k2 f2 w2 => ?_)), fun z => absurd z (by decide)⟩
    have hr := hQ G2 h2 (k1.kx.tr k2)
    unfold rSaid at hr
    rw [eq, nI_nat (by omega)] at hr
    rw [eq] at hx
    have sl := ho.sl hq
    rw [w2.1]
    rcases num_cases y (n := (sen a q).length) (by omega) with ⟨k, hk, ek⟩ | hny
    · have hy : inR y (sen a q).length := by rw [ek, inR_n (by omega)]; exact hk
      rw [if_pos ⟨hx, hy⟩, ek, nI_nat (by omega)] at hr
      rw [ek]
      have w3 := w2.2 k _ (getD_lt hk)
      try simp (disch := omega) only [nLe, nLeR, nLeL, nLt, nLtR, nLtL, nEq, nEqR, nEqL, nClamp, nClampR, nAdd, nAddR, nAddL, nSub, nSubR, nMul, nMulR, nMulL, nDivR, vIn, vInR, iteZ, iteP, lEq, lEqR, forall_eq, forall_const, true_implies, false_implies, not_true_eq_false, not_false_eq_true, true_and, and_true, implies_true, Decidable.not_not, Nat.le_refl, w3]
      exact ⟨fun z => by omega, fun _ => ⟨fun z => by omega, fun _ => ⟨by omega, hr⟩⟩⟩
    · rw [if_neg (fun z => hny z.2)] at hr
      rw [fa_lt, fa_le, nI_toInt (by omega), show (0 : Int32).toInt = 0 from rfl]
      exact ⟨fun _ => hr, fun z => ⟨fun _ => hr, fun z2 => absurd ⟨by omega, by omega⟩ hny⟩⟩
  · rw [if_neg hnx]
    exact ⟨fun z => absurd rfl z, fun _ => no G1 h1 k1.kx hnx⟩
end ASKED

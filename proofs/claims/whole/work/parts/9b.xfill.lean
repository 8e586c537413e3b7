/-! the class: what the search says of the joinings; all questions -/
theorem num_cases (x : Int32) {n : Nat} (hn : n < 2147483648) : (∃ k, k < n ∧ x = nI k) ∨ ¬ (0 ≤ x.toInt ∧ x.toInt < n) := by
  by_cases h : 0 ≤ x.toInt ∧ x.toInt < n
  · refine Or.inl ⟨x.toInt.toNat, by omega, ?_⟩
    rw [fa_eq, nI_toInt (by omega)]; omega
  · exact Or.inr h
theorem vJ_set {f P : Nat → Nat → Nat} {t s : Nat} (h1 : s < 1073741824) (h2 : ts f s ≤ 44) (h3 : tpr f P t s ≤ 60) : Int64.toInt32 (lN (vJ f P t s) &&& 1073741823) = nI s := by
  rw [show (1073741823 : Int64) = lN (2 ^ 30 - 1) from rfl, wb_mask (k := 30) (by unfold vJ; omega) (by decide), lN_i]
  congr 1
  show vJ f P t s % 1073741824 = _
  unfold vJ
  omega
theorem and63 {n : Nat} (h : n < 2147483648) : nI n &&& 63 = nI (n % 64) := by
  apply Int32.toBitVec_inj.mp
  show BitVec.ofNat 32 n &&& BitVec.ofNat 32 63 = BitVec.ofNat 32 (n % 64)
  apply BitVec.eq_of_toNat_eq
  rw [BitVec.toNat_and, BitVec.toNat_ofNat, BitVec.toNat_ofNat, BitVec.toNat_ofNat, Nat.mod_eq_of_lt (show n < 2 ^ 32 by omega), Nat.mod_eq_of_lt (show 63 < 2 ^ 32 by decide), Nat.mod_eq_of_lt (show n % 64 < 2 ^ 32 by omega)]
  exact Nat.and_two_pow_sub_one_eq_mod n 6
theorem vJ_ties {f P : Nat → Nat → Nat} {t s : Nat} (h1 : s < 1073741824) (h2 : ts f s ≤ 44) (h3 : tpr f P t s ≤ 60) : Int64.toInt32 (lN (vJ f P t s) >>> (Int32.toInt64 30 &&& 63)) &&& 63 = nI (ts f s) := by
  rw [show (30 : Int32) = nI 30 from rfl, sshr_l (by unfold vJ; omega) (by decide), lN_i]
  have e : vJ f P t s / 2 ^ 30 = tpr f P t s * 64 + ts f s := by
    show vJ f P t s / 1073741824 = _
    unfold vJ
    omega
  rw [e, and63 (by omega)]
  congr 1
  omega
/-- what is known of each joining -/
def okO (f P : Nat → Nat → Nat) (t n : Nat) (J : List Nat) : Prop := J.length ≤ 174436 ∧ ∀ s, s ∈ J → s < 1073741824 ∧ ts f s ≤ 44 ∧ tpr f P t s ≤ 60 ∧ okJ f P t s ∧ ∀ r, s.testBit r = true → r < n
theorem okO_len {f P : Nat → Nat → Nat} {t n : Nat} {J : List Nat} (h : okO f P t n J) : (ol J (tpr f P t) 64).length = J.length := ol_all (fun s hs => by have := (h.2 s hs).2.2.1; omega)
section XFILL
variable {K : KT} {G : St} {h : Nat} {b : TBt} {w : RWt} {f P : Nat → Nat → Nat} {t e n : Nat} {J : List Nat}
theorem s_X6_has {Q : Int32 → St → Prop} {x : Int32} (hL : Lay G.2.2) (hn : n < 2147483648) (h17 : sI G 18 17 = nI n) (hQ : Q (if 0 ≤ x.toInt ∧ x.toInt < n then 1 else 0) G) : EvI K mX6_has 0 0 [(0, .ref 18), (1, .int x)] [] G Q := by
  refine kX6_has_0 hL ?_
  rw [h17, fa_lt, fa_le, nI_toInt hn]
  have e0 : (0 : Int32).toInt = 0 := rfl
  rw [e0]
  refine ⟨fun z => ?_, fun z => ⟨fun z2 => ?_, fun z2 => ?_⟩⟩
  · rw [if_neg (by omega)] at hQ; exact hQ
  · rw [if_neg (by omega)] at hQ; exact hQ
  · rw [if_pos (by omega)] at hQ; exact hQ
theorem ol_at (hO : okO f P t n J) {k : Nat} (hk : k < J.length) : ∃ s, (ol J (tpr f P t) 64)[k]? = some s := ⟨_, getD_lt (by rw [okO_len hO]; exact hk)⟩
theorem s_X6_setOf {Q : Int32 → St → Prop} {k s : Nat} (hL : Lay G.2.2) (hX : XOr G f P t J) (hO : okO f P t n J) (hk : (ol J (tpr f P t) 64)[k]? = some s) (hs : s ∈ J) (hQ : Q (nI s) G) : EvI K mX6_setOf 1 0 [(0, .ref 18), (1, .int (nI k))] [] G Q := by
  have hkl := getE_lt hk
  rw [okO_len hO] at hkl
  have hl := hO.1
  have hx2 := hX.2.1
  refine kX6_setOf_0 hL (s_X6_has (n := J.length) hL (by omega) hX.1 ?_)
  rw [if_pos (by rw [nI_toInt (by omega)]; omega)]
  refine ⟨fun z => absurd z (by decide), fun _ => ?_⟩
  try simp (disch := omega) only [nLe, nLeR, nLeL, nLt, nLtR, nLtL, nEq, nEqR, nEqL, nClamp, nClampR, nAdd, nAddR, nAddL, nSub, nSubR, nMul, nMulR, nMulL, nDivR, vIn, vInR, iteZ, iteP, lEq, lEqR, forall_eq, forall_const, true_implies, false_implies, not_true_eq_false, not_false_eq_true, true_and, and_true, implies_true, Decidable.not_not, Nat.le_refl]
  rw [hX.2.2 k s hk]
  obtain ⟨o1, o2, o3, -⟩ := hO.2 s hs
  rw [vJ_set o1 o2 o3]
  exact ⟨by omega, hQ⟩
theorem s_X6_setNo {Q : Int32 → St → Prop} {x : Int32} (hL : Lay G.2.2) (hX : XOr G f P t J) (hJl : J.length ≤ 174436) (hk : ¬ (0 ≤ x.toInt ∧ x.toInt < J.length)) (hQ : Q 0 G) : EvI K mX6_setOf 1 0 [(0, .ref 18), (1, .int x)] [] G Q := by
  refine kX6_setOf_0 hL (s_X6_has (n := J.length) hL (by omega) hX.1 ?_)
  rw [if_neg hk]
  exact ⟨fun _ => hQ, fun z => absurd rfl z⟩
theorem s_X6_tiesOf {Q : Int32 → St → Prop} {k s : Nat} (hL : Lay G.2.2) (hX : XOr G f P t J) (hO : okO f P t n J) (hk : (ol J (tpr f P t) 64)[k]? = some s) (hs : s ∈ J) (hQ : Q (nI (ts f s)) G) : EvI K mX6_tiesOf 1 0 [(0, .ref 18), (1, .int (nI k))] [] G Q := by
  have hkl := getE_lt hk
  rw [okO_len hO] at hkl
  have hl := hO.1
  have hx2 := hX.2.1
  refine kX6_tiesOf_0 hL (s_X6_has (n := J.length) hL (by omega) hX.1 ?_)
  rw [if_pos (by rw [nI_toInt (by omega)]; omega)]
  refine ⟨fun z => absurd z (by decide), fun _ => ?_⟩
  try simp (disch := omega) only [nLe, nLeR, nLeL, nLt, nLtR, nLtL, nEq, nEqR, nEqL, nClamp, nClampR, nAdd, nAddR, nAddL, nSub, nSubR, nMul, nMulR, nMulL, nDivR, vIn, vInR, iteZ, iteP, lEq, lEqR, forall_eq, forall_const, true_implies, false_implies, not_true_eq_false, not_false_eq_true, true_and, and_true, implies_true, Decidable.not_not, Nat.le_refl]
  rw [hX.2.2 k s hk]
  obtain ⟨o1, o2, o3, -⟩ := hO.2 s hs
  rw [vJ_ties o1 o2 o3]
  exact ⟨by omega, hQ⟩
theorem s_X6_tiesNo {Q : Int32 → St → Prop} {x : Int32} (hL : Lay G.2.2) (hX : XOr G f P t J) (hJl : J.length ≤ 174436) (hk : ¬ (0 ≤ x.toInt ∧ x.toInt < J.length)) (hQ : Q (-1) G) : EvI K mX6_tiesOf 1 0 [(0, .ref 18), (1, .int x)] [] G Q := by
  refine kX6_tiesOf_0 hL (s_X6_has (n := J.length) hL (by omega) hX.1 ?_)
  rw [if_neg hk]
  exact ⟨fun _ => hQ, fun z => absurd rfl z⟩
theorem s_X6_priceOf {Q : Int32 → St → Prop} {k s : Nat} (hL : Lay G.2.2) (hX : XOr G f P t J) (hO : okO f P t n J) (hk : (ol J (tpr f P t) 64)[k]? = some s) (hs : s ∈ J) (hQ : Q (nI (tpr f P t s)) G) : EvI K mX6_priceOf 1 0 [(0, .ref 18), (1, .int (nI k))] [] G Q := by
  have hkl := getE_lt hk
  rw [okO_len hO] at hkl
  have hl := hO.1
  have hx2 := hX.2.1
  refine kX6_priceOf_0 hL (s_X6_has (n := J.length) hL (by omega) hX.1 ?_)
  rw [if_pos (by rw [nI_toInt (by omega)]; omega)]
  refine ⟨fun z => absurd z (by decide), fun _ => ?_⟩
  try simp (disch := omega) only [nLe, nLeR, nLeL, nLt, nLtR, nLtL, nEq, nEqR, nEqL, nClamp, nClampR, nAdd, nAddR, nAddL, nSub, nSubR, nMul, nMulR, nMulL, nDivR, vIn, vInR, iteZ, iteP, lEq, lEqR, forall_eq, forall_const, true_implies, false_implies, not_true_eq_false, not_false_eq_true, true_and, and_true, implies_true, Decidable.not_not, Nat.le_refl]
  rw [hX.2.2 k s hk]
  obtain ⟨o1, o2, o3, -⟩ := hO.2 s hs
  rw [vJ_price o1 o2 o3]
  exact ⟨by omega, hQ⟩
theorem s_X6_priceNo {Q : Int32 → St → Prop} {x : Int32} (hL : Lay G.2.2) (hX : XOr G f P t J) (hJl : J.length ≤ 174436) (hk : ¬ (0 ≤ x.toInt ∧ x.toInt < J.length)) (hQ : Q (-1) G) : EvI K mX6_priceOf 1 0 [(0, .ref 18), (1, .int x)] [] G Q := by
  refine kX6_priceOf_0 hL (s_X6_has (n := J.length) hL (by omega) hX.1 ?_)
  rw [if_neg hk]
  exact ⟨fun _ => hQ, fun z => absurd rfl z⟩
/-- the first place of a set in the order -/
theorem s_X6_placeOf {Q : Int32 → St → Prop} {s0 : Nat} (hL : Lay G.2.2) (hX : XOr G f P t J) (hO : okO f P t n J) (hmem : ∀ k s : Nat, (ol J (tpr f P t) 64)[k]? = some s → s ∈ J) (hs0 : s0 < 2147483648) (hQ1 : ∀ k : Nat, (ol J (tpr f P t) 64)[k]? = some s0 → (∀ j : Nat, j < k → (ol J (tpr f P t) 64)[j]? ≠ some s0) → Q (nI k) G) (hQ2 : (∀ j : Nat, (ol J (tpr f P t) 64)[j]? ≠ some s0) → Q (-1) G) : EvI K mX6_placeOf 2 0 [(0, .ref 18), (1, .int (nI s0))] [] G Q := by
  have hl := hO.1
  have hol := okO_len hO
  have key : ∀ (m i : Nat), i + m = J.length → (∀ j : Nat, j < i → (ol J (tpr f P t) 64)[j]? ≠ some s0) → EvI K mX6_placeOf 2 2 [(0, .ref 18), (1, .int (nI s0)), (2, .int (nI i))] [] G Q := by
    intro m
    induction m with
    | zero =>
      intro i hm hno
      refine kX6_placeOf_2 hL ?_
      rw [hX.1, show i = J.length by omega]
      refine ⟨fun _ => hQ2 (fun j hj => ?_), fun z => absurd (Int32.le_refl _) z⟩
      have := getE_lt hj
      exact hno j (by omega) hj
    | succ m ih =>
      intro i hm hno
      obtain ⟨s, hs⟩ := ol_at hO (show i < J.length by omega)
      have hsJ := hmem i s hs
      have s30 := (hO.2 s hsJ).1
      refine kX6_placeOf_2 hL ?_
      rw [hX.1]
      try simp (disch := omega) only [nLe, nLeR, nLeL, nLt, nLtR, nLtL, nEq, nEqR, nEqL, nClamp, nClampR, nAdd, nAddR, nAddL, nSub, nSubR, nMul, nMulR, nMulL, nDivR, vIn, vInR, iteZ, iteP, lEq, lEqR, forall_eq, forall_const, true_implies, false_implies, not_true_eq_false, not_false_eq_true, true_and, and_true, implies_true, Decidable.not_not, Nat.le_refl]
      refine ⟨fun z => by omega, fun _ => s_X6_setOf hL hX hO hs hsJ ?_⟩
      try simp (disch := omega) only [nLe, nLeR, nLeL, nLt, nLtR, nLtL, nEq, nEqR, nEqL, nClamp, nClampR, nAdd, nAddR, nAddL, nSub, nSubR, nMul, nMulR, nMulL, nDivR, vIn, vInR, iteZ, iteP, lEq, lEqR, forall_eq, forall_const, true_implies, false_implies, not_true_eq_false, not_false_eq_true, true_and, and_true, implies_true, Decidable.not_not, Nat.le_refl]
      refine ⟨fun z => ih (i + 1) (by omega) (fun j hj e => ?_), fun z => hQ1 i (by rw [hs, z]) hno⟩
      rcases Nat.lt_succ_iff_lt_or_eq.mp hj with y | y
      · exact hno j y e
      · rw [y, hs] at e; cases e; exact z rfl
  exact kX6_placeOf_0 hL (key J.length 0 (by omega) (fun j hj => absurd hj (Nat.not_lt_zero _)))
theorem XTb.kg {S T : Nat → Nat → Prop} {G1 : St} (hb : XTb G h b) (hL : Lay G.2.2) (hh : h = 39 ∨ h = 49) (hk : Kg S T G G1) (hs : ∀ i k, S i k → ¬ (i = h ∧ k = 9 ∨ h + 1 ≤ i ∧ i ≤ h + 4)) : XTb G1 h b := by
  have h104 : 104 ≤ nx G := hL.2.2.2.1
  exact XTb.kq (G1 := mixS G G1) hb hk.toq (fun i k z => by
    rcases z with z | z
    · exact hs i k z
    · omega)
theorem XRw.kg {S T : Nat → Nat → Prop} {G1 : St} (hw : XRw G h b w) (hL : Lay G.2.2) (hh : h = 39 ∨ h = 49) (hk : Kg S T G G1) (hs : ∀ i k, S i k → ¬ (i = h ∧ k = 10 ∨ h + 5 ≤ i ∧ i ≤ h + 8)) : XRw G1 h b w := by
  have h104 : 104 ≤ nx G := hL.2.2.2.1
  exact XRw.kq (G1 := mixS G G1) hw hk.toq (fun i k z => by
    rcases z with z | z
    · exact hs i k z
    · omega)
theorem XHt.kg {S T : Nat → Nat → Prop} {G1 : St} {m : Nat} (hh : XHt G P n m) (hL : Lay G.2.2) (hk : Kg S T G G1) (hs : ∀ i k, S i k → ¬ sHt i k) : XHt G1 P n m := by
  have h104 : 104 ≤ nx G := hL.2.2.2.1
  exact XHt.kq (G1 := mixS G G1) hh hk.toq (fun i k z => by
    rcases z with z | z
    · exact hs i k z
    · unfold sHt; omega)
theorem XOr.kg {S T : Nat → Nat → Prop} {G1 : St} (hX : XOr G f P t J) (hL : Lay G.2.2) (hk : Kg S T G G1) (hT : ¬ T 18 10) (hS1 : ¬ S 18 17) (hS2 : ∀ k, ¬ S (sR G 18 10) k) : XOr G1 f P t J := by
  have h104 : 104 ≤ nx G := hL.2.2.2.1
  obtain ⟨g1, g2, g3⟩ := lay_g hL (i := 18) (k := 10) (t := 1) (f := 27) (by decide)
  refine ⟨by rw [hk.I (by omega) hS1]; exact hX.1, ?_, fun k s hs => ?_⟩
  · rw [hk.R (by omega) hT, (hk.2.1 _ g3).1]; exact hX.2.1
  · rw [hk.R (by omega) hT, hk.L g3 (hS2 k)]; exact hX.2.2 k s hs
theorem XNm_1 {c : Nat → Nat} {k m : Nat} (hX : XNm G c k m) : XNm G c (k + 1) m := fun i hi => by
  obtain ⟨q, j, a, b, d⟩ := hX i hi
  exact ⟨q, j, fL_pre1 a, b, d⟩
theorem s_X4_fill {Q : St → Prop} (hL : Lay G.2.2) (hR : Rm e G) (hh : h = 39 ∨ h = 49) (hb : XTb G h b) (hw : XRw G h b w) (hH : XHt G P w.1 t) (ht : t ≤ 4) (hP : ∀ k r, P k r ≤ 4 ∨ P k r = 9) (hPn : ∀ k r, w.1 ≤ r → P k r = 9) (hX : XOr G f P t J) (hO : okO f P t w.1 J) (hmem : ∀ k s : Nat, (ol J (tpr f P t) 64)[k]? = some s → s ∈ J) (hx31 : ∀ s, s ∈ J → xC w.2.1 P t s < 2147483648) (hQ : ∀ G', Lay G'.2.2 → Rm e G' → Kg (sQf (sR G 18 9) (sR G 18 10)) tQf G G' → XQ G' (oC (xC w.2.1 P t) (ol J (tpr f P t) 64)) J.length J.length → J.length ≤ sN G' (sR G' 28 5) → (fL (oC (xC w.2.1 P t) (ol J (tpr f P t) 64)) J.length).length ≤ sN G' (sR G' 28 2) → XNm G' (oC (xC w.2.1 P t) (ol J (tpr f P t) 64)) J.length J.length → sI G' 28 10 = -1 → Q G') : EvVa K mX4_fill 3 0 [(0, .ref 28), (1, .ref h), (2, .ref 5), (3, .ref 18), (4, .int (nI t))] [] G Q := by
  have h104 : 104 ≤ nx G := hL.2.2.2.1
  have hl := hO.1
  have hol := okO_len hO
  generalize hOO : ol J (tpr f P t) 64 = O at *
  generalize hcc : oC (xC w.2.1 P t) O = c at *
  generalize hA : sR G 18 9 = A at *
  generalize hB : sR G 18 10 = B at *
  have iA := (lay_g hL (i := 18) (k := 9) (t := 1) (f := 26) (by decide)).2
  have iB := (lay_g hL (i := 18) (k := 10) (t := 1) (f := 27) (by decide)).2
  rw [hA] at iA
  rw [hB] at iB
  have cat : ∀ i s, O[i]? = some s → c i = xC w.2.1 P t s := fun i s hs => by rw [← hcc]; unfold oC; rw [getD_some hs]
  have c31 : ∀ i, i < J.length → c i < 2147483648 := fun i hi => by
    have h1 := getD_lt (l := O) (q := i) (by omega)
    rw [cat i _ h1]; exact hx31 _ (hmem i _ h1)
  have loop : ∀ (m i : Nat) (G1 : St), i + m = J.length → Lay G1.2.2 → Rm e G1 → Kg (sQf A B) tQf G G1 → XQ G1 c i i → J.length ≤ sN G1 (sR G1 28 5) → (fL c i).length ≤ sN G1 (sR G1 28 2) → XNm G1 c i i → sI G1 28 10 = -1 → EvVa K mX4_fill 3 45 [(0, .ref 28), (1, .ref h), (2, .ref 5), (3, .ref 18), (4, .int (nI t)), (5, .int (nI i))] [] G1 Q := by
    intro m
    induction m with
    | zero =>
      intro i G1 hm hL1 hR1 hk1 hq hn5 hn2 hnm h10
      have ei : i = J.length := by omega
      subst ei
      refine kX4_fill_45 hL1 hh ?_
      rw [hk1.I (by omega) (by unfold sQf; omega), hX.1]
      exact ⟨fun _ => hQ G1 hL1 hR1 hk1 hq hn5 hn2 hnm h10, fun z => absurd (Int32.le_refl _) z⟩
    | succ m ih =>
      intro i G1 hm hL1 hR1 hk1 hq hn5 hn2 hnm h10
      have hi : i < J.length := by omega
      have hs := getD_lt (l := O) (q := i) (by omega)
      generalize hss : O.getD i 0 = s at *
      have hsJ := hmem i s hs
      obtain ⟨s30, -, -, sj, sr⟩ := hO.2 s hsJ
      have hX1 : XOr G1 f P t J := hX.kg hL hk1 (by unfold tQf; omega) (by unfold sQf; omega) (fun k => by rw [hB]; unfold sQf; omega)
      have Fl := fL_len (c := c) i
      have Fl1 := fL_len (c := c) (i + 1)
      have ci := cat i s hs
      -- counted and numbered
      have cnt : ∀ (G2 : St) (q j : Nat), Lay G2.2.2 → Rm e G2 → Kg (sQf A B) tQf G G2 → XQ G2 c (i + 1) i → J.length ≤ sN G2 (sR G2 28 5) → (fL c (i + 1)).length ≤ sN G2 (sR G2 28 2) → XNm G2 c (i + 1) i → sI G2 28 10 = -1 → (fL c (i + 1))[q]? = some j → c j = c i → EvVa K mX4_fill 3 93 [(0, .ref 28), (1, .ref h), (2, .ref 5), (3, .ref 18), (4, .int (nI t)), (5, .int (nI i)), (7, .int (nI q))] [] G2 Q := by
        intro G2 q j hL2 hR2 hk2 hq2 hn5' hn2' hnm' h10' hqj hcj
        have hql := getE_lt hqj
        have ctl : cQ c i j ≤ i := fb_ct_le _ _
        obtain ⟨c1, c2, c3⟩ := hq2.2.2 q j hqj
        have r11 := hR2.2.2.2.2.2.2.2.2.2.2.1
        have l1 := lay_g hL2 (i := 28) (k := 1) (t := 0) (f := 30) (by decide)
        have l2 := lay_g hL2 (i := 28) (k := 2) (t := 0) (f := 31) (by decide)
        have l3 := lay_g hL2 (i := 28) (k := 3) (t := 0) (f := 32) (by decide)
        have l4 := lay_g hL2 (i := 28) (k := 4) (t := 0) (f := 33) (by decide)
        have l5 := lay_g hL2 (i := 28) (k := 5) (t := 0) (f := 34) (by decide)
        have n13 := lay_d hL2 (i := 28) (k := 1) (t := 0) (f := 30) (i' := 28) (k' := 3) (t' := 0) (f' := 32) (by decide) (by decide) (by decide)
        have n15 := lay_d hL2 (i := 28) (k := 1) (t := 0) (f := 30) (i' := 28) (k' := 5) (t' := 0) (f' := 34) (by decide) (by decide) (by decide)
        have n23 := lay_d hL2 (i := 28) (k := 2) (t := 0) (f := 31) (i' := 28) (k' := 3) (t' := 0) (f' := 32) (by decide) (by decide) (by decide)
        have n25 := lay_d hL2 (i := 28) (k := 2) (t := 0) (f := 31) (i' := 28) (k' := 5) (t' := 0) (f' := 34) (by decide) (by decide) (by decide)
        have n34 := lay_d hL2 (i := 28) (k := 3) (t := 0) (f := 32) (i' := 28) (k' := 4) (t' := 0) (f' := 33) (by decide) (by decide) (by decide)
        have n35 := lay_d hL2 (i := 28) (k := 3) (t := 0) (f := 32) (i' := 28) (k' := 5) (t' := 0) (f' := 34) (by decide) (by decide) (by decide)
        have n45 := lay_d hL2 (i := 28) (k := 4) (t := 0) (f := 33) (i' := 28) (k' := 5) (t' := 0) (f' := 34) (by decide) (by decide) (by decide)
        have e9 : sR G2 18 9 = A := by rw [hk2.R (by omega) (by unfold tQf; omega)]; exact hA
        have e10 : sR G2 18 10 = B := by rw [hk2.R (by omega) (by unfold tQf; omega)]; exact hB
        have d : ∀ k t g, (28, k, t, g) ∈ ltG → sR G2 28 k ≠ A ∧ sR G2 28 k ≠ B := fun k t g hq => by
          rw [← e9, ← e10]
          exact ⟨lay_d hL2 hq (i' := 18) (k' := 9) (t' := 1) (f' := 26) (by decide) (by simp), lay_d hL2 hq (i' := 18) (k' := 10) (t' := 1) (f' := 27) (by decide) (by simp)⟩
        have d3 := d 3 0 32 (by decide)
        have d5 := d 5 0 34 (by decide)
        have g1 := gt28 l1.2.1 (by decide)
        have g2 := gt28 l2.2.1 (by decide)
        have g3 := gt28 l3.2.1 (by decide)
        have g4 := gt28 l4.2.1 (by decide)
        have g5 := gt28 l5.2.1 (by decide)
        have hN3 : q < sN G2 (sR G2 28 3) := by rw [r11]; omega
        have hN5 : i < sN G2 (sR G2 28 5) := by omega
        have sQ : ∀ x k, (29 ≤ x ∧ x ≤ 34 ∨ 104 ≤ x) → x ≠ A ∧ x ≠ B → sQf A B x k := fun x k h1 h2 => by
          unfold sQf
          rcases h1 with z | z
          · exact Or.inr (Or.inl z)
          · exact Or.inr (Or.inr ⟨z, h2⟩)
        have q31 : q < 2147483648 := by omega
        have i31 : i < 2147483648 := by omega
        have im : i + 1 + m = J.length := by omega
        clear l1 l2 l3 l4 l5 r11 e9 e10 d Fl Fl1 iA iB
        refine kX4_fill_93 hL2 hh ?_
        unfold XQ at hq2
        unfold XNm at hnm'
        generalize hA1 : sR G2 28 1 = A1 at *
        generalize hA2 : sR G2 28 2 = A2 at *
        generalize hA3 : sR G2 28 3 = A3 at *
        generalize hA4 : sR G2 28 4 = A4 at *
        generalize hA5 : sR G2 28 5 = A5 at *
        have kq' : Int32.toNatClampNeg (nI q) = q := nI_clamp q31
        have ki' : Int32.toNatClampNeg (nI i) = i := nI_clamp i31
        rw [kq', ki', c3, show nI (cQ c i j) + 1 = nI (cQ c i j + 1) from nAdd, show nI i + 1 = nI (i + 1) from nAdd]
        refine ⟨(vIn q31).mpr hN3, (vIn q31).mpr hN3, fun G3 e3 => ?_⟩
        rw [e3]
        simp only [gRI, gNI, hA5]
        refine ⟨(vIn i31).mpr hN5, fun G5 e5 => ?_⟩
        rw [e5]
        clear e3 e5 G3 G5
        have k3 : Kq (sQf A B) G2 (uI (uI G2 A3 q (nI (cQ c i j + 1))) A5 i (nI q)) := (kq_I (sQ _ _ g3.2.2 d3)).sI (sQ _ _ g5.2.2 d5)
        generalize hUU : uI (uI G2 A3 q (nI (cQ c i j + 1))) A5 i (nI q) = U at *
        have eU : ∀ x k, sI U x k = if x = A5 ∧ k = i then nI q else if x = A3 ∧ k = q then nI (cQ c i j + 1) else sI G2 x k := fun x k => by rw [← hUU]; simp only [gI]
        have eR : ∀ x k, sR U x k = sR G2 x k := k3.R
        have eN : ∀ x, sN U x = sN G2 x := fun x => by rw [← hUU]; rfl
        clear hUU
        refine ih (i + 1) U im (k3.lay hL2) (hR2.kq k3) (hk2.tr k3.g) ?_ ?_ ?_ (fun x hx => ?_) ?_
        · unfold XQ
          simp only [eR, hA1, hA2, hA3, hA4]
          refine QS_cnt hq2 hqj hcj ?_ (fun k _ => ?_) (fun p _ => ⟨?_, ?_, ?_⟩) (fun p _ => ?_)
          · simp [eU, g3.1.symm, g5.1.symm]
          · simp [eU, g3.2.1.symm, g5.2.1.symm]
          · simp [eU, n13, n15]
          · simp [eU, n23, n25]
          · simp [eU, n34.symm, n45]
          · simp [eU, n35]
        · rw [eR, hA5, eN]; exact hn5'
        · rw [eR, hA2, eN]; exact hn2'
        · simp only [eR, hA5]
          rcases Nat.lt_succ_iff_lt_or_eq.mp hx with y | y
          · obtain ⟨q', j', a1, a2, a3⟩ := hnm' x y
            have y' : x ≠ i := Nat.ne_of_lt y
            exact ⟨q', j', a1, a2, by simp [eU, n35.symm, y']; exact a3⟩
          · exact ⟨q, j, hqj, by rw [y]; exact hcj, by rw [eU, if_pos ⟨rfl, y⟩]⟩
        · simp [eU, g3.1.symm, g5.1.symm]; exact h10'
      refine kX4_fill_45 hL1 hh ?_
      rw [hk1.I (by omega) (by unfold sQf; omega), hX.1]
      try simp (disch := omega) only [nLe, nLeR, nLeL, nLt, nLtR, nLtL, nEq, nEqR, nEqL, nClamp, nClampR, nAdd, nAddR, nAddL, nSub, nSubR, nMul, nMulR, nMulL, nDivR, vIn, vInR, iteZ, iteP, lEq, lEqR, forall_eq, forall_const, true_implies, false_implies, not_true_eq_false, not_false_eq_true, true_and, and_true, implies_true, Decidable.not_not, Nat.le_refl]
      refine ⟨fun z => by omega, fun _ => s_X6_setOf hL1 hX1 hO (by rw [hOO]; exact hs) hsJ ?_⟩
      refine s_shapeOf hL1 hh (hb.kg hL hh hk1 (fun i k z => by unfold sQf at z; omega)) (hw.kg hL hh hk1 (fun i k z => by unfold sQf at z; omega)) (hH.kg hL hk1 (fun i k z => by unfold sQf at z; unfold sHt; omega)) ht hP hPn sj sr ?_
      rw [← ci]
      have r10 := hR1.2.2.2.2.2.2.2.2.2.1
      refine s_X4_find hL1 hq.2.1 hq.1 (by omega) ⟨by omega, hn2⟩ (fun q hq' => ?_) (c31 i hi) ?_
      · have := getD_lt hq'
        exact ⟨(hq.2.2 q _ this).1, c31 _ (Nat.lt_trans (fL_lt (getE_mem this)) hi)⟩
      · rcases QS_find (v := c i) hq with ⟨e0, hno⟩ | ⟨q, a, hqa, hc, e0⟩
        · rw [e0]
          refine ⟨fun z => absurd rfl z, fun _ => s_X4_add (a := A) (b := B) hL1 hR1 ⟨by rw [hk1.R (by omega) (by unfold tQf; omega)]; exact hA, by rw [hk1.R (by omega) (by unfold tQf; omega)]; exact hB⟩ hq hno hn2 (by omega) (c31 i hi) (fun G2 hL2 hR2 hk2 hq2 hn2' h5 h5' h10' => ⟨hL2, ?_⟩)⟩
          have eF := fL_new hno
          have iA5 := (lay_g hL1 (i := 28) (k := 5) (t := 0) (f := 34) (by decide)).2.2
          have kx : 104 ≤ nx G1 := hL1.2.2.2.1
          refine cnt G2 (fL c i).length i hL2 hR2 (hk1.tr hk2) hq2 ?_ ?_ ?_ ?_ ?_ rfl
          · rw [h5, (hk2.2.1 _ iA5).1]; exact hn5
          · rw [eF, List.length_append, List.length_singleton]; exact hn2'
          · intro x hx
            obtain ⟨q', j', a1, a2, a3⟩ := hnm x hx
            exact ⟨q', j', fL_pre1 a1, a2, by rw [h5, h5']; exact a3⟩
          · rw [h10']; exact h10
          · rw [eF, List.getElem?_append_right (Nat.le_refl _), Nat.sub_self]; rfl
        · rw [e0]
          have hqn := getE_lt hqa
          have nm : ¬ nI q = -1 := fun z => by
            have := congrArg Int32.toInt z
            rw [nI_toInt (by omega)] at this
            have e1 : (-1 : Int32).toInt = -1 := by decide
            omega
          refine ⟨fun _ => cnt G1 q a hL1 hR1 hk1 ?_ hn5 ?_ (XNm_1 hnm) h10 (fL_pre1 hqa) hc, fun z => absurd z nm⟩
          · unfold XQ QS
            rw [fL_old hqa hc]
            exact hq
          · rw [fL_old hqa hc]; exact hn2
  -- the start
  have k0 : Kq (sQf A B) G (uI (uI G 28 12 0) 28 10 (-1)) := (kq_I (by unfold sQf; omega)).sI (by unfold sQf; omega)
  have hL0 := k0.lay hL
  refine kX4_fill_0 hL hh (s_J7_fill hL0 (la_29 hL0) (by decide) (fun G1 k1 a1 _ _ => ?_))
  have kq1 : Kq (sQf A B) G G1 := k0.tr (k1.q.mono (fun i _ z => by unfold sQf; omega))
  have hL1 := kq1.lay hL
  have hR1 := hR.kq kq1
  have z12 : sI G1 28 12 = nI 0 := by rw [k1.q.I (by omega), gI, if_neg (by omega), gI, if_pos ⟨rfl, rfl⟩]; rfl
  have z10 : sI G1 28 10 = -1 := by rw [k1.q.I (by omega), gI, if_pos ⟨rfl, rfl⟩]
  have q0 : ∀ G2 : St, sI G2 28 12 = nI 0 → (∀ j, j < 64 → sI G2 29 j = -1) → XQ G2 c 0 0 := fun G2 h1 h2 => ⟨h1, ⟨fun j hj => h2 j hj, fun q hq => absurd hq (Nat.not_lt_zero _)⟩, fun q j hq => by cases hq⟩
  have n0 : ∀ G2 : St, XNm G2 c 0 0 := fun G2 i hi => absurd hi (Nat.not_lt_zero _)
  obtain ⟨r1, r2, r3, r4, r5, r6, r7, r8, r9, r10, r11, r12⟩ := id hR1
  have hn31 : sN G1 (sR G1 28 5) < 2147483648 := by omega
  rw [kq1.I (i := 18) (by unfold sQf; omega), hX.1]
  try simp (disch := omega) only [nLe, nLeR, nLeL, nLt, nLtR, nLtL, nEq, nEqR, nEqL, nClamp, nClampR, nAdd, nAddR, nAddL, nSub, nSubR, nMul, nMulR, nMulL, nDivR, vIn, vInR, iteZ, iteP, lEq, lEqR, forall_eq, forall_const, true_implies, false_implies, not_true_eq_false, not_false_eq_true, true_and, and_true, implies_true, Decidable.not_not, Nat.le_refl]
  refine ⟨fun z => loop J.length 0 G1 (by omega) hL1 hR1 kq1.g (q0 G1 z12 a1) z (Nat.zero_le _) (n0 G1) z10, fun z => ⟨Nat.not_lt_zero _, show 2 * J.length * 4 ≤ 536870912 by omega, ?_⟩⟩
  have h104' : 104 ≤ nx G1 := hL1.2.2.2.1
  have mk := mk_uN (G := G1) 0 (2 * J.length)
  have hL2 := hL1.mk mk
  obtain ⟨m1, m2, m3, m4, m5⟩ := id mk
  show EvVa K mX4_fill 3 45 [(0, .ref 28), (1, .ref h), (2, .ref 5), (3, .ref 18), (4, .int (nI t)), (5, .int (nI 0))] [] (uR (uN G1 (100 + 0) (2 * J.length)) 28 5 (nx G1)) Q
  generalize hG2 : uN G1 (100 + 0) (2 * J.length) = G2 at *
  have hne : ∀ i k t f, (i, k, t, f) ∈ ltG → sR G2 i k = sR G1 i k ∧ sR G1 i k ≠ nx G1 ∧ sN G2 (sR G1 i k) = sN G1 (sR G1 i k) := fun i k t f hq => by
    have h1 := lay_g hL1 hq
    have h2 : i < 104 := (lay_lt hL1).2.2.2 _ hq
    exact ⟨by rw [(m3 i (by omega)).2.2.1], by omega, (m3 _ (by omega)).2.2.2.1⟩
  have hL3 : Lay (uR G2 28 5 (nx G1)).2.2 := hL2.put (i := 28) (k := 5) (t := 0) (f := 34) (by decide) h104' (by omega) m5 (fun q hq => by
    obtain ⟨i, k, t, f⟩ := q
    have := hne i k t f hq
    show sR G2 i k ≠ nx G1
    rw [this.1]; exact this.2.1)
  have o1 := hne 18 9 1 26 (by decide)
  have o2 := hne 18 10 1 27 (by decide)
  have o3 := hne 28 2 0 31 (by decide)
  have o4 := hne 28 1 0 30 (by decide)
  have o5 := hne 28 3 0 32 (by decide)
  have o6 := hne 28 4 0 33 (by decide)
  refine loop J.length 0 _ (by omega) hL3 ?_ ((kq1.g.tr mk.g).tr (kg_R ⟨rfl, by decide, by decide⟩)) (q0 _ ?_ (fun j hj => ?_)) ?_ (Nat.zero_le _) (n0 _) ?_
  · unfold Rm
    rw [uR_at, uR_ne (by decide), uR_ne (by decide), uR_ne (by decide), uR_ne (by decide), uR_ne (by decide), uR_ne (by decide)]
    show su G2 ≤ 1000000 + 1000 * e + 2 * sN G2 (sR G2 18 9) + 2 * sN G2 (sR G2 18 10) + 2 * sN G2 (nx G1) + 8 * sN G2 (sR G2 28 2) ∧ 64 * nx G2 ≤ 10000 + 6400 * e + su G2 ∧ 64 ≤ sN G2 (sR G2 18 9) ∧ sN G2 (sR G2 18 9) ≤ 348872 ∧ (sN G2 (sR G2 18 10) = sN G2 (sR G2 18 9) ∨ 2 * sN G2 (sR G2 18 10) ≤ sN G2 (sR G2 18 9)) ∧ 32 ≤ sN G2 (nx G1) ∧ sN G2 (nx G1) ≤ 348872 ∧ 32 ≤ sN G2 (sR G2 28 2) ∧ sN G2 (sR G2 28 2) ≤ 348872 ∧ sN G2 (sR G2 28 1) = sN G2 (sR G2 28 2) ∧ sN G2 (sR G2 28 3) = sN G2 (sR G2 28 2) ∧ sN G2 (sR G2 28 4) = sN G2 (sR G2 28 2)
    rw [o1.1, o2.1, o3.1, o4.1, o5.1, o6.1, o1.2.2, o2.2.2, o3.2.2, o4.2.2, o5.2.2, o6.2.2, m1, m2, m4]
    omega
  · show sI G2 28 12 = _
    rw [(m3 28 (by omega)).1]; exact z12
  · show sI G2 29 j = _
    rw [(m3 29 (by omega)).1]; exact a1 j hj
  · rw [uR_at]
    show J.length ≤ sN G2 (nx G1)
    omega
  · show sI G2 28 10 = _
    rw [(m3 28 (by omega)).1]; exact z10
end XFILL

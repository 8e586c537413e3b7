/-! the class' search: one tie farther, all sizes -/
section SIZES
variable {K : KT} {G : St} {f P : Nat → Nat → Nat} {n t e : Nat}
theorem s_widen {Q : St → Prop} {wi : Nat → Nat} (hL : Lay G.2.2) (hX : XTi G f) (hwi : ∀ r, r < 30 → wi r < 1073741824) (h21 : ∀ r, r < 30 → sI G 21 r = nI (wi r)) (hQ : ∀ G', Kq (fun i _ => i = 21) G G' → (∀ r, r < 30 → sI G' 21 r = nI (wi r ||| ru (tdF f) (wi r))) → Q G') : EvV K mX6_widen 1 0 [(0, .ref 18)] [] G Q := by
  -- one row
  have inner : ∀ (m x a r : Nat) (G1 : St), pc x = m → x < 1073741824 → a < 1073741824 → r < 30 → Kq (fun i _ => i = 21) G G1 → sI G1 21 r = nI a → (∀ G' b, Kq (fun i _ => i = 21) G G' → (∀ j, j ≠ r → sI G' 21 j = sI G1 21 j) → sI G' 21 r = nI b → (∀ j, b.testBit j = true ↔ a.testBit j = true ∨ (ru (tdF f) x).testBit j = true) → EvV K mX6_widen 1 2 [(0, .ref 18), (1, .int (nI (r + 1)))] [] G' Q) → EvV K mX6_widen 1 20 [(0, .ref 18), (1, .int (nI r)), (2, .int (nI x)), (3, .int (nI m))] [] G1 Q := by
    intro m
    induction m with
    | zero =>
      intro x a r G1 hm hx ha hr kq h1 hgo
      have e0 : x = 0 := (pc_pos (by omega)).mp hm
      subst e0
      refine kX6_widen_20 (kq.lay hL) ⟨fun _ => ?_, fun z => absurd (by decide) z⟩
      try simp (disch := omega) only [nLe, nLeR, nLeL, nLt, nLtR, nLtL, nEq, nEqR, nEqL, nClamp, nClampR, nAdd, nAddR, nAddL, nSub, nSubR, nMul, nMulR, nMulL, nDivR, vIn, vInR, iteZ, iteP, lEq, lEqR, forall_eq, forall_const, true_implies, false_implies, not_true_eq_false, not_false_eq_true, true_and, and_true, implies_true, Decidable.not_not, Nat.le_refl]
      refine hgo G1 a kq (fun _ _ => rfl) h1 (fun j => ⟨Or.inl, ?_⟩)
      rintro (h | h)
      · exact h
      · obtain ⟨i, h1, h2⟩ := (ru_bit (by decide)).mp h
        rw [Nat.zero_testBit] at h1; cases h1
    | succ m ih =>
      intro x a r G1 hm hx ha hr kq h1 hgo
      have h0 : x ≠ 0 := fun e => by rw [e, pc_0] at hm; cases hm
      have hx32 : x < 2 ^ 32 := by omega
      have hlo : lo x < 30 := bt_lt (n := 30) hx (lo_bit h0 hx32)
      have hcp := pc_clr h0 hx32
      have hL1 := kq.lay hL
      have htd := tdF_lt f (lo x)
      have e13 : sI G1 13 (lo x) = nI (tdF f (lo x)) := by rw [kq.I (by decide)]; exact hX.2 _ hlo
      refine kX6_widen_20 hL1 ⟨fun z => absurd z (by rw [nLeR (by have := pc_le x; omega) (by decide)]; simp), fun _ => ?_⟩
      rw [clr_and h0 hx32, nDec (by omega)]
      try simp (disch := omega) only [nLe, nLeR, nLeL, nLt, nLtR, nLtL, nEq, nEqR, nEqL, nClamp, nClampR, nAdd, nAddR, nAddL, nSub, nSubR, nMul, nMulR, nMulL, nDivR, vIn, vInR, iteZ, iteP, lEq, lEqR, forall_eq, forall_const, true_implies, false_implies, not_true_eq_false, not_false_eq_true, true_and, and_true, implies_true, Decidable.not_not, Nat.le_refl]
      refine ⟨hr, s_ntz h0 (by omega) hL1 ?_⟩
      try simp (disch := omega) only [nLe, nLeR, nLeL, nLt, nLtR, nLtL, nEq, nEqR, nEqL, nClamp, nClampR, nAdd, nAddR, nAddL, nSub, nSubR, nMul, nMulR, nMulL, nDivR, vIn, vInR, iteZ, iteP, lEq, lEqR, forall_eq, forall_const, true_implies, false_implies, not_true_eq_false, not_false_eq_true, true_and, and_true, implies_true, Decidable.not_not, Nat.le_refl]
      rw [h1, e13, fa_or]
      refine ⟨hlo, hr, ih (clr x) (a ||| tdF f (lo x)) r _ (by omega) (Nat.lt_of_le_of_lt clr_lt hx) (Nat.or_lt_two_pow (n := 30) ha htd) hr (kq.sI rfl) (by rw [gI, if_pos ⟨rfl, rfl⟩]) (fun G' b k2 a1 a2 a3 => hgo G' b k2 (fun j hj => by rw [a1 j hj, gI, if_neg (fun z => hj z.2)]) a2 (fun j => ?_))⟩
      rw [a3 j, or_bit, ru_bit (Nat.lt_of_le_of_lt clr_lt hx32), ru_bit hx32, or_assoc]
      constructor
      · rintro (h | h | ⟨i, h1, h2⟩)
        · exact Or.inl h
        · exact Or.inr ⟨lo x, lo_bit h0 hx32, h⟩
        · rw [clr_bit h0 hx32] at h1
          simp at h1
          exact Or.inr ⟨i, h1.1, h2⟩
      · rintro (h | ⟨i, h1, h2⟩)
        · exact Or.inl h
        · by_cases e : i = lo x
          · subst e; exact Or.inr (Or.inl h2)
          · exact Or.inr (Or.inr ⟨i, by rw [clr_bit h0 hx32]; simp [h1, e], h2⟩)
  have key : ∀ (m r : Nat) (G1 : St), r + m = 30 → Kq (fun i _ => i = 21) G G1 → (∀ j, j < 30 → sI G1 21 j = nI (if j < r then wi j ||| ru (tdF f) (wi j) else wi j)) → EvV K mX6_widen 1 2 [(0, .ref 18), (1, .int (nI r))] [] G1 Q := by
    intro m
    induction m with
    | zero =>
      intro r G1 hm kq h1
      have er : r = 30 := by omega
      subst er
      refine kX6_widen_2 (kq.lay hL) ?_
      try simp (disch := omega) only [nLe, nLeR, nLeL, nLt, nLtR, nLtL, nEq, nEqR, nEqL, nClamp, nClampR, nAdd, nAddR, nAddL, nSub, nSubR, nMul, nMulR, nMulL, nDivR, vIn, vInR, iteZ, iteP, lEq, lEqR, forall_eq, forall_const, true_implies, false_implies, not_true_eq_false, not_false_eq_true, true_and, and_true, implies_true, Decidable.not_not, Nat.le_refl]
      refine hQ G1 kq (fun j hj => ?_)
      rw [h1 j hj, if_pos hj]
    | succ m ih =>
      intro r G1 hm kq h1
      have hr : r < 30 := by omega
      have hw := hwi r hr
      have e := h1 r hr
      rw [if_neg (Nat.lt_irrefl _)] at e
      refine kX6_widen_2 (kq.lay hL) ?_
      try simp (disch := omega) only [nLe, nLeR, nLeL, nLt, nLtR, nLtL, nEq, nEqR, nEqL, nClamp, nClampR, nAdd, nAddR, nAddL, nSub, nSubR, nMul, nMulR, nMulL, nDivR, vIn, vInR, iteZ, iteP, lEq, lEqR, forall_eq, forall_const, true_implies, false_implies, not_true_eq_false, not_false_eq_true, true_and, and_true, implies_true, Decidable.not_not, Nat.le_refl, e]
      refine ⟨fun z => by omega, fun _ => ⟨hr, s_bitCount (by omega) (kq.lay hL) (inner (pc (wi r)) (wi r) (wi r) r G1 rfl hw hw hr kq e (fun G' b k2 a1 a2 a3 => ih (r + 1) G' (by omega) k2 (fun j hj => ?_)))⟩⟩
      by_cases ej : j = r
      · subst ej
        rw [a2, if_pos (by omega)]
        congr 1
        exact sb_ext (fun i hi => (or_bit _ _ _).mpr ((a3 i).mp hi)) (fun i hi => (a3 i).mpr ((or_bit _ _ _).mp hi))
      · rw [a1 j ej, h1 j hj]
        have : j < r + 1 ↔ j < r := by omega
        simp only [this]
  exact kX6_widen_0 hL (key 30 0 G rfl Kq.rf (fun j hj => by rw [h21 j hj, if_neg (Nat.not_lt_zero _)]))
/-- behind the sizes below m -/
def XSz (G : St) (f P : Nat → Nat → Nat) (t S m : Nat) : Prop := XVs G f P t (AL (tdF f) S m) ∧ ∀ j, j ≤ m → sI G 22 j = nI (AL (tdF f) S j).length
def sRn : Nat → Nat → Prop := fun i k => i = 18 ∧ 11 ≤ k ∨ i = 26 ∨ 104 ≤ i ∨ i = 19 ∨ i = 20 ∨ i = 21 ∨ i = 22
theorem XVs.kq {S : Nat → Nat → Prop} {G1 : St} {vis : List Nat} (hL : Lay G.2.2) (hV : XVs G f P t vis) (k3 : Kq S G G1) (hs : ∀ i k, S i k → ¬ (i = 18 ∧ (k = 15 ∨ k = 16 ∨ k = 17) ∨ i = 26 ∨ 104 ≤ i)) : XVs G1 f P t vis := by
  obtain ⟨a1, a2, a3, a4, a5⟩ := hV
  obtain ⟨g1, g2, g3⟩ := lay_g hL (i := 18) (k := 9) (t := 1) (f := 26) (by decide)
  refine ⟨by rw [k3.I (fun z => hs _ _ z (by omega))]; exact a1, by rw [k3.I (fun z => hs _ _ z (by omega))]; exact a2, by rw [k3.I (fun z => hs _ _ z (by omega))]; exact a3, ?_, fun i y hy => ?_⟩
  · rw [k3.R]
    have : sN G1 (sR G 18 9) = sN G (sR G 18 9) := by show G1.2.2.2.1 _ = _; rw [k3.1]; rfl
    rw [this]; exact a4
  · rw [k3.R, k3.L (fun z => hs _ _ z (by omega))]; exact a5 i y hy
theorem s_sizes {Q : St → Prop} {S W : Nat} (hL : Lay G.2.2) (hR : Rm e G) (hf : okF f) (hn : n ≤ 30) (ht : t ≤ 4) (hPn : ∀ k r, n ≤ r → P k r = 9) (hX : XTi G f) (hH : XHt G P n t) (hS : S < 1073741824) (hW : W ≤ 5) (hQ : ∀ G', Lay G'.2.2 → Rm e G' → Kg sRn tKf G G' → sI G' 18 13 = nI t → sI G' 18 14 = nI (2 ^ t - 1) → sI G' 18 11 = nI 0 → XSz G' f P t S W → EvVa K mX6_run 9 128 [(0, .ref 18), (4, .int 0)] [] G' Q) : EvVa K mX6_run 9 0 [(0, .ref 18), (1, .int (nI S)), (2, .int (nI W)), (3, .int (nI t))] [] G Q := by
  have h104 : 104 ≤ nx G := hL.2.2.2.1
  have p2t : 2 ^ t ≤ 2 ^ 4 := Nat.pow_le_pow_right (by decide) ht
  have p1t : 1 ≤ 2 ^ t := Nat.one_le_two_pow
  have hsy := tdF_sy hf
  have loop : ∀ (m k : Nat) (G1 : St), k + m = W → Lay G1.2.2 → Rm e G1 → Kg sRn tKf G G1 → sI G1 18 13 = nI t → sI G1 18 14 = nI (2 ^ t - 1) → sI G1 18 11 = nI 0 → sI G1 20 0 = nI 0 → (∀ r, r < 30 → sI G1 21 r = nI (wiK (tdF f) k r)) → XSz G1 f P t S k → EvVa K mX6_run 9 78 [(0, .ref 18), (1, .int (nI S)), (2, .int (nI W)), (4, .int (nI (k + 1)))] [] G1 Q := by
    intro m
    induction m with
    | zero =>
      intro k G1 hm hL1 hR1 hk1 h13 h14 h11 h20 h21 hz
      have ek : k = W := by omega
      subst ek
      refine kX6_run_78 hL1 ?_
      try simp (disch := omega) only [nLe, nLeR, nLeL, nLt, nLtR, nLtL, nEq, nEqR, nEqL, nClamp, nClampR, nAdd, nAddR, nAddL, nSub, nSubR, nMul, nMulR, nMulL, nDivR, vIn, vInR, iteZ, iteP, lEq, lEqR, forall_eq, forall_const, true_implies, false_implies, not_true_eq_false, not_false_eq_true, true_and, and_true, implies_true, Decidable.not_not, Nat.le_refl]
      exact ⟨fun _ => hQ G1 hL1 hR1 hk1 h13 h14 h11 hz, fun z => by omega⟩
    | succ m ih =>
      intro k G1 hm hL1 hR1 hk1 h13 h14 h11 h20 h21 hz
      have h104' : 104 ≤ nx G1 := hL1.2.2.2.1
      have kq2 : Kq (fun i k => i = 18 ∧ k = 12) G1 (uI G1 18 12 (nI (k + 1))) := kq_I ⟨rfl, rfl⟩
      have hL2 := kq2.lay hL1
      have hX2 : XCx (uI G1 18 12 (nI (k + 1))) f P n t (wiK (tdF f) k) (k + 1) := by
        have k02 : Kg sRn tKf G (uI G1 18 12 (nI (k + 1))) := hk1.tr (kq2.mono (fun i k z => by unfold sRn; omega)).g
        refine ⟨(show XTi (mixS G (uI G1 18 12 (nI (k + 1)))) f from hX.kq k02.toq (fun i k z => by unfold sRn at z; omega)), (show XHt (mixS G (uI G1 18 12 (nI (k + 1)))) P n t from hH.kq k02.toq (fun i k z => by unfold sRn at z; unfold sHt; omega)), ?_, ?_, fun r hr => ?_, ?_⟩
        · rw [kq2.I (by decide)]; exact h13
        · rw [kq2.I (by decide)]; exact h14
        · rw [kq2.I (by omega)]; exact h21 r hr
        · rw [gI, if_pos ⟨rfl, rfl⟩]
      refine kX6_run_78 hL1 ?_
      try simp (disch := omega) only [nLe, nLeR, nLeL, nLt, nLtR, nLtL, nEq, nEqR, nEqL, nClamp, nClampR, nAdd, nAddR, nAddL, nSub, nSubR, nMul, nMulR, nMulL, nDivR, vIn, vInR, iteZ, iteP, lEq, lEqR, forall_eq, forall_const, true_implies, false_implies, not_true_eq_false, not_false_eq_true, true_and, and_true, implies_true, Decidable.not_not, Nat.le_refl]
      refine ⟨fun z => by omega, fun _ => ⟨fun z => by omega, fun _ => ?_⟩⟩
      have hlen := AL_len (tdF f) S (n := k + 1) (by omega)
      have egl := gl_lS hsy (tdF_lt f) (S := S) (m := k) hS
      have eAL : AL (tdF f) S (k + 1) = AL (tdF f) S k ++ gl (tdF f) (wiK (tdF f) k) k [] 0 S := by rw [egl]; rfl
      have hgr := s_grow (K := K) (e := e) (sz := k + 1) (wi := wiK (tdF f) k) hf hn ht hPn (fun r hr => wiK_lt (tdF_lt f) hr) k 8 (G := uI G1 18 12 (nI (k + 1))) (lv := 0) (set := 0) (rows := S) (gs := []) (vis := AL (tdF f) S k)
        (Q := fun G1 => Lay G1.2.2 ∧ k + 1 < 6 ∧ EvV K mX6_widen 1 0 [(0, .ref 18)] [] (uI G1 22 (k + 1) (sI G1 18 16)) (fun G3 => EvVa K mX6_run 9 78 [(0, .ref 18), (1, .int (nI S)), (2, .int (nI W)), (4, .int (nI (k + 1 + 1)))] [] G3 Q))
        (by omega) (by omega) (by omega) hL2 (hR1.kq kq2) hX2 ⟨by rw [kq2.I (by decide)]; exact h20, Nat.le_refl _, fun i g hg => by cases hg⟩ (by decide) (by rw [pc_0]; exact Nat.le_refl 0) hS (fun i j _ h => by rw [Nat.zero_testBit] at h; cases h) (hz.1.kq hL1 kq2 (fun i k z => by omega)) (by rw [← eAL]; exact hlen) (fun G3 hL3 hR3 hk3 hV3 => ?_)
      · have e0 : ru (hdF P t) 0 = 0 := by unfold ru; rw [bl_0]; rfl
        rw [e0] at hgr
        exact hgr
      · have h104'' : 104 ≤ nx G3 := hL3.2.2.2.1
        rw [← eAL] at hV3
        refine ⟨hL3, by omega, ?_⟩
        rw [hV3.1]
        have kq4 : Kq (fun i j => i = 22 ∧ j = k + 1) G3 (uI G3 22 (k + 1) (nI (AL (tdF f) S (k + 1)).length)) := kq_I ⟨rfl, rfl⟩
        have hX3 := hX2.kg (show 104 ≤ nx G1 from h104') hk3 (fun i k z => by unfold sGr at z; omega)
        refine s_widen (f := f) (wi := wiK (tdF f) k) (kq4.lay hL3) (hX3.1.kq kq4 (fun i k z => by omega)) (fun r hr => wiK_lt (tdF_lt f) hr) (fun r hr => by rw [kq4.I (by omega)]; exact hX3.2.2.2.2.1 r hr) (fun G5 k5 a5 => ?_)
        have kq45 : Kq (fun i j => i = 22 ∧ j = k + 1 ∨ i = 21) G3 G5 := (kq4.mono (fun i j z => Or.inl z)).tr (k5.mono (fun i j z => Or.inr z))
        have hk35 : Kg sRn tKf G3 G5 := (kq45.mono (fun i k z => by unfold sRn; omega)).g
        have hk13 : Kg sRn tKf G1 G3 := ((kq2.mono (fun i k z => by unfold sRn; omega)).g).tr (hk3.mono (fun i k _ z => by unfold sGr at z; unfold sRn; omega) (fun i k _ z => z))
        refine ih (k + 1) G5 (by omega) (kq45.lay hL3) (hR3.kq kq45) (hk1.tr (hk13.tr hk35)) ?_ ?_ ?_ ?_ (fun r hr => a5 r hr) ⟨hV3.kq hL3 kq45 (fun i k z => by omega), fun j hj => ?_⟩
        · rw [kq45.I (by omega)]; exact hX3.2.2.1
        · rw [kq45.I (by omega)]; exact hX3.2.2.2.1
        · rw [kq45.I (by omega), hk3.I (by show 18 < nx G1; omega) (by unfold sGr; omega), kq2.I (by omega)]; exact h11
        · rw [kq45.I (by omega), hk3.I (by show 20 < nx G1; omega) (by unfold sGr; omega), kq2.I (by omega)]; exact h20
        · rw [k5.I (by omega)]
          by_cases ej : j = k + 1
          · subst ej; rw [gI, if_pos ⟨rfl, rfl⟩]
          · rw [gI, if_neg (fun z => ej z.2), hk3.I (by show 22 < nx G1; omega) (by unfold sGr; omega), kq2.I (by omega)]
            exact hz.2 j (by omega)
  -- within, at first
  have first : ∀ (m r : Nat) (G1 : St), r + m = 30 → Kq sRn G G1 → sI G1 18 13 = nI t → sI G1 18 14 = nI (2 ^ t - 1) → sI G1 18 11 = nI 0 → sI G1 18 15 = nI 0 → sI G1 18 16 = nI 0 → sI G1 18 17 = nI 0 → sI G1 20 0 = nI 0 → sI G1 22 0 = nI 0 → (∀ j, j < r → sI G1 21 j = nI (2 ^ j)) → EvVa K mX6_run 9 51 [(0, .ref 18), (1, .int (nI S)), (2, .int (nI W)), (4, .int (nI r))] [] G1 Q := by
    intro m
    induction m with
    | zero =>
      intro r G1 hm kq h13 h14 h11 h15 h16 h17 h20 h22 h21
      have er : r = 30 := by omega
      subst er
      refine kX6_run_51 (kq.lay hL) ?_
      try simp (disch := omega) only [nLe, nLeR, nLeL, nLt, nLtR, nLtL, nEq, nEqR, nEqL, nClamp, nClampR, nAdd, nAddR, nAddL, nSub, nSubR, nMul, nMulR, nMulL, nDivR, vIn, vInR, iteZ, iteP, lEq, lEqR, forall_eq, forall_const, true_implies, false_implies, not_true_eq_false, not_false_eq_true, true_and, and_true, implies_true, Decidable.not_not, Nat.le_refl]
      refine loop W 0 G1 (by omega) (kq.lay hL) (hR.kq kq) kq.g h13 h14 h11 h20 (fun r hr => h21 r hr) ⟨⟨h16, h15, h17, Nat.zero_le _, fun i x hx => by cases hx⟩, fun j hj => ?_⟩
      have : j = 0 := by omega
      subst this
      exact h22
    | succ m ih =>
      intro r G1 hm kq h13 h14 h11 h15 h16 h17 h20 h22 h21
      refine kX6_run_51 (kq.lay hL) ?_
      rw [shl_one (by omega)]
      try simp (disch := omega) only [nLe, nLeR, nLeL, nLt, nLtR, nLtL, nEq, nEqR, nEqL, nClamp, nClampR, nAdd, nAddR, nAddL, nSub, nSubR, nMul, nMulR, nMulL, nDivR, vIn, vInR, iteZ, iteP, lEq, lEqR, forall_eq, forall_const, true_implies, false_implies, not_true_eq_false, not_false_eq_true, true_and, and_true, implies_true, Decidable.not_not, Nat.le_refl]
      refine ⟨fun z => by omega, fun _ => ⟨by omega, ih (r + 1) _ (by omega) (kq.sI (by unfold sRn; omega)) ?_ ?_ ?_ ?_ ?_ ?_ ?_ ?_ (fun j hj => ?_)⟩⟩
      · rw [gI]; simpa using h13
      · rw [gI]; simpa using h14
      · rw [gI]; simpa using h11
      · rw [gI]; simpa using h15
      · rw [gI]; simpa using h16
      · rw [gI]; simpa using h17
      · rw [gI]; simpa using h20
      · rw [gI]; simpa using h22
      · rw [gI]
        by_cases ej : j = r
        · subst ej; simp
        · rw [if_neg (fun z => ej z.2)]; exact h21 j (by omega)
  refine kX6_run_0 hL ?_
  rw [shl_one (by omega), nSubR (by exact p1t)]
  refine first 30 0 _ rfl ?_ ?_ ?_ ?_ ?_ ?_ ?_ ?_ ?_ (fun j hj => absurd hj (Nat.not_lt_zero j))
  · exact (((((((kq_I (by unfold sRn; omega)).sI (by unfold sRn; omega)).sI (by unfold sRn; omega)).sI (by unfold sRn; omega)).sI (by unfold sRn; omega)).sI (by unfold sRn; omega)).sI (by unfold sRn; omega)).sI (by unfold sRn; omega)
  all_goals simp [gI]
  all_goals rfl
end SIZES

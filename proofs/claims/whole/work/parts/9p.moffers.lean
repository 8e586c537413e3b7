/-! the model: offers -/
def MOf (G : St) (L : List Nat) : Prop := sI G 66 31 = nI L.length ∧ ∀ i c : Nat, L[i]? = some c → sI G 85 i = nI c
def sMo : Nat → Nat → Prop := fun i k => i = 66 ∧ k = 31 ∨ i = 85
section MOFFERS
variable {K : KT} {G : St} {a : AS} {e : Nat}
/-- in a text column each row that is seen has a word -/
theorem OkA.wi (ho : OkA e a) {r x : Nat} (hx : isTx a.b x = true) (hr : r < a.w.1) : (wdI a.b a.w a.S r x ≠ 0 ↔ a.S.testBit r = true ∧ a.w.2.1 r = x / 4) ∧ (a.S.testBit r = true ∧ a.w.2.1 r = x / 4 → a.w.2.2 r (x % 4) = lN (wdI a.b a.w a.S r x) ∧ wdI a.b a.w a.S r x < 282429536481) := by
  unfold isTx at hx
  obtain ⟨h1, h2, h3⟩ := of_decide_eq_true hx
  have key : a.S.testBit r = true ∧ a.w.2.1 r = x / 4 → wdI a.b a.w a.S r x ≠ 0 ∧ a.w.2.2 r (x % 4) = lN (wdI a.b a.w a.S r x) ∧ wdI a.b a.w a.S r x < 282429536481 := by
    rintro ⟨z1, z2⟩
    unfold wdI wdA
    rw [if_pos ⟨z1, z2⟩, z2, if_pos ⟨h2, h3⟩]
    obtain ⟨n, n1, n2⟩ := (ho.cl r (x % 4) hr (by rw [z2]; exact h2)).1 (by rw [z2]; exact h3)
    have e1 : nv (a.w.2.2 r (x % 4)) = n := by rw [n1]; exact nv_l (by have := n2.1; omega)
    rw [e1]
    refine ⟨fun z => ?_, n1, n2.1⟩
    have := n2.2
    rw [z] at this
    exact this rfl
  refine ⟨⟨fun z => ?_, fun z => (key z).1⟩, fun z => (key z).2⟩
  obtain ⟨q1, q2, -⟩ := wdI_0 z
  exact ⟨q1, q2⟩
theorem s_isColumn {Q : Int32 → St → Prop} {x : Nat} (hL : Lay G.2.2) (hb : MTb G 0 a.b) (ho : OkA e a) (hx : x < 20) (hQ : Q (if isTx a.b x = true then 1 else 0) G) : EvI K mX12_isColumn 0 0 [(0, .ref 66), (1, .int (nI x / 4)), (2, .int (nI x - nI x / 4 * 4)), (3, .int 5)] [] G Q := by
  have b5 := ho.b5
  refine kX12_isColumn_0 hL ?_
  rw [hb.1, show nI x - nI x / 4 * 4 = nI (x % 4) from fa_rem (k := 2) (by omega) (by decide)]
  have no : ¬ (x / 4 < a.b.1 ∧ x % 4 < a.b.2.2.1 (x / 4) ∧ a.b.2.2.2.2 (x / 4) (x % 4) = 5) → Q 0 G := fun z => by
    unfold isTx at hQ
    rw [if_neg (by simpa using z)] at hQ
    exact hQ
  try simp (disch := omega) only [nLe, nLeR, nLeL, nLt, nLtR, nLtL, nEq, nEqR, nEqL, nClamp, nClampR, nAdd, nAddR, nAddL, nSub, nSubR, nMul, nMulR, nMulL, nDivR, vIn, vInR, iteZ, iteP, lEq, lEqR, forall_eq, forall_const, true_implies, false_implies, not_true_eq_false, not_false_eq_true, true_and, and_true, implies_true, Decidable.not_not, Nat.le_refl]
  refine ⟨fun z => no (by omega), fun z => ?_⟩
  obtain ⟨a1, a2, a3, a4⟩ := hb.2.2 (x / 4) (by omega)
  rw [Nat.mul_zero, Nat.zero_add] at a2
  try simp (disch := omega) only [nLe, nLeR, nLeL, nLt, nLtR, nLtL, nEq, nEqR, nEqL, nClamp, nClampR, nAdd, nAddR, nAddL, nSub, nSubR, nMul, nMulR, nMulL, nDivR, vIn, vInR, iteZ, iteP, lEq, lEqR, forall_eq, forall_const, true_implies, false_implies, not_true_eq_false, not_false_eq_true, true_and, and_true, implies_true, Decidable.not_not, Nat.le_refl, a2]
  refine ⟨by omega, fun z2 => no (by omega), fun z2 => ?_⟩
  obtain ⟨-, c2⟩ := a4 (x % 4) (by omega)
  rw [Nat.mul_zero, Nat.zero_add] at c2
  have k6 := ho.tb _ _ (show x / 4 < a.b.1 by omega) (show x % 4 < a.b.2.2.1 (x / 4) by omega)
  try simp (disch := omega) only [nLe, nLeR, nLeL, nLt, nLtR, nLtL, nEq, nEqR, nEqL, nClamp, nClampR, nAdd, nAddR, nAddL, nSub, nSubR, nMul, nMulR, nMulL, nDivR, vIn, vInR, iteZ, iteP, lEq, lEqR, forall_eq, forall_const, true_implies, false_implies, not_true_eq_false, not_false_eq_true, true_and, and_true, implies_true, Decidable.not_not, Nat.le_refl, c2]
  refine ⟨by omega, fun z3 => no (fun y => z3 y.2.2), fun z3 => ?_⟩
  unfold isTx at hQ
  rw [if_pos (by simp; exact ⟨by omega, by omega, z3⟩)] at hQ
  exact hQ
theorem s_isEach {Q : Int32 → St → Prop} {x : Nat} (hL : Lay G.2.2) (c : MC G a) (ho : OkA e a) (hx : x < 20) (hT : isTx a.b x = true) (hQ : Q (if (dfA a.b a.w a.S x && anyB (fun r => wdI a.b a.w a.S r x != 0) a.w.1) = true then 1 else 0) G) : EvI K mX12_isEach 2 0 [(0, .ref 66), (1, .int (nI x / 4)), (2, .int (nI x - nI x / 4 * 4))] [] G Q := by
  have b5 := ho.b5
  have w30 := ho.w30
  unfold isTx at hT
  obtain ⟨t1, t2, t3⟩ := of_decide_eq_true hT
  have c4 := ho.c4 _ t1
  have hT' : isTx a.b x = true := by unfold isTx; exact hT
  refine kX12_isEach_0 hL ?_
  rw [show nI x - nI x / 4 * 4 = nI (x % 4) from fa_rem (k := 2) (by omega) (by decide), nDivR (by omega) (by decide) (by decide)]
  show EvI K mX12_isEach 2 5 [(0, .ref 66), (1, .int (nI (x / 4))), (2, .int (nI (x % 4))), (3, .int 0), (4, .int 0)] [] G Q
  have key : ∀ (m r : Nat) (v : Int32), r + m = a.w.1 → (v = if anyB (fun r => wdI a.b a.w a.S r x != 0) r = true then 1 else 0) → anyB (fun r => wdI a.b a.w a.S r x != 0 && hsW a.b a.w a.S x (wdI a.b a.w a.S r x) r) r = false → EvI K mX12_isEach 2 5 [(0, .ref 66), (1, .int (nI (x / 4))), (2, .int (nI (x % 4))), (3, .int v), (4, .int (nI r))] [] G Q := by
    intro m
    induction m with
    | zero =>
      intro r v hm hv hno
      refine kX12_isEach_5 hL ?_
      have er : r = a.w.1 := by omega
      rw [c.ro.1, er]
      refine ⟨fun _ => ?_, fun z => absurd (Int32.le_refl _) z⟩
      rw [er] at hv hno
      unfold dfA at hQ
      rw [hno] at hQ
      simp only [Bool.not_false, Bool.true_and] at hQ
      rw [hv]
      refine ⟨?_, hQ⟩
      split
      · exact Or.inr rfl
      · exact Or.inl rfl
    | succ m ih =>
      intro r v hm hv hno
      have hr : r < a.w.1 := by omega
      obtain ⟨r1, r2, r3⟩ := c.ro.2.2 r hr
      obtain ⟨wi1, wi2⟩ := ho.wi hT' hr
      have skip : wdI a.b a.w a.S r x = 0 → EvI K mX12_isEach 2 100 [(0, .ref 66), (1, .int (nI (x / 4))), (2, .int (nI (x % 4))), (3, .int v), (4, .int (nI r))] [] G Q := by
        intro z
        refine kX12_isEach_100 hL ?_
        rw [show nI r + 1 = nI (r + 1) from nAdd]
        refine ih (r + 1) v (by omega) ?_ ?_
        · rw [hv, anyB, z]; simp
        · rw [anyB, hno, z]; simp
      refine kX12_isEach_5 hL ?_
      rw [c.ro.1]
      try simp (disch := omega) only [nLe, nLeR, nLeL, nLt, nLtR, nLtL, nEq, nEqR, nEqL, nClamp, nClampR, nAdd, nAddR, nAddL, nSub, nSubR, nMul, nMulR, nMulL, nDivR, vIn, vInR, iteZ, iteP, lEq, lEqR, forall_eq, forall_const, true_implies, false_implies, not_true_eq_false, not_false_eq_true, true_and, and_true, implies_true, Decidable.not_not, Nat.le_refl, r2]
      refine ⟨fun z => by omega, fun _ => ⟨by omega, fun z => skip (by
        by_cases y : wdI a.b a.w a.S r x = 0
        · exact y
        · exact absurd (wi1.mp y).2 z), fun z => s_X12_isSeenN hL (c.ms ho) (by omega) ?_⟩⟩
      by_cases hs : a.S.testBit r = true
      · rw [if_pos hs]
        refine ⟨fun z => absurd z (by decide), fun _ => ?_⟩
        have wne := wi1.mpr ⟨hs, z⟩
        obtain ⟨wv, wl'⟩ := wi2 ⟨hs, z⟩
        have cell : ∀ q, q < a.w.1 → a.w.2.1 q = x / 4 → sL G 78 (4 * q + x % 4) = a.w.2.2 q (x % 4) := fun q hq hz => (c.ro.2.2 q hq).2.2 (x % 4) (by rw [hz]; exact t2)
        have inner : ∀ (n q : Nat), q + n = r → hsW a.b a.w a.S x (wdI a.b a.w a.S r x) q = false → EvI K mX12_isEach 2 39 [(0, .ref 66), (1, .int (nI (x / 4))), (2, .int (nI (x % 4))), (3, .int 1), (4, .int (nI r)), (5, .int (nI q))] [] G Q := by
          intro n
          induction n with
          | zero =>
            intro q hn hq
            refine kX12_isEach_39 hL ?_
            rw [show q = r by omega]
            refine ⟨fun _ => kX12_isEach_100 hL ?_, fun z => absurd (Int32.le_refl _) z⟩
            rw [show nI r + 1 = nI (r + 1) from nAdd]
            rw [show q = r by omega] at hq
            refine ih (r + 1) 1 (by omega) ?_ ?_
            · rw [anyB]; simp [wne]
            · rw [anyB, hno, hq]; simp
          | succ n ihn =>
            intro q hn hq
            have hqw : q < a.w.1 := by omega
            obtain ⟨q1, q2, q3⟩ := c.ro.2.2 q hqw
            obtain ⟨wj1, wj2⟩ := ho.wi hT' hqw
            have next : wdI a.b a.w a.S q x ≠ wdI a.b a.w a.S r x → EvI K mX12_isEach 2 94 [(0, .ref 66), (1, .int (nI (x / 4))), (2, .int (nI (x % 4))), (3, .int 1), (4, .int (nI r)), (5, .int (nI q))] [] G Q := by
              intro y
              refine kX12_isEach_94 hL ?_
              rw [show nI q + 1 = nI (q + 1) from nAdd]
              refine ihn (q + 1) (by omega) ?_
              unfold hsW at hq ⊢
              rw [anyB, hq]; simp [y]
            refine kX12_isEach_39 hL ?_
            try simp (disch := omega) only [nLe, nLeR, nLeL, nLt, nLtR, nLtL, nEq, nEqR, nEqL, nClamp, nClampR, nAdd, nAddR, nAddL, nSub, nSubR, nMul, nMulR, nMulL, nDivR, vIn, vInR, iteZ, iteP, lEq, lEqR, forall_eq, forall_const, true_implies, false_implies, not_true_eq_false, not_false_eq_true, true_and, and_true, implies_true, Decidable.not_not, Nat.le_refl, q2]
            refine ⟨fun z => by omega, fun _ => ⟨by omega, fun z1 => next (fun y => z1 (wj1.mp (by rw [y]; exact wne)).2), fun z1 => s_X12_isSeenN hL (c.ms ho) (by omega) ?_⟩⟩
            by_cases hs1 : a.S.testBit q = true
            · rw [if_pos hs1]
              refine ⟨fun z => absurd z (by decide), fun _ => ?_⟩
              obtain ⟨wq, wql⟩ := wj2 ⟨hs1, z1⟩
              try simp (disch := omega) only [nLe, nLeR, nLeL, nLt, nLtR, nLtL, nEq, nEqR, nEqL, nClamp, nClampR, nAdd, nAddR, nAddL, nSub, nSubR, nMul, nMulR, nMulL, nDivR, vIn, vInR, iteZ, iteP, lEq, lEqR, forall_eq, forall_const, true_implies, false_implies, not_true_eq_false, not_false_eq_true, true_and, and_true, implies_true, Decidable.not_not, Nat.le_refl]
              rw [cell q hqw z1, cell r hr z, wq, wv, lEq (by omega) (by omega)]
              refine ⟨by omega, by omega, fun y => next y, fun y => ?_⟩
              unfold dfA at hQ
              have : anyB (fun r => wdI a.b a.w a.S r x != 0 && hsW a.b a.w a.S x (wdI a.b a.w a.S r x) r) a.w.1 = true := anyB_iff.mpr ⟨r, hr, by
                have : hsW a.b a.w a.S x (wdI a.b a.w a.S r x) r = true := anyB_iff.mpr ⟨q, by omega, by simp [y]⟩
                simp [wne, this]⟩
              rw [this] at hQ
              simpa using hQ
            · rw [if_neg hs1]
              exact ⟨fun _ => next (fun y => hs1 (wj1.mp (by rw [y]; exact wne)).1), fun z => absurd rfl z⟩
        exact inner r 0 (by omega) rfl
      · rw [if_neg hs]
        exact ⟨fun _ => skip (by
          by_cases y : wdI a.b a.w a.S r x = 0
          · exact y
          · exact absurd (wi1.mp y).1 hs), fun z => absurd rfl z⟩
  exact key a.w.1 0 0 (by omega) rfl rfl
theorem s_areAmong {Q : Int32 → St → Prop} {x y : Nat} (hL : Lay G.2.2) (c : MC G a) (ho : OkA e a) (hx : x < 20) (hy : y < 20) (hT : isTx a.b x = true) (hU : isTx a.b y = true) (hQ : Q (if amA a.b a.w a.S x y = true then 1 else 0) G) : EvI K mX12_areAmong 2 0 [(0, .ref 66), (1, .int (nI x / 4)), (2, .int (nI x - nI x / 4 * 4)), (3, .int (nI y / 4)), (4, .int (nI y - nI y / 4 * 4))] [] G Q := by
  have b5 := ho.b5
  have w30 := ho.w30
  have hT' := hT
  have hU' := hU
  unfold isTx at hT hU
  obtain ⟨t1, t2, t3⟩ := of_decide_eq_true hT
  obtain ⟨u1, u2, u3⟩ := of_decide_eq_true hU
  have c4 := ho.c4 _ t1
  have c4' := ho.c4 _ u1
  refine kX12_areAmong_0 hL ?_
  rw [show nI x - nI x / 4 * 4 = nI (x % 4) from fa_rem (k := 2) (by omega) (by decide), nDivR (by omega) (by decide) (by decide), show nI y - nI y / 4 * 4 = nI (y % 4) from fa_rem (k := 2) (by omega) (by decide), nDivR (by omega) (by decide) (by decide)]
  show EvI K mX12_areAmong 2 6 [(0, .ref 66), (1, .int (nI (x / 4))), (2, .int (nI (x % 4))), (3, .int (nI (y / 4))), (4, .int (nI (y % 4))), (5, .int 0), (6, .int 0)] [] G Q
  have key : ∀ (m r : Nat) (v : Int32), r + m = a.w.1 → (v = if anyB (fun r => wdI a.b a.w a.S r x != 0) r = true then 1 else 0) → anyB (fun r => wdI a.b a.w a.S r x != 0 && !hsW a.b a.w a.S y (wdI a.b a.w a.S r x) a.w.1) r = false → EvI K mX12_areAmong 2 6 [(0, .ref 66), (1, .int (nI (x / 4))), (2, .int (nI (x % 4))), (3, .int (nI (y / 4))), (4, .int (nI (y % 4))), (5, .int v), (6, .int (nI r))] [] G Q := by
    intro m
    induction m with
    | zero =>
      intro r v hm hv hno
      refine kX12_areAmong_6 hL ?_
      have er : r = a.w.1 := by omega
      rw [c.ro.1, er]
      refine ⟨fun _ => ?_, fun z => absurd (Int32.le_refl _) z⟩
      rw [er] at hv hno
      unfold amA at hQ
      rw [hno] at hQ
      simp only [Bool.not_false, Bool.true_and] at hQ
      rw [hv]
      refine ⟨?_, hQ⟩
      split
      · exact Or.inr rfl
      · exact Or.inl rfl
    | succ m ih =>
      intro r v hm hv hno
      have hr : r < a.w.1 := by omega
      obtain ⟨r1, r2, r3⟩ := c.ro.2.2 r hr
      obtain ⟨wi1, wi2⟩ := ho.wi hT' hr
      have skip : wdI a.b a.w a.S r x = 0 → EvI K mX12_areAmong 2 125 [(0, .ref 66), (1, .int (nI (x / 4))), (2, .int (nI (x % 4))), (3, .int (nI (y / 4))), (4, .int (nI (y % 4))), (5, .int v), (6, .int (nI r))] [] G Q := by
        intro z
        refine kX12_areAmong_125 hL ?_
        rw [show nI r + 1 = nI (r + 1) from nAdd]
        refine ih (r + 1) v (by omega) ?_ ?_
        · rw [hv, anyB, z]; simp
        · rw [anyB, hno, z]; simp
      refine kX12_areAmong_6 hL ?_
      rw [c.ro.1]
      try simp (disch := omega) only [nLe, nLeR, nLeL, nLt, nLtR, nLtL, nEq, nEqR, nEqL, nClamp, nClampR, nAdd, nAddR, nAddL, nSub, nSubR, nMul, nMulR, nMulL, nDivR, vIn, vInR, iteZ, iteP, lEq, lEqR, forall_eq, forall_const, true_implies, false_implies, not_true_eq_false, not_false_eq_true, true_and, and_true, implies_true, Decidable.not_not, Nat.le_refl, r2]
      refine ⟨fun z => by omega, fun _ => ⟨by omega, fun z => skip (by
        by_cases y : wdI a.b a.w a.S r x = 0
        · exact y
        · exact absurd (wi1.mp y).2 z), fun z => s_X12_isSeenN hL (c.ms ho) (by omega) ?_⟩⟩
      by_cases hs : a.S.testBit r = true
      · rw [if_pos hs]
        refine ⟨fun z => absurd z (by decide), fun _ => ?_⟩
        have wne := wi1.mpr ⟨hs, z⟩
        obtain ⟨wv, wl'⟩ := wi2 ⟨hs, z⟩
        have cell : ∀ q, q < a.w.1 → a.w.2.1 q = y / 4 → sL G 78 (4 * q + y % 4) = a.w.2.2 q (y % 4) := fun q hq hz => (c.ro.2.2 q hq).2.2 (y % 4) (by rw [hz]; exact u2)
        have cellr : sL G 78 (4 * r + x % 4) = a.w.2.2 r (x % 4) := r3 (x % 4) (by rw [z]; exact t2)
        have inner : ∀ (n q : Nat) (u : Int32), q + n = a.w.1 → (u = if hsW a.b a.w a.S y (wdI a.b a.w a.S r x) q = true then 1 else 0) → EvI K mX12_areAmong 2 44 [(0, .ref 66), (1, .int (nI (x / 4))), (2, .int (nI (x % 4))), (3, .int (nI (y / 4))), (4, .int (nI (y % 4))), (5, .int 1), (6, .int (nI r)), (7, .int u), (8, .int (nI q))] [] G Q := by
          intro n
          induction n with
          | zero =>
            intro q u hn hu
            refine kX12_areAmong_44 hL ?_
            rw [c.ro.1, show q = a.w.1 by omega]
            rw [show q = a.w.1 by omega] at hu
            refine ⟨fun _ => ⟨fun z2 => kX12_areAmong_125 hL ?_, fun z2 => ?_⟩, fun z => absurd (Int32.le_refl _) z⟩
            · have hh : hsW a.b a.w a.S y (wdI a.b a.w a.S r x) a.w.1 = true := by
                cases q : hsW a.b a.w a.S y (wdI a.b a.w a.S r x) a.w.1
                · rw [q] at hu; exact absurd hu z2
                · rfl
              rw [show nI r + 1 = nI (r + 1) from nAdd]
              refine ih (r + 1) 1 (by omega) ?_ ?_
              · rw [anyB]; simp [wne]
              · rw [anyB, hno, hh]; simp
            · have hh : hsW a.b a.w a.S y (wdI a.b a.w a.S r x) a.w.1 = false := by
                cases q : hsW a.b a.w a.S y (wdI a.b a.w a.S r x) a.w.1
                · rfl
                · rw [q, z2] at hu; exact absurd hu (by decide)
              unfold amA at hQ
              have : anyB (fun r => wdI a.b a.w a.S r x != 0 && !hsW a.b a.w a.S y (wdI a.b a.w a.S r x) a.w.1) a.w.1 = true := anyB_iff.mpr ⟨r, hr, by simp [wne, hh]⟩
              rw [this] at hQ
              simpa using hQ
          | succ n ihn =>
            intro q u hn hu
            have hqw : q < a.w.1 := by omega
            obtain ⟨q1, q2, q3⟩ := c.ro.2.2 q hqw
            obtain ⟨wj1, wj2⟩ := ho.wi hU' hqw
            have next : ∀ u', (u' = if (hsW a.b a.w a.S y (wdI a.b a.w a.S r x) q || (wdI a.b a.w a.S q y == wdI a.b a.w a.S r x)) = true then 1 else 0) → EvI K mX12_areAmong 2 110 [(0, .ref 66), (1, .int (nI (x / 4))), (2, .int (nI (x % 4))), (3, .int (nI (y / 4))), (4, .int (nI (y % 4))), (5, .int 1), (6, .int (nI r)), (8, .int (nI q))] [.int u'] G Q := by
              intro u' hu'
              refine kX12_areAmong_110 hL ?_
              rw [show nI q + 1 = nI (q + 1) from nAdd]
              refine ihn (q + 1) u' (by omega) ?_
              rw [hu']
              unfold hsW
              rw [anyB]
            refine kX12_areAmong_44 hL ?_
            rw [c.ro.1]
            try simp (disch := omega) only [nLe, nLeR, nLeL, nLt, nLtR, nLtL, nEq, nEqR, nEqL, nClamp, nClampR, nAdd, nAddR, nAddL, nSub, nSubR, nMul, nMulR, nMulL, nDivR, vIn, vInR, iteZ, iteP, lEq, lEqR, forall_eq, forall_const, true_implies, false_implies, not_true_eq_false, not_false_eq_true, true_and, and_true, implies_true, Decidable.not_not, Nat.le_refl, q2]
            refine ⟨fun z => by omega, fun _ => ⟨fun z2 => next 1 ?_, fun z2 => ?_⟩⟩
            · cases q' : hsW a.b a.w a.S y (wdI a.b a.w a.S r x) q
              · rw [q'] at hu; exact absurd hu z2
              · rfl
            · have hf : hsW a.b a.w a.S y (wdI a.b a.w a.S r x) q = false := by
                cases q' : hsW a.b a.w a.S y (wdI a.b a.w a.S r x) q
                · rfl
                · rw [q', z2] at hu; exact absurd hu (by decide)
              have n0 : wdI a.b a.w a.S q y ≠ wdI a.b a.w a.S r x → EvI K mX12_areAmong 2 109 [(0, .ref 66), (1, .int (nI (x / 4))), (2, .int (nI (x % 4))), (3, .int (nI (y / 4))), (4, .int (nI (y % 4))), (5, .int 1), (6, .int (nI r)), (8, .int (nI q))] [] G Q := fun ne => kX12_areAmong_109 hL (next 0 (by rw [hf]; simp [ne]))
              refine ⟨by omega, fun z1 => n0 (fun y => z1 (wj1.mp (by rw [y]; exact wne)).2), fun z1 => s_X12_isSeenN hL (c.ms ho) (by omega) ?_⟩
              by_cases hs1 : a.S.testBit q = true
              · rw [if_pos hs1]
                refine ⟨fun z => absurd z (by decide), fun _ => ?_⟩
                obtain ⟨wq, wql⟩ := wj2 ⟨hs1, z1⟩
                try simp (disch := omega) only [nLe, nLeR, nLeL, nLt, nLtR, nLtL, nEq, nEqR, nEqL, nClamp, nClampR, nAdd, nAddR, nAddL, nSub, nSubR, nMul, nMulR, nMulL, nDivR, vIn, vInR, iteZ, iteP, lEq, lEqR, forall_eq, forall_const, true_implies, false_implies, not_true_eq_false, not_false_eq_true, true_and, and_true, implies_true, Decidable.not_not, Nat.le_refl]
                rw [cell q hqw z1, cellr, wq, wv, lEq (by omega) (by omega)]
                exact ⟨by omega, by omega, fun y => n0 y, fun y => next 1 (by rw [hf]; simp [y])⟩
              · rw [if_neg hs1]
                exact ⟨fun _ => n0 (fun y => hs1 (wj1.mp (by rw [y]; exact wne)).1), fun z => absurd rfl z⟩
        exact inner a.w.1 0 0 (by omega) rfl
      · rw [if_neg hs]
        exact ⟨fun _ => skip (by
          by_cases y : wdI a.b a.w a.S r x = 0
          · exact y
          · exact absurd (wi1.mp y).1 hs), fun z => absurd rfl z⟩
  exact key a.w.1 0 0 (by omega) rfl rfl
end MOFFERS

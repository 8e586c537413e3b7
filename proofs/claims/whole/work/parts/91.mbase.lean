/-! the model: who is seen, kinds, prices -/
def MS (G : St) (n S : Nat) : Prop := S < 1073741824 ∧ (∀ r, S.testBit r = true → r < n) ∧ sI G 66 16 = nI n ∧ n ≤ 30 ∧ ∃ p, p < 4 ∧ sI G 66 26 = nI p ∧ ∀ r, r < n → sI G 83 (30 * p + r) = if S.testBit r = true then 0 else 1
theorem MS.kq {S' : Nat → Nat → Prop} {G G1 : St} {n S : Nat} (h : MS G n S) (hk : Kq S' G G1) (hs : ∀ i k, S' i k → ¬ (i = 66 ∧ (k = 16 ∨ k = 26) ∨ i = 83)) : MS G1 n S := by
  obtain ⟨a, b, c, d, p, e1, e2, e3⟩ := h
  exact ⟨a, b, by rw [hk.I (fun z => hs _ _ z (by omega))]; exact c, d, p, e1, by rw [hk.I (fun z => hs _ _ z (by omega))]; exact e2, fun r hr => by rw [hk.I (fun z => hs _ _ z (by omega))]; exact e3 r hr⟩
section MBASE
variable {K : KT} {G : St} {b : TBt} {w : RWt} {q : TQt} {n S : Nat}
theorem s_X12_within {Q : Int32 → St → Prop} {x lo hi : Int32} (hL : Lay G.2.2) (hQ : Q (if lo.toInt ≤ x.toInt ∧ x.toInt ≤ hi.toInt then 1 else 0) G) : EvI K mX12_within 0 0 [(0, .int x), (1, .int lo), (2, .int hi)] [] G Q := by
  refine kX12_within_0 hL ?_
  rw [fa_lt, fa_lt]
  refine ⟨fun z => ?_, fun z => ⟨fun z2 => ?_, fun z2 => ?_⟩⟩
  · rw [if_neg (by omega)] at hQ; exact hQ
  · rw [if_neg (by omega)] at hQ; exact hQ
  · rw [if_pos (by omega)] at hQ; exact hQ
theorem s_X12_isRow {Q : Int32 → St → Prop} {x : Int32} (hL : Lay G.2.2) (hn : sI G 66 16 = nI n) (hn30 : n ≤ 30) (hQ : Q (if 0 ≤ x.toInt ∧ x.toInt < n then 1 else 0) G) : EvI K mX12_isRow 0 0 [(0, .ref 66), (1, .int x)] [] G Q := by
  refine kX12_isRow_0 hL ?_
  rw [hn, fa_lt, fa_le, nI_toInt (by omega), show (0 : Int32).toInt = 0 from rfl]
  refine ⟨fun z => ?_, fun z => ⟨fun z2 => ?_, fun z2 => ?_⟩⟩
  · rw [if_neg (by omega)] at hQ; exact hQ
  · rw [if_neg (by omega)] at hQ; exact hQ
  · rw [if_pos (by omega)] at hQ; exact hQ
theorem toInt_nI (x : Int32) (h : 0 ≤ x.toInt) : x = nI x.toInt.toNat := by
  have := fb_rng x
  rw [fa_eq, nI_toInt (by omega)]; omega
theorem s_X12_isSeen {Q : Int32 → St → Prop} {x : Int32} (hL : Lay G.2.2) (hS : MS G n S) (hQ : Q (if 0 ≤ x.toInt ∧ S.testBit x.toInt.toNat = true then 1 else 0) G) : EvI K mX12_isSeen 1 0 [(0, .ref 66), (1, .int x)] [] G Q := by
  obtain ⟨s1, s2, s3, s4, p, p1, p2, p3⟩ := hS
  refine kX12_isSeen_0 hL (s_X12_isRow hL s3 s4 ?_)
  refine ⟨fun z => ?_, fun z => ?_⟩
  · have z' : ¬ (0 ≤ x.toInt ∧ x.toInt < n) := fun y => by rw [if_pos y] at z; exact absurd z (by decide)
    rw [if_neg (fun y => z' ⟨y.1, by have := s2 _ y.2; omega⟩)] at hQ
    exact hQ
  · have z' : 0 ≤ x.toInt ∧ x.toInt < n := by
      rcases Classical.em (0 ≤ x.toInt ∧ x.toInt < n) with y | y
      · exact y
      · rw [if_neg y] at z; exact absurd rfl z
    have ex := toInt_nI x z'.1
    generalize hr : x.toInt.toNat = r at ex hQ
    have hrn : r < n := by omega
    subst ex
    have v := p3 r hrn
    try simp (disch := omega) only [nLe, nLeR, nLeL, nLt, nLtR, nLtL, nEq, nEqR, nEqL, nClamp, nClampR, nAdd, nAddR, nAddL, nSub, nSubR, nMul, nMulR, nMulL, nDivR, vIn, vInR, iteZ, iteP, lEq, lEqR, forall_eq, forall_const, true_implies, false_implies, not_true_eq_false, not_false_eq_true, true_and, and_true, implies_true, Decidable.not_not, Nat.le_refl, p2, v]
    refine ⟨by omega, fun z2 => ?_, fun z2 => ?_⟩
    · rw [if_neg (fun y => by rw [if_pos y.2] at z2; exact z2 rfl)] at hQ; exact hQ
    · have : S.testBit r = true := by
        cases e : S.testBit r
        · rw [e] at z2; exact absurd z2 (by decide)
        · rfl
      rw [if_pos ⟨z'.1, this⟩] at hQ; exact hQ
theorem s_X12_isSeenN {Q : Int32 → St → Prop} {r : Nat} (hL : Lay G.2.2) (hS : MS G n S) (hr : r < 2147483648) (hQ : Q (if S.testBit r = true then 1 else 0) G) : EvI K mX12_isSeen 1 0 [(0, .ref 66), (1, .int (nI r))] [] G Q := by
  refine s_X12_isSeen hL hS ?_
  rw [nI_toInt hr]
  simp only [Int.toNat_natCast]
  have : (0 : Int) ≤ (r : Int) := by omega
  simpa [this] using hQ
theorem s_X12_isSeenM {Q : Int32 → St → Prop} (hL : Lay G.2.2) (hS : MS G n S) (hQ : Q 0 G) : EvI K mX12_isSeen 1 0 [(0, .ref 66), (1, .int (-1))] [] G Q := by
  refine s_X12_isSeen hL hS ?_
  rw [if_neg (by rw [show (-1 : Int32).toInt = -1 from rfl]; omega)]
  exact hQ
theorem s_X12_kindOf {Q : Int32 → St → Prop} {r c : Nat} (hL : Lay G.2.2) (hb : MTb G 0 b) (hw : MRw G b w) (hr : r < w.1) (hc : c < b.2.2.1 (w.2.1 r)) (hQ : Q (nI (b.2.2.2.2 (w.2.1 r) c)) G) : EvI K mX12_kindOf 0 0 [(0, .ref 66), (1, .int (nI r)), (2, .int (nI c))] [] G Q := by
  have w30 := hw.2.1
  obtain ⟨r1, r2, -⟩ := hw.2.2 r hr
  have b5 := hb.2.1
  obtain ⟨-, -, t3, t4⟩ := hb.z.2 _ r1
  have v := (t4 c hc).2
  refine kX12_kindOf_0 hL ?_
  try simp (disch := omega) only [nLe, nLeR, nLeL, nLt, nLtR, nLtL, nEq, nEqR, nEqL, nClamp, nClampR, nAdd, nAddR, nAddL, nSub, nSubR, nMul, nMulR, nMulL, nDivR, vIn, vInR, iteZ, iteP, lEq, lEqR, forall_eq, forall_const, true_implies, false_implies, not_true_eq_false, not_false_eq_true, true_and, and_true, implies_true, Decidable.not_not, Nat.le_refl, r2]
  refine ⟨by omega, by omega, ?_⟩
  rw [v]; exact hQ
theorem s_X12_isText {Q : Int32 → St → Prop} {r c : Nat} (hL : Lay G.2.2) (hb : MTb G 0 b) (hob : okTb b) (hw : MRw G b w) (hr : r < w.1) (hc : c < 2147483648) (hQ : Q (if c < b.2.2.1 (w.2.1 r) ∧ b.2.2.2.2 (w.2.1 r) c = 5 then 1 else 0) G) : EvI K mX12_isText 1 0 [(0, .ref 66), (1, .int (nI r)), (2, .int (nI c))] [] G Q := by
  have w30 := hw.2.1
  obtain ⟨r1, r2, -⟩ := hw.2.2 r hr
  have b5 := hb.2.1
  obtain ⟨-, t2, t3, -⟩ := hb.z.2 _ r1
  refine kX12_isText_0 hL ?_
  try simp (disch := omega) only [nLe, nLeR, nLeL, nLt, nLtR, nLtL, nEq, nEqR, nEqL, nClamp, nClampR, nAdd, nAddR, nAddL, nSub, nSubR, nMul, nMulR, nMulL, nDivR, vIn, vInR, iteZ, iteP, lEq, lEqR, forall_eq, forall_const, true_implies, false_implies, not_true_eq_false, not_false_eq_true, true_and, and_true, implies_true, Decidable.not_not, Nat.le_refl, r2, t2]
  refine ⟨by omega, by omega, fun z => ?_, fun z => s_X12_kindOf hL hb hw hr (by omega) ?_⟩
  · rw [if_neg (by omega)] at hQ; exact hQ
  · have := hob _ c r1 (by omega)
    try simp (disch := omega) only [nLe, nLeR, nLeL, nLt, nLtR, nLtL, nEq, nEqR, nEqL, nClamp, nClampR, nAdd, nAddR, nAddL, nSub, nSubR, nMul, nMulR, nMulL, nDivR, vIn, vInR, iteZ, iteP, lEq, lEqR, forall_eq, forall_const, true_implies, false_implies, not_true_eq_false, not_false_eq_true, true_and, and_true, implies_true, Decidable.not_not, Nat.le_refl]
    refine ⟨fun z2 => ?_, fun z2 => ?_⟩
    · rw [if_neg (fun y => z2 y.2)] at hQ; exact hQ
    · rw [if_pos ⟨by omega, z2⟩] at hQ; exact hQ
theorem s_X12_least {Q : Int32 → St → Prop} {x y : Nat} (hL : Lay G.2.2) (hx9 : x ≤ 9) (hy : y < 9) (hQ : Q (hx (if y < x then y else x)) G) : EvI K mX12_least 0 0 [(0, .int (hx x)), (1, .int (nI y))] [] G Q := by
  refine kX12_least_0 hL ?_
  rw [hx_ge hx9]
  refine ⟨fun z => ?_, fun z => ?_⟩
  · rw [hx_n z]
    try simp (disch := omega) only [nLe, nLeR, nLeL, nLt, nLtR, nLtL, nEq, nEqR, nEqL, nClamp, nClampR, nAdd, nAddR, nAddL, nSub, nSubR, nMul, nMulR, nMulL, nDivR, vIn, vInR, iteZ, iteP, lEq, lEqR, forall_eq, forall_const, true_implies, false_implies, not_true_eq_false, not_false_eq_true, true_and, and_true, implies_true, Decidable.not_not, Nat.le_refl]
    refine ⟨fun y => by omega, fun _ => ⟨fun z2 => ?_, fun z2 => ?_⟩⟩
    · by_cases e : y < x
      · rw [if_pos e, hx_n (by omega)] at hQ; exact hQ
      · rw [if_neg e, hx_n (by omega)] at hQ
        have : y = x := by omega
        rw [this]; exact hQ
    · rw [if_neg (by omega), hx_n z] at hQ; exact hQ
  · have : x = 9 := by omega
    subst this
    rw [if_pos (by omega), hx_n (by omega)] at hQ; exact hQ
theorem MTq.kq' {S' : Nat → Nat → Prop} {G1 : St} (hq : MTq G q) (hk : Kq S' G G1) (hs : ∀ i k, S' i k → ¬ (i = 66 ∧ k = 20 ∨ i = 79 ∧ k < 4 ∨ i = 80 ∧ k < 4)) : MTq G1 q := by
  obtain ⟨a, b, c⟩ := hq
  refine ⟨by rw [hk.I (fun z => hs _ _ z (by omega))]; exact a, b, fun k hk' => ?_⟩
  obtain ⟨c1, c2, c3⟩ := c k hk'
  exact ⟨by rw [hk.I (fun z => hs _ _ z (by omega))]; exact c1, c2, by rw [hk.L (fun z => hs _ _ z (by omega))]; exact c3⟩
/-- the best of the cells so far -/
def prC (b : TBt) (w : RWt) (r kd v c : Nat) : Nat :=
  if kd = 0 then (if anyB (fun c => wdA b w r c == v) c = true then 0 else if anyB (fun c => wdA b w r c != 0 && ofm (wdA b w r c) v) c = true then 1 else 9)
  else if kd = 1 then (if anyB (fun c => wdA b w r c == v) c = true then 0 else if anyB (fun c => wdA b w r c != 0 && apX (wdA b w r c) v) c = true then 2 else 9)
  else if kd = 2 then (if anyB (fun c => decide (v + 1 < nuA b w r c)) c = true then 1 else 9)
  else (if anyB (fun c => decide (0 < nuA b w r c ∧ nuA b w r c < v + 1)) c = true then 1 else 9)
theorem prC_le (b : TBt) (w : RWt) (r kd v c : Nat) : prC b w r kd v c ≤ 9 := by
  unfold prC
  repeat' split
  all_goals simp
theorem wdA_out {r c : Nat} (h : ¬ c < b.2.2.1 (w.2.1 r)) : wdA b w r c = 0 := by unfold wdA; rw [if_neg (fun z => h z.1)]
theorem nuA_out {r c : Nat} (h : ¬ c < b.2.2.1 (w.2.1 r)) : nuA b w r c = 0 := by unfold nuA; rw [if_neg (fun z => h z.1)]
/-- behind the last column -/
theorem prC_4 {r kd v : Nat} (hv : kd ≤ 1 → v ≠ 0) (h4 : b.2.2.1 (w.2.1 r) ≤ 4) : prC b w r kd v (b.2.2.1 (w.2.1 r)) = prC b w r kd v 4 := by
  have e1 : kd ≤ 1 → anyB (fun c => wdA b w r c == v) 4 = anyB (fun c => wdA b w r c == v) (b.2.2.1 (w.2.1 r)) := fun hk => anyB_more h4 (fun j hj _ => by rw [wdA_out (by omega)]; have := hv hk; simp; omega)
  have e2 : anyB (fun c => wdA b w r c != 0 && ofm (wdA b w r c) v) 4 = anyB (fun c => wdA b w r c != 0 && ofm (wdA b w r c) v) (b.2.2.1 (w.2.1 r)) := anyB_more h4 (fun j hj _ => by rw [wdA_out (by omega)]; rfl)
  have e3 : anyB (fun c => wdA b w r c != 0 && apX (wdA b w r c) v) 4 = anyB (fun c => wdA b w r c != 0 && apX (wdA b w r c) v) (b.2.2.1 (w.2.1 r)) := anyB_more h4 (fun j hj _ => by rw [wdA_out (by omega)]; rfl)
  have e4 : anyB (fun c => decide (v + 1 < nuA b w r c)) 4 = anyB (fun c => decide (v + 1 < nuA b w r c)) (b.2.2.1 (w.2.1 r)) := anyB_more h4 (fun j hj _ => by rw [nuA_out (by omega)]; simp)
  have e5 : anyB (fun c => decide (0 < nuA b w r c ∧ nuA b w r c < v + 1)) 4 = anyB (fun c => decide (0 < nuA b w r c ∧ nuA b w r c < v + 1)) (b.2.2.1 (w.2.1 r)) := anyB_more h4 (fun j hj _ => by rw [nuA_out (by omega)]; simp)
  unfold prC
  by_cases k0 : kd = 0
  · rw [if_pos k0, if_pos k0, e1 (by omega), e2]
  · rw [if_neg k0, if_neg k0]
    by_cases k1 : kd = 1
    · rw [if_pos k1, if_pos k1, e1 (by omega), e3]
    · rw [if_neg k1, if_neg k1, e4, e5]
end MBASE

/-! prices of terms at rows -/
def gw (n : Nat) : Prop := n < 282429536481 ∧ n % 27 ≠ 0
def okC (b : TBt) (w : RWt) : Prop := ∀ r c, r < w.1 → c < b.2.2.1 (w.2.1 r) → (b.2.2.2.2 (w.2.1 r) c = 5 → ∃ n, w.2.2 r c = lN n ∧ gw n) ∧ (b.2.2.2.2 (w.2.1 r) c = 6 → ∃ n, w.2.2 r c = lN n ∧ n < 10000)
def okQ (q : TQt) : Prop := ∀ k, k < q.1 → (q.2.1 k ≤ 1 → ∃ n, q.2.2 k = lN n ∧ gw n) ∧ (2 ≤ q.2.1 k → ∃ n, q.2.2 k = lN n ∧ n < 10000)
def nv (x : Int64) : Nat := x.toBitVec.toNat
theorem nv_l {n : Nat} (h : n < 18446744073709551616) : nv (lN n) = n := wb_tn h
def anyB (p : Nat → Bool) : Nat → Bool
  | 0 => false
  | n + 1 => anyB p n || p n
theorem anyB_iff {p : Nat → Bool} : ∀ {n : Nat}, anyB p n = true ↔ ∃ j, j < n ∧ p j = true
  | 0 => by simp [anyB]
  | n + 1 => by
    rw [anyB, Bool.or_eq_true, anyB_iff]
    constructor
    · rintro (⟨j, a, b⟩ | h)
      · exact ⟨j, by omega, b⟩
      · exact ⟨n, by omega, h⟩
    · rintro ⟨j, a, b⟩
      rcases Nat.lt_succ_iff_lt_or_eq.mp a with q | q
      · exact Or.inl ⟨j, q, b⟩
      · subst q; exact Or.inr b
theorem anyB_more {p : Nat → Bool} {m n : Nat} (h : m ≤ n) (hp : ∀ j, m ≤ j → j < n → p j = false) : anyB p n = anyB p m := by
  rw [Bool.eq_iff_iff, anyB_iff, anyB_iff]
  constructor
  · rintro ⟨j, a, b⟩
    rcases Nat.lt_or_ge j m with q | q
    · exact ⟨j, q, b⟩
    · rw [hp j q a] at b; cases b
  · rintro ⟨j, a, b⟩; exact ⟨j, by omega, b⟩
/-- the word in a cell, 0 there is none; a number in a cell and one, 0 there is none -/
def wdA (b : TBt) (w : RWt) (r c : Nat) : Nat := if c < b.2.2.1 (w.2.1 r) ∧ b.2.2.2.2 (w.2.1 r) c = 5 then nv (w.2.2 r c) else 0
def nuA (b : TBt) (w : RWt) (r c : Nat) : Nat := if c < b.2.2.1 (w.2.1 r) ∧ b.2.2.2.2 (w.2.1 r) c = 6 then nv (w.2.2 r c) + 1 else 0
def ofm (a b : Nat) : Bool := decide (a = 27 * b + 19 ∨ b = 27 * a + 19)
/-- 9: the row does not hold the term -/
def pr (b : TBt) (w : RWt) (r kd v : Nat) : Nat :=
  if kd = 0 then (if anyB (fun c => wdA b w r c == v) 4 = true then 0 else if anyB (fun c => wdA b w r c != 0 && ofm (wdA b w r c) v) 4 = true then 1 else if b.2.1 (w.2.1 r) = lN v then 3 else if fC b (w.2.1 r) (lN v) < b.2.2.1 (w.2.1 r) then 4 else 9)
  else if kd = 1 then (if anyB (fun c => wdA b w r c == v) 4 = true then 0 else if anyB (fun c => wdA b w r c != 0 && apX (wdA b w r c) v) 4 = true then 2 else 9)
  else if kd = 2 then (if anyB (fun c => decide (v + 1 < nuA b w r c)) 4 = true then 1 else 9)
  else (if anyB (fun c => decide (0 < nuA b w r c ∧ nuA b w r c < v + 1)) 4 = true then 1 else 9)
def hx (p : Nat) : Int32 := if p = 9 then -1 else nI p
theorem hx_9 : hx 9 = -1 := rfl
theorem hx_n {p : Nat} (h : p ≠ 9) : hx p = nI p := if_neg h
theorem hx_m1 {p : Nat} (h : p ≤ 9) : hx p = -1 ↔ p = 9 := by
  by_cases e : p = 9
  · simp [e, hx]
  · rw [hx_n e]
    exact ⟨fun z => absurd z (nI_m1 (by omega)), fun z => absurd z e⟩
theorem hx_ge {p : Nat} (h : p ≤ 9) : 0 ≤ hx p ↔ p ≠ 9 := by
  by_cases e : p = 9
  · subst e; exact ⟨fun z => absurd z (by decide), fun z => absurd rfl z⟩
  · rw [hx_n e]
    exact ⟨fun _ => e, fun _ => (nLe (a := 0) (by decide) (by omega)).mpr (Nat.zero_le _)⟩
theorem pr_le (b : TBt) (w : RWt) (r kd v : Nat) : pr b w r kd v ≤ 4 ∨ pr b w r kd v = 9 := by
  unfold pr
  repeat' split
  all_goals simp
section PRICE
variable {K : KT} {G : St} {h : Nat} {b : TBt} {w : RWt} {q : TQt}
theorem wdA_lt (hc : okC b w) {r c : Nat} (hr : r < w.1) : wdA b w r c < 282429536481 := by
  unfold wdA
  split
  · rename_i z
    obtain ⟨n, e, g⟩ := (hc r c hr z.1).1 z.2
    have := g.1
    rw [e, nv_l (by omega)]; exact this
  · decide
theorem nuA_lt (hc : okC b w) {r c : Nat} (hr : r < w.1) : nuA b w r c < 10001 := by
  unfold nuA
  split
  · rename_i z
    obtain ⟨n, e, g⟩ := (hc r c hr z.1).2 z.2
    rw [e, nv_l (by omega)]; omega
  · decide
theorem kdAt_out {r c : Nat} (hr : r < w.1) (w30 : w.1 ≤ 30) (hc4 : c < 2147483648) (z : ¬ c < b.2.2.1 (w.2.1 r)) : kdAt b w (nI r) (nI c) = -3 := by
  rw [kdAt, nI_toInt (by omega), nI_toInt (by omega), if_neg]
  intro y
  have := y.2.2.2
  simp at this
  omega
theorem x_word (hw : XRw G h b w) (hb : XTb G h b) (hob : okTb b) (hc : okC b w) {r c : Nat} (hr : r < w.1) (hc4 : c < 2147483648) : (if kdAt b w (nI r) (nI c) = -1 then w.2.2 (nI r).toInt.toNat (nI c).toInt.toNat else 0) = lN (wdA b w r c) := by
  have w30 := hw.2.1
  have hrt := (hw.2.2.1 r hr).1
  rw [nI_toInt (by omega), nI_toInt (by omega)]
  unfold wdA
  by_cases z : c < b.2.2.1 (w.2.1 r)
  · rw [kdAt_in hr w30 z (hb.2.2 _ hrt).2.2.1]
    have h6 := hob _ c hrt z
    by_cases z2 : b.2.2.2.2 (w.2.1 r) c = 5
    · rw [if_pos ((kdX_m1 (by omega)).mpr z2), if_pos ⟨z, z2⟩]
      obtain ⟨n, e, g⟩ := (hc r c hr z).1 z2
      have := g.1
      simp only [Int.toNat_natCast]
      rw [e, nv_l (by omega)]
    · rw [if_neg (fun y => z2 ((kdX_m1 (by omega)).mp y)), if_neg (fun y => z2 y.2)]; rfl
  · rw [kdAt_out hr w30 hc4 z, if_neg (by decide), if_neg (fun y => z y.1)]; rfl
theorem x_num (hw : XRw G h b w) (hb : XTb G h b) (hob : okTb b) (hc : okC b w) {r c : Nat} (hr : r < w.1) (hc4 : c < 2147483648) : (if kdAt b w (nI r) (nI c) = -2 then w.2.2 (nI r).toInt.toNat (nI c).toInt.toNat else -1) = (if nuA b w r c = 0 then -1 else lN (nuA b w r c - 1)) := by
  have w30 := hw.2.1
  have hrt := (hw.2.2.1 r hr).1
  rw [nI_toInt (by omega), nI_toInt (by omega)]
  by_cases z : c < b.2.2.1 (w.2.1 r)
  · rw [kdAt_in hr w30 z (hb.2.2 _ hrt).2.2.1]
    have h6 := hob _ c hrt z
    by_cases z2 : b.2.2.2.2 (w.2.1 r) c = 6
    · obtain ⟨n, e, g⟩ := (hc r c hr z).2 z2
      have en : nuA b w r c = n + 1 := by unfold nuA; rw [if_pos ⟨z, z2⟩, e, nv_l (by omega)]
      rw [if_pos ((kdX_m2 (by omega)).mpr z2), en, if_neg (by omega)]
      simp only [Int.toNat_natCast]
      rw [e]; congr 1
    · have en : nuA b w r c = 0 := by unfold nuA; rw [if_neg (fun y => z2 y.2)]
      rw [if_neg (fun y => z2 ((kdX_m2 (by omega)).mp y)), if_pos en]
  · have en : nuA b w r c = 0 := by unfold nuA; rw [if_neg (fun y => z y.1)]
    rw [kdAt_out hr w30 hc4 z, if_neg (by decide), if_pos en]
theorem s_X1_wordN {Q : Int64 → St → Prop} {r c : Nat} (hL : Lay G.2.2) (hh : h = 39 ∨ h = 49) (hb : XTb G h b) (hw : XRw G h b w) (hob : okTb b) (hc : okC b w) (hr : r < w.1) (hc4 : c < 2147483648) (hQ : Q (lN (wdA b w r c)) G) : EvL K mX1_wordAt 1 0 [(0, .ref h), (1, .int (nI r)), (2, .int (nI c))] [] G Q :=
  s_X1_wordAt hL hh hb hw (by rw [x_word hw hb hob hc hr hc4]; exact hQ)
theorem s_X1_numN {Q : Int64 → St → Prop} {r c : Nat} (hL : Lay G.2.2) (hh : h = 39 ∨ h = 49) (hb : XTb G h b) (hw : XRw G h b w) (hob : okTb b) (hc : okC b w) (hr : r < w.1) (hc4 : c < 2147483648) (hQ : Q (if nuA b w r c = 0 then -1 else lN (nuA b w r c - 1)) G) : EvL K mX1_numberAt 1 0 [(0, .ref h), (1, .int (nI r)), (2, .int (nI c))] [] G Q :=
  s_X1_numberAt hL hh hb hw (by rw [x_num hw hb hob hc hr hc4]; exact hQ)
theorem s_X0_priceOfWord {Q : Int32 → St → Prop} {r v : Nat} (hL : Lay G.2.2) (hh : h = 39 ∨ h = 49) (hb : XTb G h b) (hw : XRw G h b w) (hob : okTb b) (hc : okC b w) (hr : r < w.1) (hv : gw v) (hQ : Q (hx (pr b w r 0 v)) G) : EvI K mX0_priceOfWord 2 0 [(0, .ref h), (1, .int (nI r)), (2, .long (lN v))] [] G Q := by
  have w30 := hw.2.1
  have b5 := hb.2.1
  have hv1 := hv.1
  have hv0 : v ≠ 0 := fun e => hv.2 (by rw [e])
  have h8 : (27 : Nat) ^ 8 = 282429536481 := by decide
  obtain ⟨a1, a2, -, -⟩ := hw.2.2.1 r hr
  have nm := (hb.2.2 _ a1).1
  have loop : ∀ (m c : Nat) (base : Nat) (x : Int32), c + m = 4 → base ≠ 0 → base ≠ 1 → pr b w r 0 v = (if anyB (fun c => wdA b w r c == v) 4 = true then 0 else if anyB (fun c => wdA b w r c != 0 && ofm (wdA b w r c) v) 4 = true then 1 else base) → anyB (fun c => wdA b w r c == v) c = false → x = (if anyB (fun c => wdA b w r c != 0 && ofm (wdA b w r c) v) c = true then 1 else hx base) → EvI K mX0_priceOfWord 2 45 [(0, .ref h), (1, .int (nI r)), (2, .long (lN v)), (4, .int x), (5, .int (nI c))] [] G Q := by
    intro m
    induction m with
    | zero =>
      intro c base x hm h0 h1 hp he hx'
      have e4 : c = 4 := by omega
      subst e4
      refine kX0_priceOfWord_45 hL hh ?_
      try simp (disch := omega) only [nLe, nLeR, nLeL, nLt, nLtR, nLtL, nEq, nEqR, nEqL, nClamp, nClampR, nAdd, nAddR, nAddL, nSub, nSubR, nMul, nMulR, nMulL, nDivR, vIn, vInR, iteZ, iteP, lEq, lEqR, forall_eq, forall_const, true_implies, false_implies, not_true_eq_false, not_false_eq_true, true_and, and_true, implies_true, Decidable.not_not, Nat.le_refl]
      rw [hp, if_neg (by simp [he])] at hQ
      rw [hx']
      by_cases z : anyB (fun c => wdA b w r c != 0 && ofm (wdA b w r c) v) 4 = true
      · rw [if_pos z] at hQ ⊢; exact hQ
      · rw [if_neg z] at hQ ⊢; exact hQ
    | succ m ih =>
      intro c base x hm h0 h1 hp he hx'
      have hwl := wdA_lt hc (c := c) hr
      have next : ∀ y, wdA b w r c ≠ v → y = (if anyB (fun c => wdA b w r c != 0 && ofm (wdA b w r c) v) (c + 1) = true then 1 else hx base) → EvI K mX0_priceOfWord 2 88 [(0, .ref h), (1, .int (nI r)), (2, .long (lN v)), (4, .int y), (5, .int (nI c))] [] G Q := by
        intro y hne hy
        refine kX0_priceOfWord_88 hL hh ?_
        try simp (disch := omega) only [nLe, nLeR, nLeL, nLt, nLtR, nLtL, nEq, nEqR, nEqL, nClamp, nClampR, nAdd, nAddR, nAddL, nSub, nSubR, nMul, nMulR, nMulL, nDivR, vIn, vInR, iteZ, iteP, lEq, lEqR, forall_eq, forall_const, true_implies, false_implies, not_true_eq_false, not_false_eq_true, true_and, and_true, implies_true, Decidable.not_not, Nat.le_refl]
        exact ih (c + 1) base y (by omega) h0 h1 hp (by rw [anyB, he]; simp [hne]) hy
      refine kX0_priceOfWord_45 hL hh ?_
      try simp (disch := omega) only [nLe, nLeR, nLeL, nLt, nLtR, nLtL, nEq, nEqR, nEqL, nClamp, nClampR, nAdd, nAddR, nAddL, nSub, nSubR, nMul, nMulR, nMulL, nDivR, vIn, vInR, iteZ, iteP, lEq, lEqR, forall_eq, forall_const, true_implies, false_implies, not_true_eq_false, not_false_eq_true, true_and, and_true, implies_true, Decidable.not_not, Nat.le_refl]
      refine ⟨fun z => by omega, fun _ => s_X1_wordN hL hh hb hw hob hc hr (by omega) ?_⟩
      try simp (disch := omega) only [nLe, nLeR, nLeL, nLt, nLtR, nLtL, nEq, nEqR, nEqL, nClamp, nClampR, nAdd, nAddR, nAddL, nSub, nSubR, nMul, nMulR, nMulL, nDivR, vIn, vInR, iteZ, iteP, lEq, lEqR, forall_eq, forall_const, true_implies, false_implies, not_true_eq_false, not_false_eq_true, true_and, and_true, implies_true, Decidable.not_not, Nat.le_refl]
      refine ⟨fun z => ⟨fun z0 => next x z ?_, fun z0 => s_X10_isOtherForm (by omega) (by omega) hL ?_⟩, fun z => ?_⟩
      · rw [hx', anyB]; simp [z0]
      · try simp (disch := omega) only [nLe, nLeR, nLeL, nLt, nLtR, nLtL, nEq, nEqR, nEqL, nClamp, nClampR, nAdd, nAddR, nAddL, nSub, nSubR, nMul, nMulR, nMulL, nDivR, vIn, vInR, iteZ, iteP, lEq, lEqR, forall_eq, forall_const, true_implies, false_implies, not_true_eq_false, not_false_eq_true, true_and, and_true, implies_true, Decidable.not_not, Nat.le_refl]
        refine ⟨fun zf => next x z ?_, fun zf => next 1 z ?_⟩
        · rw [hx', anyB]
          have : ofm (wdA b w r c) v = false := by unfold ofm; simpa using zf
          simp [this]
        · rw [anyB]
          have : ofm (wdA b w r c) v = true := by unfold ofm; simpa using zf
          rw [if_pos (by simp [this, z0])]
      · rw [hp, if_pos (anyB_iff.mpr ⟨c, by omega, by simp [z]⟩)] at hQ
        exact hQ
  refine kX0_priceOfWord_0 hL hh ?_
  try simp (disch := omega) only [nLe, nLeR, nLeL, nLt, nLtR, nLtL, nEq, nEqR, nEqL, nClamp, nClampR, nAdd, nAddR, nAddL, nSub, nSubR, nMul, nMulR, nMulL, nDivR, vIn, vInR, iteZ, iteP, lEq, lEqR, forall_eq, forall_const, true_implies, false_implies, not_true_eq_false, not_false_eq_true, true_and, and_true, implies_true, Decidable.not_not, Nat.le_refl, a2, nm]
  refine ⟨by omega, by omega, fun z => ⟨by omega, s_X1_hasColumnNamed hL hh hb a1 ?_⟩, fun z => ?_⟩
  · try simp (disch := omega) only [nLe, nLeR, nLeL, nLt, nLtR, nLtL, nEq, nEqR, nEqL, nClamp, nClampR, nAdd, nAddR, nAddL, nSub, nSubR, nMul, nMulR, nMulL, nDivR, vIn, vInR, iteZ, iteP, lEq, lEqR, forall_eq, forall_const, true_implies, false_implies, not_true_eq_false, not_false_eq_true, true_and, and_true, implies_true, Decidable.not_not, Nat.le_refl]
    refine ⟨fun zc => ?_, fun zc => ?_⟩
    · exact loop 4 0 9 (-1) rfl (by decide) (by decide) (by unfold pr fC; rw [if_pos rfl, if_neg z, if_neg zc]) rfl rfl
    · exact loop 4 0 4 4 rfl (by decide) (by decide) (by unfold pr fC; rw [if_pos rfl, if_neg z, if_pos zc]) rfl rfl
  · exact loop 4 0 3 3 rfl (by decide) (by decide) (by unfold pr; rw [if_pos rfl, if_pos z]) rfl rfl
theorem s_X0_priceOfNear {Q : Int32 → St → Prop} {r v : Nat} (hL : Lay G.2.2) (hh : h = 39 ∨ h = 49) (hb : XTb G h b) (hw : XRw G h b w) (hob : okTb b) (hc : okC b w) (hr : r < w.1) (hv : gw v) (hQ : Q (hx (pr b w r 1 v)) G) : EvI K mX0_priceOfNear 2 0 [(0, .ref h), (1, .int (nI r)), (2, .long (lN v))] [] G Q := by
  have w30 := hw.2.1
  have hv1 := hv.1
  have h8 : (27 : Nat) ^ 8 = 282429536481 := by decide
  have hp : pr b w r 1 v = (if anyB (fun c => wdA b w r c == v) 4 = true then 0 else if anyB (fun c => wdA b w r c != 0 && apX (wdA b w r c) v) 4 = true then 2 else 9) := by unfold pr; rw [if_neg (by decide), if_pos rfl]
  have loop : ∀ (m c : Nat) (x : Int32), c + m = 4 → anyB (fun c => wdA b w r c == v) c = false → x = (if anyB (fun c => wdA b w r c != 0 && apX (wdA b w r c) v) c = true then 2 else -1) → EvI K mX0_priceOfNear 2 6 [(0, .ref h), (1, .int (nI r)), (2, .long (lN v)), (4, .int x), (5, .int (nI c))] [] G Q := by
    intro m
    induction m with
    | zero =>
      intro c x hm he hx'
      have e4 : c = 4 := by omega
      subst e4
      refine kX0_priceOfNear_6 hL hh ?_
      try simp (disch := omega) only [nLe, nLeR, nLeL, nLt, nLtR, nLtL, nEq, nEqR, nEqL, nClamp, nClampR, nAdd, nAddR, nAddL, nSub, nSubR, nMul, nMulR, nMulL, nDivR, vIn, vInR, iteZ, iteP, lEq, lEqR, forall_eq, forall_const, true_implies, false_implies, not_true_eq_false, not_false_eq_true, true_and, and_true, implies_true, Decidable.not_not, Nat.le_refl]
      rw [hp, if_neg (by simp [he])] at hQ
      rw [hx']
      by_cases z : anyB (fun c => wdA b w r c != 0 && apX (wdA b w r c) v) 4 = true
      · rw [if_pos z] at hQ ⊢; exact hQ
      · rw [if_neg z] at hQ ⊢; exact hQ
    | succ m ih =>
      intro c x hm he hx'
      have hwl := wdA_lt hc (c := c) hr
      have next : ∀ y, wdA b w r c ≠ v → y = (if anyB (fun c => wdA b w r c != 0 && apX (wdA b w r c) v) (c + 1) = true then 2 else -1) → EvI K mX0_priceOfNear 2 49 [(0, .ref h), (1, .int (nI r)), (2, .long (lN v)), (4, .int y), (5, .int (nI c))] [] G Q := by
        intro y hne hy
        refine kX0_priceOfNear_49 hL hh ?_
        try simp (disch := omega) only [nLe, nLeR, nLeL, nLt, nLtR, nLtL, nEq, nEqR, nEqL, nClamp, nClampR, nAdd, nAddR, nAddL, nSub, nSubR, nMul, nMulR, nMulL, nDivR, vIn, vInR, iteZ, iteP, lEq, lEqR, forall_eq, forall_const, true_implies, false_implies, not_true_eq_false, not_false_eq_true, true_and, and_true, implies_true, Decidable.not_not, Nat.le_refl]
        exact ih (c + 1) y (by omega) (by rw [anyB, he]; simp [hne]) hy
      refine kX0_priceOfNear_6 hL hh ?_
      try simp (disch := omega) only [nLe, nLeR, nLeL, nLt, nLtR, nLtL, nEq, nEqR, nEqL, nClamp, nClampR, nAdd, nAddR, nAddL, nSub, nSubR, nMul, nMulR, nMulL, nDivR, vIn, vInR, iteZ, iteP, lEq, lEqR, forall_eq, forall_const, true_implies, false_implies, not_true_eq_false, not_false_eq_true, true_and, and_true, implies_true, Decidable.not_not, Nat.le_refl]
      refine ⟨fun z => by omega, fun _ => s_X1_wordN hL hh hb hw hob hc hr (by omega) ?_⟩
      try simp (disch := omega) only [nLe, nLeR, nLeL, nLt, nLtR, nLtL, nEq, nEqR, nEqL, nClamp, nClampR, nAdd, nAddR, nAddL, nSub, nSubR, nMul, nMulR, nMulL, nDivR, vIn, vInR, iteZ, iteP, lEq, lEqR, forall_eq, forall_const, true_implies, false_implies, not_true_eq_false, not_false_eq_true, true_and, and_true, implies_true, Decidable.not_not, Nat.le_refl]
      refine ⟨fun z => ⟨fun z0 => next x z ?_, fun z0 => s_X10_isOneLetterApart (by omega) (by omega) hL ?_⟩, fun z => ?_⟩
      · rw [hx', anyB]; simp [z0]
      · try simp (disch := omega) only [nLe, nLeR, nLeL, nLt, nLtR, nLtL, nEq, nEqR, nEqL, nClamp, nClampR, nAdd, nAddR, nAddL, nSub, nSubR, nMul, nMulR, nMulL, nDivR, vIn, vInR, iteZ, iteP, lEq, lEqR, forall_eq, forall_const, true_implies, false_implies, not_true_eq_false, not_false_eq_true, true_and, and_true, implies_true, Decidable.not_not, Nat.le_refl]
        refine ⟨fun zf => next x z ?_, fun zf => next 2 z ?_⟩
        · rw [hx', anyB]; simp [zf]
        · rw [anyB, if_pos (by simp [zf, z0])]
      · rw [hp, if_pos (anyB_iff.mpr ⟨c, by omega, by simp [z]⟩)] at hQ
        exact hQ
  exact kX0_priceOfNear_0 hL hh (loop 4 0 (-1) rfl rfl rfl)
theorem s_X0_priceOfNumber {Q : Int32 → St → Prop} {r v kd : Nat} {o : Prop} [Decidable o] (hL : Lay G.2.2) (hh : h = 39 ∨ h = 49) (hb : XTb G h b) (hw : XRw G h b w) (hob : okTb b) (hc : okC b w) (hr : r < w.1) (hv : v < 10000) (hk : kd = 2 ∨ kd = 3) (ho : o ↔ kd = 2) (hQ : Q (hx (pr b w r kd v)) G) : EvI K mX0_priceOfNumber 2 0 [(0, .ref h), (1, .int (nI r)), (2, .int (if o then 1 else 0)), (3, .long (lN v))] [] G Q := by
  have w30 := hw.2.1
  have hp : pr b w r kd v = if anyB (fun c => if kd = 2 then decide (v + 1 < nuA b w r c) else decide (0 < nuA b w r c ∧ nuA b w r c < v + 1)) 4 = true then 1 else 9 := by
    unfold pr
    rcases hk with rfl | rfl
    · simp
    · simp
  have loop : ∀ (m c : Nat), c + m = 4 → anyB (fun c => if kd = 2 then decide (v + 1 < nuA b w r c) else decide (0 < nuA b w r c ∧ nuA b w r c < v + 1)) c = false → EvI K mX0_priceOfNumber 2 3 [(0, .ref h), (1, .int (nI r)), (2, .int (if o then 1 else 0)), (3, .long (lN v)), (5, .int (nI c))] [] G Q := by
    intro m
    induction m with
    | zero =>
      intro c hm he
      have e4 : c = 4 := by omega
      subst e4
      refine kX0_priceOfNumber_3 hL hh ?_
      try simp (disch := omega) only [nLe, nLeR, nLeL, nLt, nLtR, nLtL, nEq, nEqR, nEqL, nClamp, nClampR, nAdd, nAddR, nAddL, nSub, nSubR, nMul, nMulR, nMulL, nDivR, vIn, vInR, iteZ, iteP, lEq, lEqR, forall_eq, forall_const, true_implies, false_implies, not_true_eq_false, not_false_eq_true, true_and, and_true, implies_true, Decidable.not_not, Nat.le_refl]
      rw [hp, if_neg (by rw [he]; decide)] at hQ
      exact hQ
    | succ m ih =>
      intro c hm he
      have hnl := nuA_lt hc (c := c) hr
      have next : (if kd = 2 then decide (v + 1 < nuA b w r c) else decide (0 < nuA b w r c ∧ nuA b w r c < v + 1)) = false → EvI K mX0_priceOfNumber 2 50 [(0, .ref h), (1, .int (nI r)), (2, .int (if o then 1 else 0)), (3, .long (lN v)), (5, .int (nI c))] [] G Q := by
        intro hne
        refine kX0_priceOfNumber_50 hL hh ?_
        try simp (disch := omega) only [nLe, nLeR, nLeL, nLt, nLtR, nLtL, nEq, nEqR, nEqL, nClamp, nClampR, nAdd, nAddR, nAddL, nSub, nSubR, nMul, nMulR, nMulL, nDivR, vIn, vInR, iteZ, iteP, lEq, lEqR, forall_eq, forall_const, true_implies, false_implies, not_true_eq_false, not_false_eq_true, true_and, and_true, implies_true, Decidable.not_not, Nat.le_refl]
        exact ih (c + 1) (by omega) (by rw [anyB, he, hne]; rfl)
      have hit : (if kd = 2 then decide (v + 1 < nuA b w r c) else decide (0 < nuA b w r c ∧ nuA b w r c < v + 1)) = true → Q 1 G := by
        intro hy
        rw [hp, if_pos (anyB_iff.mpr ⟨c, by omega, hy⟩)] at hQ
        exact hQ
      refine kX0_priceOfNumber_3 hL hh ?_
      try simp (disch := omega) only [nLe, nLeR, nLeL, nLt, nLtR, nLtL, nEq, nEqR, nEqL, nClamp, nClampR, nAdd, nAddR, nAddL, nSub, nSubR, nMul, nMulR, nMulL, nDivR, vIn, vInR, iteZ, iteP, lEq, lEqR, forall_eq, forall_const, true_implies, false_implies, not_true_eq_false, not_false_eq_true, true_and, and_true, implies_true, Decidable.not_not, Nat.le_refl]
      refine ⟨fun z => by omega, fun _ => s_X1_numN hL hh hb hw hob hc hr (by omega) ?_⟩
      by_cases z : nuA b w r c = 0
      · rw [if_pos z]
        refine ⟨fun _ => next (by simp [z]), fun y => absurd rfl y⟩
      · rw [if_neg z]
        rw [pk_lLT (by omega) (by omega), pk_lLT (by omega) (by omega)]
        try simp (disch := omega) only [nLe, nLeR, nLeL, nLt, nLtR, nLtL, nEq, nEqR, nEqL, nClamp, nClampR, nAdd, nAddR, nAddL, nSub, nSubR, nMul, nMulR, nMulL, nDivR, vIn, vInR, iteZ, iteP, lEq, lEqR, forall_eq, forall_const, true_implies, false_implies, not_true_eq_false, not_false_eq_true, true_and, and_true, implies_true, Decidable.not_not, Nat.le_refl]
        refine ⟨fun y => ?_, fun _ => ⟨fun zo => ⟨fun y => next ?_, fun y => hit ?_⟩, fun zo => ⟨fun y => next ?_, fun y => hit ?_⟩⟩⟩
        · have := congrArg Int64.toInt y
          rw [pk_lT (by omega), show (-1 : Int64).toInt = -1 from rfl] at this
          omega
        · rw [if_neg (fun u => zo (ho.mpr u))]; simp; omega
        · rw [if_neg (fun u => zo (ho.mpr u))]; simp; omega
        · rw [if_pos (ho.mp zo)]; simp; omega
        · rw [if_pos (ho.mp zo)]; simp; omega
  exact kX0_priceOfNumber_0 hL hh (loop 4 0 rfl rfl)
theorem s_X0_priceOf {Q : Int32 → St → Prop} {r k v : Nat} (hL : Lay G.2.2) (hh : h = 39 ∨ h = 49) (hb : XTb G h b) (hw : XRw G h b w) (hob : okTb b) (hc : okC b w) (hr : r < w.1) (hk : k < q.1) (hk3 : q.2.1 k ≤ 3) (hq : okQ q) (hv : q.2.2 k = lN v) (hv64 : v < 18446744073709551616) (hQ : Q (hx (pr b w r (q.2.1 k) v)) G) : EvI K mX0_priceOf 3 0 [(0, .ref h), (1, .int (nI r)), (2, .int (nI (q.2.1 k))), (3, .long (lN v))] [] G Q := by
  have inj : ∀ n, n < 18446744073709551616 → q.2.2 k = lN n → n = v := fun n hn e => by
    have := congrArg nv (hv.symm.trans e)
    rw [nv_l hv64, nv_l hn] at this
    exact this.symm
  refine kX0_priceOf_0 hL hh ?_
  have w30 := hw.2.1
  try simp (disch := omega) only [nLe, nLeR, nLeL, nLt, nLtR, nLtL, nEq, nEqR, nEqL, nClamp, nClampR, nAdd, nAddR, nAddL, nSub, nSubR, nMul, nMulR, nMulL, nDivR, vIn, vInR, iteZ, iteP, lEq, lEqR, forall_eq, forall_const, true_implies, false_implies, not_true_eq_false, not_false_eq_true, true_and, and_true, implies_true, Decidable.not_not, Nat.le_refl]
  refine ⟨fun z => ?_, fun z => ?_, fun z0 z1 => ⟨fun z => kX0_priceOf_54 hL hh ?_, fun z => kX0_priceOf_54 hL hh ?_⟩⟩
  · obtain ⟨n, e, g⟩ := (hq k hk).1 (by omega)
    have := inj n (by have := g.1; omega) e
    subst this
    rw [z] at hQ
    exact s_X0_priceOfWord hL hh hb hw hob hc hr g hQ
  · obtain ⟨n, e, g⟩ := (hq k hk).1 (by omega)
    have := inj n (by have := g.1; omega) e
    subst this
    rw [z] at hQ
    exact s_X0_priceOfNear hL hh hb hw hob hc hr g hQ
  · obtain ⟨n, e, g⟩ := (hq k hk).2 (by omega)
    have := inj n (by omega) e
    subst this
    have h3 : q.2.1 k = 3 := by omega
    rw [h3] at hQ
    have := s_X0_priceOfNumber (K := K) (kd := 3) (o := False) hL hh hb hw hob hc hr g (Or.inr rfl) (by simp) hQ
    simpa using this
  · obtain ⟨n, e, g⟩ := (hq k hk).2 (by omega)
    have := inj n (by omega) e
    subst this
    rw [z] at hQ
    have := s_X0_priceOfNumber (K := K) (kd := 2) (o := True) hL hh hb hw hob hc hr g (Or.inl rfl) (by simp) hQ
    simpa using this
end PRICE

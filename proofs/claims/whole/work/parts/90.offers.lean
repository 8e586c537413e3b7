/-! offers: the class' -/
def isTx (b : TBt) (c : Nat) : Bool := decide (c / 4 < b.1 ∧ c % 4 < b.2.2.1 (c / 4) ∧ b.2.2.2.2 (c / 4) (c % 4) = 5)
/-- the word is in a column of one of the first rows -/
def hsW (b : TBt) (w : RWt) (S c v n : Nat) : Bool := anyB (fun r => wdI b w S r c == v) n
/-- all words of a column differ -/
def dfA (b : TBt) (w : RWt) (S c : Nat) : Bool := !anyB (fun r => wdI b w S r c != 0 && hsW b w S c (wdI b w S r c) r) w.1
/-- there is one, and all are among the others -/
def amA (b : TBt) (w : RWt) (S c d : Nat) : Bool := !anyB (fun r => wdI b w S r c != 0 && !hsW b w S d (wdI b w S r c) w.1) w.1 && anyB (fun r => wdI b w S r c != 0) w.1
def ofA (b : TBt) (w : RWt) (S x y : Nat) : Bool := isTx b x && !(x / 4 == y / 4) && isTx b y && dfA b w S y && amA b w S x y
/-- what is offered, in order -/
def ofI (b : TBt) (w : RWt) (S x : Nat) : Nat → List Nat
  | 0 => []
  | y + 1 => if ofA b w S x y = true then ofI b w S x y ++ [20 * x + y] else ofI b w S x y
def ofL (b : TBt) (w : RWt) (S : Nat) : Nat → List Nat
  | 0 => []
  | x + 1 => ofL b w S x ++ ofI b w S x 20
theorem ofI_len (b : TBt) (w : RWt) (S x : Nat) : ∀ y, (ofI b w S x y).length ≤ y
  | 0 => Nat.le_refl _
  | y + 1 => by
    have := ofI_len b w S x y
    rw [ofI]
    split
    · rw [List.length_append]; show _ + 1 ≤ _; omega
    · omega
theorem ofL_len (b : TBt) (w : RWt) (S : Nat) : ∀ x, (ofL b w S x).length ≤ 20 * x
  | 0 => Nat.le_refl _
  | x + 1 => by
    have := ofL_len b w S x
    have := ofI_len b w S x 20
    rw [ofL, List.length_append]; omega
/-- a column has at most sixteen others -/
theorem ofI_len4 (b : TBt) (w : RWt) (S x : Nat) (hx : x < 20) : (ofI b w S x 20).length ≤ 16 := by
  have key : ∀ y, y ≤ 20 → (ofI b w S x y).length + fb_ct (fun y => decide (x / 4 = y / 4)) y ≤ y := by
    intro y
    induction y with
    | zero => intro _; exact Nat.le_refl _
    | succ y ih =>
      intro hy
      have := ih (by omega)
      rw [ofI, fb_ct_succ]
      by_cases e : x / 4 = y / 4
      · have : ofA b w S x y = false := by unfold ofA; simp [e]
        have e2 : decide (x / 4 = y / 4) = true := by simpa using e
        rw [if_neg (by rw [this]; decide), e2, if_pos rfl]; omega
      · have e2 : decide (x / 4 = y / 4) = false := by simpa using e
        rw [e2, if_neg (show ¬ (false = true) by decide)]
        split
        · rw [List.length_append, List.length_singleton]; omega
        · omega
  have h20 := key 20 (Nat.le_refl _)
  have h4 : fb_ct (fun y => decide (x / 4 = y / 4)) 20 = 4 := by
    have : ∀ x, x < 20 → fb_ct (fun y => decide (x / 4 = y / 4)) 20 = 4 := by decide +kernel
    exact this x hx
  omega
theorem ofL_len16 (b : TBt) (w : RWt) (S : Nat) : ∀ x, x ≤ 20 → (ofL b w S x).length ≤ 16 * x
  | 0, _ => Nat.le_refl _
  | x + 1, hx => by
    have := ofL_len16 b w S x (by omega)
    have := ofI_len4 b w S x (by omega)
    rw [ofL, List.length_append]; omega
theorem ofI_mem {b : TBt} {w : RWt} {S x c : Nat} : ∀ {y : Nat}, c ∈ ofI b w S x y ↔ ∃ j, j < y ∧ c = 20 * x + j ∧ ofA b w S x j = true
  | 0 => by simp [ofI]
  | y + 1 => by
    rw [ofI]
    split
    · rename_i h
      rw [List.mem_append, ofI_mem, List.mem_singleton]
      constructor
      · rintro (⟨j, a, b, c⟩ | e)
        · exact ⟨j, by omega, b, c⟩
        · exact ⟨y, by omega, e, h⟩
      · rintro ⟨j, a, b, c⟩
        by_cases e : j = y
        · subst e; exact Or.inr b
        · exact Or.inl ⟨j, by omega, b, c⟩
    · rename_i h
      rw [ofI_mem]
      constructor
      · rintro ⟨j, a, b, c⟩; exact ⟨j, by omega, b, c⟩
      · rintro ⟨j, a, b, c⟩
        refine ⟨j, ?_, b, c⟩
        by_cases e : j = y
        · subst e; exact absurd c h
        · omega
theorem ofL_mem {b : TBt} {w : RWt} {S c : Nat} : ∀ {x : Nat}, c ∈ ofL b w S x ↔ ∃ i j, i < x ∧ j < 20 ∧ c = 20 * i + j ∧ ofA b w S i j = true
  | 0 => by simp [ofL]
  | x + 1 => by
    rw [ofL, List.mem_append, ofL_mem, ofI_mem]
    constructor
    · rintro (⟨i, j, a, b, c, d⟩ | ⟨j, a, b, c⟩)
      · exact ⟨i, j, by omega, b, c, d⟩
      · exact ⟨x, j, by omega, a, b, c⟩
    · rintro ⟨i, j, a, b, c, d⟩
      by_cases e : i = x
      · subst e; exact Or.inr ⟨j, b, c, d⟩
      · exact Or.inl ⟨i, j, by omega, b, c, d⟩
/-- offers in the class -/
def XOf (G : St) (L : List Nat) : Prop := sI G 14 3 = nI L.length ∧ ∀ i c, L[i]? = some c → sI G 15 i = nI c
def sOf : Nat → Nat → Prop := fun i k => i = 14 ∧ k = 3 ∨ i = 15 ∨ i = 17
section OFFERS
variable {K : KT} {G : St} {h : Nat} {b : TBt} {w : RWt} {S : Nat}
theorem s_X2_isText {Q : Int32 → St → Prop} {c : Nat} (hL : Lay G.2.2) (hh : h = 39 ∨ h = 49) (hb : XTb G h b) (hob : okTb b) (hc : c < 20) (hQ : Q (if isTx b c = true then 1 else 0) G) : EvI K mX2_isText 0 0 [(0, .ref h), (1, .int (nI c))] [] G Q := by
  have b5 := hb.2.1
  refine kX2_isText_0 hL hh ?_
  rw [hb.1, show nI c - nI c / 4 * 4 = nI (c % 4) from fa_rem (k := 2) (by omega) (by decide)]
  have no : ¬ (c / 4 < b.1 ∧ c % 4 < b.2.2.1 (c / 4) ∧ b.2.2.2.2 (c / 4) (c % 4) = 5) → Q 0 G := fun z => by
    unfold isTx at hQ
    rw [if_neg (by simpa using z)] at hQ
    exact hQ
  try simp (disch := omega) only [nLe, nLeR, nLeL, nLt, nLtR, nLtL, nEq, nEqR, nEqL, nClamp, nClampR, nAdd, nAddR, nAddL, nSub, nSubR, nMul, nMulR, nMulL, nDivR, vIn, vInR, iteZ, iteP, lEq, lEqR, forall_eq, forall_const, true_implies, false_implies, not_true_eq_false, not_false_eq_true, true_and, and_true, implies_true, Decidable.not_not, Nat.le_refl]
  refine ⟨fun z => no (by omega), fun z => ?_⟩
  obtain ⟨a1, a2, a3, a4⟩ := hb.2.2 (c / 4) (by omega)
  try simp (disch := omega) only [nLe, nLeR, nLeL, nLt, nLtR, nLtL, nEq, nEqR, nEqL, nClamp, nClampR, nAdd, nAddR, nAddL, nSub, nSubR, nMul, nMulR, nMulL, nDivR, vIn, vInR, iteZ, iteP, lEq, lEqR, forall_eq, forall_const, true_implies, false_implies, not_true_eq_false, not_false_eq_true, true_and, and_true, implies_true, Decidable.not_not, Nat.le_refl, a2]
  refine ⟨by omega, fun z2 => no (by omega), fun z2 => ?_⟩
  obtain ⟨-, c2⟩ := a4 (c % 4) (by omega)
  rw [show 4 * (c / 4) + c % 4 = c by omega] at c2
  rw [c2, kdX_m1 (by have := hob _ _ (show c / 4 < b.1 by omega) (show c % 4 < b.2.2.1 (c / 4) by omega); omega)]
  refine ⟨by omega, fun z3 => no (fun y => z3 y.2.2), fun z3 => ?_⟩
  unfold isTx at hQ
  rw [if_pos (by simp; exact ⟨by omega, by omega, z3⟩)] at hQ
  exact hQ
theorem s_X2_hasWord {Q : Int32 → St → Prop} {c v n : Nat} (hL : Lay G.2.2) (hh : h = 39 ∨ h = 49) (hb : XTb G h b) (hw : XRw G h b w) (hob : okTb b) (hc : okC b w) (hS : S < 1073741824) (hcol : c < 20) (hv : v < 282429536481) (hn : n ≤ w.1) (hQ : Q (if hsW b w S c v n = true then 1 else 0) G) : EvI K mX2_hasWord 3 0 [(0, .ref h), (1, .int (nI S)), (2, .int (nI c)), (3, .long (lN v)), (5, .int (nI n))] [] G Q := by
  have w30 := hw.2.1
  have key : ∀ (m r : Nat), r + m = n → hsW b w S c v r = false → EvI K mX2_hasWord 3 3 [(0, .ref h), (1, .int (nI S)), (2, .int (nI c)), (3, .long (lN v)), (5, .int (nI n)), (6, .int (nI r))] [] G Q := by
    intro m
    induction m with
    | zero =>
      intro r hm hr
      have er : r = n := by omega
      subst er
      refine kX2_hasWord_3 hL hh ?_
      try simp (disch := omega) only [nLe, nLeR, nLeL, nLt, nLtR, nLtL, nEq, nEqR, nEqL, nClamp, nClampR, nAdd, nAddR, nAddL, nSub, nSubR, nMul, nMulR, nMulL, nDivR, vIn, vInR, iteZ, iteP, lEq, lEqR, forall_eq, forall_const, true_implies, false_implies, not_true_eq_false, not_false_eq_true, true_and, and_true, implies_true, Decidable.not_not, Nat.le_refl]
      rw [hr] at hQ
      exact hQ
    | succ m ih =>
      intro r hm hr
      have l1 := wdI_lt (S := S) hc (r := r) (col := c) (by omega)
      refine kX2_hasWord_3 hL hh ?_
      try simp (disch := omega) only [nLe, nLeR, nLeL, nLt, nLtR, nLtL, nEq, nEqR, nEqL, nClamp, nClampR, nAdd, nAddR, nAddL, nSub, nSubR, nMul, nMulR, nMulL, nDivR, vIn, vInR, iteZ, iteP, lEq, lEqR, forall_eq, forall_const, true_implies, false_implies, not_true_eq_false, not_false_eq_true, true_and, and_true, implies_true, Decidable.not_not, Nat.le_refl]
      refine ⟨fun z => by omega, fun _ => s_X2_wordIn hL hh hb hw hob hc hS (by omega) hcol ?_⟩
      try simp (disch := omega) only [nLe, nLeR, nLeL, nLt, nLtR, nLtL, nEq, nEqR, nEqL, nClamp, nClampR, nAdd, nAddR, nAddL, nSub, nSubR, nMul, nMulR, nMulL, nDivR, vIn, vInR, iteZ, iteP, lEq, lEqR, forall_eq, forall_const, true_implies, false_implies, not_true_eq_false, not_false_eq_true, true_and, and_true, implies_true, Decidable.not_not, Nat.le_refl]
      refine ⟨fun z => ih (r + 1) (by omega) ?_, fun z => ?_⟩
      · unfold hsW at hr ⊢
        rw [anyB, hr]; simp [z]
      · unfold hsW at hQ
        rw [if_pos (anyB_iff.mpr ⟨r, by omega, by simp [z]⟩)] at hQ
        exact hQ
  exact kX2_hasWord_0 hL hh (key n 0 (by omega) rfl)
theorem s_X2_allDiffer {Q : Int32 → St → Prop} {c : Nat} (hL : Lay G.2.2) (hh : h = 39 ∨ h = 49) (hb : XTb G h b) (hw : XRw G h b w) (hob : okTb b) (hc : okC b w) (hS : S < 1073741824) (hcol : c < 20) (hQ : Q (if dfA b w S c = true then 1 else 0) G) : EvI K mX2_allDiffer 4 0 [(0, .ref h), (1, .int (nI S)), (2, .int (nI c))] [] G Q := by
  have w30 := hw.2.1
  have key : ∀ (m r : Nat), r + m = w.1 → anyB (fun r => wdI b w S r c != 0 && hsW b w S c (wdI b w S r c) r) r = false → EvI K mX2_allDiffer 4 2 [(0, .ref h), (1, .int (nI S)), (2, .int (nI c)), (3, .int (nI r))] [] G Q := by
    intro m
    induction m with
    | zero =>
      intro r hm hr
      have er : r = w.1 := by omega
      subst er
      refine kX2_allDiffer_2 hL hh ?_
      rw [hw.1]
      try simp (disch := omega) only [nLe, nLeR, nLeL, nLt, nLtR, nLtL, nEq, nEqR, nEqL, nClamp, nClampR, nAdd, nAddR, nAddL, nSub, nSubR, nMul, nMulR, nMulL, nDivR, vIn, vInR, iteZ, iteP, lEq, lEqR, forall_eq, forall_const, true_implies, false_implies, not_true_eq_false, not_false_eq_true, true_and, and_true, implies_true, Decidable.not_not, Nat.le_refl]
      unfold dfA at hQ
      rw [hr] at hQ
      exact hQ
    | succ m ih =>
      intro r hm hr
      have hrw : r < w.1 := by omega
      have l1 := wdI_lt (S := S) hc (r := r) (col := c) hrw
      have next : (wdI b w S r c != 0 && hsW b w S c (wdI b w S r c) r) = false → EvI K mX2_allDiffer 4 40 [(0, .ref h), (1, .int (nI S)), (2, .int (nI c)), (3, .int (nI r))] [] G Q := by
        intro hn
        refine kX2_allDiffer_40 hL hh ?_
        try simp (disch := omega) only [nLe, nLeR, nLeL, nLt, nLtR, nLtL, nEq, nEqR, nEqL, nClamp, nClampR, nAdd, nAddR, nAddL, nSub, nSubR, nMul, nMulR, nMulL, nDivR, vIn, vInR, iteZ, iteP, lEq, lEqR, forall_eq, forall_const, true_implies, false_implies, not_true_eq_false, not_false_eq_true, true_and, and_true, implies_true, Decidable.not_not, Nat.le_refl]
        exact ih (r + 1) (by omega) (by rw [anyB, hr, hn]; rfl)
      refine kX2_allDiffer_2 hL hh ?_
      rw [hw.1]
      try simp (disch := omega) only [nLe, nLeR, nLeL, nLt, nLtR, nLtL, nEq, nEqR, nEqL, nClamp, nClampR, nAdd, nAddR, nAddL, nSub, nSubR, nMul, nMulR, nMulL, nDivR, vIn, vInR, iteZ, iteP, lEq, lEqR, forall_eq, forall_const, true_implies, false_implies, not_true_eq_false, not_false_eq_true, true_and, and_true, implies_true, Decidable.not_not, Nat.le_refl]
      refine ⟨fun z => by omega, fun _ => s_X2_wordIn hL hh hb hw hob hc hS hrw hcol ?_⟩
      try simp (disch := omega) only [nLe, nLeR, nLeL, nLt, nLtR, nLtL, nEq, nEqR, nEqL, nClamp, nClampR, nAdd, nAddR, nAddL, nSub, nSubR, nMul, nMulR, nMulL, nDivR, vIn, vInR, iteZ, iteP, lEq, lEqR, forall_eq, forall_const, true_implies, false_implies, not_true_eq_false, not_false_eq_true, true_and, and_true, implies_true, Decidable.not_not, Nat.le_refl]
      refine ⟨fun z => next (by rw [z]; rfl), fun z => s_X2_hasWord hL hh hb hw hob hc hS hcol l1 (by omega) ?_⟩
      try simp (disch := omega) only [nLe, nLeR, nLeL, nLt, nLtR, nLtL, nEq, nEqR, nEqL, nClamp, nClampR, nAdd, nAddR, nAddL, nSub, nSubR, nMul, nMulR, nMulL, nDivR, vIn, vInR, iteZ, iteP, lEq, lEqR, forall_eq, forall_const, true_implies, false_implies, not_true_eq_false, not_false_eq_true, true_and, and_true, implies_true, Decidable.not_not, Nat.le_refl]
      refine ⟨fun z2 => next (by simp [z2]), fun z2 => ?_⟩
      unfold dfA at hQ
      rw [anyB_iff.mpr ⟨r, hrw, by simp [z2, z]⟩] at hQ
      exact hQ
  exact kX2_allDiffer_0 hL hh (key w.1 0 (by omega) rfl)
theorem or01 {x y : Bool} : (if x = true then (1 : Int32) else 0) ||| (if y = true then 1 else 0) = if (x || y) = true then 1 else 0 := by cases x <;> cases y <;> rfl
theorem s_X2_allAmong {Q : Int32 → St → Prop} {c d : Nat} (hL : Lay G.2.2) (hh : h = 39 ∨ h = 49) (hb : XTb G h b) (hw : XRw G h b w) (hob : okTb b) (hc : okC b w) (hS : S < 1073741824) (hcol : c < 20) (hd : d < 20) (hQ : Q (if amA b w S c d = true then 1 else 0) G) : EvI K mX2_allAmong 4 0 [(0, .ref h), (1, .int (nI S)), (2, .int (nI c)), (3, .int (nI d))] [] G Q := by
  have w30 := hw.2.1
  have key : ∀ (m r : Nat), r + m = w.1 → anyB (fun r => wdI b w S r c != 0 && !hsW b w S d (wdI b w S r c) w.1) r = false → EvI K mX2_allAmong 4 6 [(0, .ref h), (1, .int (nI S)), (2, .int (nI c)), (3, .int (nI d)), (4, .int (if anyB (fun r => wdI b w S r c != 0) r = true then 1 else 0)), (5, .int (nI r))] [] G Q := by
    intro m
    induction m with
    | zero =>
      intro r hm hr
      have er : r = w.1 := by omega
      subst er
      refine kX2_allAmong_6 hL hh ?_
      rw [hw.1]
      try simp (disch := omega) only [nLe, nLeR, nLeL, nLt, nLtR, nLtL, nEq, nEqR, nEqL, nClamp, nClampR, nAdd, nAddR, nAddL, nSub, nSubR, nMul, nMulR, nMulL, nDivR, vIn, vInR, iteZ, iteP, lEq, lEqR, forall_eq, forall_const, true_implies, false_implies, not_true_eq_false, not_false_eq_true, true_and, and_true, implies_true, Decidable.not_not, Nat.le_refl]
      unfold amA at hQ
      rw [hr] at hQ
      refine ⟨?_, by simpa using hQ⟩
      cases anyB (fun r => wdI b w S r c != 0) w.1 <;> simp
    | succ m ih =>
      intro r hm hr
      have hrw : r < w.1 := by omega
      have l1 := wdI_lt (S := S) hc (r := r) (col := c) hrw
      have next : (wdI b w S r c != 0 && !hsW b w S d (wdI b w S r c) w.1) = false → EvI K mX2_allAmong 4 49 [(0, .ref h), (1, .int (nI S)), (2, .int (nI c)), (3, .int (nI d)), (4, .int (if anyB (fun r => wdI b w S r c != 0) r = true then 1 else 0)), (5, .int (nI r)), (6, .long (lN (wdI b w S r c)))] [] G Q := by
        intro hn
        have h63 : ∀ y : Bool, y = (wdI b w S r c != 0) → EvI K mX2_allAmong 4 63 [(0, .ref h), (1, .int (nI S)), (2, .int (nI c)), (3, .int (nI d)), (5, .int (nI r))] [.int (if y = true then 1 else 0), .int (if anyB (fun r => wdI b w S r c != 0) r = true then 1 else 0)] G Q := by
          intro y hy
          refine kX2_allAmong_63 hL hh ?_
          rw [or01]
          try simp (disch := omega) only [nLe, nLeR, nLeL, nLt, nLtR, nLtL, nEq, nEqR, nEqL, nClamp, nClampR, nAdd, nAddR, nAddL, nSub, nSubR, nMul, nMulR, nMulL, nDivR, vIn, vInR, iteZ, iteP, lEq, lEqR, forall_eq, forall_const, true_implies, false_implies, not_true_eq_false, not_false_eq_true, true_and, and_true, implies_true, Decidable.not_not, Nat.le_refl]
          have := ih (r + 1) (by omega) (by rw [anyB, hr, hn]; rfl)
          rw [anyB, ← hy] at this
          exact this
        refine kX2_allAmong_49 hL hh ?_
        try simp (disch := omega) only [nLe, nLeR, nLeL, nLt, nLtR, nLtL, nEq, nEqR, nEqL, nClamp, nClampR, nAdd, nAddR, nAddL, nSub, nSubR, nMul, nMulR, nMulL, nDivR, vIn, vInR, iteZ, iteP, lEq, lEqR, forall_eq, forall_const, true_implies, false_implies, not_true_eq_false, not_false_eq_true, true_and, and_true, implies_true, Decidable.not_not, Nat.le_refl]
        refine ⟨fun z => h63 false (by rw [z]; rfl), fun z => h63 true (by simp [z])⟩
      refine kX2_allAmong_6 hL hh ?_
      rw [hw.1]
      try simp (disch := omega) only [nLe, nLeR, nLeL, nLt, nLtR, nLtL, nEq, nEqR, nEqL, nClamp, nClampR, nAdd, nAddR, nAddL, nSub, nSubR, nMul, nMulR, nMulL, nDivR, vIn, vInR, iteZ, iteP, lEq, lEqR, forall_eq, forall_const, true_implies, false_implies, not_true_eq_false, not_false_eq_true, true_and, and_true, implies_true, Decidable.not_not, Nat.le_refl]
      refine ⟨fun z => by omega, fun _ => s_X2_wordIn hL hh hb hw hob hc hS hrw hcol ?_⟩
      try simp (disch := omega) only [nLe, nLeR, nLeL, nLt, nLtR, nLtL, nEq, nEqR, nEqL, nClamp, nClampR, nAdd, nAddR, nAddL, nSub, nSubR, nMul, nMulR, nMulL, nDivR, vIn, vInR, iteZ, iteP, lEq, lEqR, forall_eq, forall_const, true_implies, false_implies, not_true_eq_false, not_false_eq_true, true_and, and_true, implies_true, Decidable.not_not, Nat.le_refl]
      refine ⟨fun z => next (by rw [z]; rfl), fun z => ?_⟩
      rw [hw.1]
      refine s_X2_hasWord hL hh hb hw hob hc hS hd l1 (Nat.le_refl _) ?_
      try simp (disch := omega) only [nLe, nLeR, nLeL, nLt, nLtR, nLtL, nEq, nEqR, nEqL, nClamp, nClampR, nAdd, nAddR, nAddL, nSub, nSubR, nMul, nMulR, nMulL, nDivR, vIn, vInR, iteZ, iteP, lEq, lEqR, forall_eq, forall_const, true_implies, false_implies, not_true_eq_false, not_false_eq_true, true_and, and_true, implies_true, Decidable.not_not, Nat.le_refl]
      refine ⟨fun z2 => next (by simp [z2]), fun z2 => ?_⟩
      have z3 : hsW b w S d (wdI b w S r c) w.1 = false := by simpa using z2
      unfold amA at hQ
      rw [anyB_iff.mpr ⟨r, hrw, by simp [z3, z]⟩] at hQ
      exact hQ
  exact kX2_allAmong_0 hL hh (key w.1 0 (by omega) rfl)
theorem s_X2_fill {Q : St → Prop} (hL : Lay G.2.2) (hh : h = 39 ∨ h = 49) (hb : XTb G h b) (hw : XRw G h b w) (hob : okTb b) (hc : okC b w) (hS : S < 1073741824) (hQ : ∀ G', Kq sOf G G' → XOf G' (ofL b w S 20) → Q G') : EvV K mX2_fill 5 0 [(0, .ref 14), (1, .ref h), (2, .int (nI S))] [] G Q := by
  have w30 := hw.2.1
  have kb : ∀ {G1 : St}, Kq sOf G G1 → XTb G1 h b ∧ XRw G1 h b w := fun kq => ⟨hb.kq kq (fun i k z => by unfold sOf at z; omega), hw.kq kq (fun i k z => by unfold sOf at z; omega)⟩
  have inner : ∀ (m y x : Nat) (G1 : St) (L0 : List Nat), y + m = 20 → x < 20 → isTx b x = true → L0.length ≤ 20 * x → Kq sOf G G1 → (∀ c, c < 20 → sI G1 17 c = if (isTx b c && dfA b w S c) = true then 1 else 0) → XOf G1 (L0 ++ ofI b w S x y) → (∀ G', Kq sOf G G' → (∀ c, c < 20 → sI G' 17 c = if (isTx b c && dfA b w S c) = true then 1 else 0) → XOf G' (L0 ++ ofI b w S x 20) → EvV K mX2_fill 5 145 [(0, .ref 14), (1, .ref h), (2, .int (nI S)), (3, .int (nI x))] [] G' Q) → EvV K mX2_fill 5 58 [(0, .ref 14), (1, .ref h), (2, .int (nI S)), (3, .int (nI x)), (4, .int (nI y))] [] G1 Q := by
    intro m
    induction m with
    | zero =>
      intro y x G1 L0 hm hx ht hL0 kq h17 hO hgo
      have ey : y = 20 := by omega
      subst ey
      refine kX2_fill_58 (kq.lay hL) hh ?_
      try simp (disch := omega) only [nLe, nLeR, nLeL, nLt, nLtR, nLtL, nEq, nEqR, nEqL, nClamp, nClampR, nAdd, nAddR, nAddL, nSub, nSubR, nMul, nMulR, nMulL, nDivR, vIn, vInR, iteZ, iteP, lEq, lEqR, forall_eq, forall_const, true_implies, false_implies, not_true_eq_false, not_false_eq_true, true_and, and_true, implies_true, Decidable.not_not, Nat.le_refl]
      exact hgo G1 kq h17 hO
    | succ m ih =>
      intro y x G1 L0 hm hx ht hL0 kq h17 hO hgo
      have hL1 := kq.lay hL
      have hy : y < 20 := by omega
      have next : ∀ G2, Kq sOf G G2 → (∀ c, c < 20 → sI G2 17 c = if (isTx b c && dfA b w S c) = true then 1 else 0) → XOf G2 (L0 ++ ofI b w S x (y + 1)) → EvV K mX2_fill 5 139 [(0, .ref 14), (1, .ref h), (2, .int (nI S)), (3, .int (nI x)), (4, .int (nI y))] [] G2 Q := by
        intro G2 k2 h2 o2
        refine kX2_fill_139 (k2.lay hL) hh ?_
        try simp (disch := omega) only [nLe, nLeR, nLeL, nLt, nLtR, nLtL, nEq, nEqR, nEqL, nClamp, nClampR, nAdd, nAddR, nAddL, nSub, nSubR, nMul, nMulR, nMulL, nDivR, vIn, vInR, iteZ, iteP, lEq, lEqR, forall_eq, forall_const, true_implies, false_implies, not_true_eq_false, not_false_eq_true, true_and, and_true, implies_true, Decidable.not_not, Nat.le_refl]
        exact ih (y + 1) x G2 L0 (by omega) hx ht hL0 k2 h2 o2 hgo
      have no : ofA b w S x y = false → EvV K mX2_fill 5 139 [(0, .ref 14), (1, .ref h), (2, .int (nI S)), (3, .int (nI x)), (4, .int (nI y))] [] G1 Q := fun hn => next G1 kq h17 (by rw [ofI, if_neg (by rw [hn]; decide)]; exact hO)
      refine kX2_fill_58 hL1 hh ?_
      try simp (disch := omega) only [nLe, nLeR, nLeL, nLt, nLtR, nLtL, nEq, nEqR, nEqL, nClamp, nClampR, nAdd, nAddR, nAddL, nSub, nSubR, nMul, nMulR, nMulL, nDivR, vIn, vInR, iteZ, iteP, lEq, lEqR, forall_eq, forall_const, true_implies, false_implies, not_true_eq_false, not_false_eq_true, true_and, and_true, implies_true, Decidable.not_not, Nat.le_refl]
      refine ⟨fun z => by omega, fun _ => s_X2_isText hL1 hh (kb kq).1 hob hx ?_⟩
      rw [if_pos ht]
      refine ⟨fun z => absurd z (by decide), fun _ => ?_⟩
      try simp (disch := omega) only [nLe, nLeR, nLeL, nLt, nLtR, nLtL, nEq, nEqR, nEqL, nClamp, nClampR, nAdd, nAddR, nAddL, nSub, nSubR, nMul, nMulR, nMulL, nDivR, vIn, vInR, iteZ, iteP, lEq, lEqR, forall_eq, forall_const, true_implies, false_implies, not_true_eq_false, not_false_eq_true, true_and, and_true, implies_true, Decidable.not_not, Nat.le_refl]
      refine ⟨fun z => kX2_fill_88 hL1 hh ⟨fun _ => no (by unfold ofA; simp [z]), fun y => absurd rfl y⟩, fun z => kX2_fill_88 hL1 hh ⟨fun y => absurd y (by decide), fun _ => ?_⟩⟩
      try simp (disch := omega) only [nLe, nLeR, nLeL, nLt, nLtR, nLtL, nEq, nEqR, nEqL, nClamp, nClampR, nAdd, nAddR, nAddL, nSub, nSubR, nMul, nMulR, nMulL, nDivR, vIn, vInR, iteZ, iteP, lEq, lEqR, forall_eq, forall_const, true_implies, false_implies, not_true_eq_false, not_false_eq_true, true_and, and_true, implies_true, Decidable.not_not, Nat.le_refl, h17 y hy]
      refine ⟨hy, fun z2 => no ?_, fun z2 => s_X2_allAmong hL1 hh (kb kq).1 (kb kq).2 hob hc hS hx hy ?_⟩
      · have : (isTx b y && dfA b w S y) = false := by simpa using z2
        unfold ofA
        rw [Bool.and_assoc (isTx b x && !(x / 4 == y / 4)), this]; simp
      · try simp (disch := omega) only [nLe, nLeR, nLeL, nLt, nLtR, nLtL, nEq, nEqR, nEqL, nClamp, nClampR, nAdd, nAddR, nAddL, nSub, nSubR, nMul, nMulR, nMulL, nDivR, vIn, vInR, iteZ, iteP, lEq, lEqR, forall_eq, forall_const, true_implies, false_implies, not_true_eq_false, not_false_eq_true, true_and, and_true, implies_true, Decidable.not_not, Nat.le_refl]
        refine ⟨fun z3 => no (by unfold ofA; simp [z3]), fun z3 => ?_⟩
        have ha : ofA b w S x y = true := by
          unfold ofA
          have z4 : isTx b y = true ∧ dfA b w S y = true := by simpa using z2
          have z5 : (x / 4 == y / 4) = false := by simpa using z
          rw [ht, z5, z4.1, z4.2, z3]; rfl
        have hle := ofI_len b w S x y
        have hlen : (L0 ++ ofI b w S x y).length < 400 := by rw [List.length_append]; omega
        rw [hO.1, show x * 20 + y = 20 * x + y by omega]
        try simp (disch := omega) only [nLe, nLeR, nLeL, nLt, nLtR, nLtL, nEq, nEqR, nEqL, nClamp, nClampR, nAdd, nAddR, nAddL, nSub, nSubR, nMul, nMulR, nMulL, nDivR, vIn, vInR, iteZ, iteP, lEq, lEqR, forall_eq, forall_const, true_implies, false_implies, not_true_eq_false, not_false_eq_true, true_and, and_true, implies_true, Decidable.not_not, Nat.le_refl]
        refine ⟨hlen, next _ ((kq.sI (by unfold sOf; omega)).sI (by unfold sOf; omega)) (fun c hcc => by rw [gI, gI]; simpa using h17 c hcc) ?_⟩
        rw [ofI, if_pos ha, ← List.append_assoc]
        refine ⟨by rw [gI, gI]; simp [Nat.add_assoc], fun i c hi => ?_⟩
        rw [gI]
        by_cases ei : i = (L0 ++ ofI b w S x y).length
        · subst ei
          rw [List.getElem?_append_right (Nat.le_refl _), Nat.sub_self] at hi
          cases hi
          rw [if_pos ⟨rfl, rfl⟩]
        · have hil : i < (L0 ++ ofI b w S x y).length := by
            have := getE_lt hi
            rw [List.length_append (bs := [20 * x + y])] at this
            have : i < (L0 ++ ofI b w S x y).length + 1 := this
            omega
          rw [List.getElem?_append_left hil] at hi
          rw [if_neg (fun z => ei z.2), gI, if_neg (by omega)]
          exact hO.2 i c hi
  have outer : ∀ (m x : Nat) (G1 : St), x + m = 20 → Kq sOf G G1 → (∀ c, c < 20 → sI G1 17 c = if (isTx b c && dfA b w S c) = true then 1 else 0) → XOf G1 (ofL b w S x) → EvV K mX2_fill 5 49 [(0, .ref 14), (1, .ref h), (2, .int (nI S)), (3, .int (nI x))] [] G1 Q := by
    intro m
    induction m with
    | zero =>
      intro x G1 hm kq h17 hO
      have ex : x = 20 := by omega
      subst ex
      refine kX2_fill_49 (kq.lay hL) hh ?_
      try simp (disch := omega) only [nLe, nLeR, nLeL, nLt, nLtR, nLtL, nEq, nEqR, nEqL, nClamp, nClampR, nAdd, nAddR, nAddL, nSub, nSubR, nMul, nMulR, nMulL, nDivR, vIn, vInR, iteZ, iteP, lEq, lEqR, forall_eq, forall_const, true_implies, false_implies, not_true_eq_false, not_false_eq_true, true_and, and_true, implies_true, Decidable.not_not, Nat.le_refl]
      exact hQ G1 kq hO
    | succ m ih =>
      intro x G1 hm kq h17 hO
      have hL1 := kq.lay hL
      have next : ∀ G2, Kq sOf G G2 → (∀ c, c < 20 → sI G2 17 c = if (isTx b c && dfA b w S c) = true then 1 else 0) → XOf G2 (ofL b w S (x + 1)) → EvV K mX2_fill 5 145 [(0, .ref 14), (1, .ref h), (2, .int (nI S)), (3, .int (nI x))] [] G2 Q := by
        intro G2 k2 h2 o2
        refine kX2_fill_145 (k2.lay hL) hh ?_
        try simp (disch := omega) only [nLe, nLeR, nLeL, nLt, nLtR, nLtL, nEq, nEqR, nEqL, nClamp, nClampR, nAdd, nAddR, nAddL, nSub, nSubR, nMul, nMulR, nMulL, nDivR, vIn, vInR, iteZ, iteP, lEq, lEqR, forall_eq, forall_const, true_implies, false_implies, not_true_eq_false, not_false_eq_true, true_and, and_true, implies_true, Decidable.not_not, Nat.le_refl]
        exact ih (x + 1) G2 (by omega) k2 h2 o2
      refine kX2_fill_49 hL1 hh ?_
      try simp (disch := omega) only [nLe, nLeR, nLeL, nLt, nLtR, nLtL, nEq, nEqR, nEqL, nClamp, nClampR, nAdd, nAddR, nAddL, nSub, nSubR, nMul, nMulR, nMulL, nDivR, vIn, vInR, iteZ, iteP, lEq, lEqR, forall_eq, forall_const, true_implies, false_implies, not_true_eq_false, not_false_eq_true, true_and, and_true, implies_true, Decidable.not_not, Nat.le_refl]
      refine ⟨fun z => by omega, fun _ => ?_⟩
      by_cases ht : isTx b x = true
      · exact inner 20 0 x G1 (ofL b w S x) rfl (by omega) ht (ofL_len b w S x) kq h17 (by rw [ofI, List.append_nil]; exact hO) (fun G2 k2 h2 o2 => next G2 k2 h2 o2)
      · have e0 : ∀ y, ofI b w S x y = [] := by
          intro y
          induction y with
          | zero => rfl
          | succ y ihy =>
            have : ofA b w S x y = false := by
              have : isTx b x = false := by simpa using ht
              unfold ofA; rw [this]; rfl
            rw [ofI, if_neg (by rw [this]; decide), ihy]
        refine kX2_fill_58 hL1 hh ⟨fun z => absurd z (by decide), fun _ => s_X2_isText hL1 hh (kb kq).1 hob (by omega) ?_⟩
        rw [if_neg ht]
        refine ⟨fun _ => next G1 kq h17 ?_, fun z => absurd rfl z⟩
        rw [ofL, e0, List.append_nil]; exact hO
  have diff : ∀ (m c : Nat) (G1 : St), c + m = 20 → Kq sOf G G1 → sI G1 14 3 = nI 0 → (∀ d, d < c → sI G1 17 d = if (isTx b d && dfA b w S d) = true then 1 else 0) → EvV K mX2_fill 5 7 [(0, .ref 14), (1, .ref h), (2, .int (nI S)), (3, .int (nI c))] [] G1 Q := by
    intro m
    induction m with
    | zero =>
      intro c G1 hm kq h0 h17
      have ec : c = 20 := by omega
      subst ec
      refine kX2_fill_7 (kq.lay hL) hh ?_
      try simp (disch := omega) only [nLe, nLeR, nLeL, nLt, nLtR, nLtL, nEq, nEqR, nEqL, nClamp, nClampR, nAdd, nAddR, nAddL, nSub, nSubR, nMul, nMulR, nMulL, nDivR, vIn, vInR, iteZ, iteP, lEq, lEqR, forall_eq, forall_const, true_implies, false_implies, not_true_eq_false, not_false_eq_true, true_and, and_true, implies_true, Decidable.not_not, Nat.le_refl]
      exact outer 20 0 G1 rfl kq h17 ⟨h0, fun i c hi => by cases hi⟩
    | succ m ih =>
      intro c G1 hm kq h0 h17
      have hL1 := kq.lay hL
      have hcc : c < 20 := by omega
      have put : ∀ y : Bool, y = (isTx b c && dfA b w S c) → EvV K mX2_fill 5 40 [(0, .ref 14), (1, .ref h), (2, .int (nI S)), (3, .int (nI c))] [.int (if y = true then 1 else 0), .int (nI c), .ref 17] G1 Q := by
        intro y hy
        refine kX2_fill_40 hL1 hh ?_
        try simp (disch := omega) only [nLe, nLeR, nLeL, nLt, nLtR, nLtL, nEq, nEqR, nEqL, nClamp, nClampR, nAdd, nAddR, nAddL, nSub, nSubR, nMul, nMulR, nMulL, nDivR, vIn, vInR, iteZ, iteP, lEq, lEqR, forall_eq, forall_const, true_implies, false_implies, not_true_eq_false, not_false_eq_true, true_and, and_true, implies_true, Decidable.not_not, Nat.le_refl]
        refine ⟨hcc, by cases y <;> simp, ih (c + 1) _ (by omega) (kq.sI (by unfold sOf; omega)) (by rw [gI]; simpa using h0) (fun d hd => ?_)⟩
        rw [gI]
        by_cases e : d = c
        · subst e; rw [if_pos ⟨rfl, rfl⟩, hy]
        · rw [if_neg (fun z => e z.2)]; exact h17 d (by omega)
      refine kX2_fill_7 hL1 hh ?_
      try simp (disch := omega) only [nLe, nLeR, nLeL, nLt, nLtR, nLtL, nEq, nEqR, nEqL, nClamp, nClampR, nAdd, nAddR, nAddL, nSub, nSubR, nMul, nMulR, nMulL, nDivR, vIn, vInR, iteZ, iteP, lEq, lEqR, forall_eq, forall_const, true_implies, false_implies, not_true_eq_false, not_false_eq_true, true_and, and_true, implies_true, Decidable.not_not, Nat.le_refl]
      refine ⟨fun z => by omega, fun _ => s_X2_isText hL1 hh (kb kq).1 hob hcc ?_⟩
      try simp (disch := omega) only [nLe, nLeR, nLeL, nLt, nLtR, nLtL, nEq, nEqR, nEqL, nClamp, nClampR, nAdd, nAddR, nAddL, nSub, nSubR, nMul, nMulR, nMulL, nDivR, vIn, vInR, iteZ, iteP, lEq, lEqR, forall_eq, forall_const, true_implies, false_implies, not_true_eq_false, not_false_eq_true, true_and, and_true, implies_true, Decidable.not_not, Nat.le_refl]
      refine ⟨fun z => kX2_fill_39 hL1 hh (put false (by simp [z])), fun z => s_X2_allDiffer hL1 hh (kb kq).1 (kb kq).2 hob hc hS hcc ?_⟩
      try simp (disch := omega) only [nLe, nLeR, nLeL, nLt, nLtR, nLtL, nEq, nEqR, nEqL, nClamp, nClampR, nAdd, nAddR, nAddL, nSub, nSubR, nMul, nMulR, nMulL, nDivR, vIn, vInR, iteZ, iteP, lEq, lEqR, forall_eq, forall_const, true_implies, false_implies, not_true_eq_false, not_false_eq_true, true_and, and_true, implies_true, Decidable.not_not, Nat.le_refl]
      refine ⟨fun z2 => kX2_fill_39 hL1 hh (put false (by simp [z2])), fun z2 => put true (by simp [z, z2])⟩
  refine kX2_fill_0 hL hh (diff 20 0 _ rfl (kq_I (by unfold sOf; omega)) (by rw [gI]; simp; rfl) (fun d hd => absurd hd (Nat.not_lt_zero d)))
end OFFERS

/-! the class: sums of ties, holders -/
def LT (f : Nat → Nat → Nat) (v R m : Nat) : Prop := (m = 0 ∧ ∀ u, R.testBit u = true → f v u = 0) ∨ (m ≠ 0 ∧ (∃ u, R.testBit u = true ∧ f v u = m) ∧ ∀ u, R.testBit u = true → f v u ≠ 0 → m ≤ f v u)
/-- the first row of a set that holds a term at the least price -/
def HI (P : Nat → Nat → Nat) (s k r : Nat) : Prop := s.testBit r = true ∧ P k r ≠ 9 ∧ ∀ x, s.testBit x = true → (x < r → P k r < P k x) ∧ P k r ≤ P k x
noncomputable def hi (P : Nat → Nat → Nat) (s k : Nat) : Nat := Classical.epsilon (fun r => HI P s k r)
theorem HI_one {P : Nat → Nat → Nat} {s k r r' : Nat} (h : HI P s k r) (h' : HI P s k r') : r = r' := by
  rcases Nat.lt_trichotomy r r' with q | q | q
  · have a := (h'.2.2 r h.1).1 q
    have b := (h.2.2 r' h'.1).2
    omega
  · exact q
  · have a := (h.2.2 r' h'.1).1 q
    have b := (h'.2.2 r h.1).2
    omega
theorem hi_eq {P : Nat → Nat → Nat} {s k r : Nat} (h : HI P s k r) : hi P s k = r := HI_one (Classical.epsilon_spec (p := fun r => HI P s k r) ⟨r, h⟩) h
section PRC
variable {K : KT} {G : St} {f P : Nat → Nat → Nat} {n t : Nat}
theorem s_X9_priceOf {Q : Int32 → St → Prop} {a b : Nat} (hL : Lay G.2.2) (hX : XTi G f) (ha : a < 30) (hb : b < 30) (hQ : Q (nI (f a b)) G) : EvI K mX9_priceOf 0 0 [(0, .ref 11), (1, .int (nI a)), (2, .int (nI b))] [] G Q := by
  refine kX9_priceOf_0 hL ?_
  try simp (disch := omega) only [nLe, nLeR, nLeL, nLt, nLtR, nLtL, nEq, nEqR, nEqL, nClamp, nClampR, nAdd, nAddR, nAddL, nSub, nSubR, nMul, nMulR, nMulL, nDivR, vIn, vInR, iteZ, iteP, lEq, lEqR, forall_eq, forall_const, true_implies, false_implies, not_true_eq_false, not_false_eq_true, true_and, and_true, implies_true, Decidable.not_not, Nat.le_refl]
  refine ⟨fun z => by omega, fun _ => ⟨fun z => by omega, fun _ => ⟨fun z => by omega, fun _ => ⟨fun z => by omega, fun _ => kX9_priceOf_25 hL ?_⟩⟩⟩⟩
  try simp (disch := omega) only [nLe, nLeR, nLeL, nLt, nLtR, nLtL, nEq, nEqR, nEqL, nClamp, nClampR, nAdd, nAddR, nAddL, nSub, nSubR, nMul, nMulR, nMulL, nDivR, vIn, vInR, iteZ, iteP, lEq, lEqR, forall_eq, forall_const, true_implies, false_implies, not_true_eq_false, not_false_eq_true, true_and, and_true, implies_true, Decidable.not_not, Nat.le_refl]
  refine ⟨fun z => absurd z (by decide), fun _ => ⟨by omega, ?_⟩⟩
  rw [show a * 30 + b = 30 * a + b by omega, hX.1 a b ha hb]
  exact hQ
theorem s_leastTie {Q : Int32 → St → Prop} {v R : Nat} (hL : Lay G.2.2) (hX : XTi G f) (hf : okF f) (hv : v < 30) (hR : R < 1073741824) (hQ : ∀ m, LT f v R m → m ≤ 11 → Q (nI m) G) : EvI K mX6_leastTie 1 0 [(0, .ref 18), (1, .int (nI v)), (2, .int (nI R))] [] G Q := by
  have htd := tdF_lt f v
  have hXb : tdF f v &&& R < 1073741824 := Nat.lt_of_le_of_lt Nat.and_le_right hR
  have key : ∀ (m y b : Nat), pc y = m → sb y (tdF f v &&& R) → b ≤ 11 → (∀ u, (tdF f v &&& R).testBit u = true → y.testBit u = false → b ≠ 0 ∧ b ≤ f v u) → (b ≠ 0 → ∃ u, R.testBit u = true ∧ f v u = b) → EvI K mX6_leastTie 1 21 [(0, .ref 18), (1, .int (nI v)), (3, .int (nI y)), (4, .int (nI b)), (5, .int (nI m))] [] G Q := by
    intro m
    induction m with
    | zero =>
      intro y b hm hsb hb h1 h2
      have e0 : y = 0 := (pc_pos (by have := sb_lt (n := 30) hsb hXb; omega)).mp hm
      subst e0
      refine kX6_leastTie_21 hL ⟨fun _ => hQ b ?_ hb, fun z => absurd (by decide) z⟩
      by_cases eb : b = 0
      · refine Or.inl ⟨eb, fun u hu => ?_⟩
        rcases Classical.em (f v u = 0) with q | q
        · exact q
        · exact absurd eb (h1 u ((and_bit _ _ _).mpr ⟨(tdF_bit hf v u).mpr q, hu⟩) (Nat.zero_testBit u)).1
      · exact Or.inr ⟨eb, h2 eb, fun u hu hn => (h1 u ((and_bit _ _ _).mpr ⟨(tdF_bit hf v u).mpr hn, hu⟩) (Nat.zero_testBit u)).2⟩
    | succ m ih =>
      intro y b hm hsb hb h1 h2
      have h0 : y ≠ 0 := fun e => by rw [e, pc_0] at hm; cases hm
      have hy30 : y < 2 ^ 30 := sb_lt hsb hXb
      have hy32 : y < 2 ^ 32 := by omega
      have hl := lo_bit h0 hy32
      have hlo : lo y < 30 := bt_lt hy30 hl
      have hcp := pc_clr h0 hy32
      have hin := (and_bit _ _ _).mp (hsb _ hl)
      have hne := (tdF_bit hf v (lo y)).mp hin.1
      have h11 := hf.2.1 v (lo y)
      have next : ∀ b', b' ≤ 11 → b' ≠ 0 → b' ≤ f v (lo y) → (b ≠ 0 → b' ≤ b) → (∃ u, R.testBit u = true ∧ f v u = b') → EvI K mX6_leastTie 1 62 [(0, .ref 18), (1, .int (nI v)), (3, .int (nI (clr y))), (4, .int (nI b')), (5, .int (nI (m + 1)))] [] G Q := by
        intro b' hb' hb0 hbl hbb hex
        refine kX6_leastTie_62 hL ?_
        rw [nDec (by omega)]
        refine ih (clr y) b' (by omega) (fun i hi => hsb i (by rw [clr_bit h0 hy32] at hi; simp at hi; exact hi.1)) hb' (fun u hu hyu => ⟨hb0, ?_⟩) (fun _ => hex)
        by_cases e : u = lo y
        · subst e; exact hbl
        · rw [clr_bit h0 hy32] at hyu
          simp [e] at hyu
          have := h1 u hu hyu
          have := hbb this.1
          omega
      refine kX6_leastTie_21 hL ⟨fun z => absurd z (by rw [nLeR (by have := pc_le y; omega) (by decide)]; simp), fun _ => s_ntz h0 (by omega) hL (s_X9_priceOf hL hX hv hlo ?_)⟩
      rw [clr_and h0 hy32]
      try simp (disch := omega) only [nLe, nLeR, nLeL, nLt, nLtR, nLtL, nEq, nEqR, nEqL, nClamp, nClampR, nAdd, nAddR, nAddL, nSub, nSubR, nMul, nMulR, nMulL, nDivR, vIn, vInR, iteZ, iteP, lEq, lEqR, forall_eq, forall_const, true_implies, false_implies, not_true_eq_false, not_false_eq_true, true_and, and_true, implies_true, Decidable.not_not, Nat.le_refl]
      refine ⟨fun z => next (f v (lo y)) h11 hne (Nat.le_refl _) (fun y => absurd z y) ⟨lo y, hin.2, rfl⟩, fun z => ⟨fun z2 => next b hb z z2 (fun _ => Nat.le_refl _) (h2 z), fun z2 => next (f v (lo y)) h11 hne (Nat.le_refl _) (fun _ => by omega) ⟨lo y, hin.2, rfl⟩⟩⟩
  refine kX6_leastTie_0 hL ?_
  try simp (disch := omega) only [nLe, nLeR, nLeL, nLt, nLtR, nLtL, nEq, nEqR, nEqL, nClamp, nClampR, nAdd, nAddR, nAddL, nSub, nSubR, nMul, nMulR, nMulL, nDivR, vIn, vInR, iteZ, iteP, lEq, lEqR, forall_eq, forall_const, true_implies, false_implies, not_true_eq_false, not_false_eq_true, true_and, and_true, implies_true, Decidable.not_not, Nat.le_refl]
  rw [hX.2 v hv, fa_and]
  refine ⟨hv, s_bitCount (by omega) hL (key _ _ 0 rfl (sb_rf _) (by decide) (fun u h1 h2 => by rw [h1] at h2; cases h2) (fun z => absurd rfl z))⟩
theorem s_tieSum {Q : Int32 → St → Prop} {s : Nat} (hL : Lay G.2.2) (hX : XTi G f) (hf : okF f) (hs : s < 1073741824) (h0 : s ≠ 0) (h5 : pc s ≤ 5) (hc : Cn (tdF f) s) (hQ : Q (nI (ts f s)) G) : EvI K mX6_tieSum 2 0 [(0, .ref 18), (1, .int (nI s))] [] G Q := by
  have hs32 : s < 2 ^ 32 := by omega
  have hl := lo_bit h0 hs32
  have hlo : lo s < 30 := bt_lt (n := 30) hs hl
  -- what is not reached
  have ob : ∀ R, R < 1073741824 → ∀ j, (msk (fun j => s.testBit j && !R.testBit j) 30).testBit j = true ↔ s.testBit j = true ∧ R.testBit j = false := by
    intro R hR j
    rw [msk_bit]
    simp only [Bool.and_eq_true, decide_eq_true_eq, Bool.not_eq_true']
    exact ⟨fun h => h.2, fun h => ⟨bt_lt (n := 30) hs h.1, h⟩⟩
  have oe : ∀ R, R < 1073741824 → nI s &&& (nI R ^^^ (-1)) = nI (msk (fun j => s.testBit j && !R.testBit j) 30) := by
    intro R hR
    refine and_not (by omega) (by omega) (by have := msk_lt (fun j => s.testBit j && !R.testBit j) 30; omega) (fun j => ?_)
    rw [msk_bit]
    by_cases q : j < 30
    · simp [q]
    · have : s.testBit j = false := Nat.testBit_lt_two_pow (Nat.lt_of_lt_of_le hs (by have : (1073741824 : Nat) = 2 ^ 30 := rfl; rw [this]; exact Nat.pow_le_pow_right (by decide) (by omega)))
      simp [q, this]
  have loop : ∀ (k R sum : Nat), sb R s → R.testBit (lo s) = true → pc R + k = pc s → sum ≤ 1000 - 11 * k → k ≤ 5 → (∀ x, Pm f s k R x → Q (nI (sum + x)) G) → EvI K mX6_tieSum 2 13 [(0, .ref 18), (1, .int (nI s)), (2, .int (nI R)), (3, .int (nI sum)), (4, .int (nI (k + 1)))] [] G Q := by
    intro k
    induction k with
    | zero =>
      intro R sum hR hlR hpc hsum _ hgo
      have e : R = s := pc_eq hs32 hR (by omega)
      refine kX6_tieSum_13 hL ⟨fun _ => ?_, fun z => absurd (by decide) z⟩
      exact hgo 0 ⟨e, rfl⟩
    | succ k ih =>
      intro R sum hR hlR hpc hsum hk5 hgo
      have hR30 : R < 1073741824 := sb_lt (n := 30) hR hs
      have hne : R ≠ s := fun e => by rw [e] at hpc; omega
      obtain ⟨u0, v0, u1, v1, v2, uv⟩ := hc R hR (ne0' hlR) hne
      have huv0 : f v0 u0 ≠ 0 := by rw [hf.1]; exact (tdF_bit hf u0 v0).mp uv
      refine kX6_tieSum_13 hL ?_
      rw [oe R hR30]
      generalize hO : msk (fun j => s.testBit j && !R.testBit j) 30 = O
      have hOb := ob R hR30
      rw [hO] at hOb
      have hO30 : O < 1073741824 := by rw [← hO]; exact msk_lt _ 30
      try simp (disch := omega) only [nLe, nLeR, nLeL, nLt, nLtR, nLtL, nEq, nEqR, nEqL, nClamp, nClampR, nAdd, nAddR, nAddL, nSub, nSubR, nMul, nMulR, nMulL, nDivR, vIn, vInR, iteZ, iteP, lEq, lEqR, forall_eq, forall_const, true_implies, false_implies, not_true_eq_false, not_false_eq_true, true_and, and_true, implies_true, Decidable.not_not, Nat.le_refl]
      refine ⟨fun z => by omega, fun _ => s_bitCount (by omega) hL ?_⟩
      -- the nearest
      have inner : ∀ (m y p w : Nat), pc y = m → sb y O → p ≤ 11 → w < 30 → (∀ v u, O.testBit v = true → y.testBit v = false → R.testBit u = true → f v u ≠ 0 → p ≠ 0 ∧ p ≤ f v u) → (p ≠ 0 → O.testBit w = true ∧ ∃ u, R.testBit u = true ∧ f w u = p) → EvI K mX6_tieSum 2 39 [(0, .ref 18), (1, .int (nI s)), (2, .int (nI R)), (3, .int (nI sum)), (4, .int (nI (k + 1 + 1))), (5, .int (nI p)), (6, .int (nI w)), (7, .int (nI y)), (8, .int (nI m))] [] G Q := by
        intro m
        induction m with
        | zero =>
          intro y p w hm hsb hp hw h1 h2
          have e0 : y = 0 := (pc_pos (by have := sb_lt (n := 30) hsb hO30; omega)).mp hm
          subst e0
          have hv0 := h1 v0 u0 ((hOb v0).mpr ⟨v1, v2⟩) (Nat.zero_testBit v0) u1 huv0
          obtain ⟨hwO, u, hu, hfu⟩ := h2 hv0.1
          have hwO' := (hOb w).mp hwO
          refine kX6_tieSum_39 hL ⟨fun _ => ?_, fun z => absurd (by decide) z⟩
          rw [shl_one (by omega)]
          try simp (disch := omega) only [nLe, nLeR, nLeL, nLt, nLtR, nLtL, nEq, nEqR, nEqL, nClamp, nClampR, nAdd, nAddR, nAddL, nSub, nSubR, nMul, nMulR, nMulL, nDivR, vIn, vInR, iteZ, iteP, lEq, lEqR, forall_eq, forall_const, true_implies, false_implies, not_true_eq_false, not_false_eq_true, true_and, and_true, implies_true, Decidable.not_not, Nat.le_refl]
          refine ⟨fun _ => kX6_tieSum_119 hL ?_, fun z => absurd z hv0.1⟩
          rw [fa_or, nDec (by omega)]
          refine ih (R ||| 2 ^ w) (sum + p) (fun i z => ?_) ((or_bit _ _ _).mpr (Or.inl hlR)) (by rw [pc_add (by omega) hwO'.2]; omega) (by omega) (by omega) (fun x hx => ?_)
          · rcases (add_bit _ _ _).mp z with q | q
            · exact hR i q
            · rw [q]; exact hwO'.1
          · rw [Nat.add_assoc]
            refine hgo (p + x) ⟨u, w, x, hu, hwO'.1, hwO'.2, ?_, fun u' v' a b c d => ?_, ?_, hx⟩
            · rw [hf.1, hfu]; exact hv0.1
            · rw [hf.1 u w, hfu, hf.1 u' v']
              exact (h1 v' u' ((hOb v').mpr ⟨b, c⟩) (Nat.zero_testBit v') a (by rw [hf.1]; exact d)).2
            · rw [hf.1 u w, hfu]
        | succ m ihm =>
          intro y p w hm hsb hp hw h1 h2
          have hy0 : y ≠ 0 := fun e => by rw [e, pc_0] at hm; cases hm
          have hy30 : y < 2 ^ 30 := sb_lt hsb hO30
          have hy32 : y < 2 ^ 32 := by omega
          have hly := lo_bit hy0 hy32
          have hloy : lo y < 30 := bt_lt hy30 hly
          have hcp := pc_clr hy0 hy32
          have next : ∀ p' w', p' ≤ 11 → w' < 30 → (p ≠ 0 → p' ≠ 0 ∧ p' ≤ p) → (∀ u, R.testBit u = true → f (lo y) u ≠ 0 → p' ≠ 0 ∧ p' ≤ f (lo y) u) → (p' ≠ 0 → O.testBit w' = true ∧ ∃ u, R.testBit u = true ∧ f w' u = p') → EvI K mX6_tieSum 2 94 [(0, .ref 18), (1, .int (nI s)), (2, .int (nI R)), (3, .int (nI sum)), (4, .int (nI (k + 1 + 1))), (5, .int (nI p')), (6, .int (nI w')), (7, .int (nI (clr y))), (8, .int (nI (m + 1)))] [] G Q := by
            intro p' w' hp' hw' hpp hlow hex
            refine kX6_tieSum_94 hL ?_
            rw [nDec (by omega)]
            refine ihm (clr y) p' w' (by omega) (fun i hi => hsb i (by rw [clr_bit hy0 hy32] at hi; simp at hi; exact hi.1)) hp' hw' (fun v u hv hyv hu hn => ?_) hex
            by_cases e : v = lo y
            · subst e; exact hlow u hu hn
            · rw [clr_bit hy0 hy32] at hyv
              simp [e] at hyv
              have a := h1 v u hv hyv hu hn
              have b := hpp a.1
              exact ⟨b.1, by omega⟩
          refine kX6_tieSum_39 hL ⟨fun z => absurd z (by rw [nLeR (by have := pc_le y; omega) (by decide)]; simp), fun _ => s_ntz hy0 (by omega) hL (s_leastTie hL hX hf hloy hR30 (fun q hq hq11 => ?_))⟩
          rw [clr_and hy0 hy32]
          try simp (disch := omega) only [nLe, nLeR, nLeL, nLt, nLtR, nLtL, nEq, nEqR, nEqL, nClamp, nClampR, nAdd, nAddR, nAddL, nSub, nSubR, nMul, nMulR, nMulL, nDivR, vIn, vInR, iteZ, iteP, lEq, lEqR, forall_eq, forall_const, true_implies, false_implies, not_true_eq_false, not_false_eq_true, true_and, and_true, implies_true, Decidable.not_not, Nat.le_refl]
          rcases hq with ⟨q0, qa⟩ | ⟨q0, qe, qa⟩
          · refine ⟨fun _ => next p w hp hw (fun z => ⟨z, Nat.le_refl _⟩) (fun u hu hn => absurd (qa u hu) hn) h2, fun z => absurd q0 z⟩
          · refine ⟨fun z => absurd z q0, fun _ => ⟨fun z => next q (lo y) hq11 hloy (fun a => absurd z a) (fun u hu hn => ⟨q0, qa u hu hn⟩) (fun _ => ⟨hsb _ hly, qe⟩), fun z => ⟨fun z2 => next p w hp hw (fun a => ⟨a, Nat.le_refl _⟩) (fun u hu hn => ⟨z, Nat.le_trans z2 (qa u hu hn)⟩) h2, fun z2 => next q (lo y) hq11 hloy (fun _ => ⟨q0, by omega⟩) (fun u hu hn => ⟨q0, qa u hu hn⟩) (fun _ => ⟨hsb _ hly, qe⟩)⟩⟩⟩
      exact inner (pc O) O 0 0 rfl (sb_rf O) (by decide) (by decide) (fun v u a b => by rw [a] at b; cases b) (fun z => absurd rfl z)
  refine kX6_tieSum_0 hL (s_bitCount (by omega) hL ?_)
  rw [low_and h0 (by omega)]
  have p1 := pc_one (lo s) (by omega)
  have hps : 1 ≤ pc s := by
    rcases Nat.eq_zero_or_pos (pc s) with q | q
    · exact absurd ((pc_pos hs32).mp q) h0
    · exact q
  have := loop (pc s - 1) (2 ^ lo s) 0 (fun i z => by rw [p2_bit, decide_eq_true_iff] at z; subst z; exact hl) (by rw [p2_bit]; simp) (by omega) (by omega) (by omega) (fun x hx => by
    rw [Nat.zero_add, ← ts_eq hf.1 hs32 h0 hf.2.1 hx]; exact hQ)
  rw [show pc s - 1 + 1 = pc s by omega] at this
  exact this
theorem s_holderIn {Q : Int32 → St → Prop} {m s k : Nat} (hL : Lay G.2.2) (hH : XHt G P n m) (hn : n ≤ 30) (hm : m ≤ 4) (hk : k < m) (hP : ∀ k r, P k r ≤ 4 ∨ P k r = 9) (hPn : ∀ k r, n ≤ r → P k r = 9) (hs : s < 1073741824) (hex : ∃ r, s.testBit r = true ∧ P k r ≠ 9) (hQ : HI P s k (hi P s k) → Q (nI (hi P s k)) G) : EvI K mX0_holderIn 1 0 [(0, .ref 5), (1, .int (nI s)), (2, .int (nI k))] [] G Q := by
  have h8 := (hH.1 k hk).2.1
  have ml : msk (fun x => P k x != 9) n < 2 ^ 30 := msk30_lt hn
  have hA30 : s &&& msk (fun x => P k x != 9) n < 1073741824 := Nat.lt_of_le_of_lt Nat.and_le_left hs
  have hA : ∀ r, (s &&& msk (fun x => P k x != 9) n).testBit r = true ↔ s.testBit r = true ∧ P k r ≠ 9 := by
    intro r
    rw [and_bit, msk_bit]
    simp only [Bool.and_eq_true, decide_eq_true_eq, bne_iff_ne]
    refine ⟨fun h => ⟨h.1, h.2.2⟩, fun h => ⟨h.1, ?_, h.2⟩⟩
    rcases Nat.lt_or_ge r n with q | q
    · exact q
    · exact absurd (hPn k r q) h.2
  generalize hAA : s &&& msk (fun x => P k x != 9) n = A at hA hA30
  -- best among those looked at
  have key : ∀ (c y : Nat) (b bp : Int32), pc y = c → sb y A → ((b = -1 ∧ y = A) ∨ ∃ r, b = nI r ∧ bp = nI (P k r) ∧ A.testBit r = true ∧ y.testBit r = false ∧ (∀ x, A.testBit x = true → y.testBit x = false → (x < r → P k r < P k x) ∧ P k r ≤ P k x) ∧ ∀ x, y.testBit x = true → r < x) → EvI K mX0_holderIn 1 22 [(0, .ref 5), (2, .int (nI k)), (3, .int b), (4, .int bp), (5, .int (nI y)), (6, .int (nI c))] [] G Q := by
    intro c
    induction c with
    | zero =>
      intro y b bp hc hsb hb
      have e0 : y = 0 := (pc_pos (by have := sb_lt (n := 30) hsb hA30; omega)).mp hc
      subst e0
      refine kX0_holderIn_22 hL ⟨fun _ => ?_, fun z => absurd (by decide) z⟩
      rcases hb with ⟨-, e⟩ | ⟨r, rfl, -, h1, -, h2, -⟩
      · obtain ⟨r, a, b⟩ := hex
        have := (hA r).mpr ⟨a, b⟩
        rw [← e, Nat.zero_testBit] at this; cases this
      · have hHI : HI P s k r := by
          refine ⟨((hA r).mp h1).1, ((hA r).mp h1).2, fun x hx => ?_⟩
          rcases Classical.em (P k x = 9) with q | q
          · have := ((hA r).mp h1).2
            have := hP k r
            rw [q]
            exact ⟨fun _ => by omega, by omega⟩
          · exact h2 x ((hA x).mpr ⟨hx, q⟩) (Nat.zero_testBit x)
        have e := hi_eq hHI
        rw [← e] at hHI ⊢
        rw [e] at hHI
        rw [← e] at hHI
        exact hQ hHI
    | succ c ih =>
      intro y b bp hc hsb hb
      have h0 : y ≠ 0 := fun e => by rw [e, pc_0] at hc; cases hc
      have hy30 : y < 2 ^ 30 := sb_lt hsb hA30
      have hy32 : y < 2 ^ 32 := by omega
      have hl := lo_bit h0 hy32
      obtain ⟨-, -, hlow⟩ := lo_yes h0 hy32
      have hlo : lo y < 30 := bt_lt hy30 hl
      have hcp := pc_clr h0 hy32
      have hlA := hsb _ hl
      have hp9 := ((hA _).mp hlA).2
      have hln : lo y < n := by
        rcases Nat.lt_or_ge (lo y) n with q | q
        · exact q
        · exact absurd (hPn k _ q) hp9
      have h4 : P k (lo y) ≤ 4 := by have := hP k (lo y); omega
      have cb : ∀ x, (clr y).testBit x = true ↔ y.testBit x = true ∧ x ≠ lo y := fun x => by rw [clr_bit h0 hy32]; simp
      have ylt : ∀ x, y.testBit x = true → lo y ≤ x := fun x hx => by
        rcases Nat.lt_or_ge x (lo y) with q | q
        · rw [hlow x q] at hx; cases hx
        · exact q
      have next : ∀ r, A.testBit r = true → (clr y).testBit r = false → (∀ x, A.testBit x = true → (clr y).testBit x = false → (x < r → P k r < P k x) ∧ P k r ≤ P k x) → (∀ x, (clr y).testBit x = true → r < x) → EvI K mX0_holderIn 1 71 [(0, .ref 5), (2, .int (nI k)), (3, .int (nI r)), (4, .int (nI (P k r))), (5, .int (nI (clr y))), (6, .int (nI (c + 1)))] [] G Q := by
        intro r h1 h2 h3 h4
        refine kX0_holderIn_71 hL ?_
        rw [nDec (by omega)]
        exact ih (clr y) _ _ (by omega) (fun i hi => hsb i ((cb i).mp hi).1) (Or.inr ⟨r, rfl, rfl, h1, h2, h3, h4⟩)
      have here : (∀ x, A.testBit x = true → y.testBit x = false → P k (lo y) < P k x) → EvI K mX0_holderIn 1 71 [(0, .ref 5), (2, .int (nI k)), (3, .int (nI (lo y))), (4, .int (nI (P k (lo y)))), (5, .int (nI (clr y))), (6, .int (nI (c + 1)))] [] G Q := by
        intro hall
        refine next (lo y) hlA ?_ (fun x hx hcx => ?_) (fun x hx => ?_)
        · cases z : (clr y).testBit (lo y)
          · rfl
          · exact absurd rfl ((cb _).mp z).2
        · by_cases e : x = lo y
          · subst e; exact ⟨fun z => absurd z (Nat.lt_irrefl _), Nat.le_refl _⟩
          · have : y.testBit x = false := by
              cases z : y.testBit x
              · rfl
              · rw [(cb x).mpr ⟨z, e⟩] at hcx; cases hcx
            have := hall x hx this
            exact ⟨fun _ => this, by omega⟩
        · have := (cb x).mp hx
          have := ylt x this.1
          omega
      refine kX0_holderIn_22 hL ⟨fun z => absurd z (by rw [nLeR (by have := pc_le y; omega) (by decide)]; simp), fun _ => s_ntz h0 (by omega) hL (s_X0_priceAt hL hH hn hm hln hk ?_)⟩
      rw [clr_and h0 hy32, hx_n hp9]
      rcases hb with ⟨rfl, eA⟩ | ⟨r, rfl, rfl, h1, h2, h3, h4'⟩
      · refine ⟨fun _ => here (fun x hx hyx => ?_), fun z => absurd rfl z⟩
        rw [eA, hx] at hyx; cases hyx
      · have hr30 : r < 30 := bt_lt (n := 30) hA30 h1
        have hpr := ((hA r).mp h1).2
        have hpr4 : P k r ≤ 4 := by have := hP k r; omega
        refine ⟨fun z => absurd z (nI_m1 (by omega)), fun _ => ?_⟩
        try simp (disch := omega) only [nLe, nLeR, nLeL, nLt, nLtR, nLtL, nEq, nEqR, nEqL, nClamp, nClampR, nAdd, nAddR, nAddL, nSub, nSubR, nMul, nMulR, nMulL, nDivR, vIn, vInR, iteZ, iteP, lEq, lEqR, forall_eq, forall_const, true_implies, false_implies, not_true_eq_false, not_false_eq_true, true_and, and_true, implies_true, Decidable.not_not, Nat.le_refl]
        refine ⟨fun z => next r h1 ?_ (fun x hx hcx => ?_) (fun x hx => h4' x ((cb x).mp hx).1), fun z => here (fun x hx hyx => ?_)⟩
        · cases z : (clr y).testBit r
          · rfl
          · rw [((cb r).mp z).1] at h2; cases h2
        · by_cases e : x = lo y
          · subst e
            have := h4' _ hl
            exact ⟨fun y => by omega, z⟩
          · refine h3 x hx ?_
            cases z : y.testBit x
            · rfl
            · rw [(cb x).mpr ⟨z, e⟩] at hcx; cases hcx
        · have := (h3 x hx hyx).2
          omega
  refine kX0_holderIn_0 hL ?_
  try simp (disch := omega) only [nLe, nLeR, nLeL, nLt, nLtR, nLtL, nEq, nEqR, nEqL, nClamp, nClampR, nAdd, nAddR, nAddL, nSub, nSubR, nMul, nMulR, nMulL, nDivR, vIn, vInR, iteZ, iteP, lEq, lEqR, forall_eq, forall_const, true_implies, false_implies, not_true_eq_false, not_false_eq_true, true_and, and_true, implies_true, Decidable.not_not, Nat.le_refl]
  rw [h8, fa_and, hAA]
  exact ⟨by omega, s_bitCount (by omega) hL (key _ _ _ _ rfl (sb_rf A) (Or.inl ⟨rfl, rfl⟩))⟩
end PRC

/-! the class: keys and lets tie -/
def kyI (o : Option Nat) : Int32 := match o with
  | none => -1
  | some q => nI q
theorem kyI_m1 {o : Option Nat} (h : ∀ q, o = some q → q < 30) : kyI o = -1 ↔ o = none := by
  cases o with
  | none => simp [kyI]
  | some q =>
    have := h q rfl
    exact ⟨fun z => absurd z (nI_m1 (by omega)), fun z => by cases z⟩
theorem kyI_eq {o : Option Nat} {q : Nat} (h : ∀ q, o = some q → q < 30) (hq : q < 30) : kyI o = nI q ↔ o = some q := by
  cases o with
  | none => exact ⟨fun z => absurd z.symm (nI_m1 (by omega)), fun z => by cases z⟩
  | some x =>
    have := h x rfl
    show nI x = nI q ↔ _
    rw [nEq (by omega) (by omega)]
    exact ⟨fun z => by rw [z], fun z => Option.some.inj z⟩
section TIES2
variable {K : KT} {G : St} {h : Nat} {b : TBt} {w : RWt} {f : Nat → Nat → Nat} {S : Nat} {l : LTt}
theorem s_X1_keyN {Q : Int32 → St → Prop} {r c : Nat} (hL : Lay G.2.2) (hh : h = 39 ∨ h = 49) (hb : XTb G h b) (hw : XRw G h b w) (hob : okTb b) (hor : okRw b w) (hS : S < 1073741824) (hr : r < w.1) (hc : c < 4) (hQ : Q (kyI (kyA b w S r c)) G) : EvI K mX1_keyAt 1 0 [(0, .ref h), (1, .int (nI r)), (2, .int (nI c)), (3, .int (nI S))] [] G Q := by
  have w30 := hw.2.1
  have hrt := (hw.2.2.1 r hr).1
  have h4 := (hb.2.2 _ hrt).2.2.1
  have inj : ∀ a c : Nat, a < 30 → c < 30 → nI a = nI c → a = c := fun a c h1 h2 e => (nEq (by omega) (by omega)).mp e
  refine s_X1_keyAt hL hh hb hw hob hor (by omega) (fun z => ?_) (fun r' d e1 e2 hr' hd hk he => ?_) (fun r' d q e1 e2 hr' hd hk hq he => ?_)
  · have : kyA b w S r c = none := by
      unfold kyA
      rw [if_neg]
      rintro ⟨a1, a2, -, -⟩
      rw [kdAt_in hr w30 a1 h4] at z
      exact z ((kdX_ge (by omega)).mpr a2)
    rw [this] at hQ; exact hQ
  · have er := inj r r' (by omega) (by omega) e1
    subst er
    have ed : c = d := inj c d (by omega) (by omega) e2
    subst ed
    have : kyA b w S r c = none := by
      unfold kyA
      rw [if_neg]
      rintro ⟨a1, a2, a3, -⟩
      exact a3 he
    rw [this] at hQ; exact hQ
  · have er := inj r r' (by omega) (by omega) e1
    subst er
    have ed : c = d := inj c d (by omega) (by omega) e2
    subst ed
    have en : nv (w.2.2 r c) = q := by rw [he, nv_l (by omega)]
    have hne : w.2.2 r c ≠ -1 := by
      rw [he]
      intro y
      have := congrArg Int64.toInt y
      rw [pk_lT (by omega), show (-1 : Int64).toInt = -1 from rfl] at this
      omega
    by_cases hb2 : S.testBit q = true
    · have : kyA b w S r c = some q := by
        unfold kyA
        rw [en, if_pos ⟨hd, hk, hne, hb2⟩]
      rw [this] at hQ
      rw [if_pos hb2]; exact hQ
    · have : kyA b w S r c = none := by
        unfold kyA
        rw [en, if_neg (fun z => hb2 z.2.2.2)]
      rw [this] at hQ
      rw [if_neg hb2]; exact hQ
theorem XTl.kq {S : Nat → Nat → Prop} {G1 : St} (h : XTl G f) (hk : Kq S G G1) (hs : ∀ i k, S i k → ¬ sTi i k) : XTl G1 f := by
  obtain ⟨a, p, l, b1, b2, b3, b4, b5⟩ := h
  exact ⟨a.kq hk (fun i k z => by have := hs i k z; unfold sTi at this; omega), p, l, by rw [hk.I (fun z => hs _ _ z (Or.inl rfl))]; exact b1, by rw [hk.I (fun z => hs _ _ z (Or.inl rfl))]; exact b2, b3, b4, b5⟩
theorem s_addKey {Q : St → Prop} {r c : Nat} (hL : Lay G.2.2) (hh : h = 39 ∨ h = 49) (hb : XTb G h b) (hw : XRw G h b w) (hob : okTb b) (hor : okRw b w) (hS : S < 1073741824) (hr : r < w.1) (hc : c < 4) (hX : XTl G f) (hf : okF f) (hQ : ∀ G', Kq sTi G G' → XTl G' (kSt b w S r c f) → Q G') : EvV K mX9_addKey 2 0 [(0, .ref 11), (1, .ref h), (2, .int (nI S)), (3, .int (nI r)), (4, .int (nI c))] [] G Q := by
  have w30 := hw.2.1
  have b5 := hb.2.1
  refine kX9_addKey_0 hL hh (s_X1_keyN hL hh hb hw hob hor hS hr hc ?_)
  have ky30 : ∀ i q, i < w.1 → kyA b w S i c = some q → q < 30 := fun i q hi hq => by have := (kyA_lt hor hi w30 hq).1; omega
  refine ⟨fun z => ?_, fun z => hQ G Kq.rf ?_⟩
  · cases ek : kyA b w S r c with
    | none => rw [ek] at z; exact absurd rfl z
    | some q =>
      have hq := kyA_lt hor hr w30 ek
      have key : ∀ (m i : Nat), i + m = w.1 → EvV K mX9_addKey 2 23 [(0, .ref 11), (1, .ref h), (2, .int (nI S)), (3, .int (nI r)), (4, .int (nI c)), (5, .int (nI q)), (6, .int (nI (fb_ct (fun i => S.testBit i && (w.2.1 i == w.2.1 r) && (kyA b w S i c == some q)) i))), (7, .int (nI i))] [] G Q := by
        intro m
        induction m with
        | zero =>
          intro i hm
          have ei : i = w.1 := by omega
          subst ei
          refine kX9_addKey_23 hL hh ?_
          rw [hw.1]
          have hcl : fb_ct (fun i => S.testBit i && (w.2.1 i == w.2.1 r) && (kyA b w S i c == some q)) w.1 ≤ w.1 := fb_ct_le _ _
          try simp (disch := omega) only [nLe, nLeR, nLeL, nLt, nLtR, nLtL, nEq, nEqR, nEqL, nClamp, nClampR, nAdd, nAddR, nAddL, nSub, nSubR, nMul, nMulR, nMulL, nDivR, vIn, vInR, iteZ, iteP, lEq, lEqR, forall_eq, forall_const, true_implies, false_implies, not_true_eq_false, not_false_eq_true, true_and, and_true, implies_true, Decidable.not_not, Nat.le_refl]
          refine s_X9_add hL hX hf (by omega) (by omega) (by omega) (by omega) (by omega) (fun G1 k1 x1 => hQ G1 k1 ?_)
          unfold kSt
          rw [ek]
          exact x1
        | succ m ih =>
          intro i hm
          have hi : i < w.1 := by omega
          obtain ⟨i1, i2, -, -⟩ := hw.2.2.1 i hi
          obtain ⟨r1, r2, -, -⟩ := hw.2.2.1 r hr
          have hcl : fb_ct (fun i => S.testBit i && (w.2.1 i == w.2.1 r) && (kyA b w S i c == some q)) i ≤ i := fb_ct_le _ _
          have next : ∀ x : Int32, x = nI (fb_ct (fun i => S.testBit i && (w.2.1 i == w.2.1 r) && (kyA b w S i c == some q)) (i + 1)) → EvV K mX9_addKey 2 86 [(0, .ref 11), (1, .ref h), (2, .int (nI S)), (3, .int (nI r)), (4, .int (nI c)), (5, .int (nI q)), (6, .int x), (7, .int (nI i))] [] G Q := by
            intro x hx
            subst hx
            refine kX9_addKey_86 hL hh ?_
            try simp (disch := omega) only [nLe, nLeR, nLeL, nLt, nLtR, nLtL, nEq, nEqR, nEqL, nClamp, nClampR, nAdd, nAddR, nAddL, nSub, nSubR, nMul, nMulR, nMulL, nDivR, vIn, vInR, iteZ, iteP, lEq, lEqR, forall_eq, forall_const, true_implies, false_implies, not_true_eq_false, not_false_eq_true, true_and, and_true, implies_true, Decidable.not_not, Nat.le_refl]
            exact ih (i + 1) (by omega)
          have same : (S.testBit i && (w.2.1 i == w.2.1 r) && (kyA b w S i c == some q)) = false → EvV K mX9_addKey 2 86 [(0, .ref 11), (1, .ref h), (2, .int (nI S)), (3, .int (nI r)), (4, .int (nI c)), (5, .int (nI q)), (6, .int (nI (fb_ct (fun i => S.testBit i && (w.2.1 i == w.2.1 r) && (kyA b w S i c == some q)) i))), (7, .int (nI i))] [] G Q := fun hn => next _ (by rw [fb_ct_succ, hn]; rfl)
          have no : (S.testBit i && (w.2.1 i == w.2.1 r)) = false → EvV K mX9_addKey 2 61 [(0, .ref 11), (1, .ref h), (2, .int (nI S)), (3, .int (nI r)), (4, .int (nI c)), (5, .int (nI q)), (6, .int (nI (fb_ct (fun i => S.testBit i && (w.2.1 i == w.2.1 r) && (kyA b w S i c == some q)) i))), (7, .int (nI i))] [] G Q := by
            intro hn
            refine kX9_addKey_61 hL hh (kX9_addKey_62 hL hh ⟨fun _ => same (by rw [hn]; rfl), fun z => absurd rfl z⟩)
          refine kX9_addKey_23 hL hh ?_
          rw [hw.1, bit_at (by omega) (by omega)]
          try simp (disch := omega) only [nLe, nLeR, nLeL, nLt, nLtR, nLtL, nEq, nEqR, nEqL, nClamp, nClampR, nAdd, nAddR, nAddL, nSub, nSubR, nMul, nMulR, nMulL, nDivR, vIn, vInR, iteZ, iteP, lEq, lEqR, forall_eq, forall_const, true_implies, false_implies, not_true_eq_false, not_false_eq_true, true_and, and_true, implies_true, Decidable.not_not, Nat.le_refl, i2, r2]
          refine ⟨fun z => by omega, fun _ => ⟨fun z => no ?_, fun z => ⟨by omega, by omega, fun z2 => no ?_, fun z2 => kX9_addKey_62 hL hh ⟨fun y => absurd y (by decide), fun _ => s_X1_keyN hL hh hb hw hob hor hS hi hc ?_⟩⟩⟩⟩
          · cases e : S.testBit i
            · rfl
            · rw [e] at z; exact absurd z (by decide)
          · have : (w.2.1 i == w.2.1 r) = false := by simpa using z2
            rw [this]; simp
          · have eS : S.testBit i = true := by
              cases e : S.testBit i
              · rw [e] at z; exact absurd rfl z
              · rfl
            rw [kyI_eq (fun x hx => ky30 i x hi hx) (by omega)]
            refine ⟨fun z3 => same ?_, fun z3 => next _ ?_⟩
            · have : (kyA b w S i c == some q) = false := by simpa using z3
              rw [this]; simp
            · rw [fb_ct_succ, eS, z3, z2, nAddR]; simp
      exact key w.1 0 (by omega)
  · have : kyA b w S r c = none := (kyI_m1 (fun x hx => ky30 r x hr hx)).mp z
    unfold kSt
    rw [this]; exact hX
theorem s_X2_wordIn {Q : Int64 → St → Prop} {r col : Nat} (hL : Lay G.2.2) (hh : h = 39 ∨ h = 49) (hb : XTb G h b) (hw : XRw G h b w) (hob : okTb b) (hc : okC b w) (hS : S < 1073741824) (hr : r < w.1) (hcol : col < 20) (hQ : Q (lN (wdI b w S r col)) G) : EvL K mX2_wordIn 2 0 [(0, .ref h), (1, .int (nI S)), (2, .int (nI r)), (3, .int (nI col))] [] G Q := by
  have w30 := hw.2.1
  have b5 := hb.2.1
  obtain ⟨r1, r2, -, -⟩ := hw.2.2.1 r hr
  refine kX2_wordIn_0 hL hh ?_
  rw [hw.1, bit_at (by omega) (by omega)]
  try simp (disch := omega) only [nLe, nLeR, nLeL, nLt, nLtR, nLtL, nEq, nEqR, nEqL, nClamp, nClampR, nAdd, nAddR, nAddL, nSub, nSubR, nMul, nMulR, nMulL, nDivR, vIn, vInR, iteZ, iteP, lEq, lEqR, forall_eq, forall_const, true_implies, false_implies, not_true_eq_false, not_false_eq_true, true_and, and_true, implies_true, Decidable.not_not, Nat.le_refl]
  refine ⟨fun z => by omega, fun _ => ⟨fun z => by omega, fun _ => ⟨fun z => kX2_wordIn_24 hL hh (kX2_wordIn_25 hL hh ⟨fun _ => ?_, fun y => absurd rfl y⟩), fun z => kX2_wordIn_25 hL hh ⟨fun y => absurd y (by decide), fun _ => ?_⟩⟩⟩⟩
  · have e : S.testBit r = false := by
      cases e : S.testBit r
      · rfl
      · rw [e] at z; exact absurd z (by decide)
    unfold wdI at hQ
    rw [if_neg (fun y => by rw [e] at y; exact absurd y.1 (by decide))] at hQ
    exact hQ
  · have e : S.testBit r = true := by
      cases e : S.testBit r
      · rw [e] at z; exact absurd rfl z
      · rfl
    rw [show nI col - nI col / 4 * 4 = nI (col % 4) from fa_rem (k := 2) (by omega) (by decide)]
    try simp (disch := omega) only [nLe, nLeR, nLeL, nLt, nLtR, nLtL, nEq, nEqR, nEqL, nClamp, nClampR, nAdd, nAddR, nAddL, nSub, nSubR, nMul, nMulR, nMulL, nDivR, vIn, vInR, iteZ, iteP, lEq, lEqR, forall_eq, forall_const, true_implies, false_implies, not_true_eq_false, not_false_eq_true, true_and, and_true, implies_true, Decidable.not_not, Nat.le_refl, r2]
    refine ⟨by omega, fun z2 => s_X1_wordN hL hh hb hw hob hc hr (by omega) ?_, fun z2 => ?_⟩
    · unfold wdI at hQ
      rw [if_pos ⟨e, z2⟩] at hQ
      exact hQ
    · unfold wdI at hQ
      rw [if_neg (fun y => z2 y.2)] at hQ
      exact hQ
theorem wdI_lt (hc : okC b w) {r col : Nat} (hr : r < w.1) : wdI b w S r col < 282429536481 := by
  unfold wdI
  split
  · exact wdA_lt hc hr
  · decide
theorem s_addLet {Q : St → Prop} {x y : Nat} (hL : Lay G.2.2) (hh : h = 39 ∨ h = 49) (hb : XTb G h b) (hw : XRw G h b w) (hob : okTb b) (hc : okC b w) (hS : S < 1073741824) (hx : x < 20) (hy : y < 20) (hxy : x / 4 ≠ y / 4) (hX : XTl G f) (hf : okF f) (hQ : ∀ G', Kq sTi G G' → XTl G' (lSt b w S x y f) → Q G') : EvV K mX9_addLet 3 0 [(0, .ref 11), (1, .ref h), (2, .int (nI S)), (3, .int (nI x)), (4, .int (nI y))] [] G Q := by
  have w30 := hw.2.1
  have kb : ∀ {G1 : St}, Kq sTi G G1 → XTb G1 h b ∧ XRw G1 h b w := fun kq => ⟨hb.kq kq (fun i k z => by unfold sTi at z; omega), hw.kq kq (fun i k z => by unfold sTi at z; omega)⟩
  have inner : ∀ (m c a : Nat) (G1 : St) (g0 : Nat → Nat → Nat), c + m = w.1 → a < w.1 → Kq sTi G G1 → okF g0 → XTl G1 (foldN (fun c f => if wdI b w S a x ≠ 0 ∧ wdI b w S c y = wdI b w S a x then tAdd f a c 3 else f) c g0) → (∀ G', Kq sTi G G' → XTl G' (foldN (fun c f => if wdI b w S a x ≠ 0 ∧ wdI b w S c y = wdI b w S a x then tAdd f a c 3 else f) w.1 g0) → EvV K mX9_addLet 3 71 [(0, .ref 11), (1, .ref h), (2, .int (nI S)), (3, .int (nI x)), (4, .int (nI y)), (5, .int (nI a))] [] G' Q) → EvV K mX9_addLet 3 25 [(0, .ref 11), (1, .ref h), (2, .int (nI S)), (3, .int (nI x)), (4, .int (nI y)), (5, .int (nI a)), (6, .long (lN (wdI b w S a x))), (8, .int (nI c))] [] G1 Q := by
    intro m
    induction m with
    | zero =>
      intro c a G1 g0 hm ha kq hg hX1 hgo
      have ec : c = w.1 := by omega
      subst ec
      refine kX9_addLet_25 (kq.lay hL) hh ?_
      rw [(kb kq).2.1]
      try simp (disch := omega) only [nLe, nLeR, nLeL, nLt, nLtR, nLtL, nEq, nEqR, nEqL, nClamp, nClampR, nAdd, nAddR, nAddL, nSub, nSubR, nMul, nMulR, nMulL, nDivR, vIn, vInR, iteZ, iteP, lEq, lEqR, forall_eq, forall_const, true_implies, false_implies, not_true_eq_false, not_false_eq_true, true_and, and_true, implies_true, Decidable.not_not, Nat.le_refl]
      exact hgo G1 kq hX1
    | succ m ih =>
      intro c a G1 g0 hm ha kq hg hX1 hgo
      have hcw : c < w.1 := by omega
      have hL1 := kq.lay hL
      have l1 := wdI_lt (S := S) hc (r := a) (col := x) ha
      have l2 := wdI_lt (S := S) hc (r := c) (col := y) hcw
      have hgc : okF (foldN (fun c f => if wdI b w S a x ≠ 0 ∧ wdI b w S c y = wdI b w S a x then tAdd f a c 3 else f) c g0) := by
        refine foldN_ind hg (fun i g hi hg => ?_)
        split
        · rename_i z
          refine tAdd_ok hg (by omega) (by omega) (fun e => ?_) (by omega)
          subst e
          have h1 := wdI_0 z.1
          have h2 := wdI_0 (show wdI b w S a y ≠ 0 by rw [z.2]; exact z.1)
          exact hxy (h1.2.1.symm.trans h2.2.1)
        · exact hg
      refine kX9_addLet_25 hL1 hh ?_
      rw [(kb kq).2.1]
      try simp (disch := omega) only [nLe, nLeR, nLeL, nLt, nLtR, nLtL, nEq, nEqR, nEqL, nClamp, nClampR, nAdd, nAddR, nAddL, nSub, nSubR, nMul, nMulR, nMulL, nDivR, vIn, vInR, iteZ, iteP, lEq, lEqR, forall_eq, forall_const, true_implies, false_implies, not_true_eq_false, not_false_eq_true, true_and, and_true, implies_true, Decidable.not_not, Nat.le_refl]
      refine ⟨fun z => by omega, fun _ => ⟨fun z => ?_, fun z => s_X2_wordIn hL1 hh (kb kq).1 (kb kq).2 hob hc hS hcw hy ?_⟩⟩
      · -- no word: nothing more
        have stay : ∀ k, foldN (fun c f => if wdI b w S a x ≠ 0 ∧ wdI b w S c y = wdI b w S a x then tAdd f a c 3 else f) k g0 = g0 := by
          intro k
          induction k with
          | zero => rfl
          | succ k ihk => rw [foldN, ihk, if_neg (fun u => u.1 z)]
        rw [stay] at hX1
        have := hgo G1 kq (by rw [stay]; exact hX1)
        exact this
      · try simp (disch := omega) only [nLe, nLeR, nLeL, nLt, nLtR, nLtL, nEq, nEqR, nEqL, nClamp, nClampR, nAdd, nAddR, nAddL, nSub, nSubR, nMul, nMulR, nMulL, nDivR, vIn, vInR, iteZ, iteP, lEq, lEqR, forall_eq, forall_const, true_implies, false_implies, not_true_eq_false, not_false_eq_true, true_and, and_true, implies_true, Decidable.not_not, Nat.le_refl]
        refine ⟨fun z2 => kX9_addLet_65 hL1 hh ?_, fun z2 => ?_⟩
        · try simp (disch := omega) only [nLe, nLeR, nLeL, nLt, nLtR, nLtL, nEq, nEqR, nEqL, nClamp, nClampR, nAdd, nAddR, nAddL, nSub, nSubR, nMul, nMulR, nMulL, nDivR, vIn, vInR, iteZ, iteP, lEq, lEqR, forall_eq, forall_const, true_implies, false_implies, not_true_eq_false, not_false_eq_true, true_and, and_true, implies_true, Decidable.not_not, Nat.le_refl]
          refine ih (c + 1) a G1 g0 (by omega) ha kq hg ?_ hgo
          rw [foldN, if_neg (fun u => z2 u.2)]; exact hX1
        · have hac : a ≠ c := fun e => by
            subst e
            have h1 := wdI_0 z
            have h2 := wdI_0 (show wdI b w S a y ≠ 0 by rw [z2]; exact z)
            exact hxy (h1.2.1.symm.trans h2.2.1)
          refine s_X9_add (p := 3) hL1 hX1 hgc (by omega) (by omega) hac (by decide) (by decide) (fun G2 k2 x2 => kX9_addLet_65 ((kq.tr k2).lay hL) hh ?_)
          try simp (disch := omega) only [nLe, nLeR, nLeL, nLt, nLtR, nLtL, nEq, nEqR, nEqL, nClamp, nClampR, nAdd, nAddR, nAddL, nSub, nSubR, nMul, nMulR, nMulL, nDivR, vIn, vInR, iteZ, iteP, lEq, lEqR, forall_eq, forall_const, true_implies, false_implies, not_true_eq_false, not_false_eq_true, true_and, and_true, implies_true, Decidable.not_not, Nat.le_refl]
          refine ih (c + 1) a G2 g0 (by omega) ha (kq.tr k2) hg ?_ hgo
          rw [foldN, if_pos ⟨z, z2⟩]; exact x2
  have outer : ∀ (m a : Nat) (G1 : St), a + m = w.1 → Kq sTi G G1 → XTl G1 (foldN (fun a f => foldN (fun c f => if wdI b w S a x ≠ 0 ∧ wdI b w S c y = wdI b w S a x then tAdd f a c 3 else f) w.1 f) a f) → EvV K mX9_addLet 3 3 [(0, .ref 11), (1, .ref h), (2, .int (nI S)), (3, .int (nI x)), (4, .int (nI y)), (5, .int (nI a))] [] G1 Q := by
    intro m
    induction m with
    | zero =>
      intro a G1 hm kq hX1
      have ea : a = w.1 := by omega
      subst ea
      refine kX9_addLet_3 (kq.lay hL) hh ?_
      rw [(kb kq).2.1]
      try simp (disch := omega) only [nLe, nLeR, nLeL, nLt, nLtR, nLtL, nEq, nEqR, nEqL, nClamp, nClampR, nAdd, nAddR, nAddL, nSub, nSubR, nMul, nMulR, nMulL, nDivR, vIn, vInR, iteZ, iteP, lEq, lEqR, forall_eq, forall_const, true_implies, false_implies, not_true_eq_false, not_false_eq_true, true_and, and_true, implies_true, Decidable.not_not, Nat.le_refl]
      exact hQ G1 kq hX1
    | succ m ih =>
      intro a G1 hm kq hX1
      have haw : a < w.1 := by omega
      have hL1 := kq.lay hL
      have hga : okF (foldN (fun a f => foldN (fun c f => if wdI b w S a x ≠ 0 ∧ wdI b w S c y = wdI b w S a x then tAdd f a c 3 else f) w.1 f) a f) := by
        refine foldN_ind hf (fun a g ha hg => foldN_ind hg (fun c g hc hg => ?_))
        split
        · rename_i z
          refine tAdd_ok hg (by omega) (by omega) (fun e => ?_) (by omega)
          subst e
          have h1 := wdI_0 z.1
          have h2 := wdI_0 (show wdI b w S a y ≠ 0 by rw [z.2]; exact z.1)
          exact hxy (h1.2.1.symm.trans h2.2.1)
        · exact hg
      refine kX9_addLet_3 hL1 hh ?_
      rw [(kb kq).2.1]
      try simp (disch := omega) only [nLe, nLeR, nLeL, nLt, nLtR, nLtL, nEq, nEqR, nEqL, nClamp, nClampR, nAdd, nAddR, nAddL, nSub, nSubR, nMul, nMulR, nMulL, nDivR, vIn, vInR, iteZ, iteP, lEq, lEqR, forall_eq, forall_const, true_implies, false_implies, not_true_eq_false, not_false_eq_true, true_and, and_true, implies_true, Decidable.not_not, Nat.le_refl]
      refine ⟨fun z => by omega, fun _ => s_X2_wordIn hL1 hh (kb kq).1 (kb kq).2 hob hc hS haw hx (inner w.1 0 a G1 _ (by omega) haw kq hga hX1 (fun G2 k2 x2 => kX9_addLet_71 (k2.lay hL) hh ?_))⟩
      try simp (disch := omega) only [nLe, nLeR, nLeL, nLt, nLtR, nLtL, nEq, nEqR, nEqL, nClamp, nClampR, nAdd, nAddR, nAddL, nSub, nSubR, nMul, nMulR, nMulL, nDivR, vIn, vInR, iteZ, iteP, lEq, lEqR, forall_eq, forall_const, true_implies, false_implies, not_true_eq_false, not_false_eq_true, true_and, and_true, implies_true, Decidable.not_not, Nat.le_refl]
      exact ih (a + 1) G2 (by omega) k2 x2
  exact kX9_addLet_0 hL hh (outer w.1 0 G (by omega) Kq.rf hX)
theorem s_X9_fill {Q : St → Prop} (hL : Lay G.2.2) (hh : h = 39 ∨ h = 49) (hb : XTb G h b) (hw : XRw G h b w) (hob : okTb b) (hor : okRw b w) (hc : okC b w) (hS : S < 1073741824) (hl : XLt G l) (hol : okLt b l) (hQ : ∀ G', Kq sTi G G' → XTl G' (fTi b w S l) → Q G') : EvV K mX9_fill 4 0 [(0, .ref 11), (1, .ref h), (2, .ref 14), (3, .int (nI S))] [] G Q := by
  have w30 := hw.2.1
  have l20 := hl.2.1
  have kb : ∀ {G1 : St}, Kq sTi G G1 → XTb G1 h b ∧ XRw G1 h b w := fun kq => ⟨hb.kq kq (fun i k z => by unfold sTi at z; omega), hw.kq kq (fun i k z => by unfold sTi at z; omega)⟩
  -- the lets
  have lets : ∀ (m k : Nat) (G1 : St), k + m = l.1 → Kq sTi G G1 → XTl G1 (foldN (fun k f => lSt b w S (l.2 k / 20) (l.2 k % 20) f) k (kFs b w S w.1)) → EvV K mX9_fill 4 81 [(0, .ref 11), (1, .ref h), (2, .ref 14), (3, .int (nI S)), (4, .int (nI k))] [] G1 Q := by
    intro m
    induction m with
    | zero =>
      intro k G1 hm kq hX1
      have ek : k = l.1 := by omega
      subst ek
      have e4 : sI G1 14 4 = nI l.1 := by rw [kq.I (by unfold sTi; omega)]; exact hl.1
      refine kX9_fill_81 (kq.lay hL) hh ?_
      try simp (disch := omega) only [nLe, nLeR, nLeL, nLt, nLtR, nLtL, nEq, nEqR, nEqL, nClamp, nClampR, nAdd, nAddR, nAddL, nSub, nSubR, nMul, nMulR, nMulL, nDivR, vIn, vInR, iteZ, iteP, lEq, lEqR, forall_eq, forall_const, true_implies, false_implies, not_true_eq_false, not_false_eq_true, true_and, and_true, implies_true, Decidable.not_not, Nat.le_refl, e4]
      exact hQ G1 kq hX1
    | succ m ih =>
      intro k G1 hm kq hX1
      have hk : k < l.1 := by omega
      obtain ⟨o1, o2, -⟩ := hol k hk
      have hL1 := kq.lay hL
      have e4 : sI G1 14 4 = nI l.1 := by rw [kq.I (by unfold sTi; omega)]; exact hl.1
      have e16 : sI G1 16 k = nI (l.2 k) := by rw [kq.I (by unfold sTi; omega)]; exact (hl.2.2 k hk).1
      have hg : okF (foldN (fun k f => lSt b w S (l.2 k / 20) (l.2 k % 20) f) k (kFs b w S w.1)) := foldN_ind (kFs_ok hor w30 (Nat.le_refl _)) (fun j g hj hg => lSt_ok hg w30 (hol j (by omega)).2.1)
      refine kX9_fill_81 hL1 hh ?_
      try simp (disch := omega) only [nLe, nLeR, nLeL, nLt, nLtR, nLtL, nEq, nEqR, nEqL, nClamp, nClampR, nAdd, nAddR, nAddL, nSub, nSubR, nMul, nMulR, nMulL, nDivR, vIn, vInR, iteZ, iteP, lEq, lEqR, forall_eq, forall_const, true_implies, false_implies, not_true_eq_false, not_false_eq_true, true_and, and_true, implies_true, Decidable.not_not, Nat.le_refl, e4]
      refine ⟨fun z => by omega, fun _ => kX2_letFrom_0 hL1 ?_⟩
      try simp (disch := omega) only [nLe, nLeR, nLeL, nLt, nLtR, nLtL, nEq, nEqR, nEqL, nClamp, nClampR, nAdd, nAddR, nAddL, nSub, nSubR, nMul, nMulR, nMulL, nDivR, vIn, vInR, iteZ, iteP, lEq, lEqR, forall_eq, forall_const, true_implies, false_implies, not_true_eq_false, not_false_eq_true, true_and, and_true, implies_true, Decidable.not_not, Nat.le_refl, e4, e16]
      refine ⟨fun z => by omega, fun _ => ⟨fun z => by omega, fun _ => ⟨by omega, kX2_letTo_0 hL1 ?_⟩⟩⟩
      try simp (disch := omega) only [nLe, nLeR, nLeL, nLt, nLtR, nLtL, nEq, nEqR, nEqL, nClamp, nClampR, nAdd, nAddR, nAddL, nSub, nSubR, nMul, nMulR, nMulL, nDivR, vIn, vInR, iteZ, iteP, lEq, lEqR, forall_eq, forall_const, true_implies, false_implies, not_true_eq_false, not_false_eq_true, true_and, and_true, implies_true, Decidable.not_not, Nat.le_refl, e4, e16]
      rw [show l.2 k - l.2 k / 20 * 20 = l.2 k % 20 by omega]
      refine ⟨fun z => by omega, fun _ => ⟨fun z => by omega, fun _ => ⟨by omega, ?_⟩⟩⟩
      refine s_addLet hL1 hh (kb kq).1 (kb kq).2 hob hc hS (by omega) (by omega) o2 hX1 hg (fun G2 k2 x2 => ?_)
      try simp (disch := omega) only [nLe, nLeR, nLeL, nLt, nLtR, nLtL, nEq, nEqR, nEqL, nClamp, nClampR, nAdd, nAddR, nAddL, nSub, nSubR, nMul, nMulR, nMulL, nDivR, vIn, vInR, iteZ, iteP, lEq, lEqR, forall_eq, forall_const, true_implies, false_implies, not_true_eq_false, not_false_eq_true, true_and, and_true, implies_true, Decidable.not_not, Nat.le_refl]
      exact ih (k + 1) G2 (by omega) (kq.tr k2) x2
  -- the keys
  have cols : ∀ (m c r : Nat) (G1 : St) (g0 : Nat → Nat → Nat), c + m = 4 → r < w.1 → Kq sTi G G1 → okF g0 → S.testBit r = true → XTl G1 (foldN (fun c f => kSt b w S r c f) c g0) → (∀ G', Kq sTi G G' → XTl G' (foldN (fun c f => kSt b w S r c f) 4 g0) → EvV K mX9_fill 4 72 [(0, .ref 11), (1, .ref h), (2, .ref 14), (3, .int (nI S)), (4, .int (nI r))] [] G' Q) → EvV K mX9_fill 4 41 [(0, .ref 11), (1, .ref h), (2, .ref 14), (3, .int (nI S)), (4, .int (nI r)), (5, .int (nI c))] [] G1 Q := by
    intro m
    induction m with
    | zero =>
      intro c r G1 g0 hm hr kq hg hb2 hX1 hgo
      have ec : c = 4 := by omega
      subst ec
      refine kX9_fill_41 (kq.lay hL) hh ?_
      try simp (disch := omega) only [nLe, nLeR, nLeL, nLt, nLtR, nLtL, nEq, nEqR, nEqL, nClamp, nClampR, nAdd, nAddR, nAddL, nSub, nSubR, nMul, nMulR, nMulL, nDivR, vIn, vInR, iteZ, iteP, lEq, lEqR, forall_eq, forall_const, true_implies, false_implies, not_true_eq_false, not_false_eq_true, true_and, and_true, implies_true, Decidable.not_not, Nat.le_refl]
      exact hgo G1 kq hX1
    | succ m ih =>
      intro c r G1 g0 hm hr kq hg hb2 hX1 hgo
      have hL1 := kq.lay hL
      refine kX9_fill_41 hL1 hh ?_
      rw [bit_at (by omega) (by omega), if_pos hb2]
      try simp (disch := omega) only [nLe, nLeR, nLeL, nLt, nLtR, nLtL, nEq, nEqR, nEqL, nClamp, nClampR, nAdd, nAddR, nAddL, nSub, nSubR, nMul, nMulR, nMulL, nDivR, vIn, vInR, iteZ, iteP, lEq, lEqR, forall_eq, forall_const, true_implies, false_implies, not_true_eq_false, not_false_eq_true, true_and, and_true, implies_true, Decidable.not_not, Nat.le_refl]
      refine ⟨fun z => by omega, fun _ => ⟨fun z => by omega, fun _ => s_addKey hL1 hh (kb kq).1 (kb kq).2 hob hor hS hr (by omega) hX1 (foldN_ind hg (fun i g _ hg => kSt_ok hg hor hr w30)) (fun G2 k2 x2 => ?_)⟩⟩
      try simp (disch := omega) only [nLe, nLeR, nLeL, nLt, nLtR, nLtL, nEq, nEqR, nEqL, nClamp, nClampR, nAdd, nAddR, nAddL, nSub, nSubR, nMul, nMulR, nMulL, nDivR, vIn, vInR, iteZ, iteP, lEq, lEqR, forall_eq, forall_const, true_implies, false_implies, not_true_eq_false, not_false_eq_true, true_and, and_true, implies_true, Decidable.not_not, Nat.le_refl]
      exact ih (c + 1) r G2 g0 (by omega) hr (kq.tr k2) hg hb2 x2 hgo
  have rows : ∀ (m r : Nat) (G1 : St), r + m = w.1 → Kq sTi G G1 → XTl G1 (kFs b w S r) → EvV K mX9_fill 4 29 [(0, .ref 11), (1, .ref h), (2, .ref 14), (3, .int (nI S)), (4, .int (nI r))] [] G1 Q := by
    intro m
    induction m with
    | zero =>
      intro r G1 hm kq hX1
      have er : r = w.1 := by omega
      subst er
      refine kX9_fill_29 (kq.lay hL) hh ?_
      rw [(kb kq).2.1]
      try simp (disch := omega) only [nLe, nLeR, nLeL, nLt, nLtR, nLtL, nEq, nEqR, nEqL, nClamp, nClampR, nAdd, nAddR, nAddL, nSub, nSubR, nMul, nMulR, nMulL, nDivR, vIn, vInR, iteZ, iteP, lEq, lEqR, forall_eq, forall_const, true_implies, false_implies, not_true_eq_false, not_false_eq_true, true_and, and_true, implies_true, Decidable.not_not, Nat.le_refl]
      exact lets l.1 0 G1 (by omega) kq hX1
    | succ m ih =>
      intro r G1 hm kq hX1
      have hr : r < w.1 := by omega
      have hL1 := kq.lay hL
      have next : ∀ G2, Kq sTi G G2 → XTl G2 (kFs b w S (r + 1)) → EvV K mX9_fill 4 72 [(0, .ref 11), (1, .ref h), (2, .ref 14), (3, .int (nI S)), (4, .int (nI r))] [] G2 Q := by
        intro G2 k2 x2
        refine kX9_fill_72 (k2.lay hL) hh ?_
        try simp (disch := omega) only [nLe, nLeR, nLeL, nLt, nLtR, nLtL, nEq, nEqR, nEqL, nClamp, nClampR, nAdd, nAddR, nAddL, nSub, nSubR, nMul, nMulR, nMulL, nDivR, vIn, vInR, iteZ, iteP, lEq, lEqR, forall_eq, forall_const, true_implies, false_implies, not_true_eq_false, not_false_eq_true, true_and, and_true, implies_true, Decidable.not_not, Nat.le_refl]
        exact ih (r + 1) G2 (by omega) k2 x2
      refine kX9_fill_29 hL1 hh ?_
      rw [(kb kq).2.1]
      try simp (disch := omega) only [nLe, nLeR, nLeL, nLt, nLtR, nLtL, nEq, nEqR, nEqL, nClamp, nClampR, nAdd, nAddR, nAddL, nSub, nSubR, nMul, nMulR, nMulL, nDivR, vIn, vInR, iteZ, iteP, lEq, lEqR, forall_eq, forall_const, true_implies, false_implies, not_true_eq_false, not_false_eq_true, true_and, and_true, implies_true, Decidable.not_not, Nat.le_refl]
      refine ⟨fun z => by omega, fun _ => ?_⟩
      by_cases hb2 : S.testBit r = true
      · refine cols 4 0 r G1 (kFs b w S r) rfl hr kq (kFs_ok hor w30 (by omega)) hb2 hX1 (fun G2 k2 x2 => next G2 k2 ?_)
        have : kFs b w S (r + 1) = foldN (fun c f => kSt b w S r c f) 4 (kFs b w S r) := by unfold kFs; rw [foldN, if_pos hb2]
        rw [this]; exact x2
      · refine kX9_fill_41 hL1 hh ?_
        rw [bit_at (by omega) (by omega), if_neg hb2]
        have : kFs b w S (r + 1) = kFs b w S r := by unfold kFs; rw [foldN, if_neg hb2]
        refine ⟨fun z => absurd z (by decide), fun _ => ⟨fun _ => next G1 kq (by rw [this]; exact hX1), fun z => absurd rfl z⟩⟩
  refine kX9_fill_0 hL hh (s_J7_fill hL (la_12 hL) (by decide) (fun G1 k1 a1 _ _ => s_J7_fill (k1.lay hL) (la_13 (k1.lay hL)) (by decide) (fun G2 k2 a2 _ _ => ?_)))
  have kq2 : Kq sTi G (uI (uI G2 11 2 0) 11 3 0) := (((k1.q.mono (fun i _ z => by unfold sTi; omega)).tr (k2.q.mono (fun i _ z => by unfold sTi; omega))).sI (by unfold sTi; omega)).sI (by unfold sTi; omega)
  have td0 : ∀ a, tdF (fun _ _ => 0) a = 0 := fun a => by
    apply Nat.eq_of_testBit_eq
    intro i
    rw [Nat.zero_testBit]
    cases z : (tdF (fun _ _ => 0) a).testBit i
    · rfl
    · exact absurd rfl ((tdF_bit okF_0 a i).mp z)
  refine rows w.1 0 _ (by omega) kq2 ⟨⟨fun a c ha hc => ?_, fun a ha => ?_⟩, 0, 0, by simp [gI]; rfl, by simp [gI]; rfl, ?_, Or.inl ⟨rfl, fun _ _ => rfl⟩, by decide⟩
  · rw [gI, gI]
    simp only [Nat.reduceEqDiff, false_and, if_false]
    rw [k2.I (by decide), a1 _ (by omega)]; rfl
  · rw [gI, gI]
    simp only [Nat.reduceEqDiff, false_and, if_false]
    rw [a2 a ha]
    show _ = nI (tdF (fun _ _ => 0) a)
    rw [td0]; rfl
  · unfold cntT
    show 0 = _
    rw [w30_eq, fb_sm_cong (g := fun _ => 0) (fun k _ => by show pc (tdF (fun _ _ => 0) k) = 0; rw [td0, pc_0]), fb_sm_const]
end TIES2

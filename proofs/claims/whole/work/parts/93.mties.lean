/-! the model: ties, who is seen, what is held -/
def tx (x : Nat) : Int32 := if x = 0 then -1 else nI x
def MTi (G : St) (f : Nat → Nat → Nat) : Prop := (∀ a c, a < 30 → c < 30 → sI G 86 (30 * a + c) = tx (f a c)) ∧ ∀ a, a < 30 → sI G 87 a = nI (tdF f a)
def MHt (G : St) (P : Nat → Nat → Nat) (t : Nat) : Prop := ∀ r, r < 30 → (∀ k, k < 4 → sI G 89 (4 * r + k) = hx (if k < t then P k r else 9)) ∧ sI G 88 r = nI (hdF P t r)
theorem foldN_more {α : Type} {g : Nat → α → α} {x : α} {m : Nat} : ∀ {n : Nat}, m ≤ n → (∀ i y, m ≤ i → i < n → g i y = y) → foldN g n x = foldN g m x
  | 0, h, _ => by
    have : m = 0 := by omega
    subst this; rfl
  | n + 1, h, hg => by
    by_cases e : m = n + 1
    · subst e; rfl
    · rw [foldN, hg n _ (by omega) (by omega), foldN_more (by omega) (fun i y a b => hg i y a (by omega))]
theorem foldN_same {α : Type} {g g' : Nat → α → α} {x : α} : ∀ {n : Nat}, (∀ i y, i < n → g i y = g' i y) → foldN g n x = foldN g' n x
  | 0, _ => rfl
  | n + 1, h => by rw [foldN, foldN, foldN_same (fun i y hi => h i y (by omega)), h n _ (by omega)]
theorem foldN_id {α : Type} {g : Nat → α → α} {x : α} : ∀ {n : Nat}, (∀ i y, i < n → g i y = y) → foldN g n x = x
  | 0, _ => rfl
  | n + 1, h => by rw [foldN, h n _ (by omega), foldN_id (fun i y hi => h i y (by omega))]
def sMi : Nat → Nat → Prop := fun i k => i = 86 ∨ i = 87
section MTIES
variable {K : KT} {G : St} {b : TBt} {w : RWt} {q : TQt} {n S : Nat} {f : Nat → Nat → Nat} {l : LTt}
theorem s_X12_leastT {Q : Int32 → St → Prop} {x y : Nat} (hL : Lay G.2.2) (hx : x ≤ 11) (hy : y ≤ 11) (hQ : Q (nI (if x = 0 ∨ y < x then y else x)) G) : EvI K mX12_least 0 0 [(0, .int (tx x)), (1, .int (nI y))] [] G Q := by
  refine kX12_least_0 hL ?_
  unfold tx
  by_cases e : x = 0
  · rw [if_pos e]
    rw [if_pos (Or.inl e)] at hQ
    exact ⟨fun z => absurd z (by decide), fun _ => hQ⟩
  · rw [if_neg e]
    try simp (disch := omega) only [nLe, nLeR, nLeL, nLt, nLtR, nLtL, nEq, nEqR, nEqL, nClamp, nClampR, nAdd, nAddR, nAddL, nSub, nSubR, nMul, nMulR, nMulL, nDivR, vIn, vInR, iteZ, iteP, lEq, lEqR, forall_eq, forall_const, true_implies, false_implies, not_true_eq_false, not_false_eq_true, true_and, and_true, implies_true, Decidable.not_not, Nat.le_refl]
    refine ⟨fun _ => ⟨fun z => by omega, fun _ => ⟨fun z => ?_, fun z => ?_⟩⟩, fun z => by omega⟩
    · by_cases e2 : y < x
      · rw [if_pos (Or.inr e2)] at hQ; exact hQ
      · rw [if_neg (by omega)] at hQ
        have : y = x := by omega
        rw [this]; exact hQ
    · rw [if_neg (by omega)] at hQ; exact hQ
theorem s_X12_ties {Q : St → Prop} {x y p : Nat} (hL : Lay G.2.2) (hX : MTi G f) (hf : okF f) (hx : x < 30) (hy : y < 30) (hxy : x ≠ y) (hp : p ≤ 11) (hp0 : p ≠ 0) (hQ : ∀ G', Kq sMi G G' → MTi G' (tAdd f x y p) → Q G') : EvV K mX12_ties 1 0 [(0, .ref 66), (1, .int (nI x)), (2, .int (nI y)), (3, .int (nI p))] [] G Q := by
  obtain ⟨t1, t2⟩ := id hX
  have tdx := tdF_lt f x
  have tdy := tdF_lt f y
  have hf' := tAdd_ok hf hx hy hxy hp
  have h11 := hf.2.1 x y
  have ev : ∀ u v, tAdd f x y p u v = if (u = x ∧ v = y) ∨ (u = y ∧ v = x) then (if f x y = 0 ∨ p < f x y then p else f x y) else f u v := by
    intro u v
    by_cases h : f x y ≠ 0 ∧ f x y ≤ p
    · rw [tAdd_no h, if_neg (show ¬ (f x y = 0 ∨ p < f x y) by omega)]
      by_cases z : (u = x ∧ v = y) ∨ (u = y ∧ v = x)
      · rw [if_pos z]
        rcases z with ⟨rfl, rfl⟩ | ⟨rfl, rfl⟩
        · rfl
        · exact hf.1 _ _
      · rw [if_neg z]
    · rw [tAdd_yes h, if_pos (show f x y = 0 ∨ p < f x y by omega)]
  have etd : ∀ u, tdF (tAdd f x y p) u = if u = x then tdF f x ||| 2 ^ y else if u = y then tdF f y ||| 2 ^ x else tdF f u := by
    intro u
    by_cases h : f x y ≠ 0 ∧ f x y ≤ p
    · rw [tAdd_no h]
      have same : ∀ a c, f a c ≠ 0 → tdF f a ||| 2 ^ c = tdF f a := fun a c hac => sb_ext (fun i z => by
        rcases (add_bit _ _ _).mp z with q | q
        · exact q
        · rw [q]; exact (tdF_bit hf a c).mpr hac) (fun i z => (add_bit _ _ _).mpr (Or.inl z))
      rw [same x y h.1, same y x (by rw [hf.1]; exact h.1)]
      by_cases e : u = x
      · rw [if_pos e, e]
      · rw [if_neg e]
        by_cases e2 : u = y
        · rw [if_pos e2, e2]
        · rw [if_neg e2]
    · exact tdF_add hf hx hy hxy hp hp0 h u
  have vx := t1 x y hx hy
  refine kX12_ties_0 hL ?_
  rw [shl_one (by omega), shl_one (by omega)]
  try simp (disch := omega) only [nLe, nLeR, nLeL, nLt, nLtR, nLtL, nEq, nEqR, nEqL, nClamp, nClampR, nAdd, nAddR, nAddL, nSub, nSubR, nMul, nMulR, nMulL, nDivR, vIn, vInR, iteZ, iteP, lEq, lEqR, forall_eq, forall_const, true_implies, false_implies, not_true_eq_false, not_false_eq_true, true_and, and_true, implies_true, Decidable.not_not, Nat.le_refl, vx]
  refine ⟨by omega, s_X12_leastT hL h11 hp ?_⟩
  generalize hv : (if f x y = 0 ∨ p < f x y then p else f x y) = v at ev
  have hv0 : v ≠ 0 := by rw [← hv]; split <;> omega
  have t2x := t2 x hx
  rw [t2x, fa_or]
  have g13 : sI (uI (uI (uI G 86 (30 * x + y) (nI v)) 86 (30 * y + x) (nI v)) 87 x (nI (tdF f x ||| 2 ^ y))) 87 y = nI (tdF f y) := by
    simp [gI, Ne.symm hxy]; exact t2 y hy
  rw [g13, fa_or]
  refine ⟨by omega, by omega, hx, hx, hy, hy, ?_⟩
  refine hQ _ ((((kq_I (by unfold sMi; omega)).sI (by unfold sMi; omega)).sI (by unfold sMi; omega)).sI (by unfold sMi; omega)) ⟨fun a c ha hc => ?_, fun a ha => ?_⟩
  · rw [gI, gI, gI, gI, ev]
    by_cases z : (a = x ∧ c = y) ∨ (a = y ∧ c = x)
    · rw [if_pos z, if_neg (by omega), if_neg (by omega)]
      have : tx v = nI v := by unfold tx; rw [if_neg hv0]
      rw [this]
      rcases z with ⟨rfl, rfl⟩ | ⟨rfl, rfl⟩
      · by_cases z2 : 86 = 86 ∧ 30 * a + c = 30 * c + a
        · rw [if_pos z2]
        · rw [if_neg z2, if_pos ⟨rfl, rfl⟩]
      · rw [if_pos ⟨rfl, rfl⟩]
    · rw [if_neg z, if_neg (by omega), if_neg (by omega), if_neg (by omega), if_neg (by omega)]
      exact t1 a c ha hc
  · rw [gI, gI, gI, gI, etd a]
    by_cases z : a = x
    · subst z
      rw [if_neg (fun z => hxy z.2), if_pos ⟨rfl, rfl⟩, if_pos rfl]
    · rw [if_neg z]
      by_cases z2 : a = y
      · subst z2; rw [if_pos ⟨rfl, rfl⟩, if_pos rfl]
      · rw [if_neg (fun u => z2 u.2), if_neg (fun u => z u.2), if_neg (by omega), if_neg (by omega), if_neg z2]; exact t2 a ha
theorem s_X12_pointTo {Q : Int32 → St → Prop} {r c x : Nat} (hL : Lay G.2.2) (hS : MS G w.1 S) (hb : MTb G 0 b) (hw : MRw G b w) (hor : okRw b w) (hr : r < w.1) (hc : c < b.2.2.1 (w.2.1 r)) (hk5 : b.2.2.2.2 (w.2.1 r) c < 5) (hx : x < 30) (hxS : S.testBit x = true) (hQ : Q (nI (cntP b w S r c x)) G) : EvI K mX12_pointTo 2 0 [(0, .ref 66), (1, .int (nI (w.2.1 r))), (2, .int (nI c)), (3, .int (nI x))] [] G Q := by
  have w30 := hw.2.1
  have b5 := hb.2.1
  obtain ⟨r1, r2, -⟩ := hw.2.2 r hr
  have h4 := (hb.z.2 _ r1).2.2.1
  have key : ∀ (m i : Nat), i + m = w.1 → EvI K mX12_pointTo 2 6 [(0, .ref 66), (1, .int (nI (w.2.1 r))), (2, .int (nI c)), (3, .int (nI x)), (4, .int (nI (fb_ct (fun i => S.testBit i && (w.2.1 i == w.2.1 r) && (kyA b w S i c == some x)) i))), (5, .int (nI i))] [] G Q := by
    intro m
    induction m with
    | zero =>
      intro i hm
      have ei : i = w.1 := by omega
      subst ei
      refine kX12_pointTo_6 hL ?_
      rw [hw.1]
      try simp (disch := omega) only [nLe, nLeR, nLeL, nLt, nLtR, nLtL, nEq, nEqR, nEqL, nClamp, nClampR, nAdd, nAddR, nAddL, nSub, nSubR, nMul, nMulR, nMulL, nDivR, vIn, vInR, iteZ, iteP, lEq, lEqR, forall_eq, forall_const, true_implies, false_implies, not_true_eq_false, not_false_eq_true, true_and, and_true, implies_true, Decidable.not_not, Nat.le_refl]
      exact hQ
    | succ m ih =>
      intro i hm
      have hi : i < w.1 := by omega
      obtain ⟨i1, i2, i3⟩ := hw.2.2 i hi
      have hcl : fb_ct (fun i => S.testBit i && (w.2.1 i == w.2.1 r) && (kyA b w S i c == some x)) i ≤ i := fb_ct_le _ _
      have put : ∀ y : Int32, nI (fb_ct (fun i => S.testBit i && (w.2.1 i == w.2.1 r) && (kyA b w S i c == some x)) i) + y = nI (fb_ct (fun i => S.testBit i && (w.2.1 i == w.2.1 r) && (kyA b w S i c == some x)) (i + 1)) → EvI K mX12_pointTo 2 59 [(0, .ref 66), (1, .int (nI (w.2.1 r))), (2, .int (nI c)), (3, .int (nI x)), (5, .int (nI i))] [.int y, .int (nI (fb_ct (fun i => S.testBit i && (w.2.1 i == w.2.1 r) && (kyA b w S i c == some x)) i))] G Q := by
        intro y hy
        refine kX12_pointTo_59 hL ?_
        rw [hy]
        try simp (disch := omega) only [nLe, nLeR, nLeL, nLt, nLtR, nLtL, nEq, nEqR, nEqL, nClamp, nClampR, nAdd, nAddR, nAddL, nSub, nSubR, nMul, nMulR, nMulL, nDivR, vIn, vInR, iteZ, iteP, lEq, lEqR, forall_eq, forall_const, true_implies, false_implies, not_true_eq_false, not_false_eq_true, true_and, and_true, implies_true, Decidable.not_not, Nat.le_refl]
        exact ih (i + 1) (by omega)
      have no : (S.testBit i && (w.2.1 i == w.2.1 r) && (kyA b w S i c == some x)) = false → EvI K mX12_pointTo 2 58 [(0, .ref 66), (1, .int (nI (w.2.1 r))), (2, .int (nI c)), (3, .int (nI x)), (5, .int (nI i))] [.int (nI (fb_ct (fun i => S.testBit i && (w.2.1 i == w.2.1 r) && (kyA b w S i c == some x)) i))] G Q := fun hn => kX12_pointTo_58 hL (put 0 (by rw [fb_ct_succ, hn, Int32.add_zero]; rfl))
      refine kX12_pointTo_6 hL ?_
      rw [hw.1]
      try simp (disch := omega) only [nLe, nLeR, nLeL, nLt, nLtR, nLtL, nEq, nEqR, nEqL, nClamp, nClampR, nAdd, nAddR, nAddL, nSub, nSubR, nMul, nMulR, nMulL, nDivR, vIn, vInR, iteZ, iteP, lEq, lEqR, forall_eq, forall_const, true_implies, false_implies, not_true_eq_false, not_false_eq_true, true_and, and_true, implies_true, Decidable.not_not, Nat.le_refl]
      refine ⟨fun z => by omega, fun _ => s_X12_isSeenN hL hS (by omega) ?_⟩
      try simp (disch := omega) only [nLe, nLeR, nLeL, nLt, nLtR, nLtL, nEq, nEqR, nEqL, nClamp, nClampR, nAdd, nAddR, nAddL, nSub, nSubR, nMul, nMulR, nMulL, nDivR, vIn, vInR, iteZ, iteP, lEq, lEqR, forall_eq, forall_const, true_implies, false_implies, not_true_eq_false, not_false_eq_true, true_and, and_true, implies_true, Decidable.not_not, Nat.le_refl, i2]
      refine ⟨fun z => no ?_, fun z => ⟨by omega, fun z2 => no ?_, fun z2 => ⟨by omega, ?_⟩⟩⟩
      · have : S.testBit i = false := by simpa using z
        rw [this]; rfl
      · have : (w.2.1 i == w.2.1 r) = false := by simpa using z2
        rw [this]; simp
      · have hci : c < b.2.2.1 (w.2.1 i) := by rw [z2]; exact hc
        have hki : b.2.2.2.2 (w.2.1 i) c < 5 := by rw [z2]; exact hk5
        rw [i3 c hci, nI_l (by omega)]
        have iff : w.2.2 i c = lN x ↔ kyA b w S i c = some x := by
          constructor
          · intro e
            unfold kyA
            have en : nv (w.2.2 i c) = x := by rw [e, nv_l (by omega)]
            have hne : w.2.2 i c ≠ -1 := by
              rw [e]
              intro y
              have := congrArg Int64.toInt y
              rw [pk_lT (by omega), show (-1 : Int64).toInt = -1 from rfl] at this
              omega
            rw [en, if_pos ⟨hci, hki, hne, hxS⟩]
          · intro e
            exact (kyA_lt hor hi w30 e).2.2.2.2
        rw [iff]
        refine ⟨fun z3 => no ?_, fun z3 => put 1 ?_⟩
        · have : (kyA b w S i c == some x) = false := by simpa using z3
          rw [this]; simp
        · rw [fb_ct_succ, z, z2, z3, nAddR]; simp
  exact kX12_pointTo_0 hL (key w.1 0 (by omega))
theorem MTi.kq {S' : Nat → Nat → Prop} {G1 : St} (h : MTi G f) (hk : Kq S' G G1) (hs : ∀ i k, S' i k → ¬ (i = 86 ∨ i = 87)) : MTi G1 f :=
  ⟨fun a b ha hb => by rw [hk.I (fun z => hs _ _ z (Or.inl rfl))]; exact h.1 a b ha hb, fun a ha => by rw [hk.I (fun z => hs _ _ z (Or.inr rfl))]; exact h.2 a ha⟩
def sFt : Nat → Nat → Prop := fun i k => i = 86 ∨ i = 87 ∨ i = 88 ∨ i = 89 ∨ i = 66 ∧ k = 37
theorem lN_m1 {n : Nat} (h : n < 9223372036854775808) : lN n ≠ -1 := by
  intro y
  have := congrArg Int64.toInt y
  rw [pk_lT (by omega), show (-1 : Int64).toInt = -1 from rfl] at this
  omega
theorem s_X12_findTies {Q : St → Prop} (hL : Lay G.2.2) (hS : MS G w.1 S) (hb : MTb G 0 b) (hob : okTb b) (hw : MRw G b w) (hor : okRw b w) (hc : okC b w) (hq : MTq G q) (hoq : okQ q) (hl : MLt G l) (hol : okLt b l) (hQ : ∀ G', Kq sFt G G' → MTi G' (fTi b w S l) → MHt G' (PR b w S q) q.1 → sI G' 66 37 = nI S → Q G') : EvV K mX12_findTies 4 0 [(0, .ref 66)] [] G Q := by
  have w30 := hw.2.1
  have b5 := hb.2.1
  have l20 := hl.2.1
  have q4 := hq.2.1
  have hS30 := hS.1
  have h4 : ∀ u, u < b.1 → b.2.2.1 u ≤ 4 := fun u hu => (hb.2.2 u hu).2.2.1
  have kk : ∀ {G1 : St}, Kq sFt G G1 → Lay G1.2.2 ∧ MS G1 w.1 S ∧ MTb G1 0 b ∧ MRw G1 b w ∧ MTq G1 q ∧ MLt G1 l := fun {G1} kq => ⟨kq.lay hL, hS.kq kq (fun i k z => by unfold sFt at z; omega), hb.kq kq (fun i k z => by unfold sFt at z; omega), hw.kq h4 kq (fun i k z => by unfold sFt at z; omega), hq.kq' kq (fun i k z => by unfold sFt at z; omega), ⟨by rw [kq.I (by unfold sFt; omega)]; exact hl.1, hl.2.1, fun k hk => ⟨by rw [kq.I (by unfold sFt; omega)]; exact (hl.2.2 k hk).1, (hl.2.2 k hk).2⟩⟩⟩
  -- what is held
  have held : ∀ (m r : Nat) (G1 : St), r + m = 30 → Kq sFt G G1 → MTi G1 (fTi b w S l) → sI G1 66 37 = nI S → (∀ x, x < r → (∀ k, k < 4 → sI G1 89 (4 * x + k) = hx (if k < q.1 then PR b w S q k x else 9)) ∧ sI G1 88 x = nI (hdF (PR b w S q) q.1 x)) → EvV K mX12_findTies 4 328 [(0, .ref 66), (1, .int (nI r))] [] G1 Q := by
    intro m
    induction m with
    | zero =>
      intro r G1 hm kq hT h37 hH
      have er : r = 30 := by omega
      subst er
      refine kX12_findTies_328 (kq.lay hL) ?_
      try simp (disch := omega) only [nLe, nLeR, nLeL, nLt, nLtR, nLtL, nEq, nEqR, nEqL, nClamp, nClampR, nAdd, nAddR, nAddL, nSub, nSubR, nMul, nMulR, nMulL, nDivR, vIn, vInR, iteZ, iteP, lEq, lEqR, forall_eq, forall_const, true_implies, false_implies, not_true_eq_false, not_false_eq_true, true_and, and_true, implies_true, Decidable.not_not, Nat.le_refl]
      exact hQ G1 kq hT hH h37
    | succ m ih =>
      intro r G1 hm kq hT h37 hH
      have hr : r < 30 := by omega
      have terms : ∀ (m k : Nat) (G2 : St), k + m = 4 → Kq sFt G G2 → MTi G2 (fTi b w S l) → sI G2 66 37 = nI S → (∀ x, x < r → (∀ k, k < 4 → sI G2 89 (4 * x + k) = hx (if k < q.1 then PR b w S q k x else 9)) ∧ sI G2 88 x = nI (hdF (PR b w S q) q.1 x)) → (∀ j, j < k → sI G2 89 (4 * r + j) = hx (if j < q.1 then PR b w S q j r else 9)) → sI G2 88 r = nI (msk (fun j => PR b w S q j r != 9) (if k ≤ q.1 then k else q.1)) → EvV K mX12_findTies 4 343 [(0, .ref 66), (1, .int (nI r)), (2, .int (nI k))] [] G2 Q := by
        intro m2
        induction m2 with
        | zero =>
          intro k G2 hm2 kq2 hT2 h372 hH2 h89 h88
          have ek : k = 4 := by omega
          subst ek
          refine kX12_findTies_343 (kq2.lay hL) ?_
          try simp (disch := omega) only [nLe, nLeR, nLeL, nLt, nLtR, nLtL, nEq, nEqR, nEqL, nClamp, nClampR, nAdd, nAddR, nAddL, nSub, nSubR, nMul, nMulR, nMulL, nDivR, vIn, vInR, iteZ, iteP, lEq, lEqR, forall_eq, forall_const, true_implies, false_implies, not_true_eq_false, not_false_eq_true, true_and, and_true, implies_true, Decidable.not_not, Nat.le_refl]
          refine ih (r + 1) G2 (by omega) kq2 hT2 h372 (fun x hx => ?_)
          by_cases ex : x = r
          · subst ex
            refine ⟨h89, ?_⟩
            rw [h88]
            unfold hdF
            by_cases e : 4 ≤ q.1
            · rw [if_pos e]; congr 2; omega
            · rw [if_neg e]
          · exact hH2 x (by omega)
        | succ m2 ih2 =>
          intro k G2 hm2 kq2 hT2 h372 hH2 h89 h88
          obtain ⟨a1, a2, a3, a4, a5, a6⟩ := kk kq2
          have hk4 : k < 4 := by omega
          -- one price laid
          have put : ∀ p, p ≤ 4 ∨ p = 9 → p = (if k < q.1 then PR b w S q k r else 9) → EvV K mX12_findTies 4 383 [(0, .ref 66), (1, .int (nI r)), (2, .int (nI k))] [.int (hx p), .int (nI (4 * r + k)), .ref 89] G2 Q := by
            intro p hp9 hpe
            have kq3 : Kq sFt G (uI G2 89 (4 * r + k) (hx p)) := kq2.sI (by unfold sFt; omega)
            have ml : msk (fun j => PR b w S q j r != 9) (if k ≤ q.1 then k else q.1) < 2 ^ 30 := msk30_lt (by split <;> omega)
            have fin : ∀ y : Int32, nI (msk (fun j => PR b w S q j r != 9) (if k ≤ q.1 then k else q.1)) ||| y = nI (msk (fun j => PR b w S q j r != 9) (if k + 1 ≤ q.1 then k + 1 else q.1)) → EvV K mX12_findTies 4 411 [(0, .ref 66), (1, .int (nI r)), (2, .int (nI k))] [.int y, .int (sI G2 88 r), .int (nI r), .ref 88] (uI G2 89 (4 * r + k) (hx p)) Q := by
              intro y hy
              refine kX12_findTies_411 (kq3.lay hL) ?_
              rw [h88, hy]
              try simp (disch := omega) only [nLe, nLeR, nLeL, nLt, nLtR, nLtL, nEq, nEqR, nEqL, nClamp, nClampR, nAdd, nAddR, nAddL, nSub, nSubR, nMul, nMulR, nMulL, nDivR, vIn, vInR, iteZ, iteP, lEq, lEqR, forall_eq, forall_const, true_implies, false_implies, not_true_eq_false, not_false_eq_true, true_and, and_true, implies_true, Decidable.not_not, Nat.le_refl]
              refine ⟨hr, ih2 (k + 1) _ (by omega) (kq3.sI (by unfold sFt; omega)) ?_ ?_ (fun x hx => ⟨fun j hj => ?_, ?_⟩) (fun j hj => ?_) ?_⟩
              · exact hT2.kq ((kq_I (S := fun i _ => i = 89 ∨ i = 88) (Or.inl rfl)).sI (Or.inr rfl)) (fun i k z => by omega)
              · rw [gI, gI]; simpa using h372
              · rw [gI, gI, if_neg (by omega), if_neg (by omega)]; exact (hH2 x hx).1 j hj
              · rw [gI, gI, if_neg (by omega), if_neg (by omega)]; exact (hH2 x hx).2
              · rw [gI, gI, if_neg (by omega)]
                by_cases ej : j = k
                · subst ej; rw [if_pos ⟨rfl, rfl⟩, hpe]
                · rw [if_neg (by omega)]; exact h89 j (by omega)
              · rw [gI, if_pos ⟨rfl, rfl⟩]
            refine kX12_findTies_383 (kq2.lay hL) ?_
            have e89 : sI (uI G2 89 (4 * r + k) (hx p)) 89 (4 * r + k) = hx p := by rw [gI, if_pos ⟨rfl, rfl⟩]
            try simp (disch := omega) only [nLe, nLeR, nLeL, nLt, nLtR, nLtL, nEq, nEqR, nEqL, nClamp, nClampR, nAdd, nAddR, nAddL, nSub, nSubR, nMul, nMulR, nMulL, nDivR, vIn, vInR, iteZ, iteP, lEq, lEqR, forall_eq, forall_const, true_implies, false_implies, not_true_eq_false, not_false_eq_true, true_and, and_true, implies_true, Decidable.not_not, Nat.le_refl]
            rw [e89]
            refine ⟨by omega, hr, by omega, fun z => fin 0 ?_, fun z => ?_⟩
            · have p9 : p = 9 := by
                rcases hp9 with y | y
                · rw [hx_n (by omega), nLtR (by omega) (by decide)] at z; exact absurd z (Nat.not_lt_zero _)
                · exact y
              rw [Int32.or_zero]
              congr 1
              by_cases e : k + 1 ≤ q.1
              · rw [if_pos (by omega), if_pos e, msk_no]
                rw [if_pos (by omega)] at hpe
                simp [← hpe, p9]
              · rw [if_neg e]
                by_cases e2 : k ≤ q.1
                · rw [if_pos e2]; congr 1; omega
                · rw [if_neg e2]
            · have p4 : p ≠ 9 := fun y => by subst y; exact z (by decide)
              have hkq : k < q.1 := by
                rcases Nat.lt_or_ge k q.1 with y | y
                · exact y
                · rw [if_neg (by omega)] at hpe; exact absurd hpe p4
              rw [if_pos hkq] at hpe
              rw [shl_one (by omega)]
              refine fin _ ?_
              rw [if_pos (by omega), if_pos (by omega), msk_or]
              simp [← hpe, p4]
          refine kX12_findTies_343 (kq2.lay hL) ?_
          try simp (disch := omega) only [nLe, nLeR, nLeL, nLt, nLtR, nLtL, nEq, nEqR, nEqL, nClamp, nClampR, nAdd, nAddR, nAddL, nSub, nSubR, nMul, nMulR, nMulL, nDivR, vIn, vInR, iteZ, iteP, lEq, lEqR, forall_eq, forall_const, true_implies, false_implies, not_true_eq_false, not_false_eq_true, true_and, and_true, implies_true, Decidable.not_not, Nat.le_refl]
          refine ⟨fun z => by omega, fun _ => s_X12_isSeenN a1 a2 (by omega) ?_⟩
          try simp (disch := omega) only [nLe, nLeR, nLeL, nLt, nLtR, nLtL, nEq, nEqR, nEqL, nClamp, nClampR, nAdd, nAddR, nAddL, nSub, nSubR, nMul, nMulR, nMulL, nDivR, vIn, vInR, iteZ, iteP, lEq, lEqR, forall_eq, forall_const, true_implies, false_implies, not_true_eq_false, not_false_eq_true, true_and, and_true, implies_true, Decidable.not_not, Nat.le_refl, a5.1]
          refine ⟨fun z => kX12_findTies_382 a1 (put 9 (Or.inr rfl) ?_), fun z => ⟨fun z2 => kX12_findTies_382 a1 (put 9 (Or.inr rfl) ?_), fun z2 => ?_⟩⟩
          · split
            · unfold PR; rw [if_neg z]
            · rfl
          · rw [if_neg (by omega)]
          · have hkq : k < q.1 := by omega
            have hrw : r < w.1 := a2.2.1 r z
            have hv : q.2.2 k = lN (nv (q.2.2 k)) ∧ nv (q.2.2 k) < 18446744073709551616 := by
              rcases Nat.lt_or_ge (q.2.1 k) 2 with y | y
              · obtain ⟨n, e1, e2⟩ := (hoq k hkq).1 (by omega)
                have := e2.1
                rw [e1, nv_l (by omega)]; exact ⟨rfl, by omega⟩
              · obtain ⟨n, e1, e2⟩ := (hoq k hkq).2 y
                rw [e1, nv_l (by omega)]; exact ⟨rfl, by omega⟩
            refine s_X12_priceAt a1 a3 hob a4 hc a5 hoq hrw hkq hv.1 hv.2 (put _ (pr_le _ _ _ _ _) ?_)
            rw [if_pos hkq]
            unfold PR
            rw [if_pos z]
      refine kX12_findTies_328 (kq.lay hL) ?_
      try simp (disch := omega) only [nLe, nLeR, nLeL, nLt, nLtR, nLtL, nEq, nEqR, nEqL, nClamp, nClampR, nAdd, nAddR, nAddL, nSub, nSubR, nMul, nMulR, nMulL, nDivR, vIn, vInR, iteZ, iteP, lEq, lEqR, forall_eq, forall_const, true_implies, false_implies, not_true_eq_false, not_false_eq_true, true_and, and_true, implies_true, Decidable.not_not, Nat.le_refl]
      refine ⟨fun z => by omega, fun _ => ⟨hr, terms 4 0 _ rfl (kq.sI (by unfold sFt; omega)) ?_ ?_ (fun x hx => ⟨fun j hj => ?_, ?_⟩) (fun j hj => absurd hj (Nat.not_lt_zero j)) ?_⟩⟩
      · exact hT.kq (kq_I (S := fun i _ => i = 88) rfl) (fun i k z => by omega)
      · rw [gI]; simpa using h37
      · rw [gI, if_neg (by omega)]; exact (hH x hx).1 j hj
      · rw [gI, if_neg (by omega)]; exact (hH x hx).2
      · rw [gI, if_pos ⟨rfl, rfl⟩, if_pos (Nat.zero_le _)]; rfl
  -- the lets
  have lets : ∀ (m k : Nat) (G1 : St), k + m = l.1 → Kq sFt G G1 → sI G1 66 37 = nI S → MTi G1 (foldN (fun k f => lSt b w S (l.2 k / 20) (l.2 k % 20) f) k (kFs b w S w.1)) → EvV K mX12_findTies 4 173 [(0, .ref 66), (1, .int (nI k))] [] G1 Q := by
    intro m
    induction m with
    | zero =>
      intro k G1 hm kq h37 hX1
      have ek : k = l.1 := by omega
      subst ek
      obtain ⟨a1, a2, a3, a4, a5, a6⟩ := kk kq
      refine kX12_findTies_173 a1 ?_
      rw [a6.1]
      try simp (disch := omega) only [nLe, nLeR, nLeL, nLt, nLtR, nLtL, nEq, nEqR, nEqL, nClamp, nClampR, nAdd, nAddR, nAddL, nSub, nSubR, nMul, nMulR, nMulL, nDivR, vIn, vInR, iteZ, iteP, lEq, lEqR, forall_eq, forall_const, true_implies, false_implies, not_true_eq_false, not_false_eq_true, true_and, and_true, implies_true, Decidable.not_not, Nat.le_refl]
      exact held 30 0 G1 rfl kq hX1 h37 (fun x hx => absurd hx (Nat.not_lt_zero x))
    | succ m ih =>
      intro k G1 hm kq h37 hX1
      have hk : k < l.1 := by omega
      obtain ⟨o1, o2, o3, o4, o5, o6, o7, o8⟩ := hol k hk
      obtain ⟨a1, a2, a3, a4, a5, a6⟩ := kk kq
      have e84 := (a6.2.2 k hk).1
      have hg : okF (foldN (fun k f => lSt b w S (l.2 k / 20) (l.2 k % 20) f) k (kFs b w S w.1)) := foldN_ind (kFs_ok hor w30 (Nat.le_refl _)) (fun j g hj hg => lSt_ok hg w30 (hol j (by omega)).2.1)
      generalize hx : l.2 k / 20 = x at *
      generalize hy : l.2 k % 20 = y at *
      have hx20 : x < 20 := by omega
      have hy20 : y < 20 := by omega
      -- a text cell's word
      have wrd : ∀ r u, r < w.1 → S.testBit r = true → w.2.1 r = u / 4 → u % 4 < b.2.2.1 (u / 4) → b.2.2.2.2 (u / 4) (u % 4) = 5 → wdI b w S r u ≠ 0 ∧ w.2.2 r (u % 4) = lN (wdI b w S r u) ∧ wdI b w S r u < 282429536481 := by
        intro r u hr hs ht hcu hku
        obtain ⟨n, en, g⟩ := (hc r (u % 4) hr (by rw [ht]; exact hcu)).1 (by rw [ht]; exact hku)
        have := g.1
        have e : wdI b w S r u = n := by
          unfold wdI wdA
          rw [if_pos ⟨hs, ht⟩, if_pos ⟨by rw [ht]; exact hcu, by rw [ht]; exact hku⟩, en, nv_l (by omega)]
        rw [e]
        exact ⟨fun z => g.2 (by rw [z]), en, this⟩
      have inner : ∀ (m c a : Nat) (G2 : St) (g0 : Nat → Nat → Nat), c + m = w.1 → a < w.1 → S.testBit a = true → w.2.1 a = x / 4 → Kq sFt G G2 → sI G2 66 37 = nI S → okF g0 → MTi G2 (foldN (fun c f => if wdI b w S a x ≠ 0 ∧ wdI b w S c y = wdI b w S a x then tAdd f a c 3 else f) c g0) → (∀ G', Kq sFt G G' → sI G' 66 37 = nI S → MTi G' (foldN (fun c f => if wdI b w S a x ≠ 0 ∧ wdI b w S c y = wdI b w S a x then tAdd f a c 3 else f) w.1 g0) → EvV K mX12_findTies 4 314 [(0, .ref 66), (1, .int (nI k)), (2, .int (nI x)), (3, .int (nI y)), (4, .int (nI a))] [] G' Q) → EvV K mX12_findTies 4 216 [(0, .ref 66), (1, .int (nI k)), (2, .int (nI x)), (3, .int (nI y)), (4, .int (nI a)), (5, .int (nI c))] [] G2 Q := by
        intro m2
        induction m2 with
        | zero =>
          intro c a G2 g0 hm2 ha has hat kq2 h372 hg0 hX2 hgo
          have ec : c = w.1 := by omega
          subst ec
          obtain ⟨b1, b2, b3, b4, b5', b6⟩ := kk kq2
          refine kX12_findTies_216 b1 ?_
          rw [b4.1]
          try simp (disch := omega) only [nLe, nLeR, nLeL, nLt, nLtR, nLtL, nEq, nEqR, nEqL, nClamp, nClampR, nAdd, nAddR, nAddL, nSub, nSubR, nMul, nMulR, nMulL, nDivR, vIn, vInR, iteZ, iteP, lEq, lEqR, forall_eq, forall_const, true_implies, false_implies, not_true_eq_false, not_false_eq_true, true_and, and_true, implies_true, Decidable.not_not, Nat.le_refl]
          exact hgo G2 kq2 h372 hX2
        | succ m2 ih2 =>
          intro c a G2 g0 hm2 ha has hat kq2 h372 hg0 hX2 hgo
          have hcw : c < w.1 := by omega
          obtain ⟨b1, b2, b3, b4, b5', b6⟩ := kk kq2
          obtain ⟨ra1, ra2, ra3⟩ := b4.2.2 a ha
          obtain ⟨rc1, rc2, rc3⟩ := b4.2.2 c hcw
          have next : ∀ G3, Kq sFt G G3 → sI G3 66 37 = nI S → MTi G3 (foldN (fun c f => if wdI b w S a x ≠ 0 ∧ wdI b w S c y = wdI b w S a x then tAdd f a c 3 else f) (c + 1) g0) → EvV K mX12_findTies 4 308 [(0, .ref 66), (1, .int (nI k)), (2, .int (nI x)), (3, .int (nI y)), (4, .int (nI a)), (5, .int (nI c))] [] G3 Q := by
            intro G3 k3 h3 x3
            refine kX12_findTies_308 (k3.lay hL) ?_
            try simp (disch := omega) only [nLe, nLeR, nLeL, nLt, nLtR, nLtL, nEq, nEqR, nEqL, nClamp, nClampR, nAdd, nAddR, nAddL, nSub, nSubR, nMul, nMulR, nMulL, nDivR, vIn, vInR, iteZ, iteP, lEq, lEqR, forall_eq, forall_const, true_implies, false_implies, not_true_eq_false, not_false_eq_true, true_and, and_true, implies_true, Decidable.not_not, Nat.le_refl]
            exact ih2 (c + 1) a G3 g0 (by omega) ha has hat k3 h3 hg0 x3 hgo
          have no : ¬ (wdI b w S a x ≠ 0 ∧ wdI b w S c y = wdI b w S a x) → EvV K mX12_findTies 4 308 [(0, .ref 66), (1, .int (nI k)), (2, .int (nI x)), (3, .int (nI y)), (4, .int (nI a)), (5, .int (nI c))] [] G2 Q := fun hn => next G2 kq2 h372 (by rw [foldN, if_neg hn]; exact hX2)
          obtain ⟨wa0, wa1, wa2⟩ := wrd a x ha has hat o4 o5
          refine kX12_findTies_216 b1 ?_
          rw [b4.1]
          try simp (disch := omega) only [nLe, nLeR, nLeL, nLt, nLtR, nLtL, nEq, nEqR, nEqL, nClamp, nClampR, nAdd, nAddR, nAddL, nSub, nSubR, nMul, nMulR, nMulL, nDivR, vIn, vInR, iteZ, iteP, lEq, lEqR, forall_eq, forall_const, true_implies, false_implies, not_true_eq_false, not_false_eq_true, true_and, and_true, implies_true, Decidable.not_not, Nat.le_refl]
          refine ⟨fun z => by omega, fun _ => s_X12_isSeenN b1 b2 (by omega) ?_⟩
          rw [if_pos has]
          refine ⟨fun z => absurd z (by decide), fun _ => ?_⟩
          try simp (disch := omega) only [nLe, nLeR, nLeL, nLt, nLtR, nLtL, nEq, nEqR, nEqL, nClamp, nClampR, nAdd, nAddR, nAddL, nSub, nSubR, nMul, nMulR, nMulL, nDivR, vIn, vInR, iteZ, iteP, lEq, lEqR, forall_eq, forall_const, true_implies, false_implies, not_true_eq_false, not_false_eq_true, true_and, and_true, implies_true, Decidable.not_not, Nat.le_refl, ra2]
          refine ⟨by omega, fun z => absurd hat z, fun _ => s_X12_isSeenN b1 b2 (by omega) ?_⟩
          try simp (disch := omega) only [nLe, nLeR, nLeL, nLt, nLtR, nLtL, nEq, nEqR, nEqL, nClamp, nClampR, nAdd, nAddR, nAddL, nSub, nSubR, nMul, nMulR, nMulL, nDivR, vIn, vInR, iteZ, iteP, lEq, lEqR, forall_eq, forall_const, true_implies, false_implies, not_true_eq_false, not_false_eq_true, true_and, and_true, implies_true, Decidable.not_not, Nat.le_refl, rc2]
          refine ⟨fun z => no (fun u => ?_), fun z => ⟨by omega, fun z2 => no (fun u => ?_), fun z2 => ?_⟩⟩
          · have : wdI b w S c y = 0 := by unfold wdI; rw [if_neg (fun v => z v.1)]
            exact wa0 (u.2 ▸ this)
          · have : wdI b w S c y = 0 := by unfold wdI; rw [if_neg (fun v => z2 v.2)]
            exact wa0 (u.2 ▸ this)
          · obtain ⟨wc0, wc1, wc2⟩ := wrd c y hcw z z2 o7 o8
            rw [show x - x / 4 * 4 = x % 4 by omega, show y - y / 4 * 4 = y % 4 by omega]
            rw [ra3 (x % 4) (by rw [hat]; exact o4), rc3 (y % 4) (by rw [z2]; exact o7), wa1, wc1]
            try simp (disch := omega) only [nLe, nLeR, nLeL, nLt, nLtR, nLtL, nEq, nEqR, nEqL, nClamp, nClampR, nAdd, nAddR, nAddL, nSub, nSubR, nMul, nMulR, nMulL, nDivR, vIn, vInR, iteZ, iteP, lEq, lEqR, forall_eq, forall_const, true_implies, false_implies, not_true_eq_false, not_false_eq_true, true_and, and_true, implies_true, Decidable.not_not, Nat.le_refl]
            refine ⟨by omega, by omega, fun z3 => no (fun u => z3 u.2.symm), fun z3 => ?_⟩
            have hac : a ≠ c := fun e => by subst e; exact o2 (hat.symm.trans z2)
            have hgc : okF (foldN (fun c f => if wdI b w S a x ≠ 0 ∧ wdI b w S c y = wdI b w S a x then tAdd f a c 3 else f) c g0) := by
              refine foldN_ind hg0 (fun i g hi hg => ?_)
              split
              · rename_i u
                refine tAdd_ok hg (by omega) (by omega) (fun e => ?_) (by omega)
                subst e
                have h1 := wdI_0 u.1
                have h2 := wdI_0 (show wdI b w S a y ≠ 0 by rw [u.2]; exact u.1)
                exact o2 (h1.2.1.symm.trans h2.2.1)
              · exact hg
            refine s_X12_ties (p := 3) b1 hX2 hgc (by omega) (by omega) hac (by decide) (by decide) (fun G3 k3 x3 => next G3 (kq2.tr (k3.mono (fun i k z => by unfold sMi at z; unfold sFt; omega))) ?_ ?_)
            · rw [k3.I (by unfold sMi; omega)]; exact h372
            · rw [foldN, if_pos ⟨wa0, z3.symm⟩]; exact x3
      have outer : ∀ (m a : Nat) (G2 : St), a + m = w.1 → Kq sFt G G2 → sI G2 66 37 = nI S → MTi G2 (foldN (fun a f => foldN (fun c f => if wdI b w S a x ≠ 0 ∧ wdI b w S c y = wdI b w S a x then tAdd f a c 3 else f) w.1 f) a (foldN (fun k f => lSt b w S (l.2 k / 20) (l.2 k % 20) f) k (kFs b w S w.1))) → EvV K mX12_findTies 4 204 [(0, .ref 66), (1, .int (nI k)), (2, .int (nI x)), (3, .int (nI y)), (4, .int (nI a))] [] G2 Q := by
        intro m2
        induction m2 with
        | zero =>
          intro a G2 hm2 kq2 h372 hX2
          have ea : a = w.1 := by omega
          subst ea
          obtain ⟨b1, b2, b3, b4, b5', b6⟩ := kk kq2
          refine kX12_findTies_204 b1 ?_
          rw [b4.1]
          try simp (disch := omega) only [nLe, nLeR, nLeL, nLt, nLtR, nLtL, nEq, nEqR, nEqL, nClamp, nClampR, nAdd, nAddR, nAddL, nSub, nSubR, nMul, nMulR, nMulL, nDivR, vIn, vInR, iteZ, iteP, lEq, lEqR, forall_eq, forall_const, true_implies, false_implies, not_true_eq_false, not_false_eq_true, true_and, and_true, implies_true, Decidable.not_not, Nat.le_refl]
          refine ih (k + 1) G2 (by omega) kq2 h372 ?_
          rw [foldN]
          rw [hx, hy]
          exact hX2
        | succ m2 ih2 =>
          intro a G2 hm2 kq2 h372 hX2
          have haw : a < w.1 := by omega
          obtain ⟨b1, b2, b3, b4, b5', b6⟩ := kk kq2
          obtain ⟨ra1, ra2, ra3⟩ := b4.2.2 a haw
          have hga : okF (foldN (fun a f => foldN (fun c f => if wdI b w S a x ≠ 0 ∧ wdI b w S c y = wdI b w S a x then tAdd f a c 3 else f) w.1 f) a (foldN (fun k f => lSt b w S (l.2 k / 20) (l.2 k % 20) f) k (kFs b w S w.1))) := by
            refine foldN_ind hg (fun a g ha hg => foldN_ind hg (fun c g hc hg => ?_))
            split
            · rename_i u
              refine tAdd_ok hg (by omega) (by omega) (fun e => ?_) (by omega)
              subst e
              have h1 := wdI_0 u.1
              have h2 := wdI_0 (show wdI b w S a y ≠ 0 by rw [u.2]; exact u.1)
              exact o2 (h1.2.1.symm.trans h2.2.1)
            · exact hg
          have next : ∀ G3, Kq sFt G G3 → sI G3 66 37 = nI S → MTi G3 (foldN (fun a f => foldN (fun c f => if wdI b w S a x ≠ 0 ∧ wdI b w S c y = wdI b w S a x then tAdd f a c 3 else f) w.1 f) (a + 1) (foldN (fun k f => lSt b w S (l.2 k / 20) (l.2 k % 20) f) k (kFs b w S w.1))) → EvV K mX12_findTies 4 314 [(0, .ref 66), (1, .int (nI k)), (2, .int (nI x)), (3, .int (nI y)), (4, .int (nI a))] [] G3 Q := by
            intro G3 k3 h3 x3
            refine kX12_findTies_314 (k3.lay hL) ?_
            try simp (disch := omega) only [nLe, nLeR, nLeL, nLt, nLtR, nLtL, nEq, nEqR, nEqL, nClamp, nClampR, nAdd, nAddR, nAddL, nSub, nSubR, nMul, nMulR, nMulL, nDivR, vIn, vInR, iteZ, iteP, lEq, lEqR, forall_eq, forall_const, true_implies, false_implies, not_true_eq_false, not_false_eq_true, true_and, and_true, implies_true, Decidable.not_not, Nat.le_refl]
            exact ih2 (a + 1) G3 (by omega) k3 h3 x3
          have skip : wdI b w S a x = 0 → EvV K mX12_findTies 4 314 [(0, .ref 66), (1, .int (nI k)), (2, .int (nI x)), (3, .int (nI y)), (4, .int (nI a))] [] G2 Q := fun h0 => next G2 kq2 h372 (by
            rw [foldN, foldN_id (fun i y _ => if_neg (fun u => u.1 h0))]; exact hX2)
          refine kX12_findTies_204 b1 ?_
          rw [b4.1]
          try simp (disch := omega) only [nLe, nLeR, nLeL, nLt, nLtR, nLtL, nEq, nEqR, nEqL, nClamp, nClampR, nAdd, nAddR, nAddL, nSub, nSubR, nMul, nMulR, nMulL, nDivR, vIn, vInR, iteZ, iteP, lEq, lEqR, forall_eq, forall_const, true_implies, false_implies, not_true_eq_false, not_false_eq_true, true_and, and_true, implies_true, Decidable.not_not, Nat.le_refl]
          refine ⟨fun z => by omega, fun _ => ?_⟩
          by_cases has : S.testBit a = true
          · by_cases hat : w.2.1 a = x / 4
            · exact inner w.1 0 a G2 _ (by omega) haw has hat kq2 h372 hga hX2 (fun G3 k3 h3 x3 => next G3 k3 h3 x3)
            · refine kX12_findTies_216 b1 ?_
              rw [b4.1]
              try simp (disch := omega) only [nLe, nLeR, nLeL, nLt, nLtR, nLtL, nEq, nEqR, nEqL, nClamp, nClampR, nAdd, nAddR, nAddL, nSub, nSubR, nMul, nMulR, nMulL, nDivR, vIn, vInR, iteZ, iteP, lEq, lEqR, forall_eq, forall_const, true_implies, false_implies, not_true_eq_false, not_false_eq_true, true_and, and_true, implies_true, Decidable.not_not, Nat.le_refl]
              refine ⟨fun z => by omega, fun _ => s_X12_isSeenN b1 b2 (by omega) ?_⟩
              rw [if_pos has]
              refine ⟨fun z => absurd z (by decide), fun _ => ?_⟩
              try simp (disch := omega) only [nLe, nLeR, nLeL, nLt, nLtR, nLtL, nEq, nEqR, nEqL, nClamp, nClampR, nAdd, nAddR, nAddL, nSub, nSubR, nMul, nMulR, nMulL, nDivR, vIn, vInR, iteZ, iteP, lEq, lEqR, forall_eq, forall_const, true_implies, false_implies, not_true_eq_false, not_false_eq_true, true_and, and_true, implies_true, Decidable.not_not, Nat.le_refl, ra2]
              refine ⟨by omega, fun _ => skip (by unfold wdI; rw [if_neg (fun u => hat u.2)]), fun z => absurd z hat⟩
          · refine kX12_findTies_216 b1 ?_
            rw [b4.1]
            try simp (disch := omega) only [nLe, nLeR, nLeL, nLt, nLtR, nLtL, nEq, nEqR, nEqL, nClamp, nClampR, nAdd, nAddR, nAddL, nSub, nSubR, nMul, nMulR, nMulL, nDivR, vIn, vInR, iteZ, iteP, lEq, lEqR, forall_eq, forall_const, true_implies, false_implies, not_true_eq_false, not_false_eq_true, true_and, and_true, implies_true, Decidable.not_not, Nat.le_refl]
            refine ⟨fun z => by omega, fun _ => s_X12_isSeenN b1 b2 (by omega) ?_⟩
            rw [if_neg has]
            exact ⟨fun _ => skip (by unfold wdI; rw [if_neg (fun u => has u.1)]), fun z => absurd rfl z⟩
      refine kX12_findTies_173 a1 ?_
      rw [a6.1]
      try simp (disch := omega) only [nLe, nLeR, nLeL, nLt, nLtR, nLtL, nEq, nEqR, nEqL, nClamp, nClampR, nAdd, nAddR, nAddL, nSub, nSubR, nMul, nMulR, nMulL, nDivR, vIn, vInR, iteZ, iteP, lEq, lEqR, forall_eq, forall_const, true_implies, false_implies, not_true_eq_false, not_false_eq_true, true_and, and_true, implies_true, Decidable.not_not, Nat.le_refl, e84]
      refine ⟨fun z => by omega, fun _ => ⟨by omega, by omega, ?_⟩⟩
      have o := outer w.1 0 G1 (by omega) kq h37 hX1
      rw [hx, show l.2 k - x * 20 = y by omega]
      exact o
  -- the keys
  have rows : ∀ (m r : Nat) (G1 : St), r + m = w.1 → Kq sFt G G1 → sI G1 66 37 = nI S → MTi G1 (kFs b w S r) → EvV K mX12_findTies 4 74 [(0, .ref 66), (1, .int (nI r))] [] G1 Q := by
    intro m
    induction m with
    | zero =>
      intro r G1 hm kq h37 hX1
      have er : r = w.1 := by omega
      subst er
      obtain ⟨a1, a2, a3, a4, a5, a6⟩ := kk kq
      refine kX12_findTies_74 a1 ?_
      rw [a4.1]
      try simp (disch := omega) only [nLe, nLeR, nLeL, nLt, nLtR, nLtL, nEq, nEqR, nEqL, nClamp, nClampR, nAdd, nAddR, nAddL, nSub, nSubR, nMul, nMulR, nMulL, nDivR, vIn, vInR, iteZ, iteP, lEq, lEqR, forall_eq, forall_const, true_implies, false_implies, not_true_eq_false, not_false_eq_true, true_and, and_true, implies_true, Decidable.not_not, Nat.le_refl]
      exact lets l.1 0 G1 (by omega) kq h37 hX1
    | succ m ih =>
      intro r G1 hm kq h37 hX1
      have hr : r < w.1 := by omega
      obtain ⟨a1, a2, a3, a4, a5, a6⟩ := kk kq
      have next : ∀ G2, Kq sFt G G2 → sI G2 66 37 = nI S → MTi G2 (kFs b w S (r + 1)) → EvV K mX12_findTies 4 165 [(0, .ref 66), (1, .int (nI r))] [] G2 Q := by
        intro G2 k2 h2 x2
        refine kX12_findTies_165 (k2.lay hL) ?_
        try simp (disch := omega) only [nLe, nLeR, nLeL, nLt, nLtR, nLtL, nEq, nEqR, nEqL, nClamp, nClampR, nAdd, nAddR, nAddL, nSub, nSubR, nMul, nMulR, nMulL, nDivR, vIn, vInR, iteZ, iteP, lEq, lEqR, forall_eq, forall_const, true_implies, false_implies, not_true_eq_false, not_false_eq_true, true_and, and_true, implies_true, Decidable.not_not, Nat.le_refl]
        exact ih (r + 1) G2 (by omega) k2 h2 x2
      obtain ⟨r1, r2, r3⟩ := a4.2.2 r hr
      have h4r := h4 _ r1
      have cols : ∀ (m c : Nat) (G2 : St), c + m = b.2.2.1 (w.2.1 r) → Kq sFt G G2 → sI G2 66 37 = nI S → S.testBit r = true → MTi G2 (foldN (fun c f => kSt b w S r c f) c (kFs b w S r)) → EvV K mX12_findTies 4 84 [(0, .ref 66), (1, .int (nI r)), (2, .int (nI c))] [] G2 Q := by
        intro m2
        induction m2 with
        | zero =>
          intro c G2 hm2 kq2 h372 hs hX2
          have ec : c = b.2.2.1 (w.2.1 r) := by omega
          subst ec
          obtain ⟨b1, b2, b3, b4, b5', b6⟩ := kk kq2
          obtain ⟨rr1, rr2, rr3⟩ := b4.2.2 r hr
          have t2 := (b3.z.2 _ rr1).2.1
          refine kX12_findTies_84 b1 ?_
          try simp (disch := omega) only [nLe, nLeR, nLeL, nLt, nLtR, nLtL, nEq, nEqR, nEqL, nClamp, nClampR, nAdd, nAddR, nAddL, nSub, nSubR, nMul, nMulR, nMulL, nDivR, vIn, vInR, iteZ, iteP, lEq, lEqR, forall_eq, forall_const, true_implies, false_implies, not_true_eq_false, not_false_eq_true, true_and, and_true, implies_true, Decidable.not_not, Nat.le_refl, rr2, t2]
          refine ⟨by omega, by omega, next G2 kq2 h372 ?_⟩
          have : kFs b w S (r + 1) = foldN (fun c f => kSt b w S r c f) 4 (kFs b w S r) := by unfold kFs; rw [foldN, if_pos hs]
          rw [this, foldN_more h4r (fun i y h1 _ => ?_)]
          · exact hX2
          · unfold kSt
            have : kyA b w S r i = none := by unfold kyA; rw [if_neg (by omega)]
            rw [this]
        | succ m2 ih2 =>
          intro c G2 hm2 kq2 h372 hs hX2
          have hcl : c < b.2.2.1 (w.2.1 r) := by omega
          obtain ⟨b1, b2, b3, b4, b5', b6⟩ := kk kq2
          obtain ⟨rr1, rr2, rr3⟩ := b4.2.2 r hr
          have t2 := (b3.z.2 _ rr1).2.1
          have hk6 := hob _ c rr1 hcl
          have hg : okF (foldN (fun c f => kSt b w S r c f) c (kFs b w S r)) := foldN_ind (kFs_ok hor w30 (by omega)) (fun i g _ hg => kSt_ok hg hor hr w30)
          have step : ∀ G3, Kq sFt G G3 → sI G3 66 37 = nI S → MTi G3 (kSt b w S r c (foldN (fun c f => kSt b w S r c f) c (kFs b w S r))) → EvV K mX12_findTies 4 159 [(0, .ref 66), (1, .int (nI r)), (2, .int (nI c))] [] G3 Q := by
            intro G3 k3 h3 x3
            refine kX12_findTies_159 (k3.lay hL) ?_
            try simp (disch := omega) only [nLe, nLeR, nLeL, nLt, nLtR, nLtL, nEq, nEqR, nEqL, nClamp, nClampR, nAdd, nAddR, nAddL, nSub, nSubR, nMul, nMulR, nMulL, nDivR, vIn, vInR, iteZ, iteP, lEq, lEqR, forall_eq, forall_const, true_implies, false_implies, not_true_eq_false, not_false_eq_true, true_and, and_true, implies_true, Decidable.not_not, Nat.le_refl]
            exact ih2 (c + 1) G3 (by omega) k3 h3 hs x3
          have no : kyA b w S r c = none → EvV K mX12_findTies 4 159 [(0, .ref 66), (1, .int (nI r)), (2, .int (nI c))] [] G2 Q := fun hn => step G2 kq2 h372 (by unfold kSt; rw [hn]; exact hX2)
          refine kX12_findTies_84 b1 ?_
          try simp (disch := omega) only [nLe, nLeR, nLeL, nLt, nLtR, nLtL, nEq, nEqR, nEqL, nClamp, nClampR, nAdd, nAddR, nAddL, nSub, nSubR, nMul, nMulR, nMulL, nDivR, vIn, vInR, iteZ, iteP, lEq, lEqR, forall_eq, forall_const, true_implies, false_implies, not_true_eq_false, not_false_eq_true, true_and, and_true, implies_true, Decidable.not_not, Nat.le_refl, rr2, t2]
          refine ⟨by omega, by omega, fun z => by omega, fun _ => s_X12_isSeenN b1 b2 (by omega) ?_⟩
          rw [if_pos hs]
          refine ⟨fun z => absurd z (by decide), fun _ => ?_⟩
          try simp (disch := omega) only [nLe, nLeR, nLeL, nLt, nLtR, nLtL, nEq, nEqR, nEqL, nClamp, nClampR, nAdd, nAddR, nAddL, nSub, nSubR, nMul, nMulR, nMulL, nDivR, vIn, vInR, iteZ, iteP, lEq, lEqR, forall_eq, forall_const, true_implies, false_implies, not_true_eq_false, not_false_eq_true, true_and, and_true, implies_true, Decidable.not_not, Nat.le_refl]
          refine ⟨by omega, s_X12_kindOf b1 b3 b4 hr hcl ?_⟩
          rw [rr3 c hcl]
          try simp (disch := omega) only [nLe, nLeR, nLeL, nLt, nLtR, nLtL, nEq, nEqR, nEqL, nClamp, nClampR, nAdd, nAddR, nAddL, nSub, nSubR, nMul, nMulR, nMulL, nDivR, vIn, vInR, iteZ, iteP, lEq, lEqR, forall_eq, forall_const, true_implies, false_implies, not_true_eq_false, not_false_eq_true, true_and, and_true, implies_true, Decidable.not_not, Nat.le_refl]
          refine ⟨fun z => no (by unfold kyA; rw [if_neg (by omega)]), fun z => ?_⟩
          rcases hor r c hr hcl (by omega) with e | ⟨x, hx, -, e⟩
          · rw [e, show Int64.toInt32 (-1) = -1 from rfl]
            refine s_X12_isSeenM b1 b2 ⟨fun _ => no (by unfold kyA; rw [if_neg (fun u => u.2.2.1 e)]), fun y => absurd rfl y⟩
          · rw [e, lN_i]
            refine s_X12_isSeenN b1 b2 (by omega) ?_
            try simp (disch := omega) only [nLe, nLeR, nLeL, nLt, nLtR, nLtL, nEq, nEqR, nEqL, nClamp, nClampR, nAdd, nAddR, nAddL, nSub, nSubR, nMul, nMulR, nMulL, nDivR, vIn, vInR, iteZ, iteP, lEq, lEqR, forall_eq, forall_const, true_implies, false_implies, not_true_eq_false, not_false_eq_true, true_and, and_true, implies_true, Decidable.not_not, Nat.le_refl]
            have en : nv (w.2.2 r c) = x := by rw [e, nv_l (by omega)]
            refine ⟨fun z2 => no (by unfold kyA; rw [en, if_neg (fun u => z2 u.2.2.2)]), fun z2 => ⟨by omega, ?_⟩⟩
            have hky : kyA b w S r c = some x := by
              unfold kyA
              rw [en, if_pos ⟨hcl, by omega, by rw [e]; exact lN_m1 (by omega), z2⟩]
            have hcp : cntP b w S r c x ≤ w.1 := fb_ct_le _ _
            rw [rr2]
            refine s_X12_pointTo b1 b2 b3 b4 hor hr hcl (by omega) (by omega) z2 ?_
            try simp (disch := omega) only [nLe, nLeR, nLeL, nLt, nLtR, nLtL, nEq, nEqR, nEqL, nClamp, nClampR, nAdd, nAddR, nAddL, nSub, nSubR, nMul, nMulR, nMulL, nDivR, vIn, vInR, iteZ, iteP, lEq, lEqR, forall_eq, forall_const, true_implies, false_implies, not_true_eq_false, not_false_eq_true, true_and, and_true, implies_true, Decidable.not_not, Nat.le_refl]
            refine s_X12_ties b1 hX2 hg (by omega) (by omega) (by omega) (by omega) (by omega) (fun G3 k3 x3 => step G3 (kq2.tr (k3.mono (fun i k z => by unfold sMi at z; unfold sFt; omega))) ?_ ?_)
            · rw [k3.I (by unfold sMi; omega)]; exact h372
            · unfold kSt; rw [hky]; exact x3
      refine kX12_findTies_74 a1 ?_
      rw [a4.1]
      try simp (disch := omega) only [nLe, nLeR, nLeL, nLt, nLtR, nLtL, nEq, nEqR, nEqL, nClamp, nClampR, nAdd, nAddR, nAddL, nSub, nSubR, nMul, nMulR, nMulL, nDivR, vIn, vInR, iteZ, iteP, lEq, lEqR, forall_eq, forall_const, true_implies, false_implies, not_true_eq_false, not_false_eq_true, true_and, and_true, implies_true, Decidable.not_not, Nat.le_refl]
      refine ⟨fun z => by omega, fun _ => ?_⟩
      by_cases hs : S.testBit r = true
      · exact cols _ 0 G1 (Nat.zero_add _) kq h37 hs hX1
      · have same : kFs b w S (r + 1) = kFs b w S r := by unfold kFs; rw [foldN, if_neg hs]
        have t2 := (a3.z.2 _ r1).2.1
        refine kX12_findTies_84 a1 ?_
        try simp (disch := omega) only [nLe, nLeR, nLeL, nLt, nLtR, nLtL, nEq, nEqR, nEqL, nClamp, nClampR, nAdd, nAddR, nAddL, nSub, nSubR, nMul, nMulR, nMulL, nDivR, vIn, vInR, iteZ, iteP, lEq, lEqR, forall_eq, forall_const, true_implies, false_implies, not_true_eq_false, not_false_eq_true, true_and, and_true, implies_true, Decidable.not_not, Nat.le_refl, r2, t2]
        refine ⟨by omega, by omega, fun z => next G1 kq h37 (by rw [same]; exact hX1), fun _ => s_X12_isSeenN a1 a2 (by omega) ?_⟩
        rw [if_neg hs]
        exact ⟨fun _ => next G1 kq h37 (by rw [same]; exact hX1), fun z => absurd rfl z⟩
  -- who is seen
  have td0 : ∀ a, tdF (fun _ _ => 0) a = 0 := fun a => by
    apply Nat.eq_of_testBit_eq
    intro i
    rw [Nat.zero_testBit]
    cases z : (tdF (fun _ _ => 0) a).testBit i
    · rfl
    · exact absurd rfl ((tdF_bit okF_0 a i).mp z)
  have seen : ∀ (m r : Nat) (G1 : St), r + m = 30 → Kq sFt G G1 → (∀ k, k < 900 → sI G1 86 k = -1) → (∀ x, x < r → sI G1 87 x = 0) → sI G1 66 37 = nI (msk (fun i => S.testBit i) r) → EvV K mX12_findTies 4 29 [(0, .ref 66), (1, .int (nI r))] [] G1 Q := by
    intro m
    induction m with
    | zero =>
      intro r G1 hm kq h86 h87 h37
      have er : r = 30 := by omega
      subst er
      have e : msk (fun i => S.testBit i) 30 = S := by
        apply Nat.eq_of_testBit_eq
        intro i
        rw [msk_bit]
        by_cases q : i < 30
        · simp [q]
        · have : S.testBit i = false := by
            cases z : S.testBit i
            · rfl
            · exact absurd (bt_lt (n := 30) hS30 z) q
          rw [this]; simp
      rw [e] at h37
      refine kX12_findTies_29 (kq.lay hL) ?_
      try simp (disch := omega) only [nLe, nLeR, nLeL, nLt, nLtR, nLtL, nEq, nEqR, nEqL, nClamp, nClampR, nAdd, nAddR, nAddL, nSub, nSubR, nMul, nMulR, nMulL, nDivR, vIn, vInR, iteZ, iteP, lEq, lEqR, forall_eq, forall_const, true_implies, false_implies, not_true_eq_false, not_false_eq_true, true_and, and_true, implies_true, Decidable.not_not, Nat.le_refl]
      refine rows w.1 0 G1 (by omega) kq h37 ⟨fun a c ha hc => by rw [h86 _ (by omega)]; rfl, fun a ha => ?_⟩
      rw [h87 a ha]
      show 0 = nI (tdF (fun _ _ => 0) a)
      rw [td0]; rfl
    | succ m ih =>
      intro r G1 hm kq h86 h87 h37
      have kq2 : Kq sFt G (uI G1 87 r 0) := kq.sI (by unfold sFt; omega)
      obtain ⟨a1, a2, a3, a4, a5, a6⟩ := kk kq2
      have put : ∀ y : Int32, nI (msk (fun i => S.testBit i) r) ||| y = nI (msk (fun i => S.testBit i) (r + 1)) → EvV K mX12_findTies 4 62 [(0, .ref 66), (1, .int (nI r))] [.int y, .int (nI (msk (fun i => S.testBit i) r)), .ref 66] (uI G1 87 r 0) Q := by
        intro y hy
        refine kX12_findTies_62 a1 ?_
        rw [hy]
        try simp (disch := omega) only [nLe, nLeR, nLeL, nLt, nLtR, nLtL, nEq, nEqR, nEqL, nClamp, nClampR, nAdd, nAddR, nAddL, nSub, nSubR, nMul, nMulR, nMulL, nDivR, vIn, vInR, iteZ, iteP, lEq, lEqR, forall_eq, forall_const, true_implies, false_implies, not_true_eq_false, not_false_eq_true, true_and, and_true, implies_true, Decidable.not_not, Nat.le_refl]
        refine ih (r + 1) _ (by omega) (kq2.sI (by unfold sFt; omega)) (fun k hk => ?_) (fun x hx => ?_) ?_
        · rw [gI, gI]; simpa using h86 k hk
        · rw [gI, gI]
          by_cases ex : x = r
          · simp [ex]
          · simp [ex]; exact h87 x (by omega)
        · rw [gI, if_pos ⟨rfl, rfl⟩]
      refine kX12_findTies_29 (kq.lay hL) ?_
      try simp (disch := omega) only [nLe, nLeR, nLeL, nLt, nLtR, nLtL, nEq, nEqR, nEqL, nClamp, nClampR, nAdd, nAddR, nAddL, nSub, nSubR, nMul, nMulR, nMulL, nDivR, vIn, vInR, iteZ, iteP, lEq, lEqR, forall_eq, forall_const, true_implies, false_implies, not_true_eq_false, not_false_eq_true, true_and, and_true, implies_true, Decidable.not_not, Nat.le_refl]
      refine ⟨fun z => by omega, fun _ => ⟨by omega, s_X12_isSeenN a1 a2 (by omega) ?_⟩⟩
      rw [h37, shl_one (by omega)]
      try simp (disch := omega) only [nLe, nLeR, nLeL, nLt, nLtR, nLtL, nEq, nEqR, nEqL, nClamp, nClampR, nAdd, nAddR, nAddL, nSub, nSubR, nMul, nMulR, nMulL, nDivR, vIn, vInR, iteZ, iteP, lEq, lEqR, forall_eq, forall_const, true_implies, false_implies, not_true_eq_false, not_false_eq_true, true_and, and_true, implies_true, Decidable.not_not, Nat.le_refl]
      refine ⟨fun z => put 0 ?_, fun z => put _ ?_⟩
      · rw [Int32.or_zero, msk_no (by simpa using z)]
      · rw [msk_or z]
  have clear : ∀ (m k : Nat) (G1 : St), k + m = 900 → Kq sFt G G1 → (∀ j, j < k → sI G1 86 j = -1) → EvV K mX12_findTies 4 2 [(0, .ref 66), (1, .int (nI k))] [] G1 Q := by
    intro m
    induction m with
    | zero =>
      intro k G1 hm kq h86
      have ek : k = 900 := by omega
      subst ek
      refine kX12_findTies_2 (kq.lay hL) ?_
      try simp (disch := omega) only [nLe, nLeR, nLeL, nLt, nLtR, nLtL, nEq, nEqR, nEqL, nClamp, nClampR, nAdd, nAddR, nAddL, nSub, nSubR, nMul, nMulR, nMulL, nDivR, vIn, vInR, iteZ, iteP, lEq, lEqR, forall_eq, forall_const, true_implies, false_implies, not_true_eq_false, not_false_eq_true, true_and, and_true, implies_true, Decidable.not_not, Nat.le_refl]
      refine seen 30 0 _ rfl (kq.sI (by unfold sFt; omega)) (fun k hk => by rw [gI]; simpa using h86 k hk) (fun x hx => absurd hx (Nat.not_lt_zero x)) (by rw [gI, if_pos ⟨rfl, rfl⟩]; rfl)
    | succ m ih =>
      intro k G1 hm kq h86
      refine kX12_findTies_2 (kq.lay hL) ?_
      try simp (disch := omega) only [nLe, nLeR, nLeL, nLt, nLtR, nLtL, nEq, nEqR, nEqL, nClamp, nClampR, nAdd, nAddR, nAddL, nSub, nSubR, nMul, nMulR, nMulL, nDivR, vIn, vInR, iteZ, iteP, lEq, lEqR, forall_eq, forall_const, true_implies, false_implies, not_true_eq_false, not_false_eq_true, true_and, and_true, implies_true, Decidable.not_not, Nat.le_refl]
      refine ⟨fun z => by omega, fun _ => ⟨by omega, ih (k + 1) _ (by omega) (kq.sI (by unfold sFt; omega)) (fun j hj => ?_)⟩⟩
      rw [gI]
      by_cases ej : j = k
      · simp [ej]
      · simp [ej]; exact h86 j (by omega)
  exact kX12_findTies_0 hL (clear 900 0 G rfl Kq.rf (fun j hj => absurd hj (Nat.not_lt_zero j)))
end MTIES

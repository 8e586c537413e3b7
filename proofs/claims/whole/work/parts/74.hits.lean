/-! hits: at what price each row holds each term -/
def PR (b : TBt) (w : RWt) (S : Nat) (q : TQt) (k r : Nat) : Nat := if S.testBit r = true then pr b w r (q.2.1 k) (nv (q.2.2 k)) else 9
theorem PR_le (b : TBt) (w : RWt) (S : Nat) (q : TQt) (k r : Nat) : PR b w S q k r ≤ 4 ∨ PR b w S q k r = 9 := by
  unfold PR
  split
  · exact pr_le _ _ _ _ _
  · exact Or.inr rfl
def mnP (f : Nat → Nat) : Nat → Nat
  | 0 => 9
  | n + 1 => if f n < mnP f n then f n else mnP f n
theorem mnP_hi {f : Nat → Nat} {n : Nat} (h : ¬ f n < mnP f n) : mnP f (n + 1) = mnP f n := by rw [mnP, if_neg h]
theorem mnP_lo {f : Nat → Nat} {n : Nat} (h : f n < mnP f n) : mnP f (n + 1) = f n := by rw [mnP, if_pos h]
theorem mnP_le (f : Nat → Nat) : ∀ n, mnP f n ≤ 9
  | 0 => Nat.le_refl _
  | n + 1 => by
    have := mnP_le f n
    rw [mnP]
    split <;> omega
theorem mnP_all {f : Nat → Nat} : ∀ {n : Nat}, ∀ j, j < n → mnP f n ≤ f j
  | 0, j, h => absurd h (Nat.not_lt_zero j)
  | n + 1, j, h => by
    rw [mnP]
    rcases Nat.lt_succ_iff_lt_or_eq.mp h with q | q
    · have := mnP_all (f := f) j q
      split <;> omega
    · subst q
      split <;> omega
theorem mnP_one {f : Nat → Nat} : ∀ {n : Nat}, mnP f n = 9 ∨ ∃ j, j < n ∧ f j = mnP f n
  | 0 => Or.inl rfl
  | n + 1 => by
    rw [mnP]
    split
    · exact Or.inr ⟨n, Nat.lt_succ_self n, rfl⟩
    · rcases mnP_one (f := f) (n := n) with q | ⟨j, a, b⟩
      · exact Or.inl q
      · exact Or.inr ⟨j, Nat.lt_succ_of_lt a, b⟩
theorem msk_or {f : Nat → Bool} {n : Nat} (h : f n = true) : nI (msk f n) ||| nI (2 ^ n) = nI (msk f (n + 1)) := by
  rw [fa_or]
  congr 1
  apply Nat.eq_of_testBit_eq
  intro i
  rw [fb_bit_set, msk_bit, msk_bit]
  by_cases e : i = n
  · subst e; simp [h]
  · have : i < n + 1 ↔ i < n := by omega
    simp [e, this]
theorem msk_no {f : Nat → Bool} {n : Nat} (h : f n = false) : msk f (n + 1) = msk f n := by
  rw [msk, if_neg (by rw [h]; decide), Nat.add_zero]
theorem msk_cong {f g : Nat → Bool} : ∀ {n : Nat}, (∀ j, j < n → f j = g j) → msk f n = msk g n
  | 0, _ => rfl
  | n + 1, h => by rw [msk, msk, msk_cong (fun j hj => h j (by omega)), h n (by omega)]
def XHk (G : St) (P : Nat → Nat → Nat) (k r : Nat) : Prop := (∀ x, x < r → sI G 6 (30 * k + x) = hx (P k x)) ∧ sI G 8 k = nI (msk (fun x => P k x != 9) r) ∧ sI G 9 k = hx (mnP (P k) r)
def XHp (G : St) (P : Nat → Nat → Nat) (n k r : Nat) : Prop := (∀ j, j < k → XHk G P j n) ∧ ∀ x, x < 30 → sI G 10 x = nI (msk (fun j => P j x != 9) (if x < r then k + 1 else k))
/-- hits: P the prices, n rows, t terms -/
def XHt (G : St) (P : Nat → Nat → Nat) (n t : Nat) : Prop := XHp G P n t 0
def sHt : Nat → Nat → Prop := fun i _ => i = 6 ∨ i = 8 ∨ i = 9 ∨ i = 10
section HITS
variable {K : KT} {G : St} {h t : Nat} {b : TBt} {w : RWt} {q : TQt} {P : Nat → Nat → Nat}
theorem XHt.kq {S : Nat → Nat → Prop} {G1 : St} {n m : Nat} (hh : XHt G P n m) (hk : Kq S G G1) (hs : ∀ i k, S i k → ¬ sHt i k) : XHt G1 P n m := by
  refine ⟨fun j hj => ?_, fun x hx => ?_⟩
  · obtain ⟨a, b, c⟩ := hh.1 j hj
    refine ⟨fun x hx => ?_, ?_, ?_⟩
    · rw [hk.I (fun z => hs _ _ z (by unfold sHt; omega))]; exact a x hx
    · rw [hk.I (fun z => hs _ _ z (by unfold sHt; omega))]; exact b
    · rw [hk.I (fun z => hs _ _ z (by unfold sHt; omega))]; exact c
  · rw [hk.I (fun z => hs _ _ z (by unfold sHt; omega))]; exact hh.2 x hx
theorem s_X0_keep {Q : St → Prop} {n k r : Nat} (hL : Lay G.2.2) (hk : k < 4) (hn : n ≤ 30) (hr : r < n) (hp : P k r ≤ 4 ∨ P k r = 9) (h1 : XHp G P n k r) (h2 : XHk G P k r) (hQ : ∀ G', Kq sHt G G' → XHp G' P n k (r + 1) → XHk G' P k (r + 1) → Q G') : EvV K mX0_keep 0 0 [(0, .ref 5), (1, .int (nI r)), (2, .int (nI k)), (3, .int (hx (P k r)))] [] G Q := by
  obtain ⟨a1, a2, a3⟩ := id h2
  have hr30 : r < 30 := by omega
  have h10 := h1.2 r hr30
  rw [if_neg (Nat.lt_irrefl _)] at h10
  have fin : ∀ G' : St, Kq sHt G G' → (∀ j, sI G' 6 j = if j = 30 * k + r then hx (P k r) else sI G 6 j) → (∀ j, sI G' 8 j = if j = k then nI (msk (fun x => P k x != 9) (r + 1)) else sI G 8 j) → (∀ j, sI G' 9 j = if j = k then hx (mnP (P k) (r + 1)) else sI G 9 j) → (∀ x, sI G' 10 x = if x = r then nI (msk (fun j => P j x != 9) (k + 1)) else sI G 10 x) → Q G' := by
    intro G' kq e6 e8 e9 e10
    refine hQ G' kq ⟨fun j hj => ?_, fun x hx => ?_⟩ ⟨fun x hx => ?_, ?_, ?_⟩
    · obtain ⟨b1, b2, b3⟩ := h1.1 j hj
      refine ⟨fun x hx => ?_, ?_, ?_⟩
      · rw [e6, if_neg (by omega)]; exact b1 x hx
      · rw [e8, if_neg (by omega)]; exact b2
      · rw [e9, if_neg (by omega)]; exact b3
    · rw [e10]
      by_cases e : x = r
      · subst e; rw [if_pos rfl, if_pos (by omega)]
      · rw [if_neg e, h1.2 x hx]
        have : x < r + 1 ↔ x < r := by omega
        simp only [this]
    · rw [e6]
      by_cases e : x = r
      · subst e; rw [if_pos rfl]
      · rw [if_neg (by omega)]; exact a1 x (by omega)
    · rw [e8, if_pos rfl]
    · rw [e9, if_pos rfl]
  have ix6 : k * 30 + r = 30 * k + r := by omega
  refine kX0_keep_0 hL ?_
  by_cases e : P k r = 9
  · rw [e, hx_9]
    try simp (disch := omega) only [nLe, nLeR, nLeL, nLt, nLtR, nLtL, nEq, nEqR, nEqL, nClamp, nClampR, nAdd, nAddR, nAddL, nSub, nSubR, nMul, nMulR, nMulL, nDivR, vIn, vInR, iteZ, iteP, lEq, lEqR, forall_eq, forall_const, true_implies, false_implies, not_true_eq_false, not_false_eq_true, true_and, and_true, implies_true, Decidable.not_not, Nat.le_refl]
    refine ⟨by omega, fin _ (kq_I (by unfold sHt; omega)) (fun j => ?_) (fun j => ?_) (fun j => ?_) (fun x => ?_)⟩
    · rw [gI, ix6, e, hx_9]; simp
    · rw [gI, msk_no (by simp [e])]
      by_cases ej : j = k
      · subst ej; simp [a2]
      · simp [ej]
    · rw [gI, mnP_hi (by have := mnP_le (P k) r; omega)]
      by_cases ej : j = k
      · subst ej; simp [a3]
      · simp [ej]
    · rw [gI]
      by_cases ex : x = r
      · subst ex; rw [if_pos rfl, msk_no (by simp [e])]; simp [h10]
      · simp [ex]
  · rw [hx_n e]
    have p4 : P k r ≤ 4 := by omega
    have hne : ¬ nI (P k r) = -1 := nI_m1 (by omega)
    try simp (disch := omega) only [nLe, nLeR, nLeL, nLt, nLtR, nLtL, nEq, nEqR, nEqL, nClamp, nClampR, nAdd, nAddR, nAddL, nSub, nSubR, nMul, nMulR, nMulL, nDivR, vIn, vInR, iteZ, iteP, lEq, lEqR, forall_eq, forall_const, true_implies, false_implies, not_true_eq_false, not_false_eq_true, true_and, and_true, implies_true, Decidable.not_not, Nat.le_refl]
    refine ⟨by omega, fun _ => ⟨by omega, by omega, by omega, by omega, ?_⟩, fun z => absurd z hne⟩
    rw [shl_one (by omega), shl_one (by omega), a2, h10, msk_or (by simp [e]), msk_or (by simp [e])]
    generalize e6 : uI (uI (uI G 6 (k * 30 + r) (nI (P k r))) 8 k (nI (msk (fun x => P k x != 9) (r + 1)))) 10 r (nI (msk (fun j => P j r != 9) (k + 1))) = G6
    have g9 : ∀ j, sI G6 9 j = sI G 9 j := fun j => by rw [← e6]; simp [gI]
    have kq6 : Kq sHt G G6 := by
      rw [← e6]
      exact ((kq_I (by unfold sHt; omega)).sI (by unfold sHt; omega)).sI (by unfold sHt; omega)
    have r6 : ∀ j, sI G6 6 j = if j = 30 * k + r then hx (P k r) else sI G 6 j := fun j => by rw [← e6, hx_n e]; simp [gI, ix6]
    have r8 : ∀ j, sI G6 8 j = if j = k then nI (msk (fun x => P k x != 9) (r + 1)) else sI G 8 j := fun j => by rw [← e6]; simp [gI]
    have r10 : ∀ x, sI G6 10 x = if x = r then nI (msk (fun j => P j x != 9) (k + 1)) else sI G 10 x := fun x => by
      rw [← e6]
      by_cases ex : x = r
      · subst ex; simp [gI]
      · simp [gI, ex]
    have hm := mnP_le (P k) r
    have low : mnP (P k) (r + 1) = P k r → EvV K mX0_keep 0 62 [(0, .ref 5), (2, .int (nI k)), (3, .int (nI (P k r)))] [] G6 Q := by
      intro em
      refine kX0_keep_62 (kq6.lay hL) ?_
      try simp (disch := omega) only [nLe, nLeR, nLeL, nLt, nLtR, nLtL, nEq, nEqR, nEqL, nClamp, nClampR, nAdd, nAddR, nAddL, nSub, nSubR, nMul, nMulR, nMulL, nDivR, vIn, vInR, iteZ, iteP, lEq, lEqR, forall_eq, forall_const, true_implies, false_implies, not_true_eq_false, not_false_eq_true, true_and, and_true, implies_true, Decidable.not_not, Nat.le_refl]
      refine ⟨by omega, fin _ (kq6.sI (by unfold sHt; omega)) (fun j => ?_) (fun j => ?_) (fun j => ?_) (fun x => ?_)⟩
      · rw [gI]; simp [r6]
      · rw [gI]; simp [r8]
      · rw [gI, em, hx_n e]; simp [g9]
      · rw [gI]; simp [r10]
    rw [g9, a3]
    refine ⟨by omega, fun z => low ?_, fun z => ⟨by omega, fun z2 => ?_, fun z2 => low ?_⟩⟩
    · rw [mnP_lo (by rw [(hx_m1 hm).mp z]; omega)]
    · have z' : mnP (P k) r ≠ 9 := fun y => z ((hx_m1 hm).mpr y)
      rw [hx_n z', nLe (by omega) (by omega)] at z2
      refine fin G6 kq6 r6 r8 (fun j => ?_) r10
      rw [g9, mnP_hi (by omega)]
      by_cases ej : j = k
      · subst ej; simp [a3]
      · simp [ej]
    · have z' : mnP (P k) r ≠ 9 := fun y => z ((hx_m1 hm).mpr y)
      rw [hx_n z', nLe (by omega) (by omega)] at z2
      rw [mnP_lo (by omega)]
def okSe (w : RWt) (S : Nat) : Prop := ∀ r, S.testBit r = true → r < w.1
theorem s_X0_fill {Q : St → Prop} {S : Nat} (hL : Lay G.2.2) (hh : h = 39 ∨ h = 49) (ht : t = 59 ∨ t = 62) (hb : XTb G h b) (hw : XRw G h b w) (hob : okTb b) (hc : okC b w) (hq : XTq G t q) (hoq : okQ q) (hS : S < 2 ^ 30) (hSe : okSe w S) (hQ : ∀ G', Kq sHt G G' → XHt G' (PR b w S q) w.1 q.1 → Q G') : EvV K mX0_fill 4 0 [(0, .ref 5), (1, .ref h), (2, .ref t), (3, .int (nI S))] [] G Q := by
  have w30 := hw.2.1
  have q4 := hq.2.1
  have hs8 : ∀ i k, sHt i k → i = 6 ∨ i = 8 ∨ i = 9 ∨ i = 10 := fun i k z => z
  have rows : ∀ (m r k : Nat) (G1 : St), r + m = w.1 → k < q.1 → Kq sHt G G1 → XHp G1 (PR b w S q) w.1 k r → XHk G1 (PR b w S q) k r → (∀ G', Kq sHt G G' → XHp G' (PR b w S q) w.1 k w.1 → XHk G' (PR b w S q) k w.1 → EvV K mX0_fill 4 11 [(0, .ref 5), (1, .ref h), (2, .ref t), (3, .int (nI S)), (4, .int (nI (k + 1)))] [] G' Q) → EvV K mX0_fill 4 39 [(0, .ref 5), (1, .ref h), (2, .ref t), (3, .int (nI S)), (4, .int (nI k)), (5, .int (nI r))] [] G1 Q := by
    intro m
    induction m with
    | zero =>
      intro r k G1 hm hk kq h1 h2 hgo
      have er : r = w.1 := by omega
      subst er
      have hw1 : XRw G1 h b w := hw.kq kq (fun i k z => by unfold sHt at z; omega)
      refine kX0_fill_39 (kq.lay hL) hh ht ?_
      rw [hw1.1]
      try simp (disch := omega) only [nLe, nLeR, nLeL, nLt, nLtR, nLtL, nEq, nEqR, nEqL, nClamp, nClampR, nAdd, nAddR, nAddL, nSub, nSubR, nMul, nMulR, nMulL, nDivR, vIn, vInR, iteZ, iteP, lEq, lEqR, forall_eq, forall_const, true_implies, false_implies, not_true_eq_false, not_false_eq_true, true_and, and_true, implies_true, Decidable.not_not, Nat.le_refl]
      exact hgo G1 kq h1 h2
    | succ m ih =>
      intro r k G1 hm hk kq h1 h2 hgo
      have hw1 : XRw G1 h b w := hw.kq kq (fun i k z => by unfold sHt at z; omega)
      have hb1 : XTb G1 h b := hb.kq kq (fun i k z => by unfold sHt at z; omega)
      have hq1 : XTq G1 t q := hq.kq kq (fun i k z => by unfold sHt at z; omega)
      have hL1 := kq.lay hL
      have hr : r < w.1 := by omega
      have go : EvV K mX0_fill 4 93 [(0, .ref 5), (1, .ref h), (2, .ref t), (3, .int (nI S)), (4, .int (nI k)), (5, .int (nI r))] [.int (hx (PR b w S q k r))] G1 Q := by
        refine kX0_fill_93 hL1 hh ht (s_X0_keep hL1 (by omega) w30 hr (PR_le _ _ _ _ _ _) h1 h2 (fun G2 k2 a1 a2 => ?_))
        try simp (disch := omega) only [nLe, nLeR, nLeL, nLt, nLtR, nLtL, nEq, nEqR, nEqL, nClamp, nClampR, nAdd, nAddR, nAddL, nSub, nSubR, nMul, nMulR, nMulL, nDivR, vIn, vInR, iteZ, iteP, lEq, lEqR, forall_eq, forall_const, true_implies, false_implies, not_true_eq_false, not_false_eq_true, true_and, and_true, implies_true, Decidable.not_not, Nat.le_refl]
        exact ih (r + 1) k G2 (by omega) hk (kq.tr k2) a1 a2 hgo
      refine kX0_fill_39 hL1 hh ht ?_
      rw [hw1.1, bit_at (by omega) (by omega)]
      try simp (disch := omega) only [nLe, nLeR, nLeL, nLt, nLtR, nLtL, nEq, nEqR, nEqL, nClamp, nClampR, nAdd, nAddR, nAddL, nSub, nSubR, nMul, nMulR, nMulL, nDivR, vIn, vInR, iteZ, iteP, lEq, lEqR, forall_eq, forall_const, true_implies, false_implies, not_true_eq_false, not_false_eq_true, true_and, and_true, implies_true, Decidable.not_not, Nat.le_refl]
      refine ⟨fun z => by omega, fun _ => ?_⟩
      by_cases e : S.testBit r = true
      · rw [if_pos e]
        try simp (disch := omega) only [nLe, nLeR, nLeL, nLt, nLtR, nLtL, nEq, nEqR, nEqL, nClamp, nClampR, nAdd, nAddR, nAddL, nSub, nSubR, nMul, nMulR, nMulL, nDivR, vIn, vInR, iteZ, iteP, lEq, lEqR, forall_eq, forall_const, true_implies, false_implies, not_true_eq_false, not_false_eq_true, true_and, and_true, implies_true, Decidable.not_not, Nat.le_refl]
        refine ⟨fun z => by omega, fun _ => kX0_fill_62 hL1 hh ht ?_⟩
        obtain ⟨b1, b2, b3⟩ := hq1.2.2 k hk
        try simp (disch := omega) only [nLe, nLeR, nLeL, nLt, nLtR, nLtL, nEq, nEqR, nEqL, nClamp, nClampR, nAdd, nAddR, nAddL, nSub, nSubR, nMul, nMulR, nMulL, nDivR, vIn, vInR, iteZ, iteP, lEq, lEqR, forall_eq, forall_const, true_implies, false_implies, not_true_eq_false, not_false_eq_true, true_and, and_true, implies_true, Decidable.not_not, Nat.le_refl, b1, b3]
        refine ⟨fun z => absurd z (by decide), fun _ => ⟨by omega, by omega, ?_⟩⟩
        have hv : q.2.2 k = lN (nv (q.2.2 k)) ∧ nv (q.2.2 k) < 18446744073709551616 := by
          rcases Nat.lt_or_ge (q.2.1 k) 2 with z | z
          · obtain ⟨n, e1, e2⟩ := (hoq k hk).1 (by omega)
            have := e2.1
            rw [e1, nv_l (by omega)]; exact ⟨rfl, by omega⟩
          · obtain ⟨n, e1, e2⟩ := (hoq k hk).2 z
            rw [e1, nv_l (by omega)]; exact ⟨rfl, by omega⟩
        have := s_X0_priceOf (K := K) (G := G1) (Q := fun r3 G3 => EvV K mX0_fill 4 93 [(0, .ref 5), (1, .ref h), (2, .ref t), (3, .int (nI S)), (4, .int (nI k)), (5, .int (nI r))] [.int r3] G3 Q) hL1 hh hb1 hw1 hob hc hr hk b2 hoq hv.1 hv.2 (by
          have e2 : PR b w S q k r = pr b w r (q.2.1 k) (nv (q.2.2 k)) := by unfold PR; rw [if_pos e]
          rw [← e2]; exact go)
        rw [← hv.1] at this
        exact this
      · rw [if_neg e]
        try simp (disch := omega) only [nLe, nLeR, nLeL, nLt, nLtR, nLtL, nEq, nEqR, nEqL, nClamp, nClampR, nAdd, nAddR, nAddL, nSub, nSubR, nMul, nMulR, nMulL, nDivR, vIn, vInR, iteZ, iteP, lEq, lEqR, forall_eq, forall_const, true_implies, false_implies, not_true_eq_false, not_false_eq_true, true_and, and_true, implies_true, Decidable.not_not, Nat.le_refl]
        refine kX0_fill_62 hL1 hh ht ⟨fun _ => ?_, fun z => absurd rfl z⟩
        have e2 : PR b w S q k r = 9 := by unfold PR; rw [if_neg e]
        rw [e2, hx_9] at go
        exact go
  have terms : ∀ (m k : Nat) (G1 : St), k + m = q.1 → Kq sHt G G1 → XHp G1 (PR b w S q) w.1 k 0 → EvV K mX0_fill 4 11 [(0, .ref 5), (1, .ref h), (2, .ref t), (3, .int (nI S)), (4, .int (nI k))] [] G1 Q := by
    intro m
    induction m with
    | zero =>
      intro k G1 hm kq h1
      have ek : k = q.1 := by omega
      subst ek
      have hq1 : XTq G1 t q := hq.kq kq (fun i k z => by unfold sHt at z; omega)
      refine kX0_fill_11 (kq.lay hL) hh ht ?_
      rw [hq1.1]
      try simp (disch := omega) only [nLe, nLeR, nLeL, nLt, nLtR, nLtL, nEq, nEqR, nEqL, nClamp, nClampR, nAdd, nAddR, nAddL, nSub, nSubR, nMul, nMulR, nMulL, nDivR, vIn, vInR, iteZ, iteP, lEq, lEqR, forall_eq, forall_const, true_implies, false_implies, not_true_eq_false, not_false_eq_true, true_and, and_true, implies_true, Decidable.not_not, Nat.le_refl]
      exact hQ G1 kq h1
    | succ m ih =>
      intro k G1 hm kq h1
      have hq1 : XTq G1 t q := hq.kq kq (fun i k z => by unfold sHt at z; omega)
      refine kX0_fill_11 (kq.lay hL) hh ht ?_
      rw [hq1.1]
      try simp (disch := omega) only [nLe, nLeR, nLeL, nLt, nLtR, nLtL, nEq, nEqR, nEqL, nClamp, nClampR, nAdd, nAddR, nAddL, nSub, nSubR, nMul, nMulR, nMulL, nDivR, vIn, vInR, iteZ, iteP, lEq, lEqR, forall_eq, forall_const, true_implies, false_implies, not_true_eq_false, not_false_eq_true, true_and, and_true, implies_true, Decidable.not_not, Nat.le_refl]
      refine ⟨fun z => by omega, fun _ => ⟨by omega, by omega, ?_⟩⟩
      have kq2 : Kq sHt G (uI (uI G1 8 k 0) 9 k (-1)) := (kq.sI (by unfold sHt; omega)).sI (by unfold sHt; omega)
      refine rows w.1 0 k _ (by omega) (by omega) kq2 ⟨fun j hj => ?_, fun x hx => ?_⟩ ⟨fun x hx => absurd hx (Nat.not_lt_zero x), ?_, ?_⟩ (fun G2 k2 a1 a2 => ?_)
      · obtain ⟨b1, b2, b3⟩ := h1.1 j hj
        have ne : j ≠ k := by omega
        refine ⟨fun x hx => ?_, ?_, ?_⟩
        · rw [gI, gI]; simp; exact b1 x hx
        · rw [gI, gI]; simp [ne]; exact b2
        · rw [gI, gI]; simp [ne]; exact b3
      · rw [gI, gI]; simp; have := h1.2 x hx; simpa using this
      · rw [gI, gI]; simp [msk]; rfl
      · rw [gI]; simp [mnP, hx_9]
      · refine ih (k + 1) G2 (by omega) k2 ⟨fun j hj => ?_, fun x hx => ?_⟩
        · rcases Nat.lt_succ_iff_lt_or_eq.mp hj with z | z
          · exact a1.1 j z
          · subst z; exact a2
        · have := a1.2 x hx
          rw [this]
          by_cases z : x < w.1
          · rw [if_pos z, if_neg (Nat.not_lt_zero _)]
          · rw [if_neg z, if_neg (Nat.not_lt_zero _), msk_no]
            have : S.testBit x = false := by
              cases e : S.testBit x
              · rfl
              · exact absurd (hSe x e) z
            simp [PR, this]
  refine kX0_fill_0 hL hh ht (s_J7_fill hL (la_10 hL) (by decide) (fun G1 k1 a1 _ _ => ?_))
  refine terms q.1 0 G1 (by omega) (k1.q.mono (fun i k z => by unfold sHt; omega)) ⟨fun j hj => absurd hj (Nat.not_lt_zero j), fun x hx => ?_⟩
  rw [a1 x hx]; simp [msk]; rfl
/-- priceAt -/
theorem s_X0_priceAt {Q : Int32 → St → Prop} {n m k r : Nat} (hL : Lay G.2.2) (hH : XHt G P n m) (hn : n ≤ 30) (hm : m ≤ 4) (hr : r < n) (hk : k < m) (hQ : Q (hx (P k r)) G) : EvI K mX0_priceAt 0 0 [(0, .ref 5), (1, .int (nI r)), (2, .int (nI k))] [] G Q := by
  have hv := (hH.1 k hk).1 r hr
  refine kX0_priceAt_0 hL ?_
  try simp (disch := omega) only [nLe, nLeR, nLeL, nLt, nLtR, nLtL, nEq, nEqR, nEqL, nClamp, nClampR, nAdd, nAddR, nAddL, nSub, nSubR, nMul, nMulR, nMulL, nDivR, vIn, vInR, iteZ, iteP, lEq, lEqR, forall_eq, forall_const, true_implies, false_implies, not_true_eq_false, not_false_eq_true, true_and, and_true, implies_true, Decidable.not_not, Nat.le_refl]
  refine ⟨fun z => by omega, fun _ => ⟨fun z => by omega, fun _ => ⟨fun z => by omega, fun _ => ⟨fun z => by omega, fun _ => kX0_priceAt_24 hL ?_⟩⟩⟩⟩
  try simp (disch := omega) only [nLe, nLeR, nLeL, nLt, nLtR, nLtL, nEq, nEqR, nEqL, nClamp, nClampR, nAdd, nAddR, nAddL, nSub, nSubR, nMul, nMulR, nMulL, nDivR, vIn, vInR, iteZ, iteP, lEq, lEqR, forall_eq, forall_const, true_implies, false_implies, not_true_eq_false, not_false_eq_true, true_and, and_true, implies_true, Decidable.not_not, Nat.le_refl]
  refine ⟨fun z => absurd z (by decide), fun _ => ⟨by omega, ?_⟩⟩
  rw [show k * 30 + r = 30 * k + r by omega, hv]
  exact hQ
end HITS

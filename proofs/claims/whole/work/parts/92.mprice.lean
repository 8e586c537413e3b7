/-! the model: at what price a row holds a term -/
def nm4 (P : Nat) (o : Bool) : Nat := if o = true then (if 4 < P then 4 else P) else P
theorem nm4_le {P : Nat} {o : Bool} (h : P ≤ 9) : nm4 P o ≤ 9 := by
  unfold nm4
  split
  · split <;> omega
  · exact h
theorem nm4_more {P : Nat} {o : Bool} : (if 4 < nm4 P o then 4 else nm4 P o) = nm4 P true := by
  unfold nm4
  cases o
  · simp
  · by_cases h : 4 < P
    · simp [h]
    · simp [h]
theorem anyB_s (p : Nat → Bool) (n : Nat) : anyB p (n + 1) = (anyB p n || p n) := rfl
theorem prC_e0 {b : TBt} {w : RWt} {r kd v c : Nat} (h : kd = 0) : prC b w r kd v c = if anyB (fun c => wdA b w r c == v) c = true then 0 else if anyB (fun c => wdA b w r c != 0 && ofm (wdA b w r c) v) c = true then 1 else 9 := by unfold prC; rw [if_pos h]
theorem prC_e1 {b : TBt} {w : RWt} {r kd v c : Nat} (h : kd = 1) : prC b w r kd v c = if anyB (fun c => wdA b w r c == v) c = true then 0 else if anyB (fun c => wdA b w r c != 0 && apX (wdA b w r c) v) c = true then 2 else 9 := by
  unfold prC
  rw [if_neg (show ¬ kd = 0 by omega), if_pos h]
theorem prC_e2 {b : TBt} {w : RWt} {r kd v c : Nat} (h : kd = 2) : prC b w r kd v c = if anyB (fun c => decide (v + 1 < nuA b w r c)) c = true then 1 else 9 := by
  unfold prC
  rw [if_neg (show ¬ kd = 0 by omega), if_neg (show ¬ kd = 1 by omega), if_pos h]
theorem prC_e3 {b : TBt} {w : RWt} {r kd v c : Nat} (h : kd = 3) : prC b w r kd v c = if anyB (fun c => decide (0 < nuA b w r c ∧ nuA b w r c < v + 1)) c = true then 1 else 9 := by
  unfold prC
  rw [if_neg (show ¬ kd = 0 by omega), if_neg (show ¬ kd = 1 by omega), if_neg (show ¬ kd = 2 by omega)]
section MPRICE
variable {K : KT} {G : St} {b : TBt} {w : RWt} {q : TQt}
theorem s_X12_priceAt {Q : Int32 → St → Prop} {r k v : Nat} (hL : Lay G.2.2) (hb : MTb G 0 b) (hob : okTb b) (hw : MRw G b w) (hc : okC b w) (hq : MTq G q) (hoq : okQ q) (hr : r < w.1) (hk : k < q.1) (hv : q.2.2 k = lN v) (hv64 : v < 18446744073709551616) (hQ : Q (hx (pr b w r (q.2.1 k) v)) G) : EvI K mX12_priceAt 3 0 [(0, .ref 66), (1, .int (nI r)), (2, .int (nI k))] [] G Q := by
  have w30 := hw.2.1
  have b5 := hb.2.1
  have q4 := hq.2.1
  obtain ⟨q1, q2, q3⟩ := hq.2.2 k hk
  obtain ⟨r1, r2, r3⟩ := hw.2.2 r hr
  obtain ⟨t1, t2, t3, t4⟩ := hb.z.2 _ r1
  have h8 : (27 : Nat) ^ 8 = 282429536481 := by decide
  generalize hkd : q.2.1 k = kd at *
  have inj : ∀ n, n < 18446744073709551616 → q.2.2 k = lN n → n = v := fun n hn e => by
    have := congrArg nv (hv.symm.trans e)
    rw [nv_l hv64, nv_l hn] at this
    exact this.symm
  have gv : kd ≤ 1 → gw v := fun z => by
    obtain ⟨n, e, g⟩ := (hoq k hk).1 (by omega)
    have := inj n (by have := g.1; omega) e
    rw [← this]; exact g
  have lv : 2 ≤ kd → v < 10000 := fun z => by
    obtain ⟨n, e, g⟩ := (hoq k hk).2 (by omega)
    have := inj n (by omega) e
    omega
  have vlt : v < 282429536481 := by
    rcases Nat.lt_or_ge kd 2 with z | z
    · exact (gv (by omega)).1
    · have := lv z; omega
  have v0 : kd ≤ 1 → v ≠ 0 := fun z e => (gv z).2 (by rw [e])
  -- behind the cells
  have names : ∀ (m c : Nat), c + m = b.2.2.1 (w.2.1 r) → EvI K mX12_priceAt 3 236 [(0, .ref 66), (2, .int (nI k)), (3, .int (hx (nm4 (prC b w r kd v 4) (decide (kd = 0) && anyB (fun c => b.2.2.2.1 (w.2.1 r) c == lN v) c)))), (4, .long (lN v)), (6, .int (nI (w.2.1 r))), (7, .int (nI c))] [] G Q := by
    have last : ∀ x, x ≤ 9 → (x = nm4 (prC b w r kd v 4) (decide (kd = 0) && anyB (fun c => b.2.2.2.1 (w.2.1 r) c == lN v) (b.2.2.1 (w.2.1 r)))) → EvI K mX12_priceAt 3 291 [(0, .ref 66), (2, .int (nI k)), (3, .int (hx x)), (4, .long (lN v)), (6, .int (nI (w.2.1 r)))] [] G Q := by
      intro x hx9 hxe
      refine kX12_priceAt_291 hL ?_
      have hP := prC_le b w r kd v 4
      try simp (disch := omega) only [nLe, nLeR, nLeL, nLt, nLtR, nLtL, nEq, nEqR, nEqL, nClamp, nClampR, nAdd, nAddR, nAddL, nSub, nSubR, nMul, nMulR, nMulL, nDivR, vIn, vInR, iteZ, iteP, lEq, lEqR, forall_eq, forall_const, true_implies, false_implies, not_true_eq_false, not_false_eq_true, true_and, and_true, implies_true, Decidable.not_not, Nat.le_refl, q1, t1]
      refine ⟨by omega, fun z => ?_, fun z => ⟨by omega, fun z2 => ?_, fun z2 => ?_⟩⟩
      · have e0 : decide (kd = 0) = false := by simpa using z
        rw [e0] at hxe
        have : pr b w r kd v = x := by
          rw [hxe]; unfold nm4 pr prC; simp only [Bool.false_and, Bool.false_eq_true, if_false]; rw [if_neg z, if_neg z]
        rw [this] at hQ; exact hQ
      · subst z
        have hfc : anyB (fun c => b.2.2.2.1 (w.2.1 r) c == lN v) (b.2.2.1 (w.2.1 r)) = true ↔ fC b (w.2.1 r) (lN v) < b.2.2.1 (w.2.1 r) := by unfold fC; rw [first_ex, anyB_iff]
        have : pr b w r 0 v = x := by
          rw [hxe]
          unfold nm4 pr prC
          simp only [if_true, decide_true, Bool.true_and]
          by_cases a1 : anyB (fun c => wdA b w r c == v) 4 = true
          · rw [if_pos a1, if_pos a1]; simp
          · rw [if_neg a1, if_neg a1]
            by_cases a2 : anyB (fun c => wdA b w r c != 0 && ofm (wdA b w r c) v) 4 = true
            · rw [if_pos a2, if_pos a2]; simp
            · rw [if_neg a2, if_neg a2, if_neg z2]
              by_cases a3 : anyB (fun c => b.2.2.2.1 (w.2.1 r) c == lN v) (b.2.2.1 (w.2.1 r)) = true
              · rw [if_pos (hfc.mp a3), if_pos a3]; simp
              · rw [if_neg (fun y => a3 (hfc.mpr y)), if_neg a3]
        rw [this] at hQ; exact hQ
      · subst z
        refine s_X12_least (y := 3) hL hx9 (by decide) ?_
        have : pr b w r 0 v = if 3 < x then 3 else x := by
          rw [hxe]
          unfold nm4 pr prC
          simp only [if_true, decide_true, Bool.true_and]
          by_cases a1 : anyB (fun c => wdA b w r c == v) 4 = true
          · rw [if_pos a1, if_pos a1]; simp
          · rw [if_neg a1, if_neg a1]
            by_cases a2 : anyB (fun c => wdA b w r c != 0 && ofm (wdA b w r c) v) 4 = true
            · rw [if_pos a2, if_pos a2]; simp
            · rw [if_neg a2, if_neg a2, if_pos z2]
              by_cases a3 : anyB (fun c => b.2.2.2.1 (w.2.1 r) c == lN v) (b.2.2.1 (w.2.1 r)) = true
              · rw [if_pos a3]; simp
              · rw [if_neg a3]; simp
        rw [this] at hQ; exact hQ
    have hP := prC_le b w r kd v 4
    intro m
    induction m with
    | zero =>
      intro c hm
      have ec : c = b.2.2.1 (w.2.1 r) := by omega
      subst ec
      refine kX12_priceAt_236 hL ?_
      try simp (disch := omega) only [nLe, nLeR, nLeL, nLt, nLtR, nLtL, nEq, nEqR, nEqL, nClamp, nClampR, nAdd, nAddR, nAddL, nSub, nSubR, nMul, nMulR, nMulL, nDivR, vIn, vInR, iteZ, iteP, lEq, lEqR, forall_eq, forall_const, true_implies, false_implies, not_true_eq_false, not_false_eq_true, true_and, and_true, implies_true, Decidable.not_not, Nat.le_refl, t2]
      refine ⟨by omega, last _ (nm4_le hP) rfl⟩
    | succ m ih =>
      intro c hm
      have hcl : c < b.2.2.1 (w.2.1 r) := by omega
      obtain ⟨n1, -⟩ := t4 c hcl
      refine kX12_priceAt_236 hL ?_
      try simp (disch := omega) only [nLe, nLeR, nLeL, nLt, nLtR, nLtL, nEq, nEqR, nEqL, nClamp, nClampR, nAdd, nAddR, nAddL, nSub, nSubR, nMul, nMulR, nMulL, nDivR, vIn, vInR, iteZ, iteP, lEq, lEqR, forall_eq, forall_const, true_implies, false_implies, not_true_eq_false, not_false_eq_true, true_and, and_true, implies_true, Decidable.not_not, Nat.le_refl, t2, q1, n1]
      refine ⟨by omega, fun z => by omega, fun _ => ⟨by omega, fun z => last _ (nm4_le hP) (by rw [show decide (kd = 0) = false from by simpa using z]; rfl), fun z => ⟨by omega, fun z2 => kX12_priceAt_284 hL ?_, fun z2 => ?_⟩⟩⟩
      · try simp (disch := omega) only [nLe, nLeR, nLeL, nLt, nLtR, nLtL, nEq, nEqR, nEqL, nClamp, nClampR, nAdd, nAddR, nAddL, nSub, nSubR, nMul, nMulR, nMulL, nDivR, vIn, vInR, iteZ, iteP, lEq, lEqR, forall_eq, forall_const, true_implies, false_implies, not_true_eq_false, not_false_eq_true, true_and, and_true, implies_true, Decidable.not_not, Nat.le_refl]
        have := ih (c + 1) (by omega)
        have e : anyB (fun c => b.2.2.2.1 (w.2.1 r) c == lN v) (c + 1) = anyB (fun c => b.2.2.2.1 (w.2.1 r) c == lN v) c := by rw [anyB]; simp [z2]
        rw [e] at this
        exact this
      · refine s_X12_least (y := 4) hL (nm4_le hP) (by decide) (kX12_priceAt_284 hL ?_)
        try simp (disch := omega) only [nLe, nLeR, nLeL, nLt, nLtR, nLtL, nEq, nEqR, nEqL, nClamp, nClampR, nAdd, nAddR, nAddL, nSub, nSubR, nMul, nMulR, nMulL, nDivR, vIn, vInR, iteZ, iteP, lEq, lEqR, forall_eq, forall_const, true_implies, false_implies, not_true_eq_false, not_false_eq_true, true_and, and_true, implies_true, Decidable.not_not, Nat.le_refl]
        have := ih (c + 1) (by omega)
        have e : anyB (fun c => b.2.2.2.1 (w.2.1 r) c == lN v) (c + 1) = true := anyB_iff.mpr ⟨c, by omega, by simp [z2]⟩
        rw [e, show decide (kd = 0) = true from by simpa using z] at this
        rw [nm4_more]
        exact this
  -- the cells
  have cells : ∀ (m c : Nat), c + m = b.2.2.1 (w.2.1 r) → EvI K mX12_priceAt 3 21 [(0, .ref 66), (1, .int (nI r)), (2, .int (nI k)), (3, .int (hx (prC b w r kd v c))), (4, .long (lN v)), (6, .int (nI (w.2.1 r))), (7, .int (nI c))] [] G Q := by
    intro m
    induction m with
    | zero =>
      intro c hm
      have ec : c = b.2.2.1 (w.2.1 r) := by omega
      subst ec
      refine kX12_priceAt_21 hL ?_
      try simp (disch := omega) only [nLe, nLeR, nLeL, nLt, nLtR, nLtL, nEq, nEqR, nEqL, nClamp, nClampR, nAdd, nAddR, nAddL, nSub, nSubR, nMul, nMulR, nMulL, nDivR, vIn, vInR, iteZ, iteP, lEq, lEqR, forall_eq, forall_const, true_implies, false_implies, not_true_eq_false, not_false_eq_true, true_and, and_true, implies_true, Decidable.not_not, Nat.le_refl, t2]
      refine ⟨by omega, ?_⟩
      have := names (b.2.2.1 (w.2.1 r)) 0 (by omega)
      rw [prC_4 (fun z => v0 z) t3]
      rw [anyB, Bool.and_false] at this
      exact this
    | succ m ih =>
      intro c hm
      have hcl : c < b.2.2.1 (w.2.1 r) := by omega
      have hk6 := hob _ c r1 hcl
      have hcell := r3 c hcl
      obtain ⟨okc5, okc6⟩ := hc r c hr hcl
      have hP := prC_le b w r kd v c
      have next : ∀ x : Int32, x = hx (prC b w r kd v (c + 1)) → EvI K mX12_priceAt 3 227 [(0, .ref 66), (1, .int (nI r)), (2, .int (nI k)), (3, .int x), (4, .long (lN v)), (6, .int (nI (w.2.1 r))), (7, .int (nI c))] [] G Q := by
        intro x hxe
        subst hxe
        refine kX12_priceAt_227 hL ?_
        try simp (disch := omega) only [nLe, nLeR, nLeL, nLt, nLtR, nLtL, nEq, nEqR, nEqL, nClamp, nClampR, nAdd, nAddR, nAddL, nSub, nSubR, nMul, nMulR, nMulL, nDivR, vIn, vInR, iteZ, iteP, lEq, lEqR, forall_eq, forall_const, true_implies, false_implies, not_true_eq_false, not_false_eq_true, true_and, and_true, implies_true, Decidable.not_not, Nat.le_refl]
        exact ih (c + 1) (by omega)
      refine kX12_priceAt_21 hL ?_
      try simp (disch := omega) only [nLe, nLeR, nLeL, nLt, nLtR, nLtL, nEq, nEqR, nEqL, nClamp, nClampR, nAdd, nAddR, nAddL, nSub, nSubR, nMul, nMulR, nMulL, nDivR, vIn, vInR, iteZ, iteP, lEq, lEqR, forall_eq, forall_const, true_implies, false_implies, not_true_eq_false, not_false_eq_true, true_and, and_true, implies_true, Decidable.not_not, Nat.le_refl, t2, hcell]
      refine ⟨by omega, fun z => by omega, fun _ => ⟨by omega, s_X12_kindOf hL hb hw hr hcl ?_⟩⟩
      try simp (disch := omega) only [nLe, nLeR, nLeL, nLt, nLtR, nLtL, nEq, nEqR, nEqL, nClamp, nClampR, nAdd, nAddR, nAddL, nSub, nSubR, nMul, nMulR, nMulL, nDivR, vIn, vInR, iteZ, iteP, lEq, lEqR, forall_eq, forall_const, true_implies, false_implies, not_true_eq_false, not_false_eq_true, true_and, and_true, implies_true, Decidable.not_not, Nat.le_refl, q1]
      -- over, under
      have num : 2 ≤ kd → EvI K mX12_priceAt 3 75 [(0, .ref 66), (1, .int (nI r)), (2, .int (nI k)), (3, .int (hx (prC b w r kd v c))), (4, .long (lN v)), (6, .int (nI (w.2.1 r))), (7, .int (nI c)), (8, .long (w.2.2 r c)), (10, .int (nI (b.2.2.2.2 (w.2.1 r) c)))] [] G Q := by
        intro h2
        have hv4 := lv h2
        have step : prC b w r kd v (c + 1) = if (if kd = 2 then decide (v + 1 < nuA b w r c) else decide (0 < nuA b w r c ∧ nuA b w r c < v + 1)) = true then 1 else prC b w r kd v c := by
          by_cases e : kd = 2
          · rw [prC_e2 e, prC_e2 e, if_pos e, anyB]
            cases decide (v + 1 < nuA b w r c) <;> simp
          · have e3 : kd = 3 := by omega
            rw [prC_e3 e3, prC_e3 e3, if_neg e, anyB]
            cases decide (0 < nuA b w r c ∧ nuA b w r c < v + 1) <;> simp
        have no : (if kd = 2 then decide (v + 1 < nuA b w r c) else decide (0 < nuA b w r c ∧ nuA b w r c < v + 1)) = false → EvI K mX12_priceAt 3 115 [(0, .ref 66), (1, .int (nI r)), (2, .int (nI k)), (3, .int (hx (prC b w r kd v c))), (4, .long (lN v)), (6, .int (nI (w.2.1 r))), (7, .int (nI c))] [] G Q := by
          intro hn
          refine kX12_priceAt_115 hL (kX12_priceAt_116 hL ⟨fun _ => next _ (by rw [step, hn]; rfl), fun y => absurd rfl y⟩)
        have yes : (if kd = 2 then decide (v + 1 < nuA b w r c) else decide (0 < nuA b w r c ∧ nuA b w r c < v + 1)) = true → EvI K mX12_priceAt 3 116 [(0, .ref 66), (1, .int (nI r)), (2, .int (nI k)), (3, .int (hx (prC b w r kd v c))), (4, .long (lN v)), (6, .int (nI (w.2.1 r))), (7, .int (nI c))] [.int 1] G Q := by
          intro hy
          refine kX12_priceAt_116 hL ⟨fun y => absurd y (by decide), fun _ => next _ (by rw [step, if_pos hy]; rfl)⟩
        refine kX12_priceAt_75 hL ?_
        try simp (disch := omega) only [nLe, nLeR, nLeL, nLt, nLtR, nLtL, nEq, nEqR, nEqL, nClamp, nClampR, nAdd, nAddR, nAddL, nSub, nSubR, nMul, nMulR, nMulL, nDivR, vIn, vInR, iteZ, iteP, lEq, lEqR, forall_eq, forall_const, true_implies, false_implies, not_true_eq_false, not_false_eq_true, true_and, and_true, implies_true, Decidable.not_not, Nat.le_refl, q1]
        refine ⟨fun z => no ?_, fun z => ⟨by omega, ?_⟩⟩
        · have : nuA b w r c = 0 := by unfold nuA; rw [if_neg (fun y => z y.2)]
          rw [this]; simp
        · obtain ⟨n, en, hn⟩ := okc6 z
          have hnu : nuA b w r c = n + 1 := by unfold nuA; rw [if_pos ⟨hcl, z⟩, en, nv_l (by omega)]
          rw [en, pk_lLT (by omega) (by omega), pk_lLT (by omega) (by omega)]
          refine ⟨fun z2 => ⟨fun z3 => no ?_, fun z3 => yes ?_⟩, fun z2 => ⟨fun z3 => no ?_, fun z3 => yes ?_⟩⟩
          · rw [if_neg z2, hnu]; simp; omega
          · rw [if_neg z2, hnu]; simp; omega
          · rw [if_pos z2, hnu]; simp; omega
          · rw [if_pos z2, hnu]; simp; omega
      have word : kd ≤ 1 → ¬ (b.2.2.2.2 (w.2.1 r) c = 5 ∧ w.2.2 r c = lN v) → EvI K mX12_priceAt 3 151 [(0, .ref 66), (1, .int (nI r)), (2, .int (nI k)), (3, .int (hx (prC b w r kd v c))), (4, .long (lN v)), (6, .int (nI (w.2.1 r))), (7, .int (nI c)), (8, .long (w.2.2 r c)), (10, .int (nI (b.2.2.2.2 (w.2.1 r) c)))] [] G Q := by
        intro h1 hne
        have hv0 := v0 h1
        have hnex : (wdA b w r c == v) = false := by
          unfold wdA
          split
          · rename_i z
            obtain ⟨n, en, g⟩ := okc5 z.2
            have := g.1
            rw [en, nv_l (by omega)]
            simp
            intro e
            exact hne ⟨z.2, by rw [en, e]⟩
          · simp; omega
        have ex1 : anyB (fun c => wdA b w r c == v) (c + 1) = anyB (fun c => wdA b w r c == v) c := by rw [anyB, hnex]; simp
        -- nothing here
        have stay : prC b w r kd v (c + 1) = prC b w r kd v c → EvI K mX12_priceAt 3 227 [(0, .ref 66), (1, .int (nI r)), (2, .int (nI k)), (3, .int (hx (prC b w r kd v c))), (4, .long (lN v)), (6, .int (nI (w.2.1 r))), (7, .int (nI c))] [] G Q := fun e => next _ (by rw [e])
        have form : (kd = 1 → (wdA b w r c != 0 && apX (wdA b w r c) v) = false) → EvI K mX12_priceAt 3 186 [(0, .ref 66), (1, .int (nI r)), (2, .int (nI k)), (3, .int (hx (prC b w r kd v c))), (4, .long (lN v)), (6, .int (nI (w.2.1 r))), (7, .int (nI c)), (8, .long (w.2.2 r c)), (10, .int (nI (b.2.2.2.2 (w.2.1 r) c)))] [] G Q := by
          intro hnear
          have stay1 : kd = 1 → prC b w r kd v (c + 1) = prC b w r kd v c := by
            intro e
            rw [prC_e1 e, prC_e1 e, ex1, anyB_s (fun c => wdA b w r c != 0 && apX (wdA b w r c) v), hnear e]
            simp
          have stay0 : kd = 0 → (wdA b w r c != 0 && ofm (wdA b w r c) v) = false → prC b w r kd v (c + 1) = prC b w r kd v c := by
            intro e hn
            rw [prC_e0 e, prC_e0 e, ex1, anyB_s (fun c => wdA b w r c != 0 && ofm (wdA b w r c) v), hn]
            simp
          refine kX12_priceAt_186 hL ?_
          try simp (disch := omega) only [nLe, nLeR, nLeL, nLt, nLtR, nLtL, nEq, nEqR, nEqL, nClamp, nClampR, nAdd, nAddR, nAddL, nSub, nSubR, nMul, nMulR, nMulL, nDivR, vIn, vInR, iteZ, iteP, lEq, lEqR, forall_eq, forall_const, true_implies, false_implies, not_true_eq_false, not_false_eq_true, true_and, and_true, implies_true, Decidable.not_not, Nat.le_refl, q1]
          refine ⟨fun z => stay ?_, fun z => ⟨by omega, fun z2 => stay (stay1 (by omega)), fun z2 => ?_⟩⟩
          · rcases Nat.lt_or_ge kd 1 with y | y
            · refine stay0 (by omega) ?_
              have : wdA b w r c = 0 := by unfold wdA; rw [if_neg (fun y => z y.2)]
              rw [this]; rfl
            · exact stay1 (by omega)
          · obtain ⟨n, en, g⟩ := okc5 z
            have hn8 := g.1
            have hwd : wdA b w r c = n := by unfold wdA; rw [if_pos ⟨hcl, z⟩, en, nv_l (by omega)]
            have hn0 : n ≠ 0 := fun e => g.2 (by rw [e])
            rw [en]
            have yes : ofm n v = true → EvI K mX12_priceAt 3 221 [(0, .ref 66), (1, .int (nI r)), (2, .int (nI k)), (3, .int (hx (prC b w r kd v c))), (4, .long (lN v)), (6, .int (nI (w.2.1 r))), (7, .int (nI c))] [] G Q := by
              intro ho
              refine kX12_priceAt_221 hL (s_X12_least (y := 1) hL hP (by decide) (next _ ?_))
              congr 1
              rw [prC_e0 z2, prC_e0 z2, ex1, anyB_s (fun c => wdA b w r c != 0 && ofm (wdA b w r c) v), hwd, ho]
              have : (n != 0) = true := by simpa using hn0
              rw [this]
              by_cases a1 : anyB (fun c => wdA b w r c == v) c = true
              · rw [if_pos a1, if_pos a1]; simp
              · rw [if_neg a1, if_neg a1]
                by_cases a2 : anyB (fun c => wdA b w r c != 0 && ofm (wdA b w r c) v) c = true
                · rw [if_pos a2]; simp
                · rw [if_neg a2]; simp
            refine s_X12_hasS (by omega) (by omega) hL ?_
            try simp (disch := omega) only [nLe, nLeR, nLeL, nLt, nLtR, nLtL, nEq, nEqR, nEqL, nClamp, nClampR, nAdd, nAddR, nAddL, nSub, nSubR, nMul, nMulR, nMulL, nDivR, vIn, vInR, iteZ, iteP, lEq, lEqR, forall_eq, forall_const, true_implies, false_implies, not_true_eq_false, not_false_eq_true, true_and, and_true, implies_true, Decidable.not_not, Nat.le_refl]
            refine ⟨fun z3 => yes (by unfold ofm; simp [z3]), fun z3 => s_X12_hasS (by omega) (by omega) hL ?_⟩
            try simp (disch := omega) only [nLe, nLeR, nLeL, nLt, nLtR, nLtL, nEq, nEqR, nEqL, nClamp, nClampR, nAdd, nAddR, nAddL, nSub, nSubR, nMul, nMulR, nMulL, nDivR, vIn, vInR, iteZ, iteP, lEq, lEqR, forall_eq, forall_const, true_implies, false_implies, not_true_eq_false, not_false_eq_true, true_and, and_true, implies_true, Decidable.not_not, Nat.le_refl]
            refine ⟨fun z4 => stay (stay0 z2 (by rw [hwd]; unfold ofm; simp [z3, z4])), fun z4 => yes (by unfold ofm; simp [z4])⟩
        refine kX12_priceAt_151 hL ?_
        try simp (disch := omega) only [nLe, nLeR, nLeL, nLt, nLtR, nLtL, nEq, nEqR, nEqL, nClamp, nClampR, nAdd, nAddR, nAddL, nSub, nSubR, nMul, nMulR, nMulL, nDivR, vIn, vInR, iteZ, iteP, lEq, lEqR, forall_eq, forall_const, true_implies, false_implies, not_true_eq_false, not_false_eq_true, true_and, and_true, implies_true, Decidable.not_not, Nat.le_refl, q1]
        refine ⟨fun z => form (fun _ => ?_), fun z => ⟨by omega, fun z2 => form (fun y => absurd y z2), fun z2 => ?_⟩⟩
        · have : wdA b w r c = 0 := by unfold wdA; rw [if_neg (fun y => z y.2)]
          rw [this]; rfl
        · obtain ⟨n, en, g⟩ := okc5 z
          have hn8 := g.1
          have hwd : wdA b w r c = n := by unfold wdA; rw [if_pos ⟨hcl, z⟩, en, nv_l (by omega)]
          have hn0 : n ≠ 0 := fun e => g.2 (by rw [e])
          have goal := form
          rw [en] at goal ⊢
          refine s_X12_isNear (by omega) (by omega) hL ?_
          try simp (disch := omega) only [nLe, nLeR, nLeL, nLt, nLtR, nLtL, nEq, nEqR, nEqL, nClamp, nClampR, nAdd, nAddR, nAddL, nSub, nSubR, nMul, nMulR, nMulL, nDivR, vIn, vInR, iteZ, iteP, lEq, lEqR, forall_eq, forall_const, true_implies, false_implies, not_true_eq_false, not_false_eq_true, true_and, and_true, implies_true, Decidable.not_not, Nat.le_refl]
          refine ⟨fun z3 => goal (fun _ => by rw [hwd]; simp [z3]), fun z3 => s_X12_least (y := 2) hL hP (by decide) (next _ ?_)⟩
          congr 1
          rw [prC_e1 z2, prC_e1 z2, ex1, anyB_s (fun c => wdA b w r c != 0 && apX (wdA b w r c) v), hwd, z3]
          have : (n != 0) = true := by simpa using hn0
          rw [this]
          by_cases a1 : anyB (fun c => wdA b w r c == v) c = true
          · rw [if_pos a1, if_pos a1]; simp
          · rw [if_neg a1, if_neg a1]
            by_cases a2 : anyB (fun c => wdA b w r c != 0 && apX (wdA b w r c) v) c = true
            · rw [if_pos a2]; simp
            · rw [if_neg a2]; simp
      refine ⟨by omega, fun z => num (by omega), fun z => ⟨by omega, fun z2 => ⟨fun z3 => word (by omega) (fun y => z3 y.1), fun z3 => ⟨fun z4 => word (by omega) (fun y => z4 y.2), fun z4 => next _ ?_⟩⟩, fun z2 => num (by omega)⟩⟩
      have hk1 : kd ≤ 1 := by omega
      have hwd : wdA b w r c = v := by unfold wdA; rw [if_pos ⟨hcl, z3⟩, z4, nv_l (by omega)]
      have ex : anyB (fun c => wdA b w r c == v) (c + 1) = true := anyB_iff.mpr ⟨c, by omega, by simp [hwd]⟩
      have : prC b w r kd v (c + 1) = 0 := by
        by_cases k0 : kd = 0
        · rw [prC_e0 k0, if_pos ex]
        · rw [prC_e1 (by omega), if_pos ex]
      rw [this]; rfl
  refine kX12_priceAt_0 hL ?_
  try simp (disch := omega) only [nLe, nLeR, nLeL, nLt, nLtR, nLtL, nEq, nEqR, nEqL, nClamp, nClampR, nAdd, nAddR, nAddL, nSub, nSubR, nMul, nMulR, nMulL, nDivR, vIn, vInR, iteZ, iteP, lEq, lEqR, forall_eq, forall_const, true_implies, false_implies, not_true_eq_false, not_false_eq_true, true_and, and_true, implies_true, Decidable.not_not, Nat.le_refl, q3, r2]
  rw [hv]
  refine ⟨by omega, by omega, ?_⟩
  have := cells (b.2.2.1 (w.2.1 r)) 0 (by omega)
  have e0 : prC b w r kd v 0 = 9 := by unfold prC; simp [anyB]
  rw [e0] at this
  exact this
end MPRICE

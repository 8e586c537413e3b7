/-! by price, of equal ones as they are: counting -/
def eqc (c : Nat → Nat) (v : Nat) (s : Nat) : Bool := c s == v
def ol (J : List Nat) (c : Nat → Nat) : Nat → List Nat
  | 0 => []
  | N + 1 => ol J c N ++ J.filter (eqc c N)
theorem ol_mono (J : List Nat) (c : Nat → Nat) {a : Nat} : ∀ {b : Nat}, a ≤ b → (ol J c a).length ≤ (ol J c b).length
  | 0, h => by
    have : a = 0 := by omega
    subst this; exact Nat.le_refl _
  | b + 1, h => by
    by_cases e : a = b + 1
    · subst e; exact Nat.le_refl _
    · have := ol_mono J c (a := a) (b := b) (by omega)
      rw [ol, List.length_append]; omega
theorem ol_succ (J : List Nat) (c : Nat → Nat) (v : Nat) : (ol J c (v + 1)).length = (ol J c v).length + (J.filter (eqc c v)).length := by rw [ol, List.length_append]
theorem ol_get {J : List Nat} {c : Nat → Nat} {v j : Nat} : ∀ {N : Nat}, v < N → j < (J.filter (eqc c v)).length → (ol J c N)[(ol J c v).length + j]? = (J.filter (eqc c v))[j]?
  | 0, h, _ => absurd h (Nat.not_lt_zero v)
  | N + 1, h, hj => by
    rw [ol]
    by_cases e : v = N
    · subst e
      rw [List.getElem?_append_right (Nat.le_add_right _ _), Nat.add_sub_cancel_left]
    · have h1 := ol_succ J c v
      have h2 := ol_mono J c (a := v + 1) (b := N) (by omega)
      rw [List.getElem?_append_left (by omega)]
      exact ol_get (by omega) hj
theorem ol_ex {J : List Nat} {c : Nat → Nat} {k : Nat} : ∀ {N : Nat}, k < (ol J c N).length → ∃ v j, v < N ∧ j < (J.filter (eqc c v)).length ∧ k = (ol J c v).length + j
  | 0, h => absurd h (Nat.not_lt_zero k)
  | N + 1, h => by
    rw [ol_succ] at h
    rcases Nat.lt_or_ge k (ol J c N).length with q | q
    · obtain ⟨v, j, a, b, d⟩ := ol_ex q
      exact ⟨v, j, by omega, b, d⟩
    · exact ⟨N, k - (ol J c N).length, by omega, by omega, by omega⟩
theorem ol_len {J : List Nat} {c : Nat → Nat} : ∀ {N : Nat}, (ol J c N).length = (J.filter (fun s => decide (c s < N))).length
  | 0 => by
    rw [ol, List.filter_eq_nil_iff.mpr (fun a _ => by simp)]
  | N + 1 => by
    rw [ol_succ, ol_len]
    induction J with
    | nil => rfl
    | cons a l ih =>
      rcases Nat.lt_trichotomy (c a) N with q | q | q
      · rw [List.filter_cons_of_pos (by simp [q]), List.filter_cons_of_neg (by simp [eqc]; omega), List.filter_cons_of_pos (by simp; omega), List.length_cons, List.length_cons]; omega
      · rw [List.filter_cons_of_neg (by simp; omega), List.filter_cons_of_pos (by simp [eqc, q]), List.filter_cons_of_pos (by simp; omega), List.length_cons, List.length_cons]; omega
      · rw [List.filter_cons_of_neg (by simp; omega), List.filter_cons_of_neg (by simp [eqc]; omega), List.filter_cons_of_neg (by simp; omega)]; exact ih
theorem ol_all {J : List Nat} {c : Nat → Nat} {N : Nat} (h : ∀ s, s ∈ J → c s < N) : (ol J c N).length = J.length := by
  rw [ol_len, List.filter_eq_self.mpr (fun a ha => by simp [h a ha])]
theorem ol_more {J : List Nat} {c : Nat → Nat} {N : Nat} (h : ∀ s, s ∈ J → c s < N) : ∀ {M : Nat}, N ≤ M → ol J c M = ol J c N
  | 0, hm => by
    have : N = 0 := by omega
    subst this; rfl
  | M + 1, hm => by
    by_cases e : N = M + 1
    · subst e; rfl
    · rw [ol, ol_more h (show N ≤ M by omega), List.filter_eq_nil_iff.mpr (fun a ha => by have := h a ha; simp [eqc]; omega), List.append_nil]
theorem ol_mem {J : List Nat} {c : Nat → Nat} {s : Nat} : ∀ {N : Nat}, s ∈ ol J c N ↔ s ∈ J ∧ c s < N
  | 0 => by simp [ol]
  | N + 1 => by
    rw [ol, List.mem_append, ol_mem, List.mem_filter]
    simp only [eqc, beq_iff_eq]
    constructor
    · rintro (⟨a, b⟩ | ⟨a, b⟩)
      · exact ⟨a, by omega⟩
      · exact ⟨a, by omega⟩
    · rintro ⟨a, b⟩
      by_cases e : c s = N
      · exact Or.inr ⟨a, e⟩
      · exact Or.inl ⟨a, by omega⟩
/-- one more of the list, counted -/
theorem take_filter {J : List Nat} {i s : Nat} (q : Nat → Bool) (h : J[i]? = some s) : (J.take (i + 1)).filter q = (J.take i).filter q ++ if q s = true then [s] else [] := by
  have hi := getE_lt h
  have e : J[i] = s := by rw [List.getElem?_eq_getElem hi] at h; exact Option.some.inj h
  rw [List.take_succ_eq_append_getElem hi, List.filter_append, e]
  congr 1
  by_cases hq : q s = true
  · rw [if_pos hq, List.filter_cons_of_pos hq]; rfl
  · rw [if_neg hq, List.filter_cons_of_neg hq]; rfl
theorem take_filter_le {J : List Nat} {i : Nat} (q : Nat → Bool) : ((J.take i).filter q).length ≤ (J.filter q).length := by
  conv => rhs; rw [← List.take_append_drop i J]
  rw [List.filter_append, List.length_append]; omega
theorem take_filter_get {J : List Nat} {i j : Nat} (q : Nat → Bool) (h : j < ((J.take i).filter q).length) : (J.filter q)[j]? = ((J.take i).filter q)[j]? := by
  conv => lhs; rw [← List.take_append_drop i J]
  rw [List.filter_append, List.getElem?_append_left h]
/-- found ones with their prices -/
def XFv (G : St) (f P : Nat → Nat → Nat) (t : Nat) (J : List Nat) : Prop := sI G 18 17 = nI J.length ∧ J.length ≤ sN G (sR G 18 9) ∧ ∀ i s, J[i]? = some s → sL G (sR G 18 9) i = lN (vJ f P t s)
/-- in order -/
def XOr (G : St) (f P : Nat → Nat → Nat) (t : Nat) (J : List Nat) : Prop := sI G 18 17 = nI J.length ∧ J.length ≤ sN G (sR G 18 10) ∧ ∀ k s, (ol J (tpr f P t) 64)[k]? = some s → sL G (sR G 18 10) k = lN (vJ f P t s)
theorem vJ_price {f P : Nat → Nat → Nat} {t s : Nat} (h1 : s < 1073741824) (h2 : ts f s ≤ 44) (h3 : tpr f P t s ≤ 60) : Int64.toInt32 (lN (vJ f P t s) >>> (Int32.toInt64 36 &&& 63)) = nI (tpr f P t s) := by
  rw [show (36 : Int32) = nI 36 from rfl, sshr_l (by unfold vJ; omega) (by decide), lN_i]
  congr 1
  show vJ f P t s / 68719476736 = _
  unfold vJ
  omega
def sOr : Nat → Nat → Prop := fun i _ => i = 23 ∨ i = 27 ∨ 104 ≤ i
def tOr : Nat → Nat → Prop := fun i k => i = 18 ∧ k = 10
section ORDER
variable {K : KT} {G : St} {f P : Nat → Nat → Nat} {t e : Nat}
theorem s_order {Q : St → Prop} {J : List Nat} (hL : Lay G.2.2) (hR : Rm e G) (hF : XFv G f P t J) (hJ : J.length ≤ 174436) (hok : ∀ s, s ∈ J → s < 1073741824 ∧ ts f s ≤ 44 ∧ tpr f P t s ≤ 60) (hQ : ∀ G', Lay G'.2.2 → Rm e G' → Kg sOr tOr G G' → XOr G' f P t J → Q G') : EvVa K mX6_order 1 0 [(0, .ref 18)] [] G Q := by
  have h104 : 104 ≤ nx G := hL.2.2.2.1
  have hall : (ol J (tpr f P t) 64).length = J.length := ol_all (fun s hs => by have := (hok s hs).2.2; omega)
  -- with room for all
  have go : ∀ G1 : St, Lay G1.2.2 → Rm e G1 → Kg sOr tOr G G1 → XFv G1 f P t J → J.length ≤ sN G1 (sR G1 18 10) → EvVa K mX6_order 1 23 [(0, .ref 18)] [] G1 Q := by
    intro G1 hL1 hR1 hk1 hF1 hO1
    obtain ⟨f1, f2, f3⟩ := hF1
    obtain ⟨g1, g2, g3⟩ := lay_g hL1 (i := 18) (k := 9) (t := 1) (f := 26) (by decide)
    obtain ⟨o1, o2, o3⟩ := lay_g hL1 (i := 18) (k := 10) (t := 1) (f := 27) (by decide)
    have hne : sR G1 18 9 ≠ sR G1 18 10 := lay_d hL1 (i := 18) (k := 9) (t := 1) (f := 26) (i' := 18) (k' := 10) (t' := 1) (f' := 27) (by decide) (by decide) (by decide)
    have hf9 : sN G1 (sR G1 18 9) ≤ 348872 := hR1.2.2.2.1
    have hO9 : sN G1 (sR G1 18 10) ≤ 348872 := by have := hR1.2.2.2.2.1; omega
    -- what stays
    have stay : ∀ G2, Kq (fun i _ => i = 23 ∨ i = sR G1 18 10) G1 G2 → sI G2 18 17 = nI J.length ∧ sR G2 18 9 = sR G1 18 9 ∧ sR G2 18 10 = sR G1 18 10 ∧ sN G2 (sR G1 18 9) = sN G1 (sR G1 18 9) ∧ sN G2 (sR G1 18 10) = sN G1 (sR G1 18 10) ∧ ∀ i s, J[i]? = some s → sL G2 (sR G1 18 9) i = lN (vJ f P t s) := by
      intro G2 k2
      have eN : ∀ i, sN G2 i = sN G1 i := fun i => by show G2.2.2.2.1 _ = _; rw [k2.1]; rfl
      exact ⟨by rw [k2.I (by omega)]; exact f1, k2.R _ _, k2.R _ _, eN _, eN _, fun i s hs => by rw [k2.L (by omega)]; exact f3 i s hs⟩
    have price : ∀ s, s ∈ J → Int64.toInt32 (lN (vJ f P t s) >>> (Int32.toInt64 36 &&& 63)) = nI (tpr f P t s) := fun s hs => vJ_price (hok s hs).1 (hok s hs).2.1 (hok s hs).2.2
    -- laid in order
    have lay : ∀ (m i : Nat) (G2 : St), i + m = J.length → Kq (fun i _ => i = 23 ∨ i = sR G1 18 10) G1 G2 → (∀ v, v < 64 → sI G2 23 v = nI ((ol J (tpr f P t) v).length + ((J.take i).filter (eqc (tpr f P t) v)).length)) → (∀ v j s, v < 64 → ((J.take i).filter (eqc (tpr f P t) v))[j]? = some s → sL G2 (sR G1 18 10) ((ol J (tpr f P t) v).length + j) = lN (vJ f P t s)) → EvVa K mX6_order 1 101 [(0, .ref 18), (1, .int (nI i))] [] G2 Q := by
      intro m
      induction m with
      | zero =>
        intro i G2 hm k2 hv ho
        have ei : i = J.length := by omega
        subst ei
        obtain ⟨s1, s2, s3, s4, s5, s6⟩ := stay G2 k2
        refine kX6_order_101 (k2.lay hL1) ?_
        try simp (disch := omega) only [nLe, nLeR, nLeL, nLt, nLtR, nLtL, nEq, nEqR, nEqL, nClamp, nClampR, nAdd, nAddR, nAddL, nSub, nSubR, nMul, nMulR, nMulL, nDivR, vIn, vInR, iteZ, iteP, lEq, lEqR, forall_eq, forall_const, true_implies, false_implies, not_true_eq_false, not_false_eq_true, true_and, and_true, implies_true, Decidable.not_not, Nat.le_refl, s1]
        refine hQ G2 (k2.lay hL1) (hR1.kq k2) (hk1.tr (k2.mono (fun i _ z => by unfold sOr; omega)).g) ⟨s1, by rw [s3, s5]; exact hO1, fun k s hs => ?_⟩
        obtain ⟨v, j, a, b, c⟩ := ol_ex (getE_lt hs)
        subst c
        rw [ol_get a b] at hs
        rw [s3]
        refine ho v j s a ?_
        rw [List.take_length]; exact hs
      | succ m ih =>
        intro i G2 hm k2 hv ho
        have hi : i < J.length := by omega
        obtain ⟨s, hs⟩ : ∃ s, J[i]? = some s := ⟨_, List.getElem?_eq_getElem hi⟩
        have hsJ := getE_mem hs
        have hp := (hok s hsJ).2.2
        obtain ⟨s1, s2, s3, s4, s5, s6⟩ := stay G2 k2
        have tf := take_filter (eqc (tpr f P t) (tpr f P t s)) hs
        rw [if_pos (by simp [eqc])] at tf
        have hle := take_filter_le (J := J) (i := i + 1) (eqc (tpr f P t) (tpr f P t s))
        rw [tf, List.length_append] at hle
        have hle' : ((J.take i).filter (eqc (tpr f P t) (tpr f P t s))).length + 1 ≤ (J.filter (eqc (tpr f P t) (tpr f P t s))).length := hle
        have o1 := ol_succ J (tpr f P t) (tpr f P t s)
        have o2 := ol_mono J (tpr f P t) (a := tpr f P t s + 1) (b := 64) (by omega)
        have hv' := hv (tpr f P t s) (by omega)
        refine kX6_order_101 (k2.lay hL1) ?_
        rw [s1, s2, s3, s4, s5, nClamp (by omega), s6 i s hs, price s hsJ]
        try simp (disch := omega) only [nLe, nLeR, nLeL, nLt, nLtR, nLtL, nEq, nEqR, nEqL, nClamp, nClampR, nAdd, nAddR, nAddL, nSub, nSubR, nMul, nMulR, nMulL, nDivR, vIn, vInR, iteZ, iteP, lEq, lEqR, forall_eq, forall_const, true_implies, false_implies, not_true_eq_false, not_false_eq_true, true_and, and_true, implies_true, Decidable.not_not, Nat.le_refl, hv']
        refine ⟨fun z => by omega, fun _ => ⟨by omega, by omega, by omega, by omega, by omega, ?_⟩⟩
        have e23 : ∀ G3 : St, ∀ v, sI (uL G2 (sR G1 18 10) G3.2.2.2.2.2.1 (lN (vJ f P t s))) 23 v = sI G2 23 v := fun _ _ => rfl
        rw [gIL, hv']
        try simp (disch := omega) only [nLe, nLeR, nLeL, nLt, nLtR, nLtL, nEq, nEqR, nEqL, nClamp, nClampR, nAdd, nAddR, nAddL, nSub, nSubR, nMul, nMulR, nMulL, nDivR, vIn, vInR, iteZ, iteP, lEq, lEqR, forall_eq, forall_const, true_implies, false_implies, not_true_eq_false, not_false_eq_true, true_and, and_true, implies_true, Decidable.not_not, Nat.le_refl]
        refine ⟨by omega, ih (i + 1) _ (by omega) ((k2.sL (Or.inr rfl)).sI (Or.inl rfl)) (fun v hvl => ?_) (fun v j x hvl hj => ?_)⟩
        · rw [gI, gIL]
          by_cases ev : v = tpr f P t s
          · subst ev
            rw [if_pos ⟨rfl, rfl⟩, tf, List.length_append]; rfl
          · rw [if_neg (fun z => ev z.2), hv v hvl, take_filter _ hs, if_neg (by simp [eqc]; exact Ne.symm ev), List.append_nil]
        · rw [gLI, gL]
          by_cases ev : v = tpr f P t s
          · subst ev
            rw [tf] at hj
            by_cases ej : j = ((J.take i).filter (eqc (tpr f P t) (tpr f P t s))).length
            · subst ej
              rw [List.getElem?_append_right (Nat.le_refl _), Nat.sub_self] at hj
              cases hj
              rw [if_pos ⟨rfl, rfl⟩]
            · have hjl : j < ((J.take i).filter (eqc (tpr f P t) (tpr f P t s))).length := by
                have := getE_lt hj
                rw [List.length_append] at this
                have : j < ((J.take i).filter (eqc (tpr f P t) (tpr f P t s))).length + 1 := this
                omega
              rw [List.getElem?_append_left hjl] at hj
              rw [if_neg (by omega)]
              exact ho _ j x hvl hj
          · rw [take_filter _ hs, if_neg (by simp [eqc]; exact Ne.symm ev), List.append_nil] at hj
            have hj1 := getE_lt hj
            have hj2 := take_filter_le (J := J) (i := i) (eqc (tpr f P t) v)
            have p1 := ol_succ J (tpr f P t) v
            rw [if_neg, ]
            · exact ho v j x hvl hj
            · rintro ⟨-, z⟩
              rcases Nat.lt_or_gt_of_ne ev with q | q
              · have := ol_mono J (tpr f P t) (a := v + 1) (b := tpr f P t s) (by omega); omega
              · have := ol_mono J (tpr f P t) (a := tpr f P t s + 1) (b := v) (by omega); omega
    -- sums
    have sums : ∀ (m x : Nat) (G2 : St), x + m = 64 → Kq (fun i _ => i = 23 ∨ i = sR G1 18 10) G1 G2 → (∀ j, j < 65 → sI G2 23 j = nI (if j ≤ x then (ol J (tpr f P t) j).length else (J.filter (eqc (tpr f P t) (j - 1))).length)) → EvVa K mX6_order 1 70 [(0, .ref 18), (1, .int (nI x))] [] G2 Q := by
      intro m
      induction m with
      | zero =>
        intro x G2 hm k2 hv
        have ex : x = 64 := by omega
        subst ex
        refine kX6_order_70 (k2.lay hL1) ?_
        try simp (disch := omega) only [nLe, nLeR, nLeL, nLt, nLtR, nLtL, nEq, nEqR, nEqL, nClamp, nClampR, nAdd, nAddR, nAddL, nSub, nSubR, nMul, nMulR, nMulL, nDivR, vIn, vInR, iteZ, iteP, lEq, lEqR, forall_eq, forall_const, true_implies, false_implies, not_true_eq_false, not_false_eq_true, true_and, and_true, implies_true, Decidable.not_not, Nat.le_refl]
        refine lay J.length 0 G2 (by omega) k2 (fun v hvl => ?_) (fun v j s hvl hj => by simp at hj)
        rw [hv v (by omega), if_pos (by omega)]; simp
      | succ m ih =>
        intro x G2 hm k2 hv
        have b1 := hv (x + 1) (by omega)
        have b2 := hv x (by omega)
        rw [if_neg (by omega)] at b1
        rw [if_pos (Nat.le_refl _)] at b2
        refine kX6_order_70 (k2.lay hL1) ?_
        try simp (disch := omega) only [nLe, nLeR, nLeL, nLt, nLtR, nLtL, nEq, nEqR, nEqL, nClamp, nClampR, nAdd, nAddR, nAddL, nSub, nSubR, nMul, nMulR, nMulL, nDivR, vIn, vInR, iteZ, iteP, lEq, lEqR, forall_eq, forall_const, true_implies, false_implies, not_true_eq_false, not_false_eq_true, true_and, and_true, implies_true, Decidable.not_not, Nat.le_refl, b1, b2]
        refine ⟨fun z => by omega, fun _ => ⟨by omega, by omega, by omega, ih (x + 1) _ (by omega) (k2.sI (Or.inl rfl)) (fun j hj => ?_)⟩⟩
        rw [gI]
        by_cases ej : j = x + 1
        · subst ej
          rw [if_pos ⟨rfl, rfl⟩, if_pos (Nat.le_refl _), ol_succ, Nat.add_sub_cancel, Nat.add_comm]
        · rw [if_neg (fun z => ej z.2), hv j hj]
          have : j ≤ x + 1 ↔ j ≤ x := by omega
          simp only [this]
    -- counted
    have counts : ∀ (m i : Nat) (G2 : St), i + m = J.length → Kq (fun i _ => i = 23 ∨ i = sR G1 18 10) G1 G2 → (∀ j, j < 65 → sI G2 23 j = nI (if j = 0 then 0 else ((J.take i).filter (eqc (tpr f P t) (j - 1))).length)) → EvVa K mX6_order 1 33 [(0, .ref 18), (1, .int (nI i))] [] G2 Q := by
      intro m
      induction m with
      | zero =>
        intro i G2 hm k2 hv
        have ei : i = J.length := by omega
        subst ei
        obtain ⟨s1, -, -, -, -, -⟩ := stay G2 k2
        refine kX6_order_33 (k2.lay hL1) ?_
        try simp (disch := omega) only [nLe, nLeR, nLeL, nLt, nLtR, nLtL, nEq, nEqR, nEqL, nClamp, nClampR, nAdd, nAddR, nAddL, nSub, nSubR, nMul, nMulR, nMulL, nDivR, vIn, vInR, iteZ, iteP, lEq, lEqR, forall_eq, forall_const, true_implies, false_implies, not_true_eq_false, not_false_eq_true, true_and, and_true, implies_true, Decidable.not_not, Nat.le_refl, s1]
        refine sums 64 0 G2 rfl k2 (fun j hj => ?_)
        rw [hv j hj, List.take_length]
        by_cases e : j = 0
        · subst e; rfl
        · rw [if_neg e, if_neg (by omega)]
      | succ m ih =>
        intro i G2 hm k2 hv
        have hi : i < J.length := by omega
        obtain ⟨s, hs⟩ : ∃ s, J[i]? = some s := ⟨_, List.getElem?_eq_getElem hi⟩
        have hsJ := getE_mem hs
        have hp := (hok s hsJ).2.2
        obtain ⟨s1, s2, s3, s4, s5, s6⟩ := stay G2 k2
        have hv' := hv (tpr f P t s + 1) (by omega)
        rw [if_neg (by omega), Nat.add_sub_cancel] at hv'
        refine kX6_order_33 (k2.lay hL1) ?_
        rw [s1, s2, s4, nClamp (by omega), s6 i s hs, price s hsJ]
        try simp (disch := omega) only [nLe, nLeR, nLeL, nLt, nLtR, nLtL, nEq, nEqR, nEqL, nClamp, nClampR, nAdd, nAddR, nAddL, nSub, nSubR, nMul, nMulR, nMulL, nDivR, vIn, vInR, iteZ, iteP, lEq, lEqR, forall_eq, forall_const, true_implies, false_implies, not_true_eq_false, not_false_eq_true, true_and, and_true, implies_true, Decidable.not_not, Nat.le_refl, hv']
        refine ⟨fun z => by omega, fun _ => ⟨by omega, by omega, by omega, ?_⟩⟩
        refine ih (i + 1) _ (by omega) (k2.sI (Or.inl rfl)) (fun j hj => ?_)
        rw [gI]
        by_cases ej : j = tpr f P t s + 1
        · subst ej
          rw [if_pos ⟨rfl, rfl⟩, if_neg (by omega), Nat.add_sub_cancel, take_filter _ hs, if_pos (by simp [eqc]), List.length_append]; rfl
        · rw [if_neg (fun z => ej z.2), hv j hj]
          by_cases e0 : j = 0
          · rw [if_pos e0, if_pos e0]
          · rw [if_neg e0, if_neg e0, take_filter _ hs, if_neg (by simp [eqc]; omega), List.append_nil]
    refine kX6_order_23 hL1 (s_J7_fill hL1 (la_23 hL1) (by decide) (fun G2 k2 a2 _ _ => ?_))
    refine counts J.length 0 G2 (by omega) (k2.q.mono (fun i _ z => Or.inl z)) (fun j hj => ?_)
    rw [a2 j hj]
    by_cases e : j = 0
    · rw [if_pos e]; rfl
    · rw [if_neg e]; rfl
  obtain ⟨f1, f2, f3⟩ := id hF
  obtain ⟨r1, r2, r3, r4, r5, r6, r7, r8, r9, r10, r11, r12⟩ := id hR
  refine kX6_order_0 hL ?_
  rw [f1]
  have hn31 : sN G (sR G 18 9) < 2147483648 := by omega
  have hn32 : sN G (sR G 18 10) < 2147483648 := by omega
  try simp (disch := omega) only [nLe, nLeR, nLeL, nLt, nLtR, nLtL, nEq, nEqR, nEqL, nClamp, nClampR, nAdd, nAddR, nAddL, nSub, nSubR, nMul, nMulR, nMulL, nDivR, vIn, vInR, iteZ, iteP, lEq, lEqR, forall_eq, forall_const, true_implies, false_implies, not_true_eq_false, not_false_eq_true, true_and, and_true, implies_true, Decidable.not_not, Nat.le_refl]
  refine ⟨fun z => go G hL hR Kg.rf hF z, fun z => ⟨Nat.not_lt_zero _, show sN G (sR G 18 9) * 8 ≤ 536870912 by omega, ?_⟩⟩
  have mk := mk_uN (G := G) 1 (sN G (sR G 18 9))
  have hL1 := hL.mk mk
  obtain ⟨m1, m2, m3, m4, m5⟩ := id mk
  generalize hG1 : uN G (100 + 1) (sN G (sR G 18 9)) = G1 at *
  have hne : ∀ i k t f, (i, k, t, f) ∈ ltG → sR G1 i k = sR G i k ∧ sR G i k ≠ nx G ∧ sN G1 (sR G i k) = sN G (sR G i k) := fun i k t f hq => by
    have h1 := lay_g hL hq
    have h2 : i < 104 := (lay_lt hL).2.2.2 _ hq
    exact ⟨by rw [(m3 i (by omega)).2.2.1], by omega, (m3 _ (by omega)).2.2.2.1⟩
  have hL2 : Lay (uR G1 18 10 (nx G)).2.2 := hL1.put (i := 18) (k := 10) (t := 1) (f := 27) (by decide) h104 (by omega) m5 (fun q hq => by
    obtain ⟨i, k, t, f⟩ := q
    have := hne i k t f hq
    show sR G1 i k ≠ nx G
    rw [this.1]; exact this.2.1)
  have o1 := hne 18 9 1 26 (by decide)
  have o2 := hne 28 5 0 34 (by decide)
  have o3 := hne 28 2 0 31 (by decide)
  have o4 := hne 28 1 0 30 (by decide)
  have o5 := hne 28 3 0 32 (by decide)
  have o6 := hne 28 4 0 33 (by decide)
  refine go _ hL2 ?_ (mk.g.tr (kg_R ⟨rfl, rfl⟩)) ⟨?_, ?_, fun i s hs => ?_⟩ ?_
  · unfold Rm
    rw [uR_at, uR_ne (by decide), uR_ne (by decide), uR_ne (by decide), uR_ne (by decide), uR_ne (by decide), uR_ne (by decide)]
    show su G1 ≤ 1000000 + 1000 * e + 2 * sN G1 (sR G1 18 9) + 2 * sN G1 (nx G) + 2 * sN G1 (sR G1 28 5) + 8 * sN G1 (sR G1 28 2) ∧ 64 * nx G1 ≤ 10000 + 6400 * e + su G1 ∧ 64 ≤ sN G1 (sR G1 18 9) ∧ sN G1 (sR G1 18 9) ≤ 348872 ∧ (sN G1 (nx G) = sN G1 (sR G1 18 9) ∨ 2 * sN G1 (nx G) ≤ sN G1 (sR G1 18 9)) ∧ 32 ≤ sN G1 (sR G1 28 5) ∧ sN G1 (sR G1 28 5) ≤ 348872 ∧ 32 ≤ sN G1 (sR G1 28 2) ∧ sN G1 (sR G1 28 2) ≤ 348872 ∧ sN G1 (sR G1 28 1) = sN G1 (sR G1 28 2) ∧ sN G1 (sR G1 28 3) = sN G1 (sR G1 28 2) ∧ sN G1 (sR G1 28 4) = sN G1 (sR G1 28 2)
    rw [o1.1, o2.1, o3.1, o4.1, o5.1, o6.1, o1.2.2, o2.2.2, o3.2.2, o4.2.2, o5.2.2, o6.2.2, m1, m2, m4]
    omega
  · show sI G1 18 17 = _
    rw [(m3 18 (by omega)).1]; exact f1
  · rw [uR_ne (by decide)]
    show J.length ≤ sN G1 (sR G1 18 9)
    rw [o1.1, o1.2.2]; exact f2
  · rw [uR_ne (by decide)]
    show sL G1 (sR G1 18 9) i = _
    rw [o1.1, (m3 _ o1.2.1).2.1]; exact f3 i s hs
  · rw [uR_at]
    show J.length ≤ sN G1 (nx G)
    omega
end ORDER

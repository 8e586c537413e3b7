/-! prices of joinings, drops, order -/
noncomputable def trm (P : Nat → Nat → Nat) (t s : Nat) : Nat := fb_sm (fun k => P k (hi P s k)) t
noncomputable def tpr (f P : Nat → Nat → Nat) (t s : Nat) : Nat := ts f s + trm P t s
noncomputable def vJ (f P : Nat → Nat → Nat) (t s : Nat) : Nat := (tpr f P t s * 64 + ts f s) * 1073741824 + s
/-- places and sets of the joinings -/
def jp (q : Nat → Bool) : Nat → List Nat → List (Nat × Nat)
  | _, [] => []
  | k, s :: l => if q s = true then (k + 1, s) :: jp q (k + 1) l else jp q (k + 1) l
theorem jf_jp {q : Nat → Bool} : ∀ {l : List Nat} {k : Nat}, jf q k l = (jp q k l).map (fun p => p.1 * 1073741824 + p.2)
  | [], k => rfl
  | s :: l, k => by
    rw [jf, jp, jf_jp]
    split <;> rfl
theorem jp_snd {q : Nat → Bool} : ∀ {l : List Nat} {k : Nat}, (jp q k l).map (fun p => p.2) = l.filter q
  | [], k => rfl
  | s :: l, k => by
    rw [jp]
    by_cases h : q s = true
    · rw [if_pos h, List.filter_cons_of_pos h, List.map_cons, jp_snd]
    · rw [if_neg h, List.filter_cons_of_neg h, jp_snd]
theorem jp_mem {q : Nat → Bool} : ∀ {l : List Nat} {k : Nat} {p : Nat × Nat}, p ∈ jp q k l → ∃ j, l[j]? = some p.2 ∧ p.1 = k + j + 1 ∧ q p.2 = true
  | [], k, p, h => absurd h List.not_mem_nil
  | s :: l, k, p, h => by
    rw [jp] at h
    have tail : p ∈ jp q (k + 1) l → ∃ j, (s :: l)[j]? = some p.2 ∧ p.1 = k + j + 1 ∧ q p.2 = true := fun h => by
      obtain ⟨j, a, b, c⟩ := jp_mem h
      exact ⟨j + 1, by rw [List.getElem?_cons_succ]; exact a, by omega, c⟩
    split at h
    · rename_i hq
      rcases List.mem_cons.mp h with e | e
      · subst e; exact ⟨0, rfl, rfl, hq⟩
      · exact tail e
    · exact tail h
theorem getE_lt {α : Type} {l : List α} {i : Nat} {x : α} (h : l[i]? = some x) : i < l.length := by
  rcases Nat.lt_or_ge i l.length with q | q
  · exact q
  · rw [List.getElem?_eq_none q] at h; cases h
theorem getE_mem {α : Type} {l : List α} {i : Nat} {x : α} (h : l[i]? = some x) : x ∈ l := List.mem_of_getElem? h
/-- where the least price went down -/
def lp (D : List (Nat × Nat)) : Nat := match D.getLast? with
  | none => 64
  | some q => q.2
def dSt (D : List (Nat × Nat)) (p : Nat × Nat) : List (Nat × Nat) := if p.2 < lp D then D ++ [p] else D
theorem lp_snoc (D : List (Nat × Nat)) (p : Nat × Nat) : lp (D ++ [p]) = p.2 := by unfold lp; rw [List.getLast?_append]; rfl
theorem dSt_ok {D : List (Nat × Nat)} {p : Nat × Nat} (h : D.length + lp D ≤ 64) : (dSt D p).length + lp (dSt D p) ≤ 64 := by
  unfold dSt
  split
  · rw [lp_snoc, List.length_append]; show D.length + 1 + p.2 ≤ 64; omega
  · exact h
def XDr (G : St) (D : List (Nat × Nat)) : Prop := sI G 18 11 = nI D.length ∧ D.length + lp D ≤ 64 ∧ ∀ i p, D[i]? = some p → sI G 24 i = nI p.1 ∧ sI G 25 i = nI p.2 ∧ p.2 < 64
/-- of a joining -/
def okJ (f P : Nat → Nat → Nat) (t s : Nat) : Prop := s < 1073741824 ∧ s ≠ 0 ∧ pc s ≤ 5 ∧ Cn (tdF f) s ∧ ∀ k, k < t → ∃ r, s.testBit r = true ∧ P k r ≠ 9
theorem HI_ex {P : Nat → Nat → Nat} {s k : Nat} (hs : s < 2 ^ 32) (hP : ∀ k r, P k r ≤ 4 ∨ P k r = 9) (h : ∃ r, s.testBit r = true ∧ P k r ≠ 9) : HI P s k (hi P s k) := by
  have hmin : ∀ m, (∃ r, s.testBit r = true ∧ P k r ≠ 9 ∧ P k r ≤ m) → ∃ r, HI P s k r := by
    intro m
    induction m with
    | zero =>
      rintro ⟨r, a, b, c⟩
      obtain ⟨x, x1, ⟨x2, x3⟩, x4⟩ := fb_first (p := fun x => s.testBit x = true ∧ P k x = 0) (n := 32) ⟨r, bt_lt hs a, a, by omega⟩
      refine ⟨x, x2, by omega, fun y hy => ⟨fun z => ?_, by omega⟩⟩
      have := x4 y z
      rcases Nat.eq_zero_or_pos (P k y) with q | q
      · exact absurd ⟨hy, q⟩ this
      · omega
    | succ m ih =>
      rintro ⟨r, a, b, c⟩
      rcases Classical.em (∃ r, s.testBit r = true ∧ P k r ≠ 9 ∧ P k r ≤ m) with q | q
      · exact ih q
      · have hrm : P k r = m + 1 := by
          rcases Nat.lt_or_ge m (P k r) with z | z
          · omega
          · exact absurd ⟨r, a, b, z⟩ q
        have hno : ∀ y, s.testBit y = true → m + 1 ≤ P k y := fun y hy => by
          rcases Nat.lt_or_ge m (P k y) with z | z
          · exact z
          · rcases Classical.em (P k y = 9) with u | u
            · have := hP k r; omega
            · exact absurd ⟨y, hy, u, z⟩ q
        obtain ⟨x, x1, ⟨x2, x3⟩, x4⟩ := fb_first (p := fun x => s.testBit x = true ∧ P k x = m + 1) (n := 32) ⟨r, bt_lt hs a, a, by have := hno r a; omega⟩
        refine ⟨x, x2, by have := hno r a; omega, fun y hy => ⟨fun z => ?_, by have := hno y hy; omega⟩⟩
        have := hno y hy
        rcases Nat.lt_or_ge (m + 1) (P k y) with u | u
        · omega
        · exact absurd ⟨hy, by omega⟩ (x4 y z)
  obtain ⟨r, a, b⟩ := h
  obtain ⟨x, hx⟩ := hmin (P k r) ⟨r, a, b, Nat.le_refl _⟩
  have := hi_eq hx
  rw [this]; exact hx
theorem trm_le {P : Nat → Nat → Nat} {t s : Nat} (hs : s < 2 ^ 32) (hP : ∀ k r, P k r ≤ 4 ∨ P k r = 9) (h : ∀ k, k < t → ∃ r, s.testBit r = true ∧ P k r ≠ 9) : trm P t s ≤ t * 4 := by
  refine fb_sm_bound (fun k hk => ?_)
  have := HI_ex hs hP (h k hk)
  have := this.2.1
  have := hP k (hi P s k)
  omega
/-- a spanning run there is -/
theorem Pm_ex {f : Nat → Nat → Nat} {s : Nat} (hf : okF f) (hs : s < 2 ^ 32) (hc : Cn (tdF f) s) : ∀ (k R : Nat), sb R s → R ≠ 0 → pc R + k = pc s → ∃ x, Pm f s k R x := by
  intro k
  induction k with
  | zero =>
    intro R hR h0 hpc
    exact ⟨0, pc_eq hs hR (by omega), rfl⟩
  | succ k ih =>
    intro R hR h0 hpc
    obtain ⟨u0, v0, u1, v1, v2, uv⟩ := hc R hR h0 (fun e => by rw [e] at hpc; omega)
    have hmin : ∀ m, (∃ u v, R.testBit u = true ∧ s.testBit v = true ∧ R.testBit v = false ∧ f u v ≠ 0 ∧ f u v ≤ m) → ∃ u v, R.testBit u = true ∧ s.testBit v = true ∧ R.testBit v = false ∧ f u v ≠ 0 ∧ ∀ u' v', R.testBit u' = true → s.testBit v' = true → R.testBit v' = false → f u' v' ≠ 0 → f u v ≤ f u' v' := by
      intro m
      induction m with
      | zero =>
        rintro ⟨u, v, a, b, c, d, e⟩
        exact absurd (Nat.le_zero.mp e) d
      | succ m ihm =>
        rintro ⟨u, v, a, b, c, d, e⟩
        rcases Classical.em (∃ u v, R.testBit u = true ∧ s.testBit v = true ∧ R.testBit v = false ∧ f u v ≠ 0 ∧ f u v ≤ m) with q | q
        · exact ihm q
        · refine ⟨u, v, a, b, c, d, fun u' v' a' b' c' d' => ?_⟩
          rcases Nat.lt_or_ge m (f u' v') with z | z
          · omega
          · exact absurd ⟨u', v', a', b', c', d', z⟩ q
    obtain ⟨u, v, a, b, c, d, e⟩ := hmin (f u0 v0) ⟨u0, v0, u1, v1, v2, (tdF_bit hf u0 v0).mp uv, Nat.le_refl _⟩
    obtain ⟨y, hy⟩ := ih (R ||| 2 ^ v) (fun i z => by
      rcases (add_bit _ _ _).mp z with q | q
      · exact hR i q
      · rw [q]; exact b) (ne0' ((or_bit _ _ _).mpr (Or.inl a))) (by rw [pc_add (bt_lt hs b) c]; omega)
    exact ⟨f u v + y, u, v, y, a, b, c, d, e, rfl, hy⟩
theorem ts_le {f : Nat → Nat → Nat} {s : Nat} (hf : okF f) (hs : s < 2 ^ 32) (h0 : s ≠ 0) (h5 : pc s ≤ 5) (hc : Cn (tdF f) s) : ts f s ≤ 44 := by
  have hl := lo_bit h0 hs
  have p1 := pc_one (lo s) (bt_lt hs hl)
  have hsb : sb (2 ^ lo s) s := fun i z => by rw [p2_bit, decide_eq_true_iff] at z; subst z; exact hl
  have := pc_sb hsb
  obtain ⟨x, hx⟩ := Pm_ex hf hs hc (pc s - 1) (2 ^ lo s) hsb (Nat.pos_iff_ne_zero.mp (Nat.two_pow_pos _)) (by omega)
  rw [ts_eq hf.1 hs h0 hf.2.1 hx]
  have := Pm_le hf.2.1 hx
  have : (pc s - 1) * 11 ≤ 4 * 11 := Nat.mul_le_mul_right _ (by omega)
  omega
theorem tpr_le {f P : Nat → Nat → Nat} {t s : Nat} (hf : okF f) (ht : t ≤ 4) (hP : ∀ k r, P k r ≤ 4 ∨ P k r = 9) (hj : okJ f P t s) : ts f s ≤ 44 ∧ tpr f P t s ≤ 60 := by
  have a := ts_le hf (by have := hj.1; omega) hj.2.1 hj.2.2.1 hj.2.2.2.1
  have b := trm_le (t := t) (by have := hj.1; omega) hP hj.2.2.2.2
  unfold tpr
  refine ⟨a, ?_⟩
  have : t * 4 ≤ 16 := by omega
  omega
section SETP
variable {K : KT} {G : St} {f P : Nat → Nat → Nat} {n t : Nat}
theorem s_setPrice {Q : St → Prop} {i p s : Nat} {D : List (Nat × Nat)} (hL : Lay G.2.2) (hf : okF f) (hn : n ≤ 30) (ht : t ≤ 4) (hP : ∀ k r, P k r ≤ 4 ∨ P k r = 9) (hPn : ∀ k r, n ≤ r → P k r = 9) (hX : XTi G f) (hH : XHt G P n t) (h13 : sI G 18 13 = nI t) (hin : i < sN G (sR G 18 9)) (hlen : sN G (sR G 18 9) < 1000000) (hv : sL G (sR G 18 9) i = lN (p * 1073741824 + s)) (hp : p < 1000000) (hj : okJ f P t s) (hD : XDr G D)
    (hQ : ∀ G', Kq (fun i k => i = sR G 18 9 ∨ i = 24 ∨ i = 25 ∨ i = 18 ∧ k = 11) G G' → XDr G' (dSt D (p, tpr f P t s)) → (∀ j, sL G' (sR G 18 9) j = if j = i then lN (vJ f P t s) else sL G (sR G 18 9) j) → Q G') : EvV K mX6_setPrice 3 0 [(0, .ref 18), (1, .int (nI i))] [] G Q := by
  obtain ⟨s30, s0, s5, sc, sh⟩ := id hj
  obtain ⟨g1, g2, g3⟩ := lay_g hL (i := 18) (k := 9) (t := 1) (f := 26) (by decide)
  obtain ⟨d1, d2, d3⟩ := id hD
  obtain ⟨t44, t60⟩ := tpr_le hf ht hP hj
  have es : Int64.toInt32 (lN (p * 1073741824 + s) &&& 1073741823) = nI s := by
    rw [show (1073741823 : Int64) = lN (2 ^ 30 - 1) from rfl, wb_mask (by omega) (by decide), lN_i]
    congr 1
    show (p * 1073741824 + s) % 1073741824 = s
    omega
  have ep : Int64.toInt32 (lN (p * 1073741824 + s) >>> (Int32.toInt64 30 &&& 63)) = nI p := by
    rw [show (30 : Int32) = nI 30 from rfl, sshr_l (by omega) (by decide), lN_i]
    congr 1
    show (p * 1073741824 + s) / 1073741824 = p
    omega
  -- the last step
  have put : ∀ (G1 : St) (D' : List (Nat × Nat)), Kq (fun i k => i = 24 ∨ i = 25 ∨ i = 18 ∧ k = 11) G G1 → XDr G1 D' → D' = dSt D (p, tpr f P t s) → EvV K mX6_setPrice 3 143 [(0, .ref 18), (1, .int (nI i)), (2, .int (nI s)), (4, .int (nI (ts f s))), (5, .int (nI (tpr f P t s)))] [] G1 Q := by
    intro G1 D' k1 hD1 eD
    have eN : sN G1 (sR G 18 9) = sN G (sR G 18 9) := by show G1.2.2.2.1 _ = _; rw [k1.1]; rfl
    refine kX6_setPrice_143 (k1.lay hL) ?_
    rw [k1.R, eN, nI_l (by omega), nI_l (by omega), nI_l (by omega), show (36 : Int32) = nI 36 from rfl, show (30 : Int32) = nI 30 from rfl, wb_shl _ (by decide), wb_shl _ (by decide)]
    have e1 : lN (tpr f P t s * 2 ^ 36) ||| lN (ts f s * 2 ^ 30) = lN ((tpr f P t s * 64 + ts f s) * 1073741824) := by
      rw [show tpr f P t s * 2 ^ 36 = 2 ^ 36 * tpr f P t s from Nat.mul_comm _ _, fb_or_sumL (k := 36) (tpr f P t s) (show ts f s * 2 ^ 30 < 2 ^ 36 by omega)]
      congr 1; omega
    rw [e1]
    intro v1 ev1
    subst ev1
    have e2 : lN ((tpr f P t s * 64 + ts f s) * 1073741824) ||| lN s = lN (vJ f P t s) := by
      rw [show (tpr f P t s * 64 + ts f s) * 1073741824 = 2 ^ 30 * (tpr f P t s * 64 + ts f s) from Nat.mul_comm _ _, fb_or_sumL (k := 30) _ (show s < 2 ^ 30 from s30)]
      congr 1
      unfold vJ
      omega
    rw [e2]
    try simp (disch := omega) only [nLe, nLeR, nLeL, nLt, nLtR, nLtL, nEq, nEqR, nEqL, nClamp, nClampR, nAdd, nAddR, nAddL, nSub, nSubR, nMul, nMulR, nMulL, nDivR, vIn, vInR, iteZ, iteP, lEq, lEqR, forall_eq, forall_const, true_implies, false_implies, not_true_eq_false, not_false_eq_true, true_and, and_true, implies_true, Decidable.not_not, Nat.le_refl]
    refine ⟨hin, ?_⟩
    have k2 : Kq (fun i k => i = sR G 18 9 ∨ i = 24 ∨ i = 25 ∨ i = 18 ∧ k = 11) G (uL G1 (sR G 18 9) i (lN (vJ f P t s))) := (k1.mono (fun i k z => Or.inr z)).sL (Or.inl rfl)
    refine hQ _ k2 ?_ (fun j => ?_)
    · rw [← eD]; exact hD1
    · rw [gL]
      by_cases e : j = i
      · simp [e]
      · simp only [true_and, e, if_false]
        exact k1.L (by omega)
  -- the drop
  have drop : ∀ D', D' = dSt D (p, tpr f P t s) → tpr f P t s < lp D → EvV K mX6_setPrice 3 112 [(0, .ref 18), (1, .int (nI i)), (2, .int (nI s)), (3, .int (nI p)), (4, .int (nI (ts f s))), (5, .int (nI (tpr f P t s)))] [] G Q := by
    intro D' eD hlt
    refine kX6_setPrice_112 hL ?_
    rw [d1]
    try simp (disch := omega) only [nLe, nLeR, nLeL, nLt, nLtR, nLtL, nEq, nEqR, nEqL, nClamp, nClampR, nAdd, nAddR, nAddL, nSub, nSubR, nMul, nMulR, nMulL, nDivR, vIn, vInR, iteZ, iteP, lEq, lEqR, forall_eq, forall_const, true_implies, false_implies, not_true_eq_false, not_false_eq_true, true_and, and_true, implies_true, Decidable.not_not, Nat.le_refl]
    refine ⟨by omega, by omega, put _ D' ?_ ?_ eD⟩
    · exact ((kq_I (by omega)).sI (by omega)).sI (by omega)
    · have eD2 : D' = D ++ [(p, tpr f P t s)] := by rw [eD]; unfold dSt; rw [if_pos hlt]
      rw [eD2]
      refine ⟨?_, ?_, fun j y hy => ?_⟩
      · rw [gI, if_pos ⟨rfl, rfl⟩, List.length_append]; rfl
      · rw [← eD2, eD]; exact dSt_ok d2
      · by_cases ej : j = D.length
        · subst ej
          rw [List.getElem?_append_right (Nat.le_refl _), Nat.sub_self] at hy
          cases hy
          refine ⟨by simp [gI], by simp [gI], by omega⟩
        · have hjl : j < D.length := by
            have := getE_lt hy
            rw [List.length_append] at this
            have : j < D.length + 1 := this
            omega
          rw [List.getElem?_append_left hjl] at hy
          obtain ⟨y1, y2, y3⟩ := d3 j y hy
          refine ⟨by simp [gI, ej]; exact y1, by simp [gI, ej]; exact y2, y3⟩
  -- the terms
  have terms : ∀ (m k : Nat), k + m = t → EvV K mX6_setPrice 3 37 [(0, .ref 18), (1, .int (nI i)), (2, .int (nI s)), (3, .int (nI p)), (4, .int (nI (ts f s))), (5, .int (nI (ts f s + trm P k s))), (6, .int (nI k))] [] G Q := by
    intro m
    induction m with
    | zero =>
      intro k hm
      have ek : k = t := by omega
      subst ek
      refine kX6_setPrice_37 hL ?_
      rw [h13]
      have et : ts f s + trm P k s = tpr f P k s := rfl
      rw [et]
      try simp (disch := omega) only [nLe, nLeR, nLeL, nLt, nLtR, nLtL, nEq, nEqR, nEqL, nClamp, nClampR, nAdd, nAddR, nAddL, nSub, nSubR, nMul, nMulR, nMulL, nDivR, vIn, vInR, iteZ, iteP, lEq, lEqR, forall_eq, forall_const, true_implies, false_implies, not_true_eq_false, not_false_eq_true, true_and, and_true, implies_true, Decidable.not_not, Nat.le_refl]
      refine s_J9_min (b := 63) (by omega) (by decide) hL ?_
      rw [Nat.min_eq_left (by omega)]
      refine s_J9_max (a := 0) (by decide) (by omega) hL ?_
      rw [Nat.max_eq_right (Nat.zero_le _), d1]
      try simp (disch := omega) only [nLe, nLeR, nLeL, nLt, nLtR, nLtL, nEq, nEqR, nEqL, nClamp, nClampR, nAdd, nAddR, nAddL, nSub, nSubR, nMul, nMulR, nMulL, nDivR, vIn, vInR, iteZ, iteP, lEq, lEqR, forall_eq, forall_const, true_implies, false_implies, not_true_eq_false, not_false_eq_true, true_and, and_true, implies_true, Decidable.not_not, Nat.le_refl]
      refine ⟨fun z => drop _ rfl ?_, fun z => ?_⟩
      · have eD : D = [] := List.eq_nil_of_length_eq_zero z
        rw [eD]; show _ < 64; omega
      · -- the last one
        have hz1 : 1 ≤ D.length := by omega
        try simp (disch := omega) only [nLe, nLeR, nLeL, nLt, nLtR, nLtL, nEq, nEqR, nEqL, nClamp, nClampR, nAdd, nAddR, nAddL, nSub, nSubR, nMul, nMulR, nMulL, nDivR, vIn, vInR, iteZ, iteP, lEq, lEqR, forall_eq, forall_const, true_implies, false_implies, not_true_eq_false, not_false_eq_true, true_and, and_true, implies_true, Decidable.not_not, Nat.le_refl]
        refine ⟨by omega, ?_⟩
        have hne : D ≠ [] := fun e => by rw [e] at z; exact z rfl
        obtain ⟨y, hy⟩ : ∃ y, D.getLast? = some y := ⟨_, List.getLast?_eq_some_getLast hne⟩
        have hlp : lp D = y.2 := by unfold lp; rw [hy]
        rw [List.getLast?_eq_getElem?] at hy
        obtain ⟨y1, y2, y3⟩ := d3 _ y hy
        rw [y2]
        try simp (disch := omega) only [nLe, nLeR, nLeL, nLt, nLtR, nLtL, nEq, nEqR, nEqL, nClamp, nClampR, nAdd, nAddR, nAddL, nSub, nSubR, nMul, nMulR, nMulL, nDivR, vIn, vInR, iteZ, iteP, lEq, lEqR, forall_eq, forall_const, true_implies, false_implies, not_true_eq_false, not_false_eq_true, true_and, and_true, implies_true, Decidable.not_not, Nat.le_refl]
        refine ⟨fun z2 => put G D Kq.rf hD ?_, fun z2 => drop _ rfl (by omega)⟩
        unfold dSt
        rw [if_neg (by show ¬ tpr f P k s < lp D; omega)]
    | succ m ih =>
      intro k hm
      refine kX6_setPrice_37 hL ?_
      rw [h13]
      have hk4 : trm P k s ≤ k * 4 := trm_le (by omega) hP (fun j hj => sh j (by omega))
      try simp (disch := omega) only [nLe, nLeR, nLeL, nLt, nLtR, nLtL, nEq, nEqR, nEqL, nClamp, nClampR, nAdd, nAddR, nAddL, nSub, nSubR, nMul, nMulR, nMulL, nDivR, vIn, vInR, iteZ, iteP, lEq, lEqR, forall_eq, forall_const, true_implies, false_implies, not_true_eq_false, not_false_eq_true, true_and, and_true, implies_true, Decidable.not_not, Nat.le_refl]
      refine ⟨fun z => by omega, fun _ => s_holderIn hL hH hn ht (by omega) hP hPn s30 (sh k (by omega)) (fun hHI => s_X0_priceAt hL hH hn ht ?_ (by omega) ?_)⟩
      · rcases Nat.lt_or_ge (hi P s k) n with q | q
        · exact q
        · exact absurd (hPn k _ q) hHI.2.1
      · rw [hx_n hHI.2.1]
        try simp (disch := omega) only [nLe, nLeR, nLeL, nLt, nLtR, nLtL, nEq, nEqR, nEqL, nClamp, nClampR, nAdd, nAddR, nAddL, nSub, nSubR, nMul, nMulR, nMulL, nDivR, vIn, vInR, iteZ, iteP, lEq, lEqR, forall_eq, forall_const, true_implies, false_implies, not_true_eq_false, not_false_eq_true, true_and, and_true, implies_true, Decidable.not_not, Nat.le_refl]
        have := ih (k + 1) (by omega)
        rw [show ts f s + trm P k s + P k (hi P s k) = ts f s + trm P (k + 1) s from by unfold trm; rw [fb_sm_succ]; omega]
        exact this
  refine kX6_setPrice_0 hL ?_
  rw [nClamp (by omega), hv, es, ep]
  try simp (disch := omega) only [nLe, nLeR, nLeL, nLt, nLtR, nLtL, nEq, nEqR, nEqL, nClamp, nClampR, nAdd, nAddR, nAddL, nSub, nSubR, nMul, nMulR, nMulL, nDivR, vIn, vInR, iteZ, iteP, lEq, lEqR, forall_eq, forall_const, true_implies, false_implies, not_true_eq_false, not_false_eq_true, true_and, and_true, implies_true, Decidable.not_not, Nat.le_refl]
  exact ⟨hin, hin, s_tieSum hL hX hf s30 s0 s5 sc (terms t 0 (by omega))⟩
end SETP

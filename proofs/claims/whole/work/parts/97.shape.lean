/-! shapes of joinings, on both sides -/
noncomputable def cnS (rt : Nat → Nat) (s u : Nat) : Nat := fb_ct (fun r => s.testBit r && (rt r == u)) w30
noncomputable def tnS (rt : Nat → Nat) (P : Nat → Nat → Nat) (s k : Nat) : Nat := rt (hi P s k)
def mdC (cn tn : Nat → Nat) : Nat := ((((cn 0 + 6 * cn 1 + 36 * cn 2 + 216 * cn 3 + 1296 * cn 4) * 5 + tn 0) * 5 + tn 1) * 5 + tn 2) * 5 + tn 3
noncomputable def xC (rt : Nat → Nat) (P : Nat → Nat → Nat) (t s : Nat) : Nat := shC (cnS rt s) + shT (tnS rt P s) t
noncomputable def mC (rt : Nat → Nat) (P : Nat → Nat → Nat) (t s : Nat) : Nat := mdC (cnS rt s) (fun k => if k < t then tnS rt P s k else 0)
theorem cnS_le {rt : Nat → Nat} {s u : Nat} : cnS rt s u ≤ pc s := by
  unfold cnS
  rw [w30_eq, pc_def]
  exact Nat.le_trans (fb_ct_sub (q := fun r => s.testBit r) (fun k _ h => by simp at h; exact h.1)) (fb_ct_mono _ (by decide))
theorem cnS_0 {rt : Nat → Nat} {u : Nat} : cnS rt 0 u = 0 := by
  unfold cnS
  exact fb_ct_zero.mpr (fun k _ => by rw [Nat.zero_testBit]; rfl)
theorem cnS_clr {rt : Nat → Nat} {y u : Nat} (h0 : y ≠ 0) (hy : y < 1073741824) : cnS rt y u = if u = rt (lo y) then cnS rt (clr y) u + 1 else cnS rt (clr y) u := by
  have hy32 : y < 2 ^ 32 := by omega
  have hl := lo_bit h0 hy32
  have hlo : lo y < 30 := bt_lt (n := 30) hy hl
  unfold cnS
  rw [w30_eq]
  have e : fb_ct (fun r => (clr y).testBit r && (rt r == u)) 30 = fb_ct (fun k => if k = lo y then false else (fun r => y.testBit r && (rt r == u)) k) 30 := fb_ct_cong (fun k _ => by
    rw [clr_bit h0 hy32]
    by_cases q : k = lo y
    · simp [q]
    · simp [q])
  have up := fb_ct_upd (fun r => y.testBit r && (rt r == u)) false hlo
  rw [← e] at up
  simp only [hl, Bool.true_and, Bool.false_eq_true, if_false, Nat.add_zero] at up
  by_cases q : u = rt (lo y)
  · rw [if_pos q]
    have : (rt (lo y) == u) = true := by simp [q]
    rw [this] at up
    simp at up
    exact up.symm
  · rw [if_neg q]
    have : (rt (lo y) == u) = false := by simp; exact fun e => q e.symm
    rw [this] at up
    simp at up
    exact up.symm
/-- two shapes are one if their parts are -/
theorem sh_x {t : Nat} {cn tn cn' tn' : Nat → Nat} (ht : t ≤ 4) (h1 : ∀ u, cn u ≤ 5) (h2 : ∀ u, cn' u ≤ 5) (h3 : ∀ k, k < t → tn k < 5) (h4 : ∀ k, k < t → tn' k < 5) : shC cn + shT tn t = shC cn' + shT tn' t ↔ (∀ u, u < 5 → cn u = cn' u) ∧ ∀ k, k < t → tn k = tn' k := by
  have a0 := h1 0
  have a1 := h1 1
  have a2 := h1 2
  have a3 := h1 3
  have a4 := h1 4
  have c0 := h2 0
  have c1 := h2 1
  have c2 := h2 2
  have c3 := h2 3
  have c4 := h2 4
  constructor
  · intro h
    rcases (show t = 0 ∨ t = 1 ∨ t = 2 ∨ t = 3 ∨ t = 4 by omega) with rfl | rfl | rfl | rfl | rfl
    · simp only [shC, shT] at h
      exact ⟨fun u hu => by rcases (show u = 0 ∨ u = 1 ∨ u = 2 ∨ u = 3 ∨ u = 4 by omega) with rfl | rfl | rfl | rfl | rfl <;> omega, fun k hk => absurd hk (Nat.not_lt_zero k)⟩
    · have b0 := h3 0 (by decide)
      have d0 := h4 0 (by decide)
      simp only [shC, shT, Nat.mul_zero, Nat.add_zero, Nat.reducePow, Nat.reduceMul, Nat.reduceAdd, Nat.zero_add] at h
      exact ⟨fun u hu => by rcases (show u = 0 ∨ u = 1 ∨ u = 2 ∨ u = 3 ∨ u = 4 by omega) with rfl | rfl | rfl | rfl | rfl <;> omega, fun k hk => by rcases (show k = 0 by omega) with rfl; omega⟩
    · have b0 := h3 0 (by decide)
      have d0 := h4 0 (by decide)
      have b1 := h3 1 (by decide)
      have d1 := h4 1 (by decide)
      simp only [shC, shT, Nat.mul_zero, Nat.add_zero, Nat.reducePow, Nat.reduceMul, Nat.reduceAdd, Nat.zero_add] at h
      exact ⟨fun u hu => by rcases (show u = 0 ∨ u = 1 ∨ u = 2 ∨ u = 3 ∨ u = 4 by omega) with rfl | rfl | rfl | rfl | rfl <;> omega, fun k hk => by rcases (show k = 0 ∨ k = 1 by omega) with rfl | rfl <;> omega⟩
    · have b0 := h3 0 (by decide)
      have d0 := h4 0 (by decide)
      have b1 := h3 1 (by decide)
      have d1 := h4 1 (by decide)
      have b2 := h3 2 (by decide)
      have d2 := h4 2 (by decide)
      simp only [shC, shT, Nat.mul_zero, Nat.add_zero, Nat.reducePow, Nat.reduceMul, Nat.reduceAdd, Nat.zero_add] at h
      exact ⟨fun u hu => by rcases (show u = 0 ∨ u = 1 ∨ u = 2 ∨ u = 3 ∨ u = 4 by omega) with rfl | rfl | rfl | rfl | rfl <;> omega, fun k hk => by rcases (show k = 0 ∨ k = 1 ∨ k = 2 by omega) with rfl | rfl | rfl <;> omega⟩
    · have b0 := h3 0 (by decide)
      have d0 := h4 0 (by decide)
      have b1 := h3 1 (by decide)
      have d1 := h4 1 (by decide)
      have b2 := h3 2 (by decide)
      have d2 := h4 2 (by decide)
      have b3 := h3 3 (by decide)
      have d3 := h4 3 (by decide)
      simp only [shC, shT, Nat.mul_zero, Nat.add_zero, Nat.reducePow, Nat.reduceMul, Nat.reduceAdd, Nat.zero_add] at h
      exact ⟨fun u hu => by rcases (show u = 0 ∨ u = 1 ∨ u = 2 ∨ u = 3 ∨ u = 4 by omega) with rfl | rfl | rfl | rfl | rfl <;> omega, fun k hk => by rcases (show k = 0 ∨ k = 1 ∨ k = 2 ∨ k = 3 by omega) with rfl | rfl | rfl | rfl <;> omega⟩
  · rintro ⟨e1, e2⟩
    have : shT tn t = shT tn' t := by
      have : ∀ k, k ≤ t → shT tn k = shT tn' k := by
        intro k
        induction k with
        | zero => intro _; rfl
        | succ k ih => intro hk; rw [shT, shT, ih (by omega), e2 k (by omega)]
      exact this t (Nat.le_refl _)
    rw [this]
    unfold shC
    rw [e1 0 (by decide), e1 1 (by decide), e1 2 (by decide), e1 3 (by decide), e1 4 (by decide)]
theorem sh_m {t : Nat} {cn tn cn' tn' : Nat → Nat} (ht : t ≤ 4) (h1 : ∀ u, cn u ≤ 5) (h2 : ∀ u, cn' u ≤ 5) (h3 : ∀ k, k < t → tn k < 5) (h4 : ∀ k, k < t → tn' k < 5) : mdC cn (fun k => if k < t then tn k else 0) = mdC cn' (fun k => if k < t then tn' k else 0) ↔ (∀ u, u < 5 → cn u = cn' u) ∧ ∀ k, k < t → tn k = tn' k := by
  have a0 := h1 0
  have a1 := h1 1
  have a2 := h1 2
  have a3 := h1 3
  have a4 := h1 4
  have c0 := h2 0
  have c1 := h2 1
  have c2 := h2 2
  have c3 := h2 3
  have c4 := h2 4
  have lt : ∀ (g : Nat → Nat), (∀ k, k < t → g k < 5) → ∀ k, (if k < t then g k else 0) < 5 := fun g hg k => by
    split
    · rename_i q; exact hg k q
    · decide
  have x0 := lt tn h3 0
  have x1 := lt tn h3 1
  have x2 := lt tn h3 2
  have x3 := lt tn h3 3
  have y0 := lt tn' h4 0
  have y1 := lt tn' h4 1
  have y2 := lt tn' h4 2
  have y3 := lt tn' h4 3
  unfold mdC
  constructor
  · intro h
    simp only [] at h
    have e0 : (if 0 < t then tn 0 else 0) = (if 0 < t then tn' 0 else 0) := by omega
    have e1 : (if 1 < t then tn 1 else 0) = (if 1 < t then tn' 1 else 0) := by omega
    have e2 : (if 2 < t then tn 2 else 0) = (if 2 < t then tn' 2 else 0) := by omega
    have e3 : (if 3 < t then tn 3 else 0) = (if 3 < t then tn' 3 else 0) := by omega
    refine ⟨fun u hu => by rcases (show u = 0 ∨ u = 1 ∨ u = 2 ∨ u = 3 ∨ u = 4 by omega) with rfl | rfl | rfl | rfl | rfl <;> omega, fun k hk => ?_⟩
    rcases (show k = 0 ∨ k = 1 ∨ k = 2 ∨ k = 3 by omega) with rfl | rfl | rfl | rfl
    · rw [if_pos hk, if_pos hk] at e0; exact e0
    · rw [if_pos hk, if_pos hk] at e1; exact e1
    · rw [if_pos hk, if_pos hk] at e2; exact e2
    · rw [if_pos hk, if_pos hk] at e3; exact e3
  · rintro ⟨e1, e2⟩
    have g : ∀ k, (if k < t then tn k else 0) = (if k < t then tn' k else 0) := fun k => by
      by_cases q : k < t
      · rw [if_pos q, if_pos q, e2 k q]
      · rw [if_neg q, if_neg q]
    simp only [g]
    rw [e1 0 (by decide), e1 1 (by decide), e1 2 (by decide), e1 3 (by decide), e1 4 (by decide)]
section SHAPE
variable {K : KT} {G : St} {h : Nat} {b : TBt} {w : RWt} {f P : Nat → Nat → Nat} {t : Nat}
theorem okJ_tn (hP : ∀ k r, P k r ≤ 4 ∨ P k r = 9) (hPn : ∀ k r, w.1 ≤ r → P k r = 9) (hwb : ∀ r, r < w.1 → w.2.1 r < b.1) (hb5 : b.1 ≤ 5) {s : Nat} (hj : okJ f P t s) {k : Nat} (hk : k < t) : tnS w.2.1 P s k < 5 ∧ hi P s k < w.1 ∧ s.testBit (hi P s k) = true := by
  have hHI := HI_ex (by have := hj.1; omega) hP (hj.2.2.2.2 k hk)
  have hrn : hi P s k < w.1 := by
    rcases Nat.lt_or_ge (hi P s k) w.1 with q | q
    · exact q
    · exact absurd (hPn k _ q) hHI.2.1
  have := hwb _ hrn
  exact ⟨by unfold tnS; omega, hrn, hHI.1⟩
theorem s_shapeOf {Q : Int32 → St → Prop} {s : Nat} (hL : Lay G.2.2) (hh : h = 39 ∨ h = 49) (hb : XTb G h b) (hw : XRw G h b w) (hH : XHt G P w.1 t) (ht : t ≤ 4) (hP : ∀ k r, P k r ≤ 4 ∨ P k r = 9) (hPn : ∀ k r, w.1 ≤ r → P k r = 9) (hj : okJ f P t s) (hsn : ∀ r, s.testBit r = true → r < w.1) (hQ : Q (nI (xC w.2.1 P t s)) G) : EvI K mX4_shapeOf 2 0 [(0, .ref h), (1, .ref 5), (2, .int (nI s)), (3, .int (nI t))] [] G Q := by
  obtain ⟨s30, s0, s5, sc, sh⟩ := id hj
  have w30 := hw.2.1
  have b5 := hb.2.1
  have hwb : ∀ r, r < w.1 → w.2.1 r < b.1 := fun r hr => (hw.2.2.1 r hr).1
  have cn5 : ∀ u, cnS w.2.1 s u ≤ 5 := fun u => Nat.le_trans cnS_le s5
  have hsc := shC_lt cn5
  have terms : ∀ (m k : Nat), k + m = t → EvI K mX4_shapeOf 2 52 [(0, .ref h), (1, .ref 5), (2, .int (nI s)), (3, .int (nI t)), (4, .int (nI (shC (cnS w.2.1 s) + shT (tnS w.2.1 P s) k))), (6, .int (nI k))] [] G Q := by
    intro m
    induction m with
    | zero =>
      intro k hm
      have ek : k = t := by omega
      subst ek
      refine kX4_shapeOf_52 hL hh ?_
      try simp (disch := omega) only [nLe, nLeR, nLeL, nLt, nLtR, nLtL, nEq, nEqR, nEqL, nClamp, nClampR, nAdd, nAddR, nAddL, nSub, nSubR, nMul, nMulR, nMulL, nDivR, vIn, vInR, iteZ, iteP, lEq, lEqR, forall_eq, forall_const, true_implies, false_implies, not_true_eq_false, not_false_eq_true, true_and, and_true, implies_true, Decidable.not_not, Nat.le_refl]
      exact hQ
    | succ m ih =>
      intro k hm
      obtain ⟨t1, t2, t3⟩ := okJ_tn (b := b) hP hPn hwb b5 hj (show k < t by omega)
      obtain ⟨r1, r2, -, -⟩ := hw.2.2.1 _ t2
      refine kX4_shapeOf_52 hL hh ?_
      try simp (disch := omega) only [nLe, nLeR, nLeL, nLt, nLtR, nLtL, nEq, nEqR, nEqL, nClamp, nClampR, nAdd, nAddR, nAddL, nSub, nSubR, nMul, nMulR, nMulL, nDivR, vIn, vInR, iteZ, iteP, lEq, lEqR, forall_eq, forall_const, true_implies, false_implies, not_true_eq_false, not_false_eq_true, true_and, and_true, implies_true, Decidable.not_not, Nat.le_refl]
      refine ⟨fun z => by omega, fun _ => s_holderIn hL hH w30 ht (by omega) hP hPn s30 (sh k (by omega)) (fun _ => s_X1_isTold hL hh hw ?_)⟩
      rw [if_pos (by rw [nI_toInt (by omega)]; omega)]
      refine ⟨fun z => absurd z (by decide), fun _ => ?_⟩
      try simp (disch := omega) only [nLe, nLeR, nLeL, nLt, nLtR, nLtL, nEq, nEqR, nEqL, nClamp, nClampR, nAdd, nAddR, nAddL, nSub, nSubR, nMul, nMulR, nMulL, nDivR, vIn, vInR, iteZ, iteP, lEq, lEqR, forall_eq, forall_const, true_implies, false_implies, not_true_eq_false, not_false_eq_true, true_and, and_true, implies_true, Decidable.not_not, Nat.le_refl, r2]
      -- the parts below fit
      have hlt : shC (cnS w.2.1 s) + shT (tnS w.2.1 P s) k < 2 ^ (15 + 3 * k) := by
        have e : shT (tnS w.2.1 P s) k = shT (fun j => if j < k then tnS w.2.1 P s j else 0) k := by
          have : ∀ j, j ≤ k → shT (tnS w.2.1 P s) j = shT (fun j => if j < k then tnS w.2.1 P s j else 0) j := by
            intro j
            induction j with
            | zero => intro _; rfl
            | succ j ihj => intro hj'; rw [shT, shT, ihj (by omega), if_pos (by omega)]
          exact this k (Nat.le_refl _)
        have := (shT_lt (tn := fun j => if j < k then tnS w.2.1 P s j else 0) (fun j => by
          split
          · have := (okJ_tn (b := b) hP hPn hwb b5 hj (show j < t by omega)).1; omega
          · decide) k).1
        rw [e]; omega
      refine ⟨by omega, s_X4_withTerm hL t1 (by omega) hlt (kX4_shapeOf_92 hL hh ?_)⟩
      try simp (disch := omega) only [nLe, nLeR, nLeL, nLt, nLtR, nLtL, nEq, nEqR, nEqL, nClamp, nClampR, nAdd, nAddR, nAddL, nSub, nSubR, nMul, nMulR, nMulL, nDivR, vIn, vInR, iteZ, iteP, lEq, lEqR, forall_eq, forall_const, true_implies, false_implies, not_true_eq_false, not_false_eq_true, true_and, and_true, implies_true, Decidable.not_not, Nat.le_refl]
      have := ih (k + 1) (by omega)
      rw [shT, ← Nat.add_assoc] at this
      exact this
  have rows : ∀ (m y x : Nat), pc y = m → sb y s → x + shC (cnS w.2.1 y) = shC (cnS w.2.1 s) → EvI K mX4_shapeOf 2 12 [(0, .ref h), (1, .ref 5), (2, .int (nI s)), (3, .int (nI t)), (4, .int (nI x)), (5, .int (nI y)), (6, .int (nI m))] [] G Q := by
    intro m
    induction m with
    | zero =>
      intro y x hm hy hx
      have e0 : y = 0 := (pc_pos (by have := sb_lt (n := 30) hy s30; omega)).mp hm
      subst e0
      have : shC (cnS w.2.1 0) = 0 := by unfold shC; simp only [cnS_0]
      have ex : x = shC (cnS w.2.1 s) := by omega
      refine kX4_shapeOf_12 hL hh ⟨fun _ => ?_, fun z => absurd (by decide) z⟩
      rw [ex]
      exact terms t 0 (by omega)
    | succ m ih =>
      intro y x hm hy hx
      have hy0 : y ≠ 0 := fun e => by rw [e, pc_0] at hm; cases hm
      have hy30 : y < 2 ^ 30 := sb_lt (n := 30) hy s30
      have hy32 : y < 2 ^ 32 := by omega
      have hly := lo_bit hy0 hy32
      have hloy : lo y < 30 := bt_lt hy30 hly
      have hcp := pc_clr hy0 hy32
      have hlw := hsn _ (hy _ hly)
      obtain ⟨r1, r2, -, -⟩ := hw.2.2.1 _ hlw
      have ec : shC (cnS w.2.1 y) = shC (cnS w.2.1 (clr y)) + 2 ^ (3 * w.2.1 (lo y)) := by
        rw [← shC_add (by omega)]
        congr 1
        funext u
        exact cnS_clr hy0 (by omega)
      refine kX4_shapeOf_12 hL hh ⟨fun z => absurd z (by rw [nLeR (by have := pc_le y; omega) (by decide)]; simp), fun _ => s_ntz hy0 (by omega) hL ?_⟩
      rw [clr_and hy0 hy32, nDec (by omega)]
      try simp (disch := omega) only [nLe, nLeR, nLeL, nLt, nLtR, nLtL, nEq, nEqR, nEqL, nClamp, nClampR, nAdd, nAddR, nAddL, nSub, nSubR, nMul, nMulR, nMulL, nDivR, vIn, vInR, iteZ, iteP, lEq, lEqR, forall_eq, forall_const, true_implies, false_implies, not_true_eq_false, not_false_eq_true, true_and, and_true, implies_true, Decidable.not_not, Nat.le_refl, r2]
      refine ⟨hloy, s_X4_withRow hL (by omega) ?_⟩
      exact ih (clr y) (x + 2 ^ (3 * w.2.1 (lo y))) (by omega) (fun i hi => hy i (by rw [clr_bit hy0 hy32] at hi; simp at hi; exact hi.1)) (by omega)
  exact kX4_shapeOf_0 hL hh (s_bitCount (by omega) hL (rows (pc s) s 0 rfl (sb_rf s) (Nat.zero_add _)))
theorem s_codeOf {Q : Int32 → St → Prop} {s : Nat} (hL : Lay G.2.2) (hb5 : b.1 ≤ 5) (hw : MRw G b w) (hH : MHt G P t) (hq : sI G 66 20 = nI t) (ht : t ≤ 4) (hP : ∀ k r, P k r ≤ 4 ∨ P k r = 9) (hPn : ∀ k r, w.1 ≤ r → P k r = 9) (hj : okJ f P t s) (hsn : ∀ r, s.testBit r = true → r < w.1) (hQ : Q (nI (mC w.2.1 P t s)) G) : EvI K mX12_codeOf 1 0 [(0, .ref 66), (1, .int (nI s))] [] G Q := by
  obtain ⟨s30, s0, s5, sc, sh⟩ := id hj
  have w30' := hw.2.1
  have hwb : ∀ r, r < w.1 → w.2.1 r < b.1 := fun r hr => (hw.2.2 r hr).1
  have cn5 : ∀ u, cnS w.2.1 s u ≤ 5 := fun u => Nat.le_trans cnS_le s5
  have ctn : ∀ u, fb_ct (fun r => s.testBit r && (w.2.1 r == u)) w.1 = cnS w.2.1 s u := fun u => by
    unfold cnS
    rw [w30_eq]
    have e30 : 30 = w.1 + (30 - w.1) := by omega
    rw [e30, fb_ct_split]
    have : fb_ct (fun k => s.testBit (w.1 + k) && (w.2.1 (w.1 + k) == u)) (30 - w.1) = 0 := fb_ct_zero.mpr (fun k _ => by
      have : s.testBit (w.1 + k) = false := by
        cases e : s.testBit (w.1 + k)
        · rfl
        · exact absurd (hsn _ e) (by omega)
      simp [this])
    omega
  generalize htn : (fun k => if k < t then tnS w.2.1 P s k else 0) = tn at *
  have tn5 : ∀ k, tn k < 5 := fun k => by
    rw [← htn]
    show (if k < t then tnS w.2.1 P s k else 0) < 5
    split
    · rename_i q; exact (okJ_tn (b := b) hP hPn hwb hb5 hj q).1
    · decide
  have tnv : ∀ k, tn k = if k < t then tnS w.2.1 P s k else 0 := fun k => by rw [← htn]
  have eMC : mC w.2.1 P t s = mdC (cnS w.2.1 s) tn := by unfold mC; rw [htn]
  have term : ∀ (k x : Nat), k < 4 → x < 2000000 → EvI K mX12_codeOf 1 76 [(0, .ref 66), (1, .int (nI s)), (2, .int (nI (5 * x + tn k))), (3, .int (nI (k + 1)))] [] G Q → EvI K mX12_codeOf 1 76 [(0, .ref 66), (1, .int (nI s)), (2, .int (nI x)), (3, .int (nI k))] [] G Q := by
    intro k x hk hx hgo
    have put : EvI K mX12_codeOf 1 107 [(0, .ref 66), (1, .int (nI s)), (3, .int (nI k))] [.int (nI (tn k)), .int (nI (5 * x))] G Q := by
      refine kX12_codeOf_107 hL ?_
      try simp (disch := omega) only [nLe, nLeR, nLeL, nLt, nLtR, nLtL, nEq, nEqR, nEqL, nClamp, nClampR, nAdd, nAddR, nAddL, nSub, nSubR, nMul, nMulR, nMulL, nDivR, vIn, vInR, iteZ, iteP, lEq, lEqR, forall_eq, forall_const, true_implies, false_implies, not_true_eq_false, not_false_eq_true, true_and, and_true, implies_true, Decidable.not_not, Nat.le_refl]
      exact hgo
    refine kX12_codeOf_76 hL ?_
    rw [hq]
    try simp (disch := omega) only [nLe, nLeR, nLeL, nLt, nLtR, nLtL, nEq, nEqR, nEqL, nClamp, nClampR, nAdd, nAddR, nAddL, nSub, nSubR, nMul, nMulR, nMulL, nDivR, vIn, vInR, iteZ, iteP, lEq, lEqR, forall_eq, forall_const, true_implies, false_implies, not_true_eq_false, not_false_eq_true, true_and, and_true, implies_true, Decidable.not_not, Nat.le_refl]
    refine ⟨fun z => by omega, fun _ => ⟨fun z => ?_, fun z => s_X12_holderIn hL hH hw.1 w30' ht (by omega) hP hPn s30 (sh k (by omega)) (fun _ => ?_)⟩⟩
    · have : tn k = 0 := by rw [tnv, if_neg (by omega)]
      rw [this] at put
      exact put
    · obtain ⟨t1, t2, t3⟩ := okJ_tn (b := b) hP hPn hwb hb5 hj (show k < t by omega)
      obtain ⟨r1, r2, -⟩ := hw.2.2 _ t2
      have : tn k = w.2.1 (hi P s k) := by rw [tnv, if_pos (by omega)]; rfl
      try simp (disch := omega) only [nLe, nLeR, nLeL, nLt, nLtR, nLtL, nEq, nEqR, nEqL, nClamp, nClampR, nAdd, nAddR, nAddL, nSub, nSubR, nMul, nMulR, nMulL, nDivR, vIn, vInR, iteZ, iteP, lEq, lEqR, forall_eq, forall_const, true_implies, false_implies, not_true_eq_false, not_false_eq_true, true_and, and_true, implies_true, Decidable.not_not, Nat.le_refl, r2]
      rw [this] at put
      exact ⟨by omega, put⟩
  have x0 := tn5 0
  have x1 := tn5 1
  have x2 := tn5 2
  have x3 := tn5 3
  have c0 := cn5 0
  have c1 := cn5 1
  have c2 := cn5 2
  have c3 := cn5 3
  have c4 := cn5 4
  have table : ∀ (u x : Nat), u < 5 → x < 10000 → (∀ z : Int32, (u = 0 → z = -1) → (∀ v, u = v + 1 → z = nI v) → EvI K mX12_codeOf 1 4 [(0, .ref 66), (1, .int (nI s)), (2, .int (nI (6 * x + cnS w.2.1 s u))), (3, .int z)] [] G Q) → EvI K mX12_codeOf 1 4 [(0, .ref 66), (1, .int (nI s)), (2, .int (nI x)), (3, .int (nI u))] [] G Q := by
    intro u x hu hx hgo
    have key : ∀ (m r : Nat), r + m = w.1 → EvI K mX12_codeOf 1 14 [(0, .ref 66), (1, .int (nI s)), (2, .int (nI x)), (3, .int (nI u)), (4, .int (nI (fb_ct (fun r => s.testBit r && (w.2.1 r == u)) r))), (5, .int (nI r))] [] G Q := by
      intro m
      induction m with
      | zero =>
        intro r hm
        have er : r = w.1 := by omega
        subst er
        refine kX12_codeOf_14 hL ?_
        rw [hw.1]
        refine ⟨fun _ => ?_, fun z => absurd (Int32.le_refl _) z⟩
        rw [ctn u]
        have c5 := cn5 u
        try simp (disch := omega) only [nLe, nLeR, nLeL, nLt, nLtR, nLtL, nEq, nEqR, nEqL, nClamp, nClampR, nAdd, nAddR, nAddL, nSub, nSubR, nMul, nMulR, nMulL, nDivR, vIn, vInR, iteZ, iteP, lEq, lEqR, forall_eq, forall_const, true_implies, false_implies, not_true_eq_false, not_false_eq_true, true_and, and_true, implies_true, Decidable.not_not, Nat.le_refl]
        refine hgo _ (fun z => ?_) (fun v hv => ?_)
        · rw [z]; decide
        · rw [hv, nDec (by omega)]; rfl
      | succ m ih =>
        intro r hm
        obtain ⟨r1, r2, -⟩ := hw.2.2 r (by omega)
        have ct := fb_ct_le (fun r => s.testBit r && (w.2.1 r == u)) r
        have nx : ∀ d, d = (if (s.testBit r && (w.2.1 r == u)) = true then 1 else 0) → EvI K mX12_codeOf 1 51 [(0, .ref 66), (1, .int (nI s)), (2, .int (nI x)), (3, .int (nI u)), (5, .int (nI r))] [.int (nI d), .int (nI (fb_ct (fun r => s.testBit r && (w.2.1 r == u)) r))] G Q := by
          intro d hd
          have d1 : d ≤ 1 := by rw [hd]; split <;> decide
          refine kX12_codeOf_51 hL ?_
          try simp (disch := omega) only [nLe, nLeR, nLeL, nLt, nLtR, nLtL, nEq, nEqR, nEqL, nClamp, nClampR, nAdd, nAddR, nAddL, nSub, nSubR, nMul, nMulR, nMulL, nDivR, vIn, vInR, iteZ, iteP, lEq, lEqR, forall_eq, forall_const, true_implies, false_implies, not_true_eq_false, not_false_eq_true, true_and, and_true, implies_true, Decidable.not_not, Nat.le_refl]
          have := ih (r + 1) (by omega)
          rw [fb_ct, ← hd] at this
          exact this
        refine kX12_codeOf_14 hL ?_
        rw [hw.1]
        rw [bit_at (by omega) (by omega)]
        by_cases z : s.testBit r = true
        · rw [if_pos z]
          try simp (disch := omega) only [nLe, nLeR, nLeL, nLt, nLtR, nLtL, nEq, nEqR, nEqL, nClamp, nClampR, nAdd, nAddR, nAddL, nSub, nSubR, nMul, nMulR, nMulL, nDivR, vIn, vInR, iteZ, iteP, lEq, lEqR, forall_eq, forall_const, true_implies, false_implies, not_true_eq_false, not_false_eq_true, true_and, and_true, implies_true, Decidable.not_not, Nat.le_refl, r2]
          refine ⟨fun z => by omega, fun _ => ⟨by omega, fun q => kX12_codeOf_50 hL (nx 0 (by simp [q])), fun q => nx 1 (by simp [z, q])⟩⟩
        · rw [if_neg z]
          refine ⟨fun z => absurd z (by try simp (disch := omega) only [nLe, nLeR, nLeL, nLt, nLtR, nLtL, nEq, nEqR, nEqL, nClamp, nClampR, nAdd, nAddR, nAddL, nSub, nSubR, nMul, nMulR, nMulL, nDivR, vIn, vInR, iteZ, iteP, lEq, lEqR, forall_eq, forall_const, true_implies, false_implies, not_true_eq_false, not_false_eq_true, true_and, and_true, implies_true, Decidable.not_not, Nat.le_refl]; omega), fun _ => ⟨fun _ => kX12_codeOf_50 hL (nx 0 (by simp [z])), fun q => absurd q (by decide)⟩⟩
    refine kX12_codeOf_4 hL ?_
    try simp (disch := omega) only [nLe, nLeR, nLeL, nLt, nLtR, nLtL, nEq, nEqR, nEqL, nClamp, nClampR, nAdd, nAddR, nAddL, nSub, nSubR, nMul, nMulR, nMulL, nDivR, vIn, vInR, iteZ, iteP, lEq, lEqR, forall_eq, forall_const, true_implies, false_implies, not_true_eq_false, not_false_eq_true, true_and, and_true, implies_true, Decidable.not_not, Nat.le_refl]
    exact ⟨fun z => by omega, fun _ => key w.1 0 (by omega)⟩
  have stop : ∀ x, x < 10000 → x = cnS w.2.1 s 0 + 6 * cnS w.2.1 s 1 + 36 * cnS w.2.1 s 2 + 216 * cnS w.2.1 s 3 + 1296 * cnS w.2.1 s 4 → EvI K mX12_codeOf 1 4 [(0, .ref 66), (1, .int (nI s)), (2, .int (nI x)), (3, .int (-1))] [] G Q := by
    intro x hx ex
    refine kX12_codeOf_4 hL ⟨fun _ => ?_, fun z => absurd (by decide) z⟩
    refine term 0 x (by decide) (by omega) (term 1 _ (by decide) (by omega) (term 2 _ (by decide) (by omega) (term 3 _ (by decide) (by omega) ?_)))
    refine kX12_codeOf_76 hL ⟨fun _ => ?_, fun z => absurd (by decide) z⟩
    have : 5 * (5 * (5 * (5 * x + tn 0) + tn 1) + tn 2) + tn 3 = mC w.2.1 P t s := by
      rw [eMC, ex]; unfold mdC; omega
    rw [this]
    exact hQ
  refine kX12_codeOf_0 hL ?_
  refine table 4 0 (by decide) (by decide) (fun z _ e4 => ?_)
  rw [e4 3 rfl]
  refine table 3 _ (by decide) (by omega) (fun z _ e3 => ?_)
  rw [e3 2 rfl]
  refine table 2 _ (by decide) (by omega) (fun z _ e2 => ?_)
  rw [e2 1 rfl]
  refine table 1 _ (by decide) (by omega) (fun z _ e1 => ?_)
  rw [e1 0 rfl]
  refine table 0 _ (by decide) (by omega) (fun z e0 _ => ?_)
  rw [e0 rfl]
  exact stop _ (by omega) (by omega)
end SHAPE

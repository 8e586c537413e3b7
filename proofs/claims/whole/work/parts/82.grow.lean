/-! the class' search: looks and growing sets -/
noncomputable def jqF (f P : Nat → Nat → Nat) (t s : Nat) : Bool := dB (ru (hdF P t) s = 2 ^ t - 1 ∧ jm (tdF f) (hdF P t) t s)
/-- what a search goes by -/
def XCx (G : St) (f P : Nat → Nat → Nat) (n t : Nat) (wi : Nat → Nat) (sz : Nat) : Prop := XTi G f ∧ XHt G P n t ∧ sI G 18 13 = nI t ∧ sI G 18 14 = nI (2 ^ t - 1) ∧ (∀ r, r < 30 → sI G 21 r = nI (wi r)) ∧ sI G 18 12 = nI sz
/-- what was looked at so far -/
def XVs (G : St) (f P : Nat → Nat → Nat) (t : Nat) (vis : List Nat) : Prop := sI G 18 16 = nI vis.length ∧ sI G 18 15 = nI (cov (hdF P t) vis) ∧ XFd G (jf (jqF f P t) 0 vis)
/-- the groups of a level -/
def XGs (G : St) (lv : Nat) (gs : List Nat) : Prop := sI G 20 lv = nI gs.length ∧ gs.length ≤ lv ∧ ∀ i g, gs[i]? = some g → sI G 19 (5 * lv + i) = nI g ∧ g < 1073741824
def sLk : Nat → Nat → Prop := fun i k => i = 18 ∧ (k = 15 ∨ k = 16 ∨ k = 17) ∨ i = 26 ∨ 104 ≤ i
def sGr (lv : Nat) : Nat → Nat → Prop := fun i k => i = 18 ∧ (k = 15 ∨ k = 16 ∨ k = 17) ∨ i = 26 ∨ 104 ≤ i ∨ i = 19 ∧ 5 * (lv + 1) ≤ k ∨ i = 20 ∧ lv + 1 ≤ k
section GROW
variable {K : KT} {G : St} {f P : Nat → Nat → Nat} {n t e sz : Nat} {wi : Nat → Nat}
theorem XCx.kg {S T : Nat → Nat → Prop} {G1 : St} (h : XCx G f P n t wi sz) (h104 : 104 ≤ nx G) (hk : Kg S T G G1) (hs : ∀ i k, S i k → i = 18 ∧ (k = 15 ∨ k = 16 ∨ k = 17) ∨ i = 26 ∨ 104 ≤ i ∨ i = 19 ∨ i = 20) : XCx G1 f P n t wi sz := by
  obtain ⟨a1, a2, a3, a4, a5, a6⟩ := h
  have hq := hk.toq
  refine ⟨(show XTi (mixS G G1) f from a1.kq hq (fun i k z => ?_)), (show XHt (mixS G G1) P n t from a2.kq hq (fun i k z => ?_)), ?_, ?_, fun r hr => ?_, ?_⟩
  · rcases z with z | z
    · have := hs i k z; omega
    · omega
  · unfold sHt
    rcases z with z | z
    · have := hs i k z; omega
    · omega
  · rw [hk.I (by omega) (fun z => by have := hs _ _ z; omega)]; exact a3
  · rw [hk.I (by omega) (fun z => by have := hs _ _ z; omega)]; exact a4
  · rw [hk.I (by omega) (fun z => by have := hs _ _ z; omega)]; exact a5 r hr
  · rw [hk.I (by omega) (fun z => by have := hs _ _ z; omega)]; exact a6
theorem XGs.kg {S T : Nat → Nat → Prop} {G1 : St} {lv : Nat} {gs : List Nat} (h : XGs G lv gs) (h104 : 104 ≤ nx G) (hl : lv ≤ 4) (hk : Kg S T G G1) (hs : ∀ i k, S i k → ¬ (i = 20 ∧ k = lv) ∧ ¬ (i = 19 ∧ k < 5 * (lv + 1))) : XGs G1 lv gs := by
  obtain ⟨a1, a2, a3⟩ := h
  refine ⟨by rw [hk.I (by omega) (fun z => (hs _ _ z).1 ⟨rfl, rfl⟩)]; exact a1, a2, fun i g hg => ?_⟩
  have hi : i < gs.length := by
    rcases Nat.lt_or_ge i gs.length with q | q
    · exact q
    · rw [List.getElem?_eq_none q] at hg; cases hg
  refine ⟨?_, (a3 i g hg).2⟩
  rw [hk.I (by omega) (fun z => (hs _ _ z).2 ⟨rfl, by omega⟩)]; exact (a3 i g hg).1
theorem ruh_lt (ht : t ≤ 4) (s : Nat) : ru (hdF P t) s < 16 := by
  have := ru_lt (s := s) (fun i => hdF_lt P t i)
  have : 2 ^ t ≤ 2 ^ 4 := Nat.pow_le_pow_right (by decide) ht
  omega
theorem ru_add {td : Nat → Nat} {s r : Nat} (hs : s < 2 ^ 32) (hr : r < 32) : ru td (s ||| 2 ^ r) = ru td s ||| td r := by
  rw [ru_or hs (Nat.pow_lt_pow_right (by decide) hr), ru_p2 hr]
theorem s_lookAtLast {Q : St → Prop} {lv set rows : Nat} {gs vis : List Nat} (hL : Lay G.2.2) (hR : Rm e G) (hX : XCx G f P n t wi sz) (hf : okF f) (hn : n ≤ 30) (ht : t ≤ 4) (hPn : ∀ k r, n ≤ r → P k r = 9) (hG : XGs G lv gs) (hlv : lv ≤ 4) (hset : set < 1073741824) (hpc : pc set ≤ lv) (hrows : rows < 1073741824) (hdis : ∀ i, rows.testBit i = true → set.testBit i = false) (hV : XVs G f P t vis) (hlen : (vis ++ gl (tdF f) wi 0 gs set rows).length ≤ 174436) (hQ : ∀ G', Lay G'.2.2 → Rm e G' → Kg sLk tKf G G' → XVs G' f P t (vis ++ gl (tdF f) wi 0 gs set rows) → Q G') : EvVa K mX6_lookAtLast 3 0 [(0, .ref 18), (1, .int (nI lv)), (2, .int (nI set)), (3, .int (nI (ru (hdF P t) set))), (4, .int (nI rows))] [] G Q := by
  have hset32 : set < 2 ^ 32 := by omega
  -- the rows that may be the last
  have looks : ∀ (m last : Nat) (vis : List Nat) (G1 : St), pc last = m → sb last rows → Lay G1.2.2 → Rm e G1 → Kg sLk tKf G G1 → XVs G1 f P t vis → (vis ++ (bl last).map (fun r => set ||| 2 ^ r)).length ≤ 174436 → (∀ G', Lay G'.2.2 → Rm e G' → Kg sLk tKf G G' → XVs G' f P t (vis ++ (bl last).map (fun r => set ||| 2 ^ r)) → Q G') → EvVa K mX6_lookAtLast 3 47 [(0, .ref 18), (2, .int (nI set)), (3, .int (nI (ru (hdF P t) set))), (5, .int (nI last)), (6, .int (nI m))] [] G1 Q := by
    intro m
    induction m with
    | zero =>
      intro last vis G1 hm hsb hL1 hR1 hk1 hV1 hlen1 hQ1
      have e0 : last = 0 := (pc_pos (by have := sb_lt (n := 30) hsb hrows; omega)).mp hm
      subst e0
      rw [bl_0, List.map_nil, List.append_nil] at hQ1
      exact kX6_lookAtLast_47 hL1 ⟨fun _ => hQ1 G1 hL1 hR1 hk1 hV1, fun z => absurd (by decide) z⟩
    | succ m ih =>
      intro last vis G1 hm hsb hL1 hR1 hk1 hV1 hlen1 hQ1
      have h0 : last ≠ 0 := fun e => by rw [e, pc_0] at hm; cases hm
      have hl30 : last < 2 ^ 30 := sb_lt hsb hrows
      have hl32 : last < 2 ^ 32 := by omega
      have hlo := lo_bit h0 hl32
      have hr30 : lo last < 30 := bt_lt hl30 hlo
      have hcp := pc_clr h0 hl32
      have h104 : 104 ≤ nx G := hL.2.2.2.1
      have hX1 := hX.kg h104 hk1 (fun i k z => by unfold sLk at z; omega)
      have hp2 : 2 ^ lo last < 2 ^ 30 := Nat.pow_lt_pow_right (by decide) hr30
      have hset' : set ||| 2 ^ lo last < 2 ^ 30 := Nat.or_lt_two_pow (n := 30) hset hp2
      have hpc' : pc (set ||| 2 ^ lo last) ≤ 5 := by
        rw [pc_add (by omega) (hdis _ (hsb _ hlo))]; omega
      obtain ⟨v1, v2, v3⟩ := id hV1
      have hu : ru (hdF P t) (set ||| 2 ^ lo last) = ru (hdF P t) set ||| hdF P t (lo last) := ru_add hset32 (by omega)
      have hru := ruh_lt (P := P) ht (set ||| 2 ^ lo last)
      have hcov := cov_lt (hd := hdF P t) (vis := vis) (ruh_lt ht)
      have hvl : vis.length < 174436 := by
        rw [bl_cons h0 hl32, List.map_cons, List.length_append, List.length_cons] at hlen1; omega
      rw [bl_cons h0 hl32, List.map_cons, List.append_cons] at hlen1 hQ1
      have h10 : sI G1 10 (lo last) = nI (hdF P t (lo last)) := hX1.2.1.2 _ hr30
      have kq2 : Kq sLk G1 (uI (uI G1 18 16 (nI (vis.length + 1))) 18 15 (nI (cov (hdF P t) (vis ++ [set ||| 2 ^ lo last])))) := (kq_I (by unfold sLk; omega)).sI (by unfold sLk; omega)
      -- the next row
      have next : ∀ G3 : St, Lay G3.2.2 → Rm e G3 → Kg sLk tKf G1 G3 → XVs G3 f P t (vis ++ [set ||| 2 ^ lo last]) → EvVa K mX6_lookAtLast 3 137 [(0, .ref 18), (2, .int (nI set)), (3, .int (nI (ru (hdF P t) set))), (5, .int (nI (clr last))), (6, .int (nI (m + 1)))] [] G3 Q := by
        intro G3 hL3 hR3 hk3 hV3
        refine kX6_lookAtLast_137 hL3 ?_
        rw [nDec (by omega)]
        exact ih (clr last) _ G3 (by omega) (fun i hi => hsb i (by rw [clr_bit h0 hl32] at hi; simp at hi; exact hi.1)) hL3 hR3 (hk1.tr hk3) hV3 hlen1 hQ1
      refine kX6_lookAtLast_47 hL1 ⟨fun z => absurd z (by rw [nLeR (by have := pc_le last; omega) (by decide)]; simp), fun _ => s_ntz h0 (by omega) hL1 ?_⟩
      rw [clr_and h0 hl32]
      try simp (disch := omega) only [nLe, nLeR, nLeL, nLt, nLtR, nLtL, nEq, nEqR, nEqL, nClamp, nClampR, nAdd, nAddR, nAddL, nSub, nSubR, nMul, nMulR, nMulL, nDivR, vIn, vInR, iteZ, iteP, lEq, lEqR, forall_eq, forall_const, true_implies, false_implies, not_true_eq_false, not_false_eq_true, true_and, and_true, implies_true, Decidable.not_not, Nat.le_refl]
      rw [h10, fa_or, ← hu, v1, v2, hX1.2.2.2.1, shl_one (show ru (hdF P t) (set ||| 2 ^ lo last) < 31 by omega), fa_or, ← cov_snoc, shl_one (by omega), fa_or]
      have p2t : 2 ^ t ≤ 2 ^ 4 := Nat.pow_le_pow_right (by decide) ht
      try simp (disch := omega) only [nLe, nLeR, nLeL, nLt, nLtR, nLtL, nEq, nEqR, nEqL, nClamp, nClampR, nAdd, nAddR, nAddL, nSub, nSubR, nMul, nMulR, nMulL, nDivR, vIn, vInR, iteZ, iteP, lEq, lEqR, forall_eq, forall_const, true_implies, false_implies, not_true_eq_false, not_false_eq_true, true_and, and_true, implies_true, Decidable.not_not, Nat.le_refl]
      generalize hG2 : uI (uI G1 18 16 (nI (vis.length + 1))) 18 15 (nI (cov (hdF P t) (vis ++ [set ||| 2 ^ lo last]))) = G2 at kq2
      have hL2 := kq2.lay hL1
      have hk2 : Kg sLk tKf G1 G2 := kq2.g
      have a16 : sI G2 18 16 = nI (vis ++ [set ||| 2 ^ lo last]).length := by rw [← hG2, gI, gI]; simp
      have a15 : sI G2 18 15 = nI (cov (hdF P t) (vis ++ [set ||| 2 ^ lo last])) := by rw [← hG2, gI]; simp
      have a17 : XFd G2 (jf (jqF f P t) 0 vis) := by
        obtain ⟨g1, g2, g3⟩ := lay_g hL1 (i := 18) (k := 9) (t := 1) (f := 26) (by decide)
        obtain ⟨w1, w2, w3⟩ := v3
        refine ⟨by rw [← hG2, gI, gI]; simpa using w1, by rw [kq2.R, ← hG2]; exact w2, fun i y hy => ?_⟩
        rw [kq2.R, ← hG2]
        exact w3 i y hy
      have hX2 := hX1.kg hL1.2.2.2.1 hk2 (fun i k z => by unfold sLk at z; omega)
      have no : jqF f P t (set ||| 2 ^ lo last) = false → XVs G2 f P t (vis ++ [set ||| 2 ^ lo last]) := by
        intro hj
        refine ⟨a16, a15, ?_⟩
        rw [jf_snoc, if_neg (by rw [hj]; decide)]
        exact a17
      refine ⟨hr30, fun z => next G2 hL2 (hR1.kq kq2) hk2 (no (dB_no.mpr (fun y => z y.1))), fun z => s_X6_isLeast hL2 hX2.1 hf hX2.2.1 hn ht hPn hX2.2.2.1 hset' hpc' ?_⟩
      try simp (disch := omega) only [nLe, nLeR, nLeL, nLt, nLtR, nLtL, nEq, nEqR, nEqL, nClamp, nClampR, nAdd, nAddR, nAddL, nSub, nSubR, nMul, nMulR, nMulL, nDivR, vIn, vInR, iteZ, iteP, lEq, lEqR, forall_eq, forall_const, true_implies, false_implies, not_true_eq_false, not_false_eq_true, true_and, and_true, implies_true, Decidable.not_not, Nat.le_refl]
      refine ⟨fun z2 => next G2 hL2 (hR1.kq kq2) hk2 (no (dB_no.mpr (fun y => z2 (dB_iff.mpr y.2)))), fun z2 => ?_⟩
      have hj : jqF f P t (set ||| 2 ^ lo last) = true := dB_iff.mpr ⟨z, dB_iff.mp z2⟩
      refine s_keepFound hL2 (hR1.kq kq2) a17 (by have := jf_len (q := jqF f P t) (l := vis) (k := 0); omega) (p := vis.length + 1) (by rw [a16, List.length_append]; rfl) (by omega) hset' (fun G4 hL4 hR4 hk4 hF4 => ⟨hL4, next G4 hL4 hR4 (hk2.tr (hk4.mono (fun i k _ z => by unfold sKf at z; unfold sLk; omega) (fun i k _ z => z))) ⟨?_, ?_, ?_⟩⟩)
      · rw [hk4.I (by have := hL2.2.2.2.1; show 18 < G2.2.2.2.2.2.1; omega) (by unfold sKf; omega)]; exact a16
      · rw [hk4.I (by have := hL2.2.2.2.1; show 18 < G2.2.2.2.2.2.1; omega) (by unfold sKf; omega)]; exact a15
      · rw [jf_snoc, if_pos hj, Nat.zero_add]; exact hF4
  -- the groups cut them down
  have cut : ∀ (m i : Nat) (a : Nat), i + m = gs.length → a = (gs.take i).foldl (fun a g => a &&& g) rows → EvVa K mX6_lookAtLast 3 7 [(0, .ref 18), (1, .int (nI lv)), (2, .int (nI set)), (3, .int (nI (ru (hdF P t) set))), (5, .int (nI a)), (6, .int (nI i))] [] G Q := by
    obtain ⟨g1, g2, g3⟩ := hG
    intro m
    induction m with
    | zero =>
      intro i a hm ha
      have ei : i = gs.length := by omega
      subst ei
      rw [List.take_length] at ha
      have hsb : sb a rows := fun j hj => by rw [ha] at hj; exact ((fold_and gs rows j).mp hj).1
      have ha30 : a < 2 ^ 30 := sb_lt (n := 30) hsb hrows
      refine kX6_lookAtLast_7 hL ?_
      try simp (disch := omega) only [nLe, nLeR, nLeL, nLt, nLtR, nLtL, nEq, nEqR, nEqL, nClamp, nClampR, nAdd, nAddR, nAddL, nSub, nSubR, nMul, nMulR, nMulL, nDivR, vIn, vInR, iteZ, iteP, lEq, lEqR, forall_eq, forall_const, true_implies, false_implies, not_true_eq_false, not_false_eq_true, true_and, and_true, implies_true, Decidable.not_not, Nat.le_refl, g1]
      refine ⟨by omega, s_bitCount (by omega) hL ?_⟩
      rw [ha] at hsb ⊢
      exact looks _ _ vis G rfl hsb hL hR Kg.rf hV hlen hQ
    | succ m ih =>
      intro i a hm ha
      have hi : i < gs.length := by omega
      obtain ⟨b1, b2⟩ := g3 i gs[i] (List.getElem?_eq_getElem hi)
      refine kX6_lookAtLast_7 hL ?_
      try simp (disch := omega) only [nLe, nLeR, nLeL, nLt, nLtR, nLtL, nEq, nEqR, nEqL, nClamp, nClampR, nAdd, nAddR, nAddL, nSub, nSubR, nMul, nMulR, nMulL, nDivR, vIn, vInR, iteZ, iteP, lEq, lEqR, forall_eq, forall_const, true_implies, false_implies, not_true_eq_false, not_false_eq_true, true_and, and_true, implies_true, Decidable.not_not, Nat.le_refl, g1]
      refine ⟨by omega, fun z => by omega, fun _ => ⟨by omega, ?_⟩⟩
      rw [show lv * 5 + i = 5 * lv + i by omega, b1, fa_and]
      refine ih (i + 1) _ (by omega) ?_
      rw [List.take_succ_eq_append_getElem hi, List.foldl_append, ← ha]; rfl
  exact kX6_lookAtLast_0 hL (cut gs.length 0 rows (by omega) rfl)
/-- a row joins the groups -/
theorem s_addToGroups {Q : Int32 → St → Prop} {lv r low : Nat} {gs : List Nat} (hL : Lay G.2.2) (hX : XTi G f) (hG : XGs G lv gs) (hlv : lv ≤ 3) (hr : r < 30) (hlow : low < 1073741824)
    (hQ : ∀ G', Kq (fun i k => i = 19 ∧ 5 * (lv + 1) ≤ k ∨ i = 20 ∧ k = lv + 1) G G' → (match adG r low gs (tdF f r) [] with
      | none => Q 0 G'
      | some x => XGs G' (lv + 1) (x.1 ++ [x.2]) → Q (if x.2 &&& low = 0 then 0 else 1) G')) : EvI K mX6_addToGroups 0 0 [(0, .ref 18), (1, .int (nI lv)), (2, .int (nI r)), (3, .int (nI low))] [] G Q := by
  obtain ⟨g1, g2, g3⟩ := id hG
  have key : ∀ (m i mg : Nat) (kp : List Nat) (G1 : St), i + m = gs.length → kp.length ≤ i → mg < 1073741824 → Kq (fun i k => i = 19 ∧ 5 * (lv + 1) ≤ k ∨ i = 20 ∧ k = lv + 1) G G1 → (∀ j g, kp[j]? = some g → sI G1 19 (5 * (lv + 1) + j) = nI g ∧ g < 1073741824) → adG r low gs (tdF f r) [] = adG r low (gs.drop i) mg kp → EvI K mX6_addToGroups 0 28 [(0, .ref 18), (1, .int (nI lv)), (2, .int (nI r)), (3, .int (nI low)), (4, .int (nI (5 * lv))), (5, .int (nI (5 * (lv + 1)))), (6, .int (nI mg)), (7, .int (nI kp.length)), (8, .int (nI i))] [] G1 Q := by
    intro m
    induction m with
    | zero =>
      intro i mg kp G1 hm hkp hmg kq hkv had
      have ei : i = gs.length := by omega
      subst ei
      rw [List.drop_length, adG] at had
      have hL1 := kq.lay hL
      have e20 : sI G1 20 lv = nI gs.length := by rw [kq.I (by omega)]; exact g1
      refine kX6_addToGroups_28 hL1 ?_
      try simp (disch := omega) only [nLe, nLeR, nLeL, nLt, nLtR, nLtL, nEq, nEqR, nEqL, nClamp, nClampR, nAdd, nAddR, nAddL, nSub, nSubR, nMul, nMulR, nMulL, nDivR, vIn, vInR, iteZ, iteP, lEq, lEqR, forall_eq, forall_const, true_implies, false_implies, not_true_eq_false, not_false_eq_true, true_and, and_true, implies_true, Decidable.not_not, Nat.le_refl, e20]
      refine ⟨by omega, by omega, by omega, ?_⟩
      have kq2 : Kq (fun i k => i = 19 ∧ 5 * (lv + 1) ≤ k ∨ i = 20 ∧ k = lv + 1) G (uI (uI G1 19 (5 * (lv + 1) + kp.length) (nI mg)) 20 (lv + 1) (nI (kp.length + 1))) := (kq.sI (by omega)).sI (by omega)
      have hq2 := hQ _ kq2
      rw [had] at hq2
      have hq3 := hq2 ⟨?_, ?_, fun j g hj => ?_⟩
      · rw [nI_and0 (by omega)]
        refine ⟨fun z => ?_, fun z => ?_⟩
        · rw [if_pos z] at hq3; exact hq3
        · rw [if_neg z] at hq3; exact hq3
      · rw [gI, if_pos ⟨rfl, rfl⟩, List.length_append]; rfl
      · rw [List.length_append]; show kp.length + 1 ≤ _; omega
      · rw [gI, gI]
        by_cases ej : j = kp.length
        · subst ej
          rw [List.getElem?_append_right (Nat.le_refl _), Nat.sub_self] at hj
          cases hj
          refine ⟨by simp, hmg⟩
        · have hjl : j < kp.length := by
            rcases Nat.lt_or_ge j kp.length with q | q
            · exact q
            · rw [List.getElem?_append_right q, List.getElem?_eq_none (by simp; omega)] at hj; cases hj
          rw [List.getElem?_append_left hjl] at hj
          refine ⟨?_, (hkv j g hj).2⟩
          rw [if_neg (by omega), if_neg (by omega)]
          exact (hkv j g hj).1
    | succ m ih =>
      intro i mg kp G1 hm hkp hmg kq hkv had
      have hi : i < gs.length := by omega
      have hL1 := kq.lay hL
      have e20 : sI G1 20 lv = nI gs.length := by rw [kq.I (by omega)]; exact g1
      obtain ⟨b1, b2⟩ := g3 i gs[i] (List.getElem?_eq_getElem hi)
      have e19 : sI G1 19 (5 * lv + i) = nI gs[i] := by rw [kq.I (by omega)]; exact b1
      rw [List.drop_eq_getElem_cons hi, adG] at had
      refine kX6_addToGroups_28 hL1 ?_
      try simp (disch := omega) only [nLe, nLeR, nLeL, nLt, nLtR, nLtL, nEq, nEqR, nEqL, nClamp, nClampR, nAdd, nAddR, nAddL, nSub, nSubR, nMul, nMulR, nMulL, nDivR, vIn, vInR, iteZ, iteP, lEq, lEqR, forall_eq, forall_const, true_implies, false_implies, not_true_eq_false, not_false_eq_true, true_and, and_true, implies_true, Decidable.not_not, Nat.le_refl, e20, e19]
      rw [bit_at (by omega) (by omega)]
      have h0i : nI gs[i] &&& nI low = 0 ↔ gs[i] &&& low = 0 := nI_and0 (by omega)
      refine ⟨by omega, fun z => by omega, fun _ => ⟨by omega, fun z => ⟨fun z2 => ⟨by omega, kX6_addToGroups_94 (kq.sI (by omega) |>.lay hL) ?_⟩, fun z2 => ?_⟩, fun z => kX6_addToGroups_94 hL1 ?_⟩⟩
      · have hb : ¬ gs[i].testBit r = true := by
          intro y; rw [if_pos y] at z; exact absurd z (by decide)
        rw [if_neg hb, if_neg (fun y => z2 (h0i.mpr y))] at had
        try simp (disch := omega) only [nLe, nLeR, nLeL, nLt, nLtR, nLtL, nEq, nEqR, nEqL, nClamp, nClampR, nAdd, nAddR, nAddL, nSub, nSubR, nMul, nMulR, nMulL, nDivR, vIn, vInR, iteZ, iteP, lEq, lEqR, forall_eq, forall_const, true_implies, false_implies, not_true_eq_false, not_false_eq_true, true_and, and_true, implies_true, Decidable.not_not, Nat.le_refl]
        have := ih (i + 1) mg (kp ++ [gs[i]]) _ (by omega) (by rw [List.length_append]; show kp.length + 1 ≤ _; omega) hmg (kq.sI (a := 19) (k := 5 * (lv + 1) + kp.length) (v := nI gs[i]) (by omega)) (fun j g hj => ?_) had
        · rw [List.length_append] at this
          exact this
        · rw [gI]
          by_cases ej : j = kp.length
          · subst ej
            rw [List.getElem?_append_right (Nat.le_refl _), Nat.sub_self] at hj
            cases hj
            exact ⟨by simp, b2⟩
          · have hjl : j < kp.length := by
              rcases Nat.lt_or_ge j kp.length with q | q
              · exact q
              · rw [List.getElem?_append_right q, List.getElem?_eq_none (by simp; omega)] at hj; cases hj
            rw [List.getElem?_append_left hjl] at hj
            rw [if_neg (by omega)]
            exact hkv j g hj
      · have hb : ¬ gs[i].testBit r = true := by
          intro y; rw [if_pos y] at z; exact absurd z (by decide)
        rw [if_neg hb, if_pos (h0i.mp z2)] at had
        have hq2 := hQ _ kq
        rw [had] at hq2
        exact hq2
      · have hb : gs[i].testBit r = true := by
          cases y : gs[i].testBit r
          · rw [y] at z; exact absurd rfl z
          · rfl
        rw [if_pos hb] at had
        rw [fa_or]
        try simp (disch := omega) only [nLe, nLeR, nLeL, nLt, nLtR, nLtL, nEq, nEqR, nEqL, nClamp, nClampR, nAdd, nAddR, nAddL, nSub, nSubR, nMul, nMulR, nMulL, nDivR, vIn, vInR, iteZ, iteP, lEq, lEqR, forall_eq, forall_const, true_implies, false_implies, not_true_eq_false, not_false_eq_true, true_and, and_true, implies_true, Decidable.not_not, Nat.le_refl]
        exact ih (i + 1) (mg ||| gs[i]) kp G1 (by omega) (by omega) (Nat.or_lt_two_pow (n := 30) hmg b2) kq hkv had
  refine kX6_addToGroups_0 hL ?_
  rw [show nI lv * 5 = nI (5 * lv) from by rw [nMulR]; congr 1; omega, show nI (5 * lv) + 5 = nI (5 * (lv + 1)) from by rw [nAddR]; congr 1]
  try simp (disch := omega) only [nLe, nLeR, nLeL, nLt, nLtR, nLtL, nEq, nEqR, nEqL, nClamp, nClampR, nAdd, nAddR, nAddL, nSub, nSubR, nMul, nMulR, nMulL, nDivR, vIn, vInR, iteZ, iteP, lEq, lEqR, forall_eq, forall_const, true_implies, false_implies, not_true_eq_false, not_false_eq_true, true_and, and_true, implies_true, Decidable.not_not, Nat.le_refl]
  refine ⟨hr, ?_⟩
  rw [hX.2 r hr]
  exact key gs.length 0 (tdF f r) [] G (by omega) (Nat.le_refl _) (tdF_lt f r) Kq.rf (fun j g hj => by cases hj) rfl
theorem flatMap_cons {α β : Type} (g : α → List β) (a : α) (l : List α) : (a :: l).flatMap g = g a ++ l.flatMap g := by simp [List.flatMap_cons]
theorem s_grow {wi : Nat → Nat} (hf : okF f) (hn : n ≤ 30) (ht : t ≤ 4) (hPn : ∀ k r, n ≤ r → P k r = 9) (hwi : ∀ r, r < 30 → wi r < 1073741824) : ∀ (m d : Nat) {G : St} {Q : St → Prop} {lv set rows : Nat} {gs vis : List Nat}, m + 4 ≤ d → lv + m + 1 = sz → sz ≤ 5 → Lay G.2.2 → Rm e G → XCx G f P n t wi sz → XGs G lv gs → set < 1073741824 → pc set ≤ lv → rows < 1073741824 → (∀ i j, rows.testBit i = true → set.testBit j = true → i < j) → XVs G f P t vis → (vis ++ gl (tdF f) wi m gs set rows).length ≤ 174436 → (∀ G', Lay G'.2.2 → Rm e G' → Kg (sGr lv) tKf G G' → XVs G' f P t (vis ++ gl (tdF f) wi m gs set rows) → Q G') → EvVa K mX6_grow d 0 [(0, .ref 18), (1, .int (nI lv)), (2, .int (nI set)), (3, .int (nI (ru (hdF P t) set))), (4, .int (nI rows))] [] G Q := by
  intro m
  induction m with
  | zero =>
    intro d G Q lv set rows gs vis hd hsz hsz5 hL hR hX hG hset hpc hrows hdis hV hlen hQ
    refine kX6_grow_0 (d2 := 0) (by omega) (by omega) hL ?_
    rw [hX.2.2.2.2.2]
    try simp (disch := omega) only [nLe, nLeR, nLeL, nLt, nLtR, nLtL, nEq, nEqR, nEqL, nClamp, nClampR, nAdd, nAddR, nAddL, nSub, nSubR, nMul, nMulR, nMulL, nDivR, vIn, vInR, iteZ, iteP, lEq, lEqR, forall_eq, forall_const, true_implies, false_implies, not_true_eq_false, not_false_eq_true, true_and, and_true, implies_true, Decidable.not_not, Nat.le_refl]
    refine ⟨fun z => by omega, fun _ => s_lookAtLast hL hR hX hf hn ht hPn hG (by omega) hset hpc hrows (fun i hi => ?_) hV hlen (fun G' hL' hR' hk' hV' => ⟨hL', hQ G' hL' hR' (hk'.mono (fun i k _ z => by unfold sLk at z; unfold sGr; omega) (fun i k _ z => z)) hV'⟩)⟩
    cases z : set.testBit i
    · rfl
    · have := hdis i i hi z; omega
  | succ m ih =>
    intro d G Q lv set rows gs vis hd hsz hsz5 hL hR hX hG hset hpc hrows hdis hV hlen hQ
    have hset32 : set < 2 ^ 32 := by omega
    have h104 : 104 ≤ nx G := hL.2.2.2.1
    refine kX6_grow_0 (d2 := d - 1) (by omega) (by omega) hL ?_
    rw [hX.2.2.2.2.2]
    try simp (disch := omega) only [nLe, nLeR, nLeL, nLt, nLtR, nLtL, nEq, nEqR, nEqL, nClamp, nClampR, nAdd, nAddR, nAddL, nSub, nSubR, nMul, nMulR, nMulL, nDivR, vIn, vInR, iteZ, iteP, lEq, lEqR, forall_eq, forall_const, true_implies, false_implies, not_true_eq_false, not_false_eq_true, true_and, and_true, implies_true, Decidable.not_not, Nat.le_refl]
    refine ⟨fun _ => s_bitCount (by omega) hL ?_, fun z => by omega⟩
    -- the rows that may be the highest of the rest
    have loop : ∀ (c rest : Nat) (vis : List Nat) (G1 : St), pc rest = c → sb rest rows → Lay G1.2.2 → Rm e G1 → Kg (sGr lv) tKf G G1 → XVs G1 f P t vis →
        (vis ++ (bl rest).flatMap (fun r => if lowR wi rows r = 0 then [] else match adG r (lowR wi rows r) gs (tdF f r) [] with
          | none => []
          | some x => if x.2 &&& lowR wi rows r = 0 then [] else gl (tdF f) wi m (x.1 ++ [x.2]) (set ||| 2 ^ r) (lowR wi rows r))).length ≤ 174436 →
        (∀ G', Lay G'.2.2 → Rm e G' → Kg (sGr lv) tKf G G' → XVs G' f P t (vis ++ (bl rest).flatMap (fun r => if lowR wi rows r = 0 then [] else match adG r (lowR wi rows r) gs (tdF f r) [] with
          | none => []
          | some x => if x.2 &&& lowR wi rows r = 0 then [] else gl (tdF f) wi m (x.1 ++ [x.2]) (set ||| 2 ^ r) (lowR wi rows r))) → Q G') →
        EvVa K mX6_grow d 31 [(0, .ref 18), (1, .int (nI lv)), (2, .int (nI set)), (3, .int (nI (ru (hdF P t) set))), (4, .int (nI rows)), (5, .int (nI rest)), (6, .int (nI c))] [] G1 Q := by
      intro c
      induction c with
      | zero =>
        intro rest vis G1 hc hsb hL1 hR1 hk1 hV1 hlen1 hQ1
        have e0 : rest = 0 := (pc_pos (by have := sb_lt (n := 30) hsb hrows; omega)).mp hc
        subst e0
        rw [bl_0, List.flatMap_nil, List.append_nil] at hQ1
        exact kX6_grow_31 (d2 := d - 1) (by omega) (by omega) hL1 ⟨fun _ => hQ1 G1 hL1 hR1 hk1 hV1, fun z => absurd (by decide) z⟩
      | succ c ihc =>
        intro rest vis G1 hc hsb hL1 hR1 hk1 hV1 hlen1 hQ1
        have h0 : rest ≠ 0 := fun e => by rw [e, pc_0] at hc; cases hc
        have hl30 : rest < 2 ^ 30 := sb_lt hsb hrows
        have hl32 : rest < 2 ^ 32 := by omega
        have hlo := lo_bit h0 hl32
        have hr30 : lo rest < 30 := bt_lt hl30 hlo
        have hcp := pc_clr h0 hl32
        have hX1 := hX.kg h104 hk1 (fun i k z => by unfold sGr at z; omega)
        have hG1 := hG.kg h104 (by omega) hk1 (fun i k z => by unfold sGr at z; omega)
        have hrr := hsb _ hlo
        have hn0 : set.testBit (lo rest) = false := by
          cases z : set.testBit (lo rest)
          · rfl
          · have := hdis _ _ hrr z; omega
        have hp2 : 2 ^ lo rest < 2 ^ 30 := Nat.pow_lt_pow_right (by decide) hr30
        have hset' : set ||| 2 ^ lo rest < 2 ^ 30 := Nat.or_lt_two_pow (n := 30) hset hp2
        have hlow : lowR wi rows (lo rest) < 1073741824 := sb_lt (n := 30) low_sb hrows
        rw [bl_cons h0 hl32, flatMap_cons, ← List.append_assoc] at hlen1 hQ1
        have h21 := hX1.2.2.2.2.1 _ hr30
        have e12 : (nI rows &&& ((1 : Int32) <<< (nI (lo rest) &&& 31) - 1)) &&& sI G1 21 (lo rest) = nI (lowR wi rows (lo rest)) := by
          have p1 : 1 ≤ 2 ^ lo rest := Nat.one_le_two_pow
          rw [shl_one (by omega), nSubR (by exact p1), fa_and, h21, fa_and]; rfl
        -- the next row
        have next : ∀ (G3 : St) (l : List Nat), Lay G3.2.2 → Rm e G3 → Kg (sGr lv) tKf G1 G3 → XVs G3 f P t (vis ++ l) → (if lowR wi rows (lo rest) = 0 then [] else match adG (lo rest) (lowR wi rows (lo rest)) gs (tdF f (lo rest)) [] with
          | none => []
          | some x => if x.2 &&& lowR wi rows (lo rest) = 0 then [] else gl (tdF f) wi m (x.1 ++ [x.2]) (set ||| 2 ^ lo rest) (lowR wi rows (lo rest))) = l → EvVa K mX6_grow d 115 [(0, .ref 18), (1, .int (nI lv)), (2, .int (nI set)), (3, .int (nI (ru (hdF P t) set))), (4, .int (nI rows)), (5, .int (nI (clr rest))), (6, .int (nI (c + 1)))] [] G3 Q := by
          intro G3 l hL3 hR3 hk3 hV3 hl
          rw [hl] at hlen1 hQ1
          refine kX6_grow_115 (d2 := d - 1) (by omega) (by omega) hL3 ?_
          rw [nDec (by omega)]
          exact ihc (clr rest) _ G3 (by omega) (fun i hi => hsb i (by rw [clr_bit h0 hl32] at hi; simp at hi; exact hi.1)) hL3 hR3 (hk1.tr hk3) hV3 hlen1 hQ1
        refine kX6_grow_31 (d2 := d - 1) (by omega) (by omega) hL1 ⟨fun z => absurd z (by rw [nLeR (by have := pc_le rest; omega) (by decide)]; simp), fun _ => s_ntz h0 (by omega) hL1 ?_⟩
        rw [clr_and h0 hl32]
        try simp (disch := omega) only [nLe, nLeR, nLeL, nLt, nLtR, nLtL, nEq, nEqR, nEqL, nClamp, nClampR, nAdd, nAddR, nAddL, nSub, nSubR, nMul, nMulR, nMulL, nDivR, vIn, vInR, iteZ, iteP, lEq, lEqR, forall_eq, forall_const, true_implies, false_implies, not_true_eq_false, not_false_eq_true, true_and, and_true, implies_true, Decidable.not_not, Nat.le_refl]
        rw [e12]
        try simp (disch := omega) only [nLe, nLeR, nLeL, nLt, nLtR, nLtL, nEq, nEqR, nEqL, nClamp, nClampR, nAdd, nAddR, nAddL, nSub, nSubR, nMul, nMulR, nMulL, nDivR, vIn, vInR, iteZ, iteP, lEq, lEqR, forall_eq, forall_const, true_implies, false_implies, not_true_eq_false, not_false_eq_true, true_and, and_true, implies_true, Decidable.not_not, Nat.le_refl]
        refine ⟨hr30, fun z => ?_, fun z => s_addToGroups hL1 hX1.1 hG1 (by omega) hr30 hlow (fun G3 k3 => ?_)⟩
        · refine next G1 [] hL1 hR1 Kg.rf (by rw [List.append_nil]; exact hV1) (by rw [if_pos z])
        · have hk3 : Kg (sGr lv) tKf G1 G3 := (k3.mono (fun i k z => by unfold sGr; omega)).g
          have hV3 : XVs G3 f P t vis := by
            obtain ⟨a1, a2, a3, a4, a5⟩ := hV1
            obtain ⟨g1, g2, g3⟩ := lay_g hL1 (i := 18) (k := 9) (t := 1) (f := 26) (by decide)
            refine ⟨by rw [k3.I (by omega)]; exact a1, by rw [k3.I (by omega)]; exact a2, by rw [k3.I (by omega)]; exact a3, ?_, fun i y hy => ?_⟩
            · rw [k3.R]
              have : sN G3 (sR G1 18 9) = sN G1 (sR G1 18 9) := by show G3.2.2.2.1 _ = _; rw [k3.1]; rfl
              rw [this]; exact a4
            · rw [k3.R, k3.L (by omega)]; exact a5 i y hy
          have hL3 := k3.lay hL1
          have hR3 := hR1.kq k3
          split
          · rename_i ea
            refine ⟨fun _ => next G3 [] hL3 hR3 hk3 (by rw [List.append_nil]; exact hV3) (by rw [if_neg z, ea]), fun y => absurd rfl y⟩
          · rename_i x ea
            intro hG3
            by_cases z2 : x.2 &&& lowR wi rows (lo rest) = 0
            · rw [if_pos z2]
              refine ⟨fun _ => next G3 [] hL3 hR3 hk3 (by rw [List.append_nil]; exact hV3) (by rw [if_neg z, ea]; simp only []; rw [if_pos z2]), fun y => absurd rfl y⟩
            · rw [if_neg z2]
              refine ⟨fun y => absurd y (by decide), fun _ => ⟨hr30, ?_⟩⟩
              have hX3 := hX1.kg hL1.2.2.2.1 hk3 (fun i k z => by unfold sGr at z; omega)
              have h10 : sI G3 10 (lo rest) = nI (hdF P t (lo rest)) := hX3.2.1.2 _ hr30
              have el : (if lowR wi rows (lo rest) = 0 then [] else match adG (lo rest) (lowR wi rows (lo rest)) gs (tdF f (lo rest)) [] with
                | none => []
                | some x => if x.2 &&& lowR wi rows (lo rest) = 0 then [] else gl (tdF f) wi m (x.1 ++ [x.2]) (set ||| 2 ^ lo rest) (lowR wi rows (lo rest))) = gl (tdF f) wi m (x.1 ++ [x.2]) (set ||| 2 ^ lo rest) (lowR wi rows (lo rest)) := by
                rw [if_neg z, ea]; simp only []; rw [if_neg z2]
              have hlen3 := hlen1
              rw [el, List.length_append] at hlen3
              rw [h10, fa_or, ← ru_add hset32 (by omega), shl_one (by omega), fa_or]
              try simp (disch := omega) only [nLe, nLeR, nLeL, nLt, nLtR, nLtL, nEq, nEqR, nEqL, nClamp, nClampR, nAdd, nAddR, nAddL, nSub, nSubR, nMul, nMulR, nMulL, nDivR, vIn, vInR, iteZ, iteP, lEq, lEqR, forall_eq, forall_const, true_implies, false_implies, not_true_eq_false, not_false_eq_true, true_and, and_true, implies_true, Decidable.not_not, Nat.le_refl]
              refine ih (d - 1) (by omega) (by omega) hsz5 hL3 hR3 hX3 hG3 hset' (by rw [pc_add (by omega) hn0]; omega) hlow (fun i j hi hj => ?_) hV3 (by omega) (fun G5 hL5 hR5 hk5 hV5 => ⟨hL5, next G5 _ hL5 hR5 (hk3.tr (hk5.mono (fun i k _ z => by unfold sGr at z ⊢; omega) (fun i k _ z => z))) hV5 el⟩)
              have := low_bit.mp hi
              rcases (add_bit _ _ _).mp hj with q | q
              · exact hdis i j this.1 q
              · omega
    exact loop (pc rows) rows vis G rfl (sb_rf rows) hL hR Kg.rf hV hlen hQ
end GROW

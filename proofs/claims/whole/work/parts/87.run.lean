/-! the class' search as a whole -/
noncomputable def aL (f : Nat → Nat → Nat) (S W : Nat) : List Nat := AL (tdF f) S W
/-- the joinings as they are found -/
noncomputable def jL (f P : Nat → Nat → Nat) (t S W : Nat) : List Nat := (aL f S W).filter (jqF f P t)
noncomputable def pL (f P : Nat → Nat → Nat) (t S W : Nat) : List (Nat × Nat) := jp (jqF f P t) 0 (aL f S W)
noncomputable def dL (f P : Nat → Nat → Nat) (t S W : Nat) : List (Nat × Nat) := ((pL f P t S W).map (fun p => (p.1, tpr f P t p.2))).foldl dSt []
/-- the joinings in order -/
noncomputable def oL (f P : Nat → Nat → Nat) (t S W : Nat) : List Nat := ol (jL f P t S W) (tpr f P t) 64
def XSr (G : St) (f P : Nat → Nat → Nat) (t S W : Nat) : Prop := sI G 18 13 = nI t ∧ sI G 18 14 = nI (2 ^ t - 1) ∧ sI G 18 15 = nI (cov (hdF P t) (aL f S W)) ∧ sI G 18 16 = nI (aL f S W).length ∧ (∀ j, j ≤ W → sI G 22 j = nI (aL f S j).length) ∧ XDr G (dL f P t S W) ∧ XOr G f P t (jL f P t S W)
theorem jL_ok {f P : Nat → Nat → Nat} {t S W s : Nat} (hS : S < 1073741824) (hW : W ≤ 5) (h : s ∈ jL f P t S W) : okJ f P t s ∧ sb s S ∧ pc s ≤ W ∧ jqF f P t s = true := by
  unfold jL aL at h
  rw [List.mem_filter, AL_mem (show S < 2 ^ 30 from hS)] at h
  obtain ⟨⟨a, b, c, d⟩, q⟩ := h
  have hs30 : s < 2 ^ 30 := sb_lt a (show S < 2 ^ 30 from hS)
  have hq := dB_iff.mp q
  refine ⟨⟨hs30, fun e => by rw [e, pc_0] at b; omega, by omega, d, (all_iff (by omega)).mp hq.1⟩, a, c, q⟩
theorem jL_len {f P : Nat → Nat → Nat} {t S W : Nat} (hW : W ≤ 5) : (jL f P t S W).length ≤ 174436 := Nat.le_trans (List.length_filter_le _ _) (AL_len (tdF f) S hW)
theorem pL_len {f P : Nat → Nat → Nat} {t S W : Nat} : (pL f P t S W).length = (jL f P t S W).length := by
  unfold jL pL
  rw [← jp_snd (k := 0), List.length_map]
theorem pL_get {f P : Nat → Nat → Nat} {t S W i : Nat} {p : Nat × Nat} (h : (pL f P t S W)[i]? = some p) : (jL f P t S W)[i]? = some p.2 := by
  unfold jL
  rw [← jp_snd (k := 0), List.getElem?_map]
  show Option.map _ ((pL f P t S W)[i]?) = _
  rw [h]; rfl
theorem pL_place {f P : Nat → Nat → Nat} {t S W : Nat} {p : Nat × Nat} (h : p ∈ pL f P t S W) : 1 ≤ p.1 ∧ (aL f S W)[p.1 - 1]? = some p.2 := by
  obtain ⟨j, a, b, c⟩ := jp_mem h
  refine ⟨by omega, ?_⟩
  rw [show p.1 - 1 = j by omega]; exact a
def sRu : Nat → Nat → Prop := fun i k => i = 18 ∧ 11 ≤ k ∨ 19 ≤ i ∧ i ≤ 27 ∨ 104 ≤ i
def tRu : Nat → Nat → Prop := fun i k => i = 18 ∧ (k = 9 ∨ k = 10)
section RUN
variable {K : KT} {G : St} {f P : Nat → Nat → Nat} {n t e : Nat}
theorem s_run {Q : St → Prop} {S W : Nat} (hL : Lay G.2.2) (hR : Rm e G) (hf : okF f) (hn : n ≤ 30) (ht : t ≤ 4) (hP : ∀ k r, P k r ≤ 4 ∨ P k r = 9) (hPn : ∀ k r, n ≤ r → P k r = 9) (hX : XTi G f) (hH : XHt G P n t) (hS : S < 1073741824) (hW : W ≤ 5) (hQ : ∀ G', Lay G'.2.2 → Rm e G' → Kg sRu tRu G G' → XSr G' f P t S W → Q G') : EvVa K mX6_run 9 0 [(0, .ref 18), (1, .int (nI S)), (2, .int (nI W)), (3, .int (nI t))] [] G Q := by
  have h104 : 104 ≤ nx G := hL.2.2.2.1
  refine s_sizes hL hR hf hn ht hPn hX hH hS hW (fun G1 hL1 hR1 hk1 h13 h14 h11 hz => ?_)
  obtain ⟨⟨v1, v2, v3, v4, v5⟩, hz2⟩ := hz
  have hlen := AL_len (tdF f) S (n := W) hW
  have hpl : (pL f P t S W).length ≤ 174436 := by rw [pL_len]; exact jL_len hW
  have ejf : jf (jqF f P t) 0 (AL (tdF f) S W) = (pL f P t S W).map (fun p => p.1 * 1073741824 + p.2) := jf_jp
  rw [ejf, List.length_map] at v3 v4
  rw [ejf] at v5
  obtain ⟨g1, g2, g3⟩ := lay_g hL1 (i := 18) (k := 9) (t := 1) (f := 26) (by decide)
  have h104' : 104 ≤ nx G1 := hL1.2.2.2.1
  have hf9 : sN G1 (sR G1 18 9) ≤ 348872 := hR1.2.2.2.1
  have hX1 : XTi G1 f := (show XTi (mixS G G1) f from hX.kq hk1.toq (fun i k z => by unfold sRn at z; omega))
  have hH1 : XHt G1 P n t := (show XHt (mixS G G1) P n t from hH.kq hk1.toq (fun i k z => by unfold sRn at z; unfold sHt; omega))
  have loop : ∀ (m i : Nat) (G2 : St), i + m = (pL f P t S W).length → Kq (fun i k => i = sR G1 18 9 ∨ i = 24 ∨ i = 25 ∨ i = 18 ∧ k = 11) G1 G2 → (∀ j p, (pL f P t S W)[j]? = some p → sL G2 (sR G1 18 9) j = if j < i then lN (vJ f P t p.2) else lN (p.1 * 1073741824 + p.2)) → XDr G2 ((((pL f P t S W).take i).map (fun p => (p.1, tpr f P t p.2))).foldl dSt []) → EvVa K mX6_run 9 128 [(0, .ref 18), (4, .int (nI i))] [] G2 Q := by
    intro m
    induction m with
    | zero =>
      intro i G2 hm k2 hv hD
      have ei : i = (pL f P t S W).length := by omega
      subst ei
      rw [List.take_length] at hD
      have hL2 := k2.lay hL1
      have eN : ∀ i, sN G2 i = sN G1 i := fun i => by show G2.2.2.2.1 _ = _; rw [k2.1]; rfl
      have e17 : sI G2 18 17 = nI (pL f P t S W).length := by rw [k2.I (by omega)]; exact v3
      refine kX6_run_128 hL2 ?_
      try simp (disch := omega) only [nLe, nLeR, nLeL, nLt, nLtR, nLtL, nEq, nEqR, nEqL, nClamp, nClampR, nAdd, nAddR, nAddL, nSub, nSubR, nMul, nMulR, nMulL, nDivR, vIn, vInR, iteZ, iteP, lEq, lEqR, forall_eq, forall_const, true_implies, false_implies, not_true_eq_false, not_false_eq_true, true_and, and_true, implies_true, Decidable.not_not, Nat.le_refl, e17]
      refine s_order (f := f) (P := P) (t := t) (J := jL f P t S W) hL2 (hR1.kq k2) ⟨by rw [e17, pL_len], by rw [k2.R, eN, ← pL_len]; exact v4, fun i s hs => ?_⟩ (jL_len hW) (fun s hs => ?_) (fun G3 hL3 hR3 hk3 hO3 => ⟨hL3, ?_⟩)
      · have hi := getE_lt hs
        rw [← pL_len] at hi
        obtain ⟨p, hp⟩ : ∃ p, (pL f P t S W)[i]? = some p := ⟨_, List.getElem?_eq_getElem hi⟩
        have := pL_get hp
        rw [this] at hs
        cases hs
        rw [k2.R, hv i p hp, if_pos hi]
      · have hj := (jL_ok hS hW hs).1
        have := tpr_le hf ht hP hj
        exact ⟨hj.1, this.1, this.2⟩
      · have h104'' : 104 ≤ nx G2 := hL2.2.2.2.1
        have old : ∀ i k, ¬ (i = sR G1 18 9 ∨ i = 24 ∨ i = 25 ∨ i = 18 ∧ k = 11) → i < 23 → sI G3 i k = sI G1 i k := fun i k h1 h2 => by
          rw [hk3.I (by omega) (by unfold sOr; omega), k2.I h1]
        refine hQ G3 hL3 hR3 ((hk1.mono (fun i k _ z => by unfold sRn at z; unfold sRu; omega) (fun i k _ z => by unfold tKf at z; unfold tRu; omega)).tr (((k2.mono (fun i k z => by unfold sRu; omega)).g).tr (hk3.mono (fun i k _ z => by unfold sOr at z; unfold sRu; omega) (fun i k _ z => by unfold tOr at z; unfold tRu; omega)))) ⟨?_, ?_, ?_, ?_, fun j hj => ?_, ?_, hO3⟩
        · rw [old 18 13 (by omega) (by decide)]; exact h13
        · rw [old 18 14 (by omega) (by decide)]; exact h14
        · rw [old 18 15 (by omega) (by decide)]; exact v2
        · rw [old 18 16 (by omega) (by decide)]; exact v1
        · rw [old 22 j (by omega) (by decide)]; exact hz2 j hj
        · obtain ⟨d1, d2, d3⟩ := hD
          refine ⟨by rw [hk3.I (by omega) (by unfold sOr; omega)]; exact d1, d2, fun j p hp => ?_⟩
          obtain ⟨a, b, c⟩ := d3 j p hp
          exact ⟨by rw [hk3.I (by omega) (by unfold sOr; omega)]; exact a, by rw [hk3.I (by omega) (by unfold sOr; omega)]; exact b, c⟩
    | succ m ih =>
      intro i G2 hm k2 hv hD
      have hi : i < (pL f P t S W).length := by omega
      obtain ⟨p, hp⟩ : ∃ p, (pL f P t S W)[i]? = some p := ⟨_, List.getElem?_eq_getElem hi⟩
      have hpe : (pL f P t S W)[i] = p := by rw [List.getElem?_eq_getElem hi] at hp; exact Option.some.inj hp
      have hsJ : p.2 ∈ jL f P t S W := getE_mem (pL_get hp)
      have hj := (jL_ok hS hW hsJ).1
      obtain ⟨pl1, pl2⟩ := pL_place (getE_mem hp)
      have hpa := getE_lt pl2
      have hpa' : p.1 - 1 < (AL (tdF f) S W).length := hpa
      have hL2 := k2.lay hL1
      have eN : ∀ i, sN G2 i = sN G1 i := fun i => by show G2.2.2.2.1 _ = _; rw [k2.1]; rfl
      have e17 : sI G2 18 17 = nI (pL f P t S W).length := by rw [k2.I (by omega)]; exact v3
      have hvi := hv i p hp
      rw [if_neg (Nat.lt_irrefl _)] at hvi
      refine kX6_run_128 hL2 ?_
      try simp (disch := omega) only [nLe, nLeR, nLeL, nLt, nLtR, nLtL, nEq, nEqR, nEqL, nClamp, nClampR, nAdd, nAddR, nAddL, nSub, nSubR, nMul, nMulR, nMulL, nDivR, vIn, vInR, iteZ, iteP, lEq, lEqR, forall_eq, forall_const, true_implies, false_implies, not_true_eq_false, not_false_eq_true, true_and, and_true, implies_true, Decidable.not_not, Nat.le_refl, e17]
      refine ⟨fun z => by omega, fun _ => s_setPrice (p := p.1) (s := p.2) hL2 hf hn ht hP hPn (hX1.kq k2 (fun i k z => by omega)) (hH1.kq k2 (fun i k z => by unfold sHt; omega)) (by rw [k2.I (by omega)]; exact h13) (by rw [k2.R, eN]; omega) (by rw [k2.R, eN]; omega) (by rw [k2.R]; exact hvi) (by omega) hj hD (fun G3 k3 hD3 hv3 => ?_)⟩
      rw [k2.R] at k3 hv3
      refine ih (i + 1) G3 (by omega) (k2.tr k3) (fun j q hq => ?_) ?_
      · rw [hv3 j]
        by_cases ej : j = i
        · subst ej
          rw [hp] at hq
          cases hq
          rw [if_pos rfl, if_pos (by omega)]
        · rw [if_neg ej, hv j q hq]
          have : j < i + 1 ↔ j < i := by omega
          simp only [this]
      · rw [List.take_succ_eq_append_getElem hi, List.map_append, List.foldl_append, hpe]
        exact hD3
  refine loop (pL f P t S W).length 0 G1 (by omega) Kq.rf (fun j p hp => ?_) ⟨h11, by show 0 + 64 ≤ 64; decide, fun i p hp => by simp at hp⟩
  rw [if_neg (Nat.not_lt_zero _)]
  exact v5 j _ (by rw [List.getElem?_map, hp]; rfl)
end RUN

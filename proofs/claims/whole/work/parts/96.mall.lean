/-! the model: all joinings, in order -/
def MJs (G : St) (f P : Nat → Nat → Nat) (t : Nat) (J : List Nat) : Prop := sI G 66 38 = nI J.length ∧ ∀ i s, J[i]? = some s → sI G 90 i = nI s ∧ sI G 91 i = nI (tpr f P t s)
def MOr (G : St) (f P : Nat → Nat → Nat) (t : Nat) (J : List Nat) : Prop := MJs G f P t J ∧ ∀ k s, (ol J (tpr f P t) 64)[k]? = some s → ∃ j, j < J.length ∧ sI G 92 k = nI j ∧ J[j]? = some s
def sFa : Nat → Nat → Prop := fun i k => i = 90 ∨ i = 91 ∨ i = 92 ∨ i = 93 ∨ i = 66 ∧ k = 38
theorem MHt.kq {S' : Nat → Nat → Prop} {G G1 : St} {P : Nat → Nat → Nat} {t : Nat} (h : MHt G P t) (hk : Kq S' G G1) (hs : ∀ i k, S' i k → ¬ (i = 88 ∨ i = 89)) : MHt G1 P t :=
  fun r hr => ⟨fun k hk' => by rw [hk.I (fun z => hs _ _ z (Or.inr rfl))]; exact (h r hr).1 k hk', by rw [hk.I (fun z => hs _ _ z (Or.inl rfl))]; exact (h r hr).2⟩
theorem isC_no {td : Nat → Nat} {S m s : Nat} (h : ¬ (sb s S ∧ pc s = m ∧ Cn td s)) : isC td S m s = false := dB_no.mpr h
section MALL
variable {K : KT} {G : St} {f P : Nat → Nat → Nat} {n t S W : Nat}
theorem s_sets {Q : St → Prop} (hL : Lay G.2.2) (hX : MTi G f) (hf : okF f) (hH : MHt G P t) (hq : sI G 66 20 = nI t) (hn : sI G 66 16 = nI n) (hn30 : n ≤ 30) (hW : sI G 66 27 = nI W) (hW5 : W ≤ 5) (h37 : sI G 66 37 = nI S) (hS : S < 1073741824) (hSn : ∀ r, S.testBit r = true → r < n) (ht : t ≤ 4) (hP : ∀ k r, P k r ≤ 4 ∨ P k r = 9) (hPn : ∀ k r, n ≤ r → P k r = 9) (h38 : sI G 66 38 = nI 0) (hQ : ∀ G', Kq sFa G G' → MJs G' f P t (if t = 0 then [] else jL f P t S W) → EvV K mX12_findAll 5 156 [(0, .ref 66), (2, .int 0)] [] G' Q) : EvV K mX12_findAll 5 33 [(0, .ref 66), (1, .int (nI (2 ^ t - 1))), (2, .int 1)] [] G Q := by
  have keep : ∀ {G1 : St}, Kq sFa G G1 → Lay G1.2.2 ∧ MTi G1 f ∧ MHt G1 P t ∧ sI G1 66 20 = nI t ∧ sI G1 66 16 = nI n ∧ sI G1 66 27 = nI W ∧ sI G1 66 37 = nI S := fun {G1} kq => ⟨kq.lay hL, hX.kq kq (fun i k z => by unfold sFa at z; omega), hH.kq kq (fun i k z => by unfold sFa at z; omega), by rw [kq.I (by unfold sFa; omega)]; exact hq, by rw [kq.I (by unfold sFa; omega)]; exact hn, by rw [kq.I (by unfold sFa; omega)]; exact hW, by rw [kq.I (by unfold sFa; omega)]; exact h37⟩
  by_cases t0 : t = 0
  · rw [if_pos t0] at hQ
    have done : EvV K mX12_findAll 5 156 [(0, .ref 66), (2, .int 0)] [] G Q := hQ G Kq.rf ⟨h38, fun i s h => by cases h⟩
    refine kX12_findAll_33 hL ?_
    rw [hq, hW, hn, t0]
    refine ⟨fun _ => done, fun _ => ⟨fun _ => done, fun _ => ⟨fun _ => done, fun z => absurd (by decide) z⟩⟩⟩
  · rw [if_neg t0] at hQ
    have pn : 2 ^ n ≤ 2 ^ 30 := Nat.pow_le_pow_right (by decide) hn30
    have hSlt : ∀ s, sb s S → s < 2 ^ n := fun s hs => by
      apply Nat.lt_pow_two_of_testBit
      intro i hi
      cases e : s.testBit i
      · rfl
      · have := hSn i (hs i e); omega
    -- behind all of a size
    have lend : ∀ m x, 2 ^ n ≤ x → ls (isC (tdF f) S m) x = lS (tdF f) S m := by
      intro m x hx
      have a : ls (isC (tdF f) S m) x = ls (isC (tdF f) S m) (2 ^ n) := ls_skip hx (fun y h1 _ => isC_no (fun u => by have := hSlt y u.1; omega))
      have b : ls (isC (tdF f) S m) (2 ^ 30) = ls (isC (tdF f) S m) (2 ^ n) := ls_skip pn (fun y h1 _ => isC_no (fun u => by have := hSlt y u.1; omega))
      rw [a, ← b]; rfl
    have hlen : ∀ m, m ≤ 5 → (AL (tdF f) S m).length ≤ 174436 := fun m hm => AL_len (tdF f) S hm
    have more : ∀ m, W ≤ m + n → n < m → True := fun _ _ _ => trivial
    -- all sets of one size
    have sets : ∀ (fuel s m : Nat) (G1 : St), 2 ^ n ≤ s + fuel → s < 2147483648 → s ≠ 0 → pc s = m → 1 ≤ m → m ≤ W → Kq sFa G G1 → MJs G1 f P t ((AL (tdF f) S (m - 1) ++ ls (isC (tdF f) S m) s).filter (jqF f P t)) → (∀ G', Kq sFa G G' → MJs G' f P t ((AL (tdF f) S m).filter (jqF f P t)) → EvV K mX12_findAll 5 33 [(0, .ref 66), (1, .int (nI (2 ^ t - 1))), (2, .int (nI (m + 1)))] [] G' Q) → EvV K mX12_findAll 5 62 [(0, .ref 66), (1, .int (nI (2 ^ t - 1))), (2, .int (nI m)), (3, .int (nI s))] [] G1 Q := by
      intro fuel
      induction fuel with
      | zero =>
        intro s m G1 hfu hs31 hs0 hpc hm1 hmW kq hJ hgo
        obtain ⟨a1, a2, a3, a4, a5, a6, a7⟩ := keep kq
        refine kX12_findAll_62 a1 ?_
        rw [a5, shl_one (by omega)]
        try simp (disch := omega) only [nLe, nLeR, nLeL, nLt, nLtR, nLtL, nEq, nEqR, nEqL, nClamp, nClampR, nAdd, nAddR, nAddL, nSub, nSubR, nMul, nMulR, nMulL, nDivR, vIn, vInR, iteZ, iteP, lEq, lEqR, forall_eq, forall_const, true_implies, false_implies, not_true_eq_false, not_false_eq_true, true_and, and_true, implies_true, Decidable.not_not, Nat.le_refl]
        refine ⟨fun _ => hgo G1 kq ?_, fun z => by omega⟩
        rw [lend m s (by omega)] at hJ
        rw [show m = (m - 1) + 1 by omega, AL, show m - 1 + 1 = m by omega]
        exact hJ
      | succ fuel ih =>
        intro s m G1 hfu hs31 hs0 hpc hm1 hmW kq hJ hgo
        obtain ⟨a1, a2, a3, a4, a5, a6, a7⟩ := keep kq
        -- one set looked at
        have next : ∀ G2, Kq sFa G G2 → MJs G2 f P t ((AL (tdF f) S (m - 1) ++ ls (isC (tdF f) S m) (s + 1)).filter (jqF f P t)) → s < 2 ^ n → EvV K mX12_findAll 5 140 [(0, .ref 66), (1, .int (nI (2 ^ t - 1))), (2, .int (nI m)), (3, .int (nI s))] [] G2 Q := by
          intro G2 k2 j2 hsn
          refine kX12_findAll_140 (k2.lay hL) (s_nextOf hs0 (by omega) (k2.lay hL) (fun x h1 h2 h3 h4 => ?_))
          have e : ls (isC (tdF f) S m) x = ls (isC (tdF f) S m) (s + 1) := ls_skip (by omega) (fun y y1 y2 => isC_no (fun u => by
            have := h4 y (by omega) y2
            exact this (by rw [u.2.1, hpc])))
          exact ih x m G2 (by omega) h2 (by omega) (by rw [h3, hpc]) hm1 hmW k2 (by rw [e]; exact j2) hgo
        have skip : s < 2 ^ n → ¬ (sb s S ∧ Cn (tdF f) s) ∨ jqF f P t s = false → EvV K mX12_findAll 5 140 [(0, .ref 66), (1, .int (nI (2 ^ t - 1))), (2, .int (nI m)), (3, .int (nI s))] [] G1 Q := by
          intro hsn hno
          refine next G1 kq ?_ hsn
          rw [ls]
          split
          · rename_i hc
            have hc' := dB_iff.mp hc
            rcases hno with u | u
            · exact absurd ⟨hc'.1, hc'.2.2⟩ u
            · rw [← List.append_assoc, List.filter_append, List.filter_cons_of_neg (by rw [u]; decide)]
              simpa using hJ
          · exact hJ
        refine kX12_findAll_62 a1 ?_
        rw [a5, shl_one (by omega), a7]
        have ea : ∀ x : Nat, x < 1073741824 → (nI x &&& (nI S ^^^ (-1)) = 0 ↔ sb x S) := by
          intro x hx
          rw [and_not (c := msk (fun j => x.testBit j && !S.testBit j) 30) (by omega) (by omega) (by have := msk_lt (fun j => x.testBit j && !S.testBit j) 30; omega) (fun j => by
            rw [msk_bit]
            by_cases q : j < 30
            · simp [q]
            · have : x.testBit j = false := by
                cases z : x.testBit j
                · rfl
                · exact absurd (bt_lt (n := 30) hx z) q
              simp [q, this])]
          have hml := msk_lt (fun j => x.testBit j && !S.testBit j) 30
          rw [nEqR (by omega) (by decide)]
          constructor
          · intro h i hi
            cases z : S.testBit i
            · have : (msk (fun j => x.testBit j && !S.testBit j) 30).testBit i = true := by
                rw [msk_bit]; simp [hi, z]; exact bt_lt (n := 30) hx hi
              have h' : msk (fun j => x.testBit j && !S.testBit j) 30 = 0 := h
              rw [h', Nat.zero_testBit] at this; cases this
            · rfl
          · intro h
            show msk (fun j => x.testBit j && !S.testBit j) 30 = 0
            apply Nat.eq_of_testBit_eq
            intro i
            rw [msk_bit, Nat.zero_testBit]
            cases z : x.testBit i
            · simp
            · rw [h i z]; simp
        try simp (disch := omega) only [nLe, nLeR, nLeL, nLt, nLtR, nLtL, nEq, nEqR, nEqL, nClamp, nClampR, nAdd, nAddR, nAddL, nSub, nSubR, nMul, nMulR, nMulL, nDivR, vIn, vInR, iteZ, iteP, lEq, lEqR, forall_eq, forall_const, true_implies, false_implies, not_true_eq_false, not_false_eq_true, true_and, and_true, implies_true, Decidable.not_not, Nat.le_refl]
        refine ⟨fun z => hgo G1 kq ?_, fun z => ?_⟩
        · rw [lend m s z] at hJ
          rw [show m = (m - 1) + 1 by omega, AL, show m - 1 + 1 = m by omega]
          exact hJ
        · have hs30 : s < 1073741824 := by omega
          rw [ea s hs30]
          refine ⟨fun z2 => skip (by omega) (Or.inl (fun u => z2 u.1)), fun z2 => s_hang a1 a2 hf hs30 hs0 ?_⟩
          try simp (disch := omega) only [nLe, nLeR, nLeL, nLt, nLtR, nLtL, nEq, nEqR, nEqL, nClamp, nClampR, nAdd, nAddR, nAddL, nSub, nSubR, nMul, nMulR, nMulL, nDivR, vIn, vInR, iteZ, iteP, lEq, lEqR, forall_eq, forall_const, true_implies, false_implies, not_true_eq_false, not_false_eq_true, true_and, and_true, implies_true, Decidable.not_not, Nat.le_refl]
          refine ⟨fun z3 => skip (by omega) (Or.inl (fun u => z3 (dB_iff.mpr u.2))), fun z3 => s_isJoining a1 a2 hf a3 ht (by omega) hs30 ?_⟩
          try simp (disch := omega) only [nLe, nLeR, nLeL, nLt, nLtR, nLtL, nEq, nEqR, nEqL, nClamp, nClampR, nAdd, nAddR, nAddL, nSub, nSubR, nMul, nMulR, nMulL, nDivR, vIn, vInR, iteZ, iteP, lEq, lEqR, forall_eq, forall_const, true_implies, false_implies, not_true_eq_false, not_false_eq_true, true_and, and_true, implies_true, Decidable.not_not, Nat.le_refl]
          refine ⟨fun z4 => skip (by omega) (Or.inr (by simpa using z4)), fun z4 => ?_⟩
          have hcn := dB_iff.mp z3
          have hjq := dB_iff.mp z4
          have hsh : ∀ k, k < t → ∃ r, s.testBit r = true ∧ P k r ≠ 9 := (all_iff (by omega)).mp hjq.1
          have hokJ : okJ f P t s := ⟨hs30, hs0, by omega, hcn, hsh⟩
          have htp := tpr_le hf ht hP hokJ
          -- room in the lists
          have hpos : ls (isC (tdF f) S m) (s + 1) = ls (isC (tdF f) S m) s ++ [s] := by rw [ls, if_pos (show isC (tdF f) S m s = true from dB_iff.mpr ⟨z2, hpc, hcn⟩)]
          have hJl : ((AL (tdF f) S (m - 1) ++ ls (isC (tdF f) S m) s).filter (jqF f P t)).length < 174436 := by
            have h1 : (AL (tdF f) S m).length ≤ 174436 := hlen m (by omega)
            rw [show m = (m - 1) + 1 by omega, AL, show m - 1 + 1 = m by omega, List.length_append] at h1
            have h2 : (ls (isC (tdF f) S m) (s + 1)).length ≤ (lS (tdF f) S m).length := by
              rw [← lend m (2 ^ n) (Nat.le_refl _), ls_len, ls_len]
              exact fb_ct_mono _ (by omega)
            rw [hpos, List.length_append] at h2
            have h2' : (ls (isC (tdF f) S m) s).length + 1 ≤ (lS (tdF f) S m).length := h2
            have h3 := List.length_filter_le (jqF f P t) (AL (tdF f) S (m - 1) ++ ls (isC (tdF f) S m) s)
            rw [List.length_append] at h3
            omega
          generalize hJJ : (AL (tdF f) S (m - 1) ++ ls (isC (tdF f) S m) s).filter (jqF f P t) = J at *
          have k2 : Kq sFa G (uI G1 90 J.length (nI s)) := kq.sI (by unfold sFa; omega)
          obtain ⟨b1, b2, b3, b4, b5, b6, b7⟩ := keep k2
          rw [hJ.1]
          try simp (disch := omega) only [nLe, nLeR, nLeL, nLt, nLtR, nLtL, nEq, nEqR, nEqL, nClamp, nClampR, nAdd, nAddR, nAddL, nSub, nSubR, nMul, nMulR, nMulL, nDivR, vIn, vInR, iteZ, iteP, lEq, lEqR, forall_eq, forall_const, true_implies, false_implies, not_true_eq_false, not_false_eq_true, true_and, and_true, implies_true, Decidable.not_not, Nat.le_refl]
          refine ⟨by omega, s_tiesOf b1 b2 hf b5 hn30 hs30 (fun r hr => hSn r (z2 r hr)) hs0 (by omega) hcn (s_termsOf b1 b3 b4 b5 hn30 ht hP hPn hs30 hsh ?_)⟩
          have e38 : sI (uI G1 90 J.length (nI s)) 66 38 = nI J.length := by rw [gI, if_neg (by omega)]; exact hJ.1
          have e91 : sI (uI (uI G1 90 J.length (nI s)) 91 J.length (nI (ts f s + trm P t s))) 66 38 = nI J.length := by rw [gI, if_neg (by omega)]; exact e38
          try simp (disch := omega) only [nLe, nLeR, nLeL, nLt, nLtR, nLtL, nEq, nEqR, nEqL, nClamp, nClampR, nAdd, nAddR, nAddL, nSub, nSubR, nMul, nMulR, nMulL, nDivR, vIn, vInR, iteZ, iteP, lEq, lEqR, forall_eq, forall_const, true_implies, false_implies, not_true_eq_false, not_false_eq_true, true_and, and_true, implies_true, Decidable.not_not, Nat.le_refl]
          rw [e38]
          try simp (disch := omega) only [nLe, nLeR, nLeL, nLt, nLtR, nLtL, nEq, nEqR, nEqL, nClamp, nClampR, nAdd, nAddR, nAddL, nSub, nSubR, nMul, nMulR, nMulL, nDivR, vIn, vInR, iteZ, iteP, lEq, lEqR, forall_eq, forall_const, true_implies, false_implies, not_true_eq_false, not_false_eq_true, true_and, and_true, implies_true, Decidable.not_not, Nat.le_refl]
          refine ⟨by omega, next _ ((k2.sI (by unfold sFa; omega)).sI (by unfold sFa; omega)) ?_ (by omega)⟩
          rw [hpos, ← List.append_assoc, List.filter_append, hJJ, List.filter_cons_of_pos z4, List.filter_nil]
          refine ⟨by rw [gI, if_pos ⟨rfl, rfl⟩, List.length_append]; rfl, fun i x hi => ?_⟩
          by_cases ei : i = J.length
          · subst ei
            rw [List.getElem?_append_right (Nat.le_refl _), Nat.sub_self] at hi
            cases hi
            refine ⟨by simp [gI], by simp [gI]; rfl⟩
          · have hil : i < J.length := by
              have := getE_lt hi
              rw [List.length_append] at this
              have : i < J.length + 1 := this
              omega
            rw [List.getElem?_append_left hil] at hi
            obtain ⟨c1, c2⟩ := hJ.2 i x hi
            refine ⟨by simp [gI, ei]; exact c1, by simp [gI, ei]; exact c2⟩
    -- all sizes
    have sizes : ∀ (c m : Nat) (G1 : St), m + c = W + 1 → 1 ≤ m → Kq sFa G G1 → MJs G1 f P t ((AL (tdF f) S (m - 1)).filter (jqF f P t)) → EvV K mX12_findAll 5 33 [(0, .ref 66), (1, .int (nI (2 ^ t - 1))), (2, .int (nI m))] [] G1 Q := by
      intro c
      induction c with
      | zero =>
        intro m G1 hc hm1 kq hJ
        obtain ⟨a1, a2, a3, a4, a5, a6, a7⟩ := keep kq
        have hd : EvV K mX12_findAll 5 156 [(0, .ref 66), (2, .int 0)] [] G1 Q := hQ G1 kq (by
          rw [show m - 1 = W by omega] at hJ; exact hJ)
        refine kX12_findAll_33 a1 ?_
        rw [a6, a5, a4]
        try simp (disch := omega) only [nLe, nLeR, nLeL, nLt, nLtR, nLtL, nEq, nEqR, nEqL, nClamp, nClampR, nAdd, nAddR, nAddL, nSub, nSubR, nMul, nMulR, nMulL, nDivR, vIn, vInR, iteZ, iteP, lEq, lEqR, forall_eq, forall_const, true_implies, false_implies, not_true_eq_false, not_false_eq_true, true_and, and_true, implies_true, Decidable.not_not, Nat.le_refl]
        exact ⟨fun _ => hd, fun z => by omega⟩
      | succ c ih =>
        intro m G1 hc hm1 kq hJ
        obtain ⟨a1, a2, a3, a4, a5, a6, a7⟩ := keep kq
        refine kX12_findAll_33 a1 ?_
        rw [a6, a5, a4]
        try simp (disch := omega) only [nLe, nLeR, nLeL, nLt, nLtR, nLtL, nEq, nEqR, nEqL, nClamp, nClampR, nAdd, nAddR, nAddL, nSub, nSubR, nMul, nMulR, nMulL, nDivR, vIn, vInR, iteZ, iteP, lEq, lEqR, forall_eq, forall_const, true_implies, false_implies, not_true_eq_false, not_false_eq_true, true_and, and_true, implies_true, Decidable.not_not, Nat.le_refl]
        refine ⟨fun z => by omega, fun _ => ⟨fun z => ?_, fun z => ⟨fun z2 => absurd (by omega) t0, fun z2 => ?_⟩⟩⟩
        · -- no more rows: nothing more
          have none : ∀ j, m ≤ j → lS (tdF f) S j = [] := by
            intro j hj
            have hno : ∀ x, x ∉ lS (tdF f) S j := fun x hx => by
              have := (lS_mem (show S < 2 ^ 30 from hS)).mp hx
              have h1 : pc x ≤ n := by
                rw [← pc_ones (m := n) (by omega)]
                exact pc_sb (fun i hi => by rw [Nat.testBit_two_pow_sub_one]; have := hSn i (this.1 i hi); simp [this])
              omega
            cases e : lS (tdF f) S j with
            | nil => rfl
            | cons a l => exact absurd (by rw [e]; exact List.mem_cons_self) (hno a)
          have all : ∀ d, AL (tdF f) S (m - 1 + d) = AL (tdF f) S (m - 1) := by
            intro d
            induction d with
            | zero => rfl
            | succ d ihd => rw [← Nat.add_assoc, AL, ihd, none _ (by omega), List.append_nil]
          refine hQ G1 kq ?_
          unfold jL aL
          rw [show W = m - 1 + (W - (m - 1)) by omega, all]
          exact hJ
        · have p1 : 1 ≤ 2 ^ m := Nat.one_le_two_pow
          have p2 : 2 ^ 1 ≤ 2 ^ m := Nat.pow_le_pow_right (by decide) hm1
          have p3 : 2 ^ m ≤ 2 ^ 5 := Nat.pow_le_pow_right (by decide) (by omega)
          rw [shl_one (by omega), nSubR (by exact p1)]
          show EvV K mX12_findAll 5 62 [(0, .ref 66), (1, .int (nI (2 ^ t - 1))), (2, .int (nI m)), (3, .int (nI (2 ^ m - 1)))] [] G1 Q
          refine sets (2 ^ n) (2 ^ m - 1) m G1 (by omega) (by omega) (by omega) (pc_ones (by omega)) hm1 (by omega) kq ?_ (fun G2 k2 j2 => ih (m + 1) G2 (by omega) (by omega) k2 j2)
          have e0 : ls (isC (tdF f) S m) (2 ^ m - 1) = [] := by
            have := ls_skip (p := isC (tdF f) S m) (a := 0) (b := 2 ^ m - 1) (Nat.zero_le _) (fun y _ y2 => isC_no (fun u => by have := pc_below (by omega) y2; omega))
            rw [this]; rfl
          rw [e0, List.append_nil]; exact hJ
    exact sizes W 1 G (by omega) (Nat.le_refl _) Kq.rf ⟨h38, fun i s h => by cases h⟩
theorem s_msort {Q : St → Prop} {J : List Nat} (hL : Lay G.2.2) (hJ : MJs G f P t J) (hJl : J.length ≤ 174436) (hok : ∀ s, s ∈ J → tpr f P t s ≤ 60) (hQ : ∀ G', Kq sFa G G' → MOr G' f P t J → EvV K mX12_findQuestions 2 0 [(0, .ref 66)] [] G' Q) : EvV K mX12_findAll 5 156 [(0, .ref 66), (2, .int 0)] [] G Q := by
  have hall : ∀ s, s ∈ J → tpr f P t s < 64 := fun s hs => by have := hok s hs; omega
  have hol : (ol J (tpr f P t) 64).length = J.length := ol_all hall
  have stay : ∀ G2, Kq (fun i _ => i = 92 ∨ i = 93) G G2 → MJs G2 f P t J ∧ Kq sFa G G2 ∧ Lay G2.2.2 := fun G2 k2 => ⟨⟨by rw [k2.I (by omega)]; exact hJ.1, fun i s hs => ⟨by rw [k2.I (by omega)]; exact (hJ.2 i s hs).1, by rw [k2.I (by omega)]; exact (hJ.2 i s hs).2⟩⟩, k2.mono (fun i k z => by unfold sFa; omega), k2.lay hL⟩
  have lay : ∀ (m i : Nat) (G2 : St), i + m = J.length → Kq (fun i _ => i = 92 ∨ i = 93) G G2 → (∀ v, v < 64 → sI G2 93 v = nI ((ol J (tpr f P t) v).length + ((J.take i).filter (eqc (tpr f P t) v)).length)) → (∀ v j s, v < 64 → ((J.take i).filter (eqc (tpr f P t) v))[j]? = some s → ∃ x, x < J.length ∧ sI G2 92 ((ol J (tpr f P t) v).length + j) = nI x ∧ J[x]? = some s) → EvV K mX12_findAll 5 243 [(0, .ref 66), (2, .int (nI i))] [] G2 Q := by
    intro m
    induction m with
    | zero =>
      intro i G2 hm k2 hv ho
      have ei : i = J.length := by omega
      subst ei
      obtain ⟨j2, kq2, l2⟩ := stay G2 k2
      refine kX12_findAll_243 l2 ?_
      rw [j2.1]
      try simp (disch := omega) only [nLe, nLeR, nLeL, nLt, nLtR, nLtL, nEq, nEqR, nEqL, nClamp, nClampR, nAdd, nAddR, nAddL, nSub, nSubR, nMul, nMulR, nMulL, nDivR, vIn, vInR, iteZ, iteP, lEq, lEqR, forall_eq, forall_const, true_implies, false_implies, not_true_eq_false, not_false_eq_true, true_and, and_true, implies_true, Decidable.not_not, Nat.le_refl]
      refine hQ G2 kq2 ⟨j2, fun k s hs => ?_⟩
      obtain ⟨v, j, a, b, c⟩ := ol_ex (getE_lt hs)
      subst c
      rw [ol_get a b] at hs
      refine ho v j s a ?_
      rw [List.take_length]; exact hs
    | succ m ih =>
      intro i G2 hm k2 hv ho
      have hi : i < J.length := by omega
      obtain ⟨s, hs⟩ : ∃ s, J[i]? = some s := ⟨_, List.getElem?_eq_getElem hi⟩
      have hsJ := getE_mem hs
      have hp := hok s hsJ
      obtain ⟨j2, kq2, l2⟩ := stay G2 k2
      have tf := take_filter (eqc (tpr f P t) (tpr f P t s)) hs
      rw [if_pos (by simp [eqc])] at tf
      have hle := take_filter_le (J := J) (i := i + 1) (eqc (tpr f P t) (tpr f P t s))
      rw [tf, List.length_append] at hle
      have hle' : ((J.take i).filter (eqc (tpr f P t) (tpr f P t s))).length + 1 ≤ (J.filter (eqc (tpr f P t) (tpr f P t s))).length := hle
      have o1 := ol_succ J (tpr f P t) (tpr f P t s)
      have o2 := ol_mono J (tpr f P t) (a := tpr f P t s + 1) (b := 64) (by omega)
      have hv' := hv (tpr f P t s) (by omega)
      have e91 := (j2.2 i s hs).2
      refine kX12_findAll_243 l2 ?_
      rw [j2.1]
      try simp (disch := omega) only [nLe, nLeR, nLeL, nLt, nLtR, nLtL, nEq, nEqR, nEqL, nClamp, nClampR, nAdd, nAddR, nAddL, nSub, nSubR, nMul, nMulR, nMulL, nDivR, vIn, vInR, iteZ, iteP, lEq, lEqR, forall_eq, forall_const, true_implies, false_implies, not_true_eq_false, not_false_eq_true, true_and, and_true, implies_true, Decidable.not_not, Nat.le_refl, e91, hv']
      refine ⟨fun z => by omega, fun _ => ⟨by omega, by omega, by omega, by omega, by omega, by omega, ?_⟩⟩
      refine ih (i + 1) _ (by omega) ((k2.sI (Or.inl rfl)).sI (Or.inr rfl)) (fun v hvl => ?_) (fun v j x hvl hj => ?_)
      · rw [gI, gI]
        by_cases ev : v = tpr f P t s
        · subst ev
          rw [if_pos ⟨rfl, rfl⟩, tf, List.length_append]; rfl
        · rw [if_neg (fun z => ev z.2), if_neg (by omega), hv v hvl, take_filter _ hs, if_neg (by simp [eqc]; exact Ne.symm ev), List.append_nil]
      · rw [gI, gI, if_neg (by omega)]
        by_cases ev : v = tpr f P t s
        · subst ev
          rw [tf] at hj
          by_cases ej : j = ((J.take i).filter (eqc (tpr f P t) (tpr f P t s))).length
          · subst ej
            rw [List.getElem?_append_right (Nat.le_refl _), Nat.sub_self] at hj
            cases hj
            rw [if_pos ⟨rfl, rfl⟩]
            exact ⟨i, hi, rfl, hs⟩
          · have hjl : j < ((J.take i).filter (eqc (tpr f P t) (tpr f P t s))).length := by
              have := getE_lt hj
              rw [List.length_append] at this
              have : j < ((J.take i).filter (eqc (tpr f P t) (tpr f P t s))).length + 1 := this
              omega
            rw [List.getElem?_append_left hjl] at hj
            rw [if_neg (by omega)]
            exact ho _ j x hvl hj
        · rw [take_filter _ hs, if_neg (by simp [eqc]; exact Ne.symm ev), List.append_nil] at hj
          have hj1 := getE_lt hj
          have hj2 := take_filter_le (J := J) (i := i) (eqc (tpr f P t) v)
          have p1 := ol_succ J (tpr f P t) v
          rw [if_neg]
          · exact ho v j x hvl hj
          · rintro ⟨-, z⟩
            rcases Nat.lt_or_gt_of_ne ev with q | q
            · have := ol_mono J (tpr f P t) (a := v + 1) (b := tpr f P t s) (by omega); omega
            · have := ol_mono J (tpr f P t) (a := tpr f P t s + 1) (b := v) (by omega); omega
  have sums : ∀ (m x : Nat) (G2 : St), x + m = 199 → Kq (fun i _ => i = 92 ∨ i = 93) G G2 → (∀ j, j < 200 → sI G2 93 j = nI (if j ≤ x then (ol J (tpr f P t) j).length else (J.filter (eqc (tpr f P t) (j - 1))).length)) → EvV K mX12_findAll 5 211 [(0, .ref 66), (2, .int (nI (x + 1)))] [] G2 Q := by
    intro m
    induction m with
    | zero =>
      intro x G2 hm k2 hv
      have ex : x = 199 := by omega
      subst ex
      refine kX12_findAll_211 (k2.lay hL) ?_
      try simp (disch := omega) only [nLe, nLeR, nLeL, nLt, nLtR, nLtL, nEq, nEqR, nEqL, nClamp, nClampR, nAdd, nAddR, nAddL, nSub, nSubR, nMul, nMulR, nMulL, nDivR, vIn, vInR, iteZ, iteP, lEq, lEqR, forall_eq, forall_const, true_implies, false_implies, not_true_eq_false, not_false_eq_true, true_and, and_true, implies_true, Decidable.not_not, Nat.le_refl]
      refine lay J.length 0 G2 (by omega) k2 (fun v hvl => ?_) (fun v j s hvl hj => by simp at hj)
      rw [hv v (by omega), if_pos (by omega)]; simp
    | succ m ih =>
      intro x G2 hm k2 hv
      have b1 := hv (x + 1) (by omega)
      have b2 := hv x (by omega)
      rw [if_neg (by omega)] at b1
      rw [if_pos (Nat.le_refl _)] at b2
      refine kX12_findAll_211 (k2.lay hL) ?_
      try simp (disch := omega) only [nLe, nLeR, nLeL, nLt, nLtR, nLtL, nEq, nEqR, nEqL, nClamp, nClampR, nAdd, nAddR, nAddL, nSub, nSubR, nMul, nMulR, nMulL, nDivR, vIn, vInR, iteZ, iteP, lEq, lEqR, forall_eq, forall_const, true_implies, false_implies, not_true_eq_false, not_false_eq_true, true_and, and_true, implies_true, Decidable.not_not, Nat.le_refl, Nat.add_sub_cancel]
      refine ⟨fun z => by omega, fun _ => ⟨by omega, by omega, by omega, ?_⟩⟩
      rw [b1, b2, nAdd]
      refine ih (x + 1) _ (by omega) (k2.sI (Or.inr rfl)) (fun j hj => ?_)
      rw [gI]
      by_cases ej : j = x + 1
      · subst ej
        rw [if_pos ⟨rfl, rfl⟩, if_pos (Nat.le_refl _), ol_succ, Nat.add_sub_cancel, Nat.add_comm]
      · rw [if_neg (fun z => ej z.2), hv j hj]
        have : j ≤ x + 1 ↔ j ≤ x := by omega
        simp only [this]
  have counts : ∀ (m i : Nat) (G2 : St), i + m = J.length → Kq (fun i _ => i = 92 ∨ i = 93) G G2 → (∀ j, j < 200 → sI G2 93 j = nI (if j = 0 then 0 else ((J.take i).filter (eqc (tpr f P t) (j - 1))).length)) → EvV K mX12_findAll 5 178 [(0, .ref 66), (2, .int (nI i))] [] G2 Q := by
    intro m
    induction m with
    | zero =>
      intro i G2 hm k2 hv
      have ei : i = J.length := by omega
      subst ei
      obtain ⟨j2, kq2, l2⟩ := stay G2 k2
      refine kX12_findAll_178 l2 ?_
      rw [j2.1]
      try simp (disch := omega) only [nLe, nLeR, nLeL, nLt, nLtR, nLtL, nEq, nEqR, nEqL, nClamp, nClampR, nAdd, nAddR, nAddL, nSub, nSubR, nMul, nMulR, nMulL, nDivR, vIn, vInR, iteZ, iteP, lEq, lEqR, forall_eq, forall_const, true_implies, false_implies, not_true_eq_false, not_false_eq_true, true_and, and_true, implies_true, Decidable.not_not, Nat.le_refl]
      refine sums 199 0 G2 rfl k2 (fun j hj => ?_)
      rw [hv j hj, List.take_length]
      by_cases e : j = 0
      · subst e; rfl
      · rw [if_neg e, if_neg (by omega)]
    | succ m ih =>
      intro i G2 hm k2 hv
      have hi : i < J.length := by omega
      obtain ⟨s, hs⟩ : ∃ s, J[i]? = some s := ⟨_, List.getElem?_eq_getElem hi⟩
      have hsJ := getE_mem hs
      have hp := hok s hsJ
      obtain ⟨j2, kq2, l2⟩ := stay G2 k2
      have hv' := hv (tpr f P t s + 1) (by omega)
      rw [if_neg (by omega), Nat.add_sub_cancel] at hv'
      have e91 := (j2.2 i s hs).2
      refine kX12_findAll_178 l2 ?_
      rw [j2.1]
      try simp (disch := omega) only [nLe, nLeR, nLeL, nLt, nLtR, nLtL, nEq, nEqR, nEqL, nClamp, nClampR, nAdd, nAddR, nAddL, nSub, nSubR, nMul, nMulR, nMulL, nDivR, vIn, vInR, iteZ, iteP, lEq, lEqR, forall_eq, forall_const, true_implies, false_implies, not_true_eq_false, not_false_eq_true, true_and, and_true, implies_true, Decidable.not_not, Nat.le_refl, e91, hv']
      refine ⟨fun z => by omega, fun _ => ⟨by omega, by omega, by omega, ?_⟩⟩
      refine ih (i + 1) _ (by omega) (k2.sI (Or.inr rfl)) (fun j hj => ?_)
      rw [gI]
      by_cases ej : j = tpr f P t s + 1
      · subst ej
        rw [if_pos ⟨rfl, rfl⟩, if_neg (by omega), Nat.add_sub_cancel, take_filter _ hs, if_pos (by simp [eqc]), List.length_append]; rfl
      · rw [if_neg (fun z => ej z.2), hv j hj]
        by_cases e0 : j = 0
        · rw [if_pos e0, if_pos e0]
        · rw [if_neg e0, if_neg e0, take_filter _ hs, if_neg (by simp [eqc]; omega), List.append_nil]
  have clear : ∀ (m k : Nat) (G2 : St), k + m = 200 → Kq (fun i _ => i = 92 ∨ i = 93) G G2 → (∀ j, j < k → sI G2 93 j = 0) → EvV K mX12_findAll 5 156 [(0, .ref 66), (2, .int (nI k))] [] G2 Q := by
    intro m
    induction m with
    | zero =>
      intro k G2 hm k2 hz
      have ek : k = 200 := by omega
      subst ek
      refine kX12_findAll_156 (k2.lay hL) ?_
      try simp (disch := omega) only [nLe, nLeR, nLeL, nLt, nLtR, nLtL, nEq, nEqR, nEqL, nClamp, nClampR, nAdd, nAddR, nAddL, nSub, nSubR, nMul, nMulR, nMulL, nDivR, vIn, vInR, iteZ, iteP, lEq, lEqR, forall_eq, forall_const, true_implies, false_implies, not_true_eq_false, not_false_eq_true, true_and, and_true, implies_true, Decidable.not_not, Nat.le_refl]
      refine counts J.length 0 G2 (by omega) k2 (fun j hj => ?_)
      rw [hz j hj]
      by_cases e : j = 0
      · rw [if_pos e]; rfl
      · rw [if_neg e]; rfl
    | succ m ih =>
      intro k G2 hm k2 hz
      refine kX12_findAll_156 (k2.lay hL) ?_
      try simp (disch := omega) only [nLe, nLeR, nLeL, nLt, nLtR, nLtL, nEq, nEqR, nEqL, nClamp, nClampR, nAdd, nAddR, nAddL, nSub, nSubR, nMul, nMulR, nMulL, nDivR, vIn, vInR, iteZ, iteP, lEq, lEqR, forall_eq, forall_const, true_implies, false_implies, not_true_eq_false, not_false_eq_true, true_and, and_true, implies_true, Decidable.not_not, Nat.le_refl]
      refine ⟨fun z => by omega, fun _ => ⟨by omega, ih (k + 1) _ (by omega) (k2.sI (Or.inr rfl)) (fun j hj => ?_)⟩⟩
      rw [gI]
      by_cases ej : j = k
      · simp [ej]
      · simp [ej]; exact hz j (by omega)
  exact clear 200 0 G rfl Kq.rf (fun j hj => absurd hj (Nat.not_lt_zero j))
end MALL

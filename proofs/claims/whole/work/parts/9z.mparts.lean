/-! parts: the model -/
def MP (a : AS) (G : St) (o : Option Nat) : Prop := match o with
  | none => sL G 66 52 = -1
  | some w => sL G 66 52 = lN w ∧ sI G 66 53 = nI (mrW a w) ∧ gw w
def sFp : Nat → Nat → Prop := fun i k => i = 66 ∧ (k = 52 ∨ k = 53)
section MPARTS
variable {K : KT} {G : St} {a : AS} {e : Nat}
theorem s_mIsTerm {Q : Int32 → St → Prop} {v : Nat} (hL : Lay G.2.2) (c : MC G a) (ho : OkA e a) (hv : v < 282429536481) (hQ : Q (if plB a v = true then 1 else 0) G) : EvI K mX12_isTerm 0 0 [(0, .ref 66), (1, .long (lN v))] [] G Q := by
  have q4 := ho.q4
  have key : ∀ (m k : Nat) (u : Int32), k + m = a.q.1 → (u = if anyB (fun k => decide (a.q.2.1 k = 0 ∧ nv (a.q.2.2 k) = v)) k = true then 1 else 0) → EvI K mX12_isTerm 0 5 [(0, .ref 66), (1, .long (lN v)), (3, .int u), (4, .int (nI k))] [] G Q := by
    intro m
    induction m with
    | zero =>
      intro k u hm hu
      refine kX12_isTerm_5 hL ?_
      rw [c.tq.1, show k = a.q.1 by omega]
      rw [show k = a.q.1 by omega] at hu
      refine ⟨fun _ => ⟨?_, ?_⟩, fun z => absurd (Int32.le_refl _) z⟩
      · rw [hu]; split
        · exact Or.inr rfl
        · exact Or.inl rfl
      · rw [hu]; exact hQ
    | succ m ih =>
      intro k u hm hu
      have hk : k < a.q.1 := by omega
      obtain ⟨a1, a2, a3⟩ := c.tq.2.2 k hk
      obtain ⟨v1, v2, v3⟩ := ho.qv hk
      have next : ∀ u', (u' = if (anyB (fun k => decide (a.q.2.1 k = 0 ∧ nv (a.q.2.2 k) = v)) k || decide (a.q.2.1 k = 0 ∧ nv (a.q.2.2 k) = v)) = true then 1 else 0) → EvI K mX12_isTerm 0 45 [(0, .ref 66), (1, .long (lN v)), (4, .int (nI k))] [.int u'] G Q := by
        intro u' hu'
        refine kX12_isTerm_45 hL ?_
        rw [show nI k + 1 = nI (k + 1) from nAdd]
        exact ih (k + 1) u' (by omega) (by rw [hu', anyB])
      refine kX12_isTerm_5 hL ?_
      rw [c.tq.1, nI_clamp (by omega), a1, a3, v1]
      refine ⟨fun z => absurd z (by rw [nLe (by omega) (by omega)]; omega), fun _ => ⟨fun z => next 1 ?_, fun z => ?_⟩⟩
      · cases q' : anyB (fun k => decide (a.q.2.1 k = 0 ∧ nv (a.q.2.2 k) = v)) k
        · rw [q'] at hu; exact absurd hu z
        · rfl
      · have hf : anyB (fun k => decide (a.q.2.1 k = 0 ∧ nv (a.q.2.2 k) = v)) k = false := by
          cases q' : anyB (fun k => decide (a.q.2.1 k = 0 ∧ nv (a.q.2.2 k) = v)) k
          · rfl
          · rw [q', z] at hu; exact absurd hu (by decide)
        have n0 : ¬ (a.q.2.1 k = 0 ∧ nv (a.q.2.2 k) = v) → EvI K mX12_isTerm 0 44 [(0, .ref 66), (1, .long (lN v)), (4, .int (nI k))] [] G Q := fun y => kX12_isTerm_44 hL (next 0 (by rw [hf, decide_eq_false y]; rfl))
        rw [show (0 : Int32) = nI 0 from rfl, nEq (by omega) (by decide)]
        refine ⟨(vIn (by omega)).mpr (by omega), fun y => n0 (fun w => y w.1), fun y => ⟨(vIn (by omega)).mpr (by omega), ?_⟩⟩
        have vl := v2 (by omega)
        rw [lEq (by omega) (by omega)]
        exact ⟨fun w => n0 (fun x => w x.2), fun w => next 1 (by rw [hf, decide_eq_true ⟨y, w⟩]; rfl)⟩
  exact kX12_isTerm_0 hL (key a.q.1 0 0 (by omega) rfl)
theorem s_rowsWith {Q : Int32 → St → Prop} {v : Nat} (hL : Lay G.2.2) (c : MC G a) (ho : OkA e a) (hv : v < 282429536481) (hv0 : v ≠ 0) (hQ : Q (nI (mkW a a.S v)) G) : EvI K mX12_rowsWith 2 0 [(0, .ref 66), (1, .long (lN v))] [] G Q := by
  have w30 := ho.w30
  have mb : ∀ i n, (msk (fun r => a.S.testBit r && hsR a r v) n).testBit i = (decide (i < n) && (a.S.testBit i && hsR a i v)) := fun i n => msk_bit _ _ _
  have rows : ∀ (m r : Nat), r + m = a.w.1 → EvI K mX12_rowsWith 2 5 [(0, .ref 66), (1, .long (lN v)), (3, .int (nI (msk (fun r => a.S.testBit r && hsR a r v) r))), (4, .int (nI r))] [] G Q := by
    intro m
    induction m with
    | zero =>
      intro r hm
      refine kX12_rowsWith_5 hL ?_
      rw [c.ro.1, show r = a.w.1 by omega]
      exact ⟨fun _ => hQ, fun z => absurd (Int32.le_refl _) z⟩
    | succ m ih =>
      intro r hm
      have hr : r < a.w.1 := by omega
      have next : ∀ M, M = msk (fun r => a.S.testBit r && hsR a r v) (r + 1) → EvI K mX12_rowsWith 2 77 [(0, .ref 66), (1, .long (lN v)), (3, .int (nI M)), (4, .int (nI r))] [] G Q := by
        intro M hM
        refine kX12_rowsWith_77 hL ?_
        rw [show nI r + 1 = nI (r + 1) from nAdd, hM]
        exact ih (r + 1) (by omega)
      have same : (a.S.testBit r && hsR a r v) = false → msk (fun r => a.S.testBit r && hsR a r v) r = msk (fun r => a.S.testBit r && hsR a r v) (r + 1) := by
        intro z
        apply Nat.eq_of_testBit_eq
        intro j
        rw [mb, mb]
        by_cases y : j = r
        · rw [y, z]; simp
        · have : decide (j < r) = decide (j < r + 1) := by simp; omega
          rw [this]
      have more : (a.S.testBit r && hsR a r v) = true → msk (fun r => a.S.testBit r && hsR a r v) r ||| 2 ^ r = msk (fun r => a.S.testBit r && hsR a r v) (r + 1) := by
        intro z
        apply Nat.eq_of_testBit_eq
        intro j
        rw [Nat.testBit_or, mb, mb, Nat.testBit_two_pow]
        by_cases y : j = r
        · rw [y, z]; simp
        · have e1 : decide (r = j) = false := by simp; omega
          have e2 : decide (j < r + 1) = decide (j < r) := by simp; omega
          rw [e1, e2, Bool.or_false]
      by_cases hs : a.S.testBit r = true
      · obtain ⟨r1, r2, r3⟩ := c.ro.2.2 r hr
        have cols : ∀ (n d : Nat), d + n = 4 → EvI K mX12_rowsWith 2 17 [(0, .ref 66), (1, .long (lN v)), (3, .int (nI (if anyB (fun c => wdA a.b a.w r c == v) d = true then msk (fun r => a.S.testBit r && hsR a r v) r ||| 2 ^ r else msk (fun r => a.S.testBit r && hsR a r v) r))), (4, .int (nI r)), (5, .int (nI d))] [] G Q := by
          intro n
          induction n with
          | zero =>
            intro d hn
            have ed : d = 4 := by omega
            subst ed
            refine kX12_rowsWith_17 hL ⟨fun _ => next _ ?_, fun z => absurd (by decide) z⟩
            by_cases y : anyB (fun c => wdA a.b a.w r c == v) 4 = true
            · rw [if_pos y]; exact more (by rw [hs]; exact y)
            · rw [if_neg y]; exact same (by rw [hs]; simpa [hsR] using y)
          | succ n ihn =>
            intro d hn
            have orr : ∀ x : Nat, (x ||| 2 ^ r) ||| 2 ^ r = x ||| 2 ^ r := fun x => by rw [Nat.or_assoc, Nat.or_self]
            have go : ∀ u : Nat, (u = if wdA a.b a.w r d = v then 2 ^ r else 0) → EvI K mX12_rowsWith 2 69 [(0, .ref 66), (1, .long (lN v)), (4, .int (nI r)), (5, .int (nI d))] [.int (nI u), .int (nI (if anyB (fun c => wdA a.b a.w r c == v) d = true then msk (fun r => a.S.testBit r && hsR a r v) r ||| 2 ^ r else msk (fun r => a.S.testBit r && hsR a r v) r))] G Q := by
              intro u hu
              refine kX12_rowsWith_69 hL ?_
              have := ihn (d + 1) (by omega)
              rw [show nI d + 1 = nI (d + 1) from nAdd, fa_or]
              have e1 : (if anyB (fun c => wdA a.b a.w r c == v) d = true then msk (fun r => a.S.testBit r && hsR a r v) r ||| 2 ^ r else msk (fun r => a.S.testBit r && hsR a r v) r) ||| u = if anyB (fun c => wdA a.b a.w r c == v) (d + 1) = true then msk (fun r => a.S.testBit r && hsR a r v) r ||| 2 ^ r else msk (fun r => a.S.testBit r && hsR a r v) r := by
                rw [hu, anyB]
                by_cases y : anyB (fun c => wdA a.b a.w r c == v) d = true
                · rw [if_pos y, y, Bool.true_or, if_pos rfl]
                  split
                  · exact orr _
                  · exact Nat.or_zero _
                · have y' : anyB (fun c => wdA a.b a.w r c == v) d = false := by simpa using y
                  rw [if_neg y, y', Bool.false_or]
                  by_cases w : wdA a.b a.w r d = v
                  · rw [if_pos w, if_pos (by simp [w])]
                  · rw [if_neg w, if_neg (by simp [w]), Nat.or_zero]
              rw [e1]; exact this
            refine kX12_rowsWith_17 hL ⟨fun z => absurd z (by rw [show (4 : Int32) = nI 4 from rfl, nLe (by decide) (by omega)]; omega), fun _ => s_X12_isSeenN hL (c.ms ho) (by omega) ?_⟩
            rw [if_pos hs]
            refine ⟨fun z => absurd z (by decide), fun _ => s_X12_isText hL c.tb ho.tb c.ro hr (by omega) ?_⟩
            by_cases tx : d < a.b.2.2.1 (a.w.2.1 r) ∧ a.b.2.2.2.2 (a.w.2.1 r) d = 5
            · rw [if_pos tx]
              refine ⟨fun z => absurd z (by decide), fun _ => ?_⟩
              obtain ⟨n', n1, n2⟩ := (ho.cl r d hr tx.1).1 tx.2
              have ew : wdA a.b a.w r d = n' := by unfold wdA; rw [if_pos tx, n1, nv_l (by have := n2.1; omega)]
              have e78 := r3 d tx.1
              rw [show (4 : Int32) * nI r + nI d = nI (4 * r + d) by rw [show (4 : Int32) * nI r = nI (4 * r) from nMul]; exact nAdd, nI_clamp (by omega), e78, n1, lEq (by have := n2.1; omega) (by omega), shl_one (by omega)]
              refine ⟨(vIn (by omega)).mpr (by omega), fun z => kX12_rowsWith_68 hL (go 0 (by rw [ew, if_neg z])), fun z => go (2 ^ r) (by rw [ew, if_pos z])⟩
            · rw [if_neg tx]
              have ew : wdA a.b a.w r d = 0 := by unfold wdA; rw [if_neg tx]
              exact ⟨fun _ => kX12_rowsWith_68 hL (go 0 (by rw [ew, if_neg (fun z => hv0 z.symm)])), fun z => absurd rfl z⟩
        refine kX12_rowsWith_5 hL ?_
        rw [c.ro.1]
        exact ⟨fun z => absurd z (by rw [nLe (by omega) (by omega)]; omega), fun _ => cols 4 0 (by omega)⟩
      · refine kX12_rowsWith_5 hL ?_
        rw [c.ro.1]
        refine ⟨fun z => absurd z (by rw [nLe (by omega) (by omega)]; omega), fun _ => kX12_rowsWith_17 hL ⟨fun z => absurd z (by decide), fun _ => s_X12_isSeenN hL (c.ms ho) (by omega) ?_⟩⟩
        rw [if_neg hs]
        exact ⟨fun _ => next _ (same (by simp [hs])), fun z => absurd rfl z⟩
  exact kX12_rowsWith_0 hL (rows a.w.1 0 (by omega))
end MPARTS

/-! row: both; and what a call of one side leaves of the other -/
def rRow (a : AS) (r k : Nat) : Nat := if k = 0 then a.w.2.1 r else if k = 1 then nOf a.w.2.1 (a.w.2.1 r) r else if a.S.testBit r = true then 1 else 0
section OTHER
variable {K : KT} {G : St} {a : AS} {e : Nat}
theorem Rm.up (h : Rm e G) : Rm (e + 1) G := by
  obtain ⟨h1, h2, h3⟩ := h
  exact ⟨by omega, by omega, h3⟩
theorem OkA.up (h : OkA e a) : OkA (e + 1) a := ⟨h.b5, h.c4, h.tb, h.ds, h.nm, h.w30, h.wb, h.ro, h.cl, h.q4, h.q3, h.qu, h.p4, h.W1, h.W5, h.dn, h.lt, h.l20, fun x => Nat.le_succ_of_le (h.ch x), h.m40, h.tp⟩
theorem XI.up (h : XI e sen G a) : XI (e + 1) sen G a := ⟨h.lay, h.rm.up, h.c, h.fh, h.ft, h.fo, h.fs⟩
/-- nothing of the class is written -/
theorem XI.mo {S : Nat → Nat → Prop} {G1 : St} (h : XI e sen G a) (hk : Kq S G G1) (hs : ∀ i k, S i k → 66 ≤ i ∧ i ≤ 103) : XI e sen G1 a := by
  have hL := h.lay
  have hh := lay_h hL
  have ht := lay_t hL
  have c := h.c
  have fk : ∀ k, sI G1 1 k = sI G 1 k := fun k => hk.I (fun z => by have := hs _ _ z; omega)
  refine ⟨hk.lay hL, h.rm.kq hk, ⟨c.tp.kq hk (fun i k z => by have := hs _ _ z; omega), ?_, ?_, ?_, ?_, (fk 12).trans c.pe, (fk 13).trans c.wi, c.lt.kq hk (fun i k z => by have := hs _ _ z; omega), c.ch.kq hk (fun i k z => by have := hs _ _ z; omega), (hk.I (fun z => by have := hs _ _ z; omega)).trans c.m0, (hk.I (fun z => by have := hs _ _ z; omega)).trans c.m1, (hk.I (fun z => by have := hs _ _ z; omega)).trans c.m2⟩, fun z => ?_, fun z => ?_, fun z => ?_, fun z => ?_⟩
  · rw [hk.R]; exact c.tb.kq hk (fun i k z => by have := hs _ _ z; omega)
  · rw [hk.R]; exact c.ro.kq hk (fun i k z => by have := hs _ _ z; omega)
  · rw [hk.R]; exact c.hd.kq hk (fun i k z => by have := hs _ _ z; omega)
  · rw [hk.R]; exact c.tq.kq hk (fun i k z => by have := hs _ _ z; omega)
  · rw [fk] at z; exact (h.fh z).kq hk (fun i k z => by have := hs _ _ z; unfold sHt; omega)
  · rw [fk] at z; exact (h.ft z).kq hk (fun i k z => by have := hs _ _ z; unfold sTi; omega)
  · rw [fk] at z; exact (h.fo z).kq hk (fun i k z => by have := hs _ _ z; unfold sOf; omega)
  · rw [fk] at z
    obtain ⟨z1, z2, z3, z4⟩ := h.fs z
    refine ⟨z1, by rw [fk]; exact z2, by rw [fk]; exact z3, ?_⟩
    exact z4.kq hL hk (fun i k z => by have := hs _ _ z; omega)
/-- nothing of the model is written -/
theorem MI.kg {S T : Nat → Nat → Prop} {G1 : St} (h : MI G a) (ho : OkA e a) (hL : Lay G.2.2) (hk : Kg S T G G1) (hs : ∀ i k, S i k → i ≤ 65 ∨ 103 ≤ i) : MI G1 a := by
  have h104 : 104 ≤ nx G := hL.2.2.2.1
  have h2 : MI (mixS G G1) a := h.kq ho.c4 hk.toq (fun i k z => by
    have : i ≤ 65 ∨ 103 ≤ i := by
      rcases z with z | z
      · exact hs i k z
      · omega
    unfold mS sAl; omega)
  exact h2
theorem MI.kx {G1 : St} (h : MI G a) (ho : OkA e a) (hL : Lay G.2.2) (hk : KX G G1) : MI G1 a := h.kg ho hL hk (fun i k z => by omega)
/-- one thing more, and nothing written: the class -/
theorem XI.mk {G1 : St} {t m : Nat} (h : XI e sen G a) (hm : Mk t m G G1) (hm2 : m ≤ 1000) : XI (e + 1) sen G1 a := by
  have hL := h.lay
  have h104 : 104 ≤ nx G := hL.2.2.2.1
  have kg : Kg (fun _ _ => False) (fun _ _ => False) G G1 := hm.g
  have hI : ∀ i k, i < nx G → sI G1 i k = sI G i k := fun i k hi => kg.I hi (fun z => z)
  have hLn : ∀ i k, i < nx G → sL G1 i k = sL G i k := fun i k hi => kg.L hi (fun z => z)
  have hR : ∀ i k, i < nx G → sR G1 i k = sR G i k := fun i k hi => kg.R hi (fun z => z)
  have hN : ∀ i, i < nx G → sN G1 i = sN G i := fun i hi => (kg.2.1 i hi).1
  have g9 := (lay_g hL (i := 18) (k := 9) (t := 1) (f := 26) (by decide)).2.2
  have g10 := (lay_g hL (i := 18) (k := 10) (t := 1) (f := 27) (by decide)).2.2
  have g1 := (lay_g hL (i := 28) (k := 1) (t := 0) (f := 30) (by decide)).2.2
  have g2 := (lay_g hL (i := 28) (k := 2) (t := 0) (f := 31) (by decide)).2.2
  have g3 := (lay_g hL (i := 28) (k := 3) (t := 0) (f := 32) (by decide)).2.2
  have g4 := (lay_g hL (i := 28) (k := 4) (t := 0) (f := 33) (by decide)).2.2
  have g5 := (lay_g hL (i := 28) (k := 5) (t := 0) (f := 34) (by decide)).2.2
  have r9 := hR 18 9 (by omega)
  have r10 := hR 18 10 (by omega)
  have r1 := hR 28 1 (by omega)
  have r2 := hR 28 2 (by omega)
  have r3 := hR 28 3 (by omega)
  have r4 := hR 28 4 (by omega)
  have r5 := hR 28 5 (by omega)
  have rm : Rm (e + 1) G1 := by
    have h1 := h.rm
    unfold Rm at h1 ⊢
    rw [r9, r10, r1, r2, r3, r4, r5, hN _ g9, hN _ g10, hN _ g1, hN _ g2, hN _ g3, hN _ g4, hN _ g5, hm.1, hm.2.1]
    obtain ⟨a1, a2, a3⟩ := h1
    exact ⟨by omega, by omega, a3⟩
  have q := kg.toq
  have qs : ∀ i : Nat, (False ∨ nx G ≤ i) → 104 ≤ i := fun i z => by
    rcases z with z | z
    · exact z.elim
    · omega
  have fk : ∀ k, sI G1 1 k = sI G 1 k := fun k => hI 1 k (by omega)
  refine ⟨hL.mk hm, rm, h.c.kg hL kg (fun i k z => z.elim) (fun i k z => z.elim), fun z => ?_, fun z => ?_, fun z => ?_, fun z => ?_⟩
  · rw [fk] at z; exact (h.fh z).kg hL kg (fun i k z => z.elim)
  · rw [fk] at z; exact XTl.kq (G1 := mixS G G1) (h.ft z) q (fun i k z => by have := qs i z; unfold sTi; omega)
  · rw [fk] at z; exact XOf.kq (G1 := mixS G G1) (h.fo z) q (fun i k z => by have := qs i z; unfold sOf; omega)
  · rw [fk] at z
    obtain ⟨z1, z2, z3, z4⟩ := h.fs z
    refine ⟨z1, by rw [fk]; exact z2, by rw [fk]; exact z3, ?_, ?_, ?_, ?_, fun i hi => ?_, ?_⟩
    · obtain ⟨h1, h2, h3, h4, h5, h6, h7⟩ := z4.sr
      have k18 : ∀ k, sI G1 18 k = sI G 18 k := fun k => hI 18 k (by omega)
      refine ⟨(k18 13).trans h1, (k18 14).trans h2, (k18 15).trans h3, (k18 16).trans h4, fun j hj => (hI 22 j (by omega)).trans (h5 j hj), ⟨(k18 11).trans h6.1, h6.2.1, fun i p hp => ⟨(hI 24 i (by omega)).trans (h6.2.2 i p hp).1, (hI 25 i (by omega)).trans (h6.2.2 i p hp).2.1, (h6.2.2 i p hp).2.2⟩⟩, (k18 17).trans h7.1, ?_, fun k s hs' => ?_⟩
      · rw [r10, hN _ g10]; exact h7.2.1
      · rw [r10, hLn _ _ g10]; exact h7.2.2 k s hs'
    · unfold XQ
      rw [r1, r2, r3, r4]
      exact QS_cong z4.qs (hI 28 12 (by omega)) (fun j _ => hI 29 j (by omega)) (fun q _ => ⟨hI _ _ g1, hI _ _ g2, hI _ _ g4, hI _ _ g3⟩)
    · rw [r5, hN _ g5]; exact z4.n5
    · rw [r2, hN _ g2]; exact z4.n2
    · obtain ⟨q, j, a1, a2, a3⟩ := z4.nm i hi
      exact ⟨q, j, a1, a2, by rw [r5, hI _ _ g5]; exact a3⟩
    · rcases z4.se with z | ⟨q, a1, a2, a3, a4⟩
      · exact Or.inl ((hI 28 10 (by omega)).trans z)
      · exact Or.inr ⟨q, a1, (hI 28 10 (by omega)).trans a2, (hI 28 9 (by omega)).trans a3, fun i c hc => (hI 37 i (by omega)).trans (a4 i c hc)⟩
end OTHER
section ROW
variable {K : KT} {G : St} {a : AS} {e : Nat}
def rwI (a : AS) (x y : Int32) : Prop := (0 ≤ x.toInt ∧ x.toInt < a.w.1) ∧ 0 ≤ y.toInt ∧ y.toInt ≤ 2
theorem rwI_n {x y : Int32} (h : rwI a x y) (ho : OkA e a) : ∃ r k, r < a.w.1 ∧ k ≤ 2 ∧ x = nI r ∧ y = nI k := by
  obtain ⟨⟨h1, h2⟩, h3, h4⟩ := h
  have w30 := ho.w30
  refine ⟨x.toInt.toNat, y.toInt.toNat, by omega, by omega, ?_, ?_⟩
  · rw [fa_eq, nI_toInt (by omega)]; omega
  · rw [fa_eq, nI_toInt (by omega)]; omega
theorem x_row {Q : Int32 → St → Prop} {x y : Int32} (hst : K.1.stackTraces = false) (h : XI e sen G a) (hm : MI G a) (ho : OkA e a) (hQ0 : ∀ G', XI (e + 1) sen G' a → MI G' a → ¬ rwI a x y → Q 1 G') (hQ : ∀ G' r k, r < a.w.1 → k ≤ 2 → x = nI r → y = nI k → XI e sen G' a → MI G' a → sL G' 103 0 = Int32.toInt64 (nI (rRow a r k)) → Q 0 G') : RowC K x y G Q := by
  have hL := h.lay
  have hh := ly_8 hL
  have w30 := ho.w30
  have ro := h.c.ro
  by_cases hr : rwI a x y
  · obtain ⟨r, k, hr1, hk, rfl, rfl⟩ := rwI_n hr ho
    obtain ⟨o1, o2, o3, o4⟩ := ro.2.2.1 r hr1
    have fin : ∀ v : Int32, v = nI (rRow a r k) → Q 0 (uL G 103 0 (Int32.toInt64 v)) := fun v hv => by
      have k1 : Kq (fun i _ => i = 103) G (uL G 103 0 (Int32.toInt64 v)) := kq_L rfl
      refine hQ _ r k hr1 hk rfl rfl (h.mo k1 (fun i k z => by omega)) (hm.kq ho.c4 k1 (fun i k z => by unfold mS sAl; omega)) ?_
      rw [gL, if_pos ⟨rfl, rfl⟩, hv]
    refine k_rowN hL (k_rowR hL (s_X1_isTold hL hh ro ⟨?_, rfl⟩) (by rw [show (0 : Int32) = nI 0 from rfl, nLt (by omega) (by decide)]; omega) (by rw [show (2 : Int32) = nI 2 from rfl, nLe (by omega) (by decide)]; exact hk) ((vIn (by omega)).mpr (by omega)) (fun z => ?_) (fun z => ?_) (fun z0 z1 => s_seen hL h.c ho ?_))
    · rw [if_pos (by rw [nI_toInt (by omega)]; omega)]; decide
    · rw [show (0 : Int32) = nI 0 from rfl, nEq (by omega) (by decide)] at z
      refine fin _ ?_
      rw [nI_clamp (by omega), o2]
      unfold rRow
      rw [if_pos z]
    · rw [show (1 : Int32) = nI 1 from rfl, nEq (by omega) (by decide)] at z
      refine fin _ ?_
      rw [nI_clamp (by omega), o3]
      unfold rRow
      rw [if_neg (by omega), if_pos z]
    · rw [show (0 : Int32) = nI 0 from rfl, nEq (by omega) (by decide)] at z0
      rw [show (1 : Int32) = nI 1 from rfl, nEq (by omega) (by decide)] at z1
      refine fin _ ?_
      rw [bit_at (by have := ho.S30; omega) (by omega)]
      unfold rRow
      rw [if_neg z0, if_neg z1]
  · obtain ⟨o, G', hJ, t, rfl, -, rfl, rfl⟩ := (s_X1_isTold (K := K) (Q := fun t G1 => t = (if 0 ≤ x.toInt ∧ x.toInt < a.w.1 then 1 else 0) ∧ G1 = G) (x := x) hL hh ro ⟨rfl, rfl⟩)
    refine ⟨1, uN G' (100 + 4) 6, rowM_thr hL (met_rowT hst hL hJ ?_), hQ0 _ (h.mk (mk_uN 4 6) (by decide)) (hm.kg (S := fun _ _ => False) (T := fun _ _ => False) ho hL (mk_uN 4 6).g (fun i k z => z.elim)) hr⟩
    by_cases hx : 0 ≤ x.toInt ∧ x.toInt < a.w.1
    · refine Or.inr ?_
      rw [fa_lt, fa_le, show (0 : Int32).toInt = 0 from rfl, show (2 : Int32).toInt = 2 from rfl]
      have : ¬ (0 ≤ y.toInt ∧ y.toInt ≤ 2) := fun z => hr ⟨hx, z⟩
      omega
    · rw [if_neg hx]; exact Or.inl rfl
theorem m_row {Q : Int32 → St → Prop} {x y : Int32} (hL : Lay G.2.2) (h : MI G a) (ho : OkA e a) (hQ0 : ∀ G', Lay G'.2.2 → MI G' a → KM G G' → ¬ rwI a x y → sI G' 66 0 = 1 → Q 0 G') (hQ : ∀ G' r k, Lay G'.2.2 → r < a.w.1 → k ≤ 2 → x = nI r → y = nI k → MI G' a → KM G G' → sI G' 66 0 = 0 → Q (nI (rRow a r k)) G') : EvI K mX12_row 2 0 [(0, .ref 66), (1, .int x), (2, .int y)] [] G Q := by
  have w30 := ho.w30
  have c := h.c
  have hbad : ¬ rwI a x y → EvI K mX12_row 2 22 [(0, .ref 66), (1, .int x), (2, .int y)] [.ref 66] G Q := fun hr => by
    refine kX12_row_22 hL (kX12_row_23 hL ⟨fun z => absurd z (by decide), fun _ => hQ0 _ (ly_th hL) (h.th ho) km_th hr ?_⟩)
    rw [gI, if_pos ⟨rfl, rfl⟩]
  refine kX12_row_0 hL (s_X12_isRow hL c.ro.1 w30 ?_)
  by_cases hx : 0 ≤ x.toInt ∧ x.toInt < a.w.1
  · rw [if_pos hx]
    refine ⟨fun z => absurd z (by decide), fun _ => s_X12_within hL ?_⟩
    rw [show (0 : Int32).toInt = 0 from rfl, show (2 : Int32).toInt = 2 from rfl]
    by_cases hy : 0 ≤ y.toInt ∧ y.toInt ≤ 2
    · rw [if_pos hy]
      refine ⟨fun z => absurd z (by decide), fun _ => kX12_row_23 hL ⟨fun _ => ?_, fun z => absurd (by decide) z⟩⟩
      obtain ⟨r, k, hr1, hk, rfl, rfl⟩ := rwI_n (a := a) ⟨hx, hy⟩ ho
      have h0 := h.th ho (v := 0)
      have l0 := ly_th hL (v := 0)
      have k0 := km_th (G := G) (v := 0)
      have s0 : sI (uI G 66 0 0) 66 0 = 0 := by rw [gI, if_pos ⟨rfl, rfl⟩]
      have e77 : ∀ j, sI (uI G 66 0 0) 77 j = sI G 77 j := fun j => by rw [gI, if_neg (by omega)]
      have fin := hQ _ r k l0 hr1 hk rfl rfl h0 k0 s0
      rw [← e77]
      generalize uI G 66 0 0 = G0 at *
      have c0 := h0.c
      rw [show (1 : Int32) = nI 1 from rfl, show (0 : Int32) = nI 0 from rfl, nEq (by omega) (by decide), nEq (by omega) (by decide)]
      refine ⟨fun z => ?_, fun z => ⟨fun z0 => ?_, fun z0 => ?_⟩⟩
      · have key : ∀ (m j : Nat), j + m = r → EvI K mX12_row 2 72 [(0, .ref 66), (1, .int (nI r)), (3, .int (nI (nOf a.w.2.1 (a.w.2.1 r) j))), (4, .int (nI j))] [] G0 Q := by
          intro m
          induction m with
          | zero =>
            intro j hj
            have : j = r := hj
            subst this
            refine kX12_row_72 l0 ⟨fun _ => ?_, fun z => absurd (by rw [nLe (by omega) (by omega)]; exact Nat.le_refl _) z⟩
            unfold rRow at fin
            rw [if_neg (by omega), if_pos z] at fin
            exact fin
          | succ m ih =>
            intro j hj
            have nl := nOf_le a.w.2.1 (a.w.2.1 r) j
            obtain ⟨-, r2, -⟩ := c0.ro.2.2 r hr1
            obtain ⟨-, j2, -⟩ := c0.ro.2.2 j (by omega)
            have b5 := ho.b5
            have t1 := ho.wb r hr1
            have t2 := ho.wb j (by omega)
            refine kX12_row_72 l0 ⟨fun y => absurd y (by rw [nLe (by omega) (by omega)]; omega), fun _ => ?_⟩
            rw [nI_clamp (by omega), nI_clamp (by omega), r2, j2, nEq (by omega) (by omega)]
            refine ⟨(vIn (by omega)).mpr (by omega), (vIn (by omega)).mpr (by omega), fun y => ?_, fun y => ?_⟩
            · refine kX12_row_100 l0 ?_
              have := ih (j + 1) (by omega)
              rw [nOf, if_neg y] at this
              try simp (disch := omega) only [nLe, nLeR, nLeL, nLt, nLtR, nLtL, nEq, nEqR, nEqL, nClamp, nClampR, nAdd, nAddR, nAddL, nSub, nSubR, nMul, nMulR, nMulL, nDivR, vIn, vInR, iteZ, iteP, lEq, lEqR, forall_eq, forall_const, true_implies, false_implies, not_true_eq_false, not_false_eq_true, true_and, and_true, implies_true, Decidable.not_not, Nat.le_refl]
              exact this
            · refine kX12_row_100 l0 ?_
              have := ih (j + 1) (by omega)
              rw [nOf, if_pos y] at this
              try simp (disch := omega) only [nLe, nLeR, nLeL, nLt, nLtR, nLtL, nEq, nEqR, nEqL, nClamp, nClampR, nAdd, nAddR, nAddL, nSub, nSubR, nMul, nMulR, nMulL, nDivR, vIn, vInR, iteZ, iteP, lEq, lEqR, forall_eq, forall_const, true_implies, false_implies, not_true_eq_false, not_false_eq_true, true_and, and_true, implies_true, Decidable.not_not, Nat.le_refl]
              exact this
        have := key r 0 (by omega)
        exact this
      · refine s_X12_isSeenN l0 (c0.ms ho) (by omega) ?_
        unfold rRow at fin
        rw [if_neg z0, if_neg z] at fin
        by_cases y : a.S.testBit r = true
        · rw [if_pos y] at fin ⊢
          exact ⟨fun q => absurd q (by decide), fun _ => fin⟩
        · rw [if_neg y] at fin ⊢
          exact ⟨fun _ => fin, fun q => absurd rfl q⟩
      · refine ⟨(vIn (by omega)).mpr (by omega), ?_⟩
        obtain ⟨-, r2, -⟩ := c0.ro.2.2 r hr1
        unfold rRow at fin
        rw [if_pos z0] at fin
        rw [nI_clamp (by omega), r2]
        exact fin
    · rw [if_neg hy]
      exact ⟨fun _ => hbad (fun z => hy z.2), fun z => absurd rfl z⟩
  · rw [if_neg hx]
    exact ⟨fun _ => hbad (fun z => hx z.1), fun z => absurd rfl z⟩
end ROW

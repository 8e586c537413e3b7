/-! near: the model -/
def wX (a : AS) (x : Nat) : Nat := wdA a.b a.w (x / 4) (x % 4)
def fcC (a : AS) (x : Nat) : Bool := !anyB (fun y => a.S.testBit (y / 4) && (wX a y != 0) && (wX a y == wX a x)) x
section MNEAR
variable {K : KT} {G : St} {a : AS} {e : Nat}
theorem OkA.nct (ho : OkA e a) {k v : Nat} : ∀ {x : Nat}, x ≤ 4 * a.w.1 → fb_ct (fun y => nrC a k y && decide (flW (wX a y) < flW v) && fcC a y) x = ((NL a k x).filter (ltF v)).length
  | 0, _ => rfl
  | x + 1, hx => by
    have ih := ho.nct (k := k) (v := v) (x := x) (by omega)
    rw [fb_ct, ih, NL]
    by_cases z : nrC a k x = true
    · rw [if_pos z]
      have z' := z
      unfold nrC at z'
      simp only [Bool.and_eq_true] at z'
      obtain ⟨⟨z1, z2⟩, z3⟩ := z'
      by_cases m : wX a x ∈ NL a k x
      · have e1 : inN (NL a k x) (wX a x) = NL a k x := by
          unfold inN
          rw [if_pos (inN_old (ho.nsrt (by omega)) m)]
        have e2 : fcC a x = false := by
          obtain ⟨y, y1, y2, y3⟩ := NL_mem.mp m
          unfold nrC at y2
          simp only [Bool.and_eq_true] at y2
          unfold fcC
          have : anyB (fun y => a.S.testBit (y / 4) && (wX a y != 0) && (wX a y == wX a x)) x = true := anyB_iff.mpr ⟨y, y1, by
            have h0 : (wX a y != 0) = true := y2.1.2
            simp only [Bool.and_eq_true]
            exact ⟨⟨y2.1.1, h0⟩, by rw [y3]; simp [wX]⟩⟩
          rw [this]; rfl
        rw [show inN (NL a k x) (wdA a.b a.w (x / 4) (x % 4)) = inN (NL a k x) (wX a x) from rfl, e1, e2, Bool.and_false, if_neg (by decide), Nat.add_zero]
      · have e2 : fcC a x = true := by
          unfold fcC
          cases hq : anyB (fun y => a.S.testBit (y / 4) && (wX a y != 0) && (wX a y == wX a x)) x
          · rfl
          · obtain ⟨y, y1, y2⟩ := anyB_iff.mp hq
            simp only [Bool.and_eq_true] at y2
            have y3 : wX a y = wX a x := by simpa using y2.2
            exfalso
            apply m
            refine NL_mem.mpr ⟨y, y1, ?_, y3.symm⟩
            unfold nrC
            simp only [Bool.and_eq_true]
            refine ⟨⟨y2.1.1, y2.1.2⟩, ?_⟩
            have y3' : wdA a.b a.w (y / 4) (y % 4) = wdA a.b a.w (x / 4) (x % 4) := y3
            rw [y3']; exact z3
        rw [show inN (NL a k x) (wdA a.b a.w (x / 4) (x % 4)) = inN (NL a k x) (wX a x) from rfl, inN_ct (ho.nsrt (by omega)) m, z, e2, Bool.true_and, Bool.and_true]
        by_cases u : flW (wX a x) < flW v
        · rw [if_pos u, if_pos (decide_eq_true u)]
        · rw [if_neg u, if_neg (by simpa using u)]
    · rw [if_neg z]
      have z' : nrC a k x = false := by simpa using z
      rw [z', Bool.false_and, Bool.false_and, if_neg (by decide), Nat.add_zero]
/-- a text cell that is seen -/
theorem MC.tx (c : MC G a) (ho : OkA e a) {x : Nat} (hr : x / 4 < a.w.1) (tx : x % 4 < a.b.2.2.1 (a.w.2.1 (x / 4)) ∧ a.b.2.2.2.2 (a.w.2.1 (x / 4)) (x % 4) = 5) : sL G 78 x = lN (wX a x) ∧ gw (wX a x) := by
  obtain ⟨v, n1, n2⟩ := (ho.cl (x / 4) (x % 4) hr tx.1).1 tx.2
  have ew : wX a x = v := by unfold wX wdA; rw [if_pos tx, n1, nv_l (by have := n2.1; omega)]
  have e78 := (c.ro.2.2 _ hr).2.2 _ tx.1
  rw [show 4 * (x / 4) + x % 4 = x by omega, n1] at e78
  rw [ew]; exact ⟨e78, n2⟩
theorem s_isNearCell {Q : Int32 → St → Prop} {x k : Nat} (hL : Lay G.2.2) (c : MC G a) (ho : OkA e a) (hx : x < 4 * a.w.1) (hk : k < a.q.1) (hk0 : a.q.2.1 k = 0) (hQ : Q (if nrC a k x = true then 1 else 0) G) : EvI K mX12_isNearCell 3 0 [(0, .ref 66), (1, .int (nI x)), (2, .int (nI k))] [] G Q := by
  have w30 := ho.w30
  have q4 := ho.q4
  have hr : x / 4 < a.w.1 := by omega
  obtain ⟨a1, a2, a3⟩ := c.tq.2.2 k hk
  obtain ⟨v1, v2, v3⟩ := ho.qv hk
  have vl := v2 (by omega)
  have d4 : nI x / 4 = nI (x / 4) := nDivR (by omega) (by decide) (by decide)
  refine kX12_isNearCell_0 hL ?_
  rw [show nI x - nI x / 4 * 4 = nI (x % 4) from fa_rem (k := 2) (by omega) (by decide), d4]
  refine s_X12_isSeenN hL (c.ms ho) (by omega) ?_
  have no : nrC a k x = false → Q 0 G := fun z => by rw [z] at hQ; exact hQ
  by_cases hs : a.S.testBit (x / 4) = true
  · rw [if_pos hs]
    refine ⟨fun z => absurd z (by decide), fun _ => s_X12_isText hL c.tb ho.tb c.ro hr (by omega) ?_⟩
    by_cases tx : x % 4 < a.b.2.2.1 (a.w.2.1 (x / 4)) ∧ a.b.2.2.2.2 (a.w.2.1 (x / 4)) (x % 4) = 5
    · rw [if_pos tx]
      obtain ⟨t1, t2⟩ := c.tx ho hr tx
      have w0 : wX a x ≠ 0 := fun y => by have := t2.2; rw [y] at this; exact this rfl
      rw [nI_clamp (by omega), nI_clamp (by omega), t1, a3, v1]
      refine ⟨fun z => absurd z (by decide), fun _ => ⟨(vIn (by omega)).mpr (by omega), (vIn (by omega)).mpr (by omega), s_X12_isNear (show _ < 27 ^ 8 from t2.1) (show _ < 27 ^ 8 from vl) hL ?_⟩⟩
      have eN : nrC a k x = apX (wX a x) (nv (a.q.2.2 k)) := by
        unfold nrC
        rw [hs, show (wdA a.b a.w (x / 4) (x % 4) != 0) = true by simpa [wX] using w0]
        rfl
      rw [eN] at hQ no
      by_cases ap : apX (wX a x) (nv (a.q.2.2 k)) = true
      · rw [if_pos ap]
        rw [if_pos ap] at hQ
        exact ⟨fun z => absurd z (by decide), fun _ => hQ⟩
      · rw [if_neg ap]
        exact ⟨fun _ => no (by simpa using ap), fun z => absurd rfl z⟩
    · rw [if_neg tx]
      have ew : wdA a.b a.w (x / 4) (x % 4) = 0 := by unfold wdA; rw [if_neg tx]
      exact ⟨fun _ => no (by unfold nrC; rw [ew]; simp), fun z => absurd rfl z⟩
  · rw [if_neg hs]
    exact ⟨fun _ => no (by unfold nrC; simp [hs]), fun z => absurd rfl z⟩
theorem s_isFirstCell {Q : Int32 → St → Prop} {x : Nat} (hL : Lay G.2.2) (c : MC G a) (ho : OkA e a) (hx : x < 4 * a.w.1) (hxt : sL G 78 x = lN (wX a x)) (hxg : gw (wX a x)) (hQ : Q (if fcC a x = true then 1 else 0) G) : EvI K mX12_isFirstCell 2 0 [(0, .ref 66), (1, .int (nI x))] [] G Q := by
  have w30 := ho.w30
  have key : ∀ (m y : Nat) (u : Int32), y + m = x → (u = if anyB (fun y => a.S.testBit (y / 4) && (wX a y != 0) && (wX a y == wX a x)) y = true then 0 else 1) → EvI K mX12_isFirstCell 2 4 [(0, .ref 66), (1, .int (nI x)), (2, .int u), (3, .int (nI y))] [] G Q := by
    intro m
    induction m with
    | zero =>
      intro y u hm hu
      refine kX12_isFirstCell_4 hL ?_
      rw [show y = x by omega]
      rw [show y = x by omega] at hu
      refine ⟨fun _ => ?_, fun z => absurd (Int32.le_refl _) z⟩
      unfold fcC at hQ
      by_cases q : anyB (fun y => a.S.testBit (y / 4) && (wX a y != 0) && (wX a y == wX a x)) x = true
      · rw [if_pos q] at hu
        rw [q] at hQ
        rw [hu]; exact ⟨Or.inl rfl, hQ⟩
      · rw [if_neg q] at hu
        have q' : anyB (fun y => a.S.testBit (y / 4) && (wX a y != 0) && (wX a y == wX a x)) x = false := by simpa using q
        rw [q'] at hQ
        rw [hu]; exact ⟨Or.inr rfl, hQ⟩
    | succ m ih =>
      intro y u hm hu
      have hy : y / 4 < a.w.1 := by omega
      have d4 : nI y / 4 = nI (y / 4) := nDivR (by omega) (by decide) (by decide)
      have next : ∀ u', (u' = if (anyB (fun y => a.S.testBit (y / 4) && (wX a y != 0) && (wX a y == wX a x)) y || (a.S.testBit (y / 4) && (wX a y != 0) && (wX a y == wX a x))) = true then 0 else 1) → EvI K mX12_isFirstCell 2 57 [(0, .ref 66), (1, .int (nI x)), (3, .int (nI y))] [.int u'] G Q := by
        intro u' hu'
        refine kX12_isFirstCell_57 hL ?_
        rw [show nI y + 1 = nI (y + 1) from nAdd]
        exact ih (y + 1) u' (by omega) (by rw [hu', anyB])
      refine kX12_isFirstCell_4 hL ?_
      rw [show nI y - nI y / 4 * 4 = nI (y % 4) from fa_rem (k := 2) (by omega) (by decide), d4]
      refine ⟨fun z => absurd z (by rw [nLe (by omega) (by omega)]; omega), fun _ => ⟨fun z => kX12_isFirstCell_56 hL (next 0 ?_), fun z => s_X12_isSeenN hL (c.ms ho) (by omega) ?_⟩⟩
      · cases q : anyB (fun y => a.S.testBit (y / 4) && (wX a y != 0) && (wX a y == wX a x)) y
        · rw [q, z] at hu; exact absurd hu (by decide)
        · rfl
      · have hf : anyB (fun y => a.S.testBit (y / 4) && (wX a y != 0) && (wX a y == wX a x)) y = false := by
          cases q : anyB (fun y => a.S.testBit (y / 4) && (wX a y != 0) && (wX a y == wX a x)) y
          · rfl
          · rw [q] at hu; exact absurd hu z
        have n1 : (a.S.testBit (y / 4) && (wX a y != 0) && (wX a y == wX a x)) = false → EvI K mX12_isFirstCell 2 57 [(0, .ref 66), (1, .int (nI x)), (3, .int (nI y))] [.int 1] G Q := fun w => next 1 (by rw [hf, w]; rfl)
        by_cases hs : a.S.testBit (y / 4) = true
        · rw [if_pos hs]
          refine ⟨fun w => absurd w (by decide), fun _ => s_X12_isText hL c.tb ho.tb c.ro hy (by omega) ?_⟩
          by_cases tx : y % 4 < a.b.2.2.1 (a.w.2.1 (y / 4)) ∧ a.b.2.2.2.2 (a.w.2.1 (y / 4)) (y % 4) = 5
          · rw [if_pos tx]
            obtain ⟨t1, t2⟩ := c.tx ho hy tx
            have w0 : wX a y ≠ 0 := fun w => by have := t2.2; rw [w] at this; exact this rfl
            rw [nI_clamp (by omega), nI_clamp (by omega), t1, hxt, lEq (by have := t2.1; omega) (by have := hxg.1; omega)]
            refine ⟨fun w => absurd w (by decide), fun _ => ⟨(vIn (by omega)).mpr (by omega), (vIn (by omega)).mpr (by omega), fun w => kX12_isFirstCell_56 hL (next 0 ?_), fun w => n1 ?_⟩⟩
            · have : (a.S.testBit (y / 4) && (wX a y != 0) && (wX a y == wX a x)) = true := by
                simp only [Bool.and_eq_true]
                exact ⟨⟨hs, by simpa using w0⟩, by simpa using w⟩
              rw [this, Bool.or_true]; rfl
            · have : (wX a y == wX a x) = false := by simpa using w
              rw [this, Bool.and_false]
          · rw [if_neg tx]
            have ew : wX a y = 0 := by unfold wX wdA; rw [if_neg tx]
            exact ⟨fun _ => n1 (by rw [ew]; simp), fun w => absurd rfl w⟩
        · rw [if_neg hs]
          exact ⟨fun _ => n1 (by simp [hs]), fun w => absurd rfl w⟩
  exact kX12_isFirstCell_0 hL (key x 0 1 (by omega) rfl)
theorem m_near {Q : Int64 → St → Prop} {x y : Int32} (hL : Lay G.2.2) (h : MI G a) (ho : OkA e a) (hQ : ∀ G', Lay G'.2.2 → MI G' a → KM G G' → Q (rNear a x y) G') : EvL K mX12_near 4 0 [(0, .ref 66), (1, .int x), (2, .int y)] [] G Q := by
  have q4 := ho.q4
  have w30 := ho.w30
  have h0 := h.th ho (v := 0)
  have l0 := ly_th hL (v := 0)
  have hr := hQ (uI G 66 0 0) l0 h0 km_th
  have c := h0.c
  have e20 : sI G 66 20 = nI a.q.1 := h.c.tq.1
  unfold rNear at hr
  refine kX12_near_0 hL ?_
  generalize hG0 : uI G 66 0 0 = G0 at *
  refine s_X12_within l0 ?_
  rw [e20, nI_dec (by omega)]
  rcases num_cases x (n := a.q.1) (by omega) with ⟨k, hk, ek⟩ | hno
  · have hx : inR x a.q.1 := by rw [ek, inR_n (by omega)]; exact hk
    rw [if_pos (inR_w.mpr hx)]
    have ex : x.toInt.toNat = k := by rw [ek, nI_nat (by omega)]
    rw [ex] at hr
    obtain ⟨a1, a2, a3⟩ := c.tq.2.2 k hk
    rw [ek, nI_clamp (by omega), a1]
    refine ⟨fun z => absurd z (by decide), fun _ => ⟨(vIn (by omega)).mpr (by omega), fun z => ?_, fun z => ⟨fun z2 => ?_, fun z2 => ?_⟩⟩⟩
    · rw [if_neg (fun u => z (by rw [u.2.1]; rfl))] at hr; exact hr
    · have k0 : a.q.2.1 k = 0 := by rw [show (0 : Int32) = nI 0 from rfl, nEq (by omega) (by decide)] at z; exact z
      rw [fa_le, show (0 : Int32).toInt = 0 from rfl] at z2
      have ll := NL_len (a := a) k (4 * a.w.1)
      have cells : ∀ (m p : Nat), p + m = 4 * a.w.1 → (∀ p', p' < p → nrC a k p' = true → nI ((NL a k (4 * a.w.1)).filter (ltF (wX a p'))).length ≠ y) → EvL K mX12_near 4 38 [(0, .ref 66), (1, .int (nI k)), (2, .int y), (3, .int (nI p))] [] G0 Q := by
        intro m
        induction m with
        | zero =>
          intro p hm hall
          refine kX12_near_38 l0 ?_
          rw [c.ro.1, show (4 : Int32) * nI a.w.1 = nI (4 * a.w.1) from nMul, show p = 4 * a.w.1 by omega]
          refine ⟨fun _ => ?_, fun u => absurd (Int32.le_refl _) u⟩
          rw [if_neg (fun u => ?_)] at hr
          · exact hr
          · rcases num_cases y (n := (NL a k (4 * a.w.1)).length) (by omega) with ⟨i, hi', ei⟩ | hny
            · have hg := getD_lt hi'
              obtain ⟨p', p1, p2, p3⟩ := NL_mem.mp (getE_mem hg)
              have ct := srtF_ct (ho.nsrt (k := k) (Nat.le_refl _)) hg
              refine hall p' (by omega) p2 ?_
              rw [ei]
              rw [p3] at ct
              exact congrArg nI ct
            · exact hny u.2.2
        | succ m ih =>
          intro p hm hall
          have hp : p < 4 * a.w.1 := by omega
          have next : (nrC a k p = true → nI ((NL a k (4 * a.w.1)).filter (ltF (wX a p))).length ≠ y) → EvL K mX12_near 4 157 [(0, .ref 66), (1, .int (nI k)), (2, .int y), (3, .int (nI p))] [] G0 Q := by
            intro hn
            refine kX12_near_157 l0 ?_
            rw [show nI p + 1 = nI (p + 1) from nAdd]
            refine ih (p + 1) (by omega) (fun p' hp' => ?_)
            rcases Nat.lt_succ_iff_lt_or_eq.mp hp' with w | w
            · exact hall p' w
            · rw [w]; exact hn
          refine kX12_near_38 l0 ?_
          rw [c.ro.1, show (4 : Int32) * nI a.w.1 = nI (4 * a.w.1) from nMul]
          refine ⟨fun u => absurd u (by rw [nLe (by omega) (by omega)]; omega), fun _ => s_isNearCell l0 c ho hp hk k0 ?_⟩
          by_cases nr : nrC a k p = true
          · rw [if_pos nr]
            refine ⟨fun u => absurd u (by decide), fun _ => ?_⟩
            -- a near cell is a text cell
            have txt : ∀ p', p' < 4 * a.w.1 → nrC a k p' = true → sL G0 78 p' = lN (wX a p') ∧ gw (wX a p') := by
              intro p' hp' hn
              unfold nrC at hn
              simp only [Bool.and_eq_true] at hn
              refine c.tx ho (by omega) ?_
              have w0 : wdA a.b a.w (p' / 4) (p' % 4) ≠ 0 := by simpa using hn.1.2
              unfold wdA at w0
              by_cases q : p' % 4 < a.b.2.2.1 (a.w.2.1 (p' / 4)) ∧ a.b.2.2.2.2 (a.w.2.1 (p' / 4)) (p' % 4) = 5
              · exact q
              · rw [if_neg q] at w0; exact absurd rfl w0
            obtain ⟨t1, t2⟩ := txt p hp nr
            have fp := flW_lt t2
            have tot := ho.nct (k := k) (v := wX a p) (Nat.le_refl (4 * a.w.1))
            have cnt : ∀ (d j : Nat), j + d = 4 * a.w.1 → EvL K mX12_near 4 63 [(0, .ref 66), (1, .int (nI k)), (2, .int y), (3, .int (nI p)), (4, .int (nI (fb_ct (fun y => nrC a k y && decide (flW (wX a y) < flW (wX a p)) && fcC a y) j))), (5, .int (nI j))] [] G0 Q := by
              intro d
              induction d with
              | zero =>
                intro j hd
                refine kX12_near_63 l0 ?_
                rw [c.ro.1, show (4 : Int32) * nI a.w.1 = nI (4 * a.w.1) from nMul, show j = 4 * a.w.1 by omega, tot]
                refine ⟨fun _ => ⟨fun u => next (fun _ => u), fun u => ⟨(vIn (by omega)).mpr (by omega), ?_⟩⟩, fun u => absurd (Int32.le_refl _) u⟩
                have hm' : wX a p ∈ NL a k (4 * a.w.1) := NL_mem.mpr ⟨p, hp, nr, rfl⟩
                obtain ⟨i, hi⟩ := List.mem_iff_getElem?.mp hm'
                have il := getE_lt hi
                have ct := srtF_ct (ho.nsrt (k := k) (Nat.le_refl _)) hi
                rw [ct] at u
                have hy : inR y (NL a k (4 * a.w.1)).length := by rw [← u, inR_n (by omega)]; exact il
                rw [if_pos ⟨hx, k0, hy⟩, ← u, nI_nat (by omega), getD_some hi] at hr
                rw [nI_clamp (by omega), t1]
                exact hr
              | succ d ihd =>
                intro j hd
                have hj : j < 4 * a.w.1 := by omega
                have ctl := fb_ct_le (fun y => nrC a k y && decide (flW (wX a y) < flW (wX a p)) && fcC a y) j
                have go : ∀ v, v = (if (nrC a k j && decide (flW (wX a j) < flW (wX a p)) && fcC a j) = true then 1 else 0) → EvL K mX12_near 4 135 [(0, .ref 66), (1, .int (nI k)), (2, .int y), (3, .int (nI p)), (5, .int (nI j))] [.int (nI v), .int (nI (fb_ct (fun y => nrC a k y && decide (flW (wX a y) < flW (wX a p)) && fcC a y) j))] G0 Q := by
                  intro v hv
                  refine kX12_near_135 l0 ?_
                  have := ihd (j + 1) (by omega)
                  rw [fb_ct, ← hv] at this
                  rw [show nI j + 1 = nI (j + 1) from nAdd, show nI (fb_ct (fun y => nrC a k y && decide (flW (wX a y) < flW (wX a p)) && fcC a y) j) + nI v = nI (fb_ct (fun y => nrC a k y && decide (flW (wX a y) < flW (wX a p)) && fcC a y) j + v) from nAdd]
                  exact this
                have no : (nrC a k j && decide (flW (wX a j) < flW (wX a p))) = false → EvL K mX12_near 4 111 [(0, .ref 66), (1, .int (nI k)), (2, .int y), (3, .int (nI p)), (4, .int (nI (fb_ct (fun y => nrC a k y && decide (flW (wX a y) < flW (wX a p)) && fcC a y) j))), (5, .int (nI j))] [] G0 Q := fun w => kX12_near_111 l0 (kX12_near_112 l0 ⟨fun _ => kX12_near_134 l0 (go 0 (by rw [w, Bool.false_and]; rfl)), fun u => absurd rfl u⟩)
                refine kX12_near_63 l0 ?_
                rw [c.ro.1, show (4 : Int32) * nI a.w.1 = nI (4 * a.w.1) from nMul]
                refine ⟨fun u => absurd u (by rw [nLe (by omega) (by omega)]; omega), fun _ => s_isNearCell l0 c ho hj hk k0 ?_⟩
                by_cases nj : nrC a k j = true
                · rw [if_pos nj]
                  obtain ⟨j1, j2⟩ := txt j hj nj
                  have fj := flW_lt j2
                  rw [nI_clamp (by omega), nI_clamp (by omega), j1]
                  refine ⟨fun u => absurd u (by decide), fun _ => ⟨(vIn (by omega)).mpr (by omega), s_X12_filled (show _ < 27 ^ 8 from j2.1) l0 ⟨(vIn (by omega)).mpr (by omega), ?_⟩⟩⟩
                  rw [t1]
                  refine s_X12_filled (show _ < 27 ^ 8 from t2.1) l0 ?_
                  have e1 : lN (wX a j * 27 ^ (8 - wl (wX a j))) < lN (wX a p * 27 ^ (8 - wl (wX a p))) ↔ flW (wX a j) < flW (wX a p) := pk_lLT (show flW (wX a j) < 2 ^ 63 by omega) (show flW (wX a p) < 2 ^ 63 by omega)
                  rw [e1]
                  refine ⟨fun u => no (by rw [decide_eq_false u, Bool.and_false]), fun u => kX12_near_112 l0 ⟨fun w => absurd w (by decide), fun _ => s_isFirstCell l0 c ho hj j1 j2 ?_⟩⟩
                  by_cases fc : fcC a j = true
                  · rw [if_pos fc]
                    exact ⟨fun w => absurd w (by decide), fun _ => go 1 (by rw [nj, decide_eq_true u, fc]; rfl)⟩
                  · rw [if_neg fc]
                    have fc' : fcC a j = false := by simpa using fc
                    exact ⟨fun _ => kX12_near_134 l0 (go 0 (by rw [fc', Bool.and_false]; rfl)), fun w => absurd rfl w⟩
                · rw [if_neg nj]
                  have nj' : nrC a k j = false := by simpa using nj
                  exact ⟨fun _ => no (by rw [nj', Bool.false_and]), fun u => absurd rfl u⟩
            exact cnt (4 * a.w.1) 0 (by omega)
          · rw [if_neg nr]
            exact ⟨fun _ => next (fun u => absurd u nr), fun u => absurd rfl u⟩
      exact cells (4 * a.w.1) 0 (by omega) (fun p' hp' => absurd hp' (Nat.not_lt_zero _))
    · rw [fa_le, show (0 : Int32).toInt = 0 from rfl] at z2
      rw [if_neg (fun u => z2 u.2.2.1)] at hr; exact hr
  · rw [if_neg (fun u => hno (inR_w.mp u))]
    rw [if_neg (fun u => hno u.1)] at hr
    exact ⟨fun _ => hr, fun u => absurd rfl u⟩
end MNEAR

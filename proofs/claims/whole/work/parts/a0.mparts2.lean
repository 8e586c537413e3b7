/-! parts: the model's call -/
section MPARTS2
variable {K : KT} {G : St} {a : AS} {e : Nat}
theorem lN_pos {n : Nat} (h : n < 9223372036854775808) : ¬ lN n < 0 := by
  rw [show (0 : Int64) = lN 0 from rfl, pk_lLT (show n < 2 ^ 63 by omega) (by decide)]
  exact Nat.not_lt_zero _
theorem s_findParts {Q : St → Prop} (hL : Lay G.2.2) (h : MI G a) (f1 : MF G a) (ho : OkA e a) (hQ : ∀ G' o, Lay G'.2.2 → MI G' a → KM G G' → MP a G' o → opW a (cdW a) o → Q G') : EvV K mX12_findParts 3 0 [(0, .ref 66)] [] G Q := by
  have w30 := ho.w30
  have jl := ho.Jl
  have stay : ∀ G1, Kq sFp G G1 → Lay G1.2.2 ∧ MI G1 a ∧ MF G1 a := fun G1 k1 => ⟨k1.lay hL, h.kq ho.c4 k1 (fun i k z => by unfold sFp at z; unfold mS sAl; omega), f1.kq k1 (fun i k z => by unfold sFp at z; omega)⟩
  let D : Nat → Nat → Prop := fun x v => ∃ x', x' < x ∧ a.S.testBit (x' / 4) = true ∧ v = wdA a.b a.w (x' / 4) (x' % 4) ∧ cdW a v
  have D1 : ∀ x v, D (x + 1) v ↔ D x v ∨ (a.S.testBit (x / 4) = true ∧ v = wdA a.b a.w (x / 4) (x % 4) ∧ cdW a v) := by
    intro x v
    constructor
    · rintro ⟨x', p1, p2⟩
      rcases Nat.lt_succ_iff_lt_or_eq.mp p1 with y | y
      · exact Or.inl ⟨x', y, p2⟩
      · rw [y] at p2; exact Or.inr p2
    · rintro (⟨x', p1, p2⟩ | p)
      · exact ⟨x', by omega, p2⟩
      · exact ⟨x, by omega, p⟩
  have cells : ∀ (m x : Nat) (o : Option Nat) (G1 : St), x + m = 4 * a.w.1 → Kq sFp G G1 → MP a G1 o → opW a (D x) o → EvV K mX12_findParts 3 14 [(0, .ref 66), (1, .int (nI x))] [] G1 Q := by
    intro m
    induction m with
    | zero =>
      intro x o G1 hm k1 mp op
      obtain ⟨l1, h1, g1⟩ := stay G1 k1
      refine kX12_findParts_14 l1 ?_
      rw [h1.c.ro.1, show (4 : Int32) * nI a.w.1 = nI (4 * a.w.1) from nMul, show x = 4 * a.w.1 by omega]
      refine ⟨fun _ => hQ G1 o l1 h1 (k1.km (fun i k z => by unfold sFp at z; omega)) mp (opW_iff op (fun v => ?_)), fun z => absurd (Int32.le_refl _) z⟩
      constructor
      · intro cd
        obtain ⟨s, r, p1, p2, p3⟩ := ho.nWp.mp cd.2.2
        unfold hsR at p3
        obtain ⟨c', c1, c2⟩ := anyB_iff.mp p3
        have c2 : wdA a.b a.w r c' = v := by simpa using c2
        have hS := (ho.J1 p1).2.1 r p2
        have hr := ho.Sn r hS
        refine ⟨4 * r + c', by omega, ?_, ?_, cd⟩
        · rw [show (4 * r + c') / 4 = r by omega]; exact hS
        · rw [show (4 * r + c') / 4 = r by omega, show (4 * r + c') % 4 = c' by omega]; exact c2.symm
      · rintro ⟨x', -, -, -, cd⟩; exact cd
    | succ m ih =>
      intro x o G1 hm k1 mp op
      obtain ⟨l1, h1, g1⟩ := stay G1 k1
      have c := h1.c
      have hr : x / 4 < a.w.1 := by omega
      have next : ∀ G2 o', Kq sFp G G2 → MP a G2 o' → opW a (D (x + 1)) o' → EvV K mX12_findParts 3 223 [(0, .ref 66), (1, .int (nI x))] [] G2 Q := by
        intro G2 o' k2 m2 p2
        refine kX12_findParts_223 (k2.lay hL) ?_
        rw [show nI x + 1 = nI (x + 1) from nAdd]
        exact ih (x + 1) o' G2 (by omega) k2 m2 p2
      have keep : ¬ (a.S.testBit (x / 4) = true ∧ cdW a (wdA a.b a.w (x / 4) (x % 4)) ∧ ¬ D x (wdA a.b a.w (x / 4) (x % 4))) → EvV K mX12_findParts 3 223 [(0, .ref 66), (1, .int (nI x))] [] G1 Q := by
        intro hno
        refine next G1 o k1 mp (opW_iff op (fun v => ?_))
        rw [D1]
        refine ⟨fun y => ?_, Or.inl⟩
        rcases y with y | ⟨y1, y2, y3⟩
        · exact y
        · apply Classical.byContradiction
          intro u
          rw [y2] at y3 u
          exact hno ⟨y1, y3, u⟩
      refine kX12_findParts_14 l1 ?_
      rw [c.ro.1, show (4 : Int32) * nI a.w.1 = nI (4 * a.w.1) from nMul, show nI x - nI x / 4 * 4 = nI (x % 4) from fa_rem (k := 2) (by omega) (by decide), nDivR (by omega) (by decide) (by decide), nI_clamp (by omega)]
      show (nI (4 * a.w.1) ≤ nI x → Q G1) ∧ (¬ nI (4 * a.w.1) ≤ nI x → vp_in (nI x) 124 ∧ EvI K mX12_isSeen 1 0 [(0, .ref 66), (1, .int (nI (x / 4)))] [] G1 _)
      refine ⟨fun z => absurd z (by rw [nLe (by omega) (by omega)]; omega), fun _ => ⟨(vIn (by omega)).mpr (by omega), s_X12_isSeenN l1 (c.ms ho) (by omega) ?_⟩⟩
      by_cases hs : a.S.testBit (x / 4) = true
      · rw [if_pos hs]
        refine ⟨fun z => absurd z (by decide), fun _ => s_X12_isText l1 c.tb ho.tb c.ro hr (by omega) ?_⟩
        by_cases tx : x % 4 < a.b.2.2.1 (a.w.2.1 (x / 4)) ∧ a.b.2.2.2.2 (a.w.2.1 (x / 4)) (x % 4) = 5
        · rw [if_pos tx]
          refine ⟨fun z => absurd z (by decide), fun _ => ?_⟩
          obtain ⟨v, n1, n2⟩ := (ho.cl (x / 4) (x % 4) hr tx.1).1 tx.2
          have ew : wdA a.b a.w (x / 4) (x % 4) = v := by unfold wdA; rw [if_pos tx, n1, nv_l (by have := n2.1; omega)]
          have e78 := (c.ro.2.2 _ hr).2.2 _ tx.1
          rw [show 4 * (x / 4) + x % 4 = x by omega, n1] at e78
          rw [e78]
          rw [ew] at keep
          have v0 : v ≠ 0 := fun y => by have := n2.2; rw [y] at this; exact this rfl
          refine s_mIsTerm l1 c ho n2.1 ?_
          by_cases pb : plB a v = true
          · rw [if_pos pb]
            exact ⟨fun _ => keep (fun y => by rw [y.2.1.2.1] at pb; cases pb), fun z => absurd z (by decide)⟩
          · rw [if_neg pb]
            refine ⟨fun z => absurd rfl z, fun _ => s_rowsWith l1 c ho n2.1 v0 ?_⟩
            have pb' : plB a v = false := by simpa using pb
            have hsr : hsR a (x / 4) v = true := anyB_iff.mpr ⟨x % 4, by omega, by simp [ew]⟩
            have Mb : ∀ i, (mkW a a.S v).testBit i = true ↔ a.S.testBit i = true ∧ hsR a i v = true := fun i => by
              unfold mkW
              rw [msk_bit]
              simp only [Bool.and_eq_true, decide_eq_true_eq]
              exact ⟨fun z => z.2, fun z => ⟨ho.Sn i z.1, z⟩⟩
            have M30 : mkW a a.S v < 2 ^ 30 := Nat.lt_of_lt_of_le (msk_lt _ _) (Nat.pow_le_pow_right (by decide) w30)
            have M0 : mkW a a.S v ≠ 0 := fun z => by
              have := (Mb (x / 4)).mpr ⟨hs, hsr⟩
              rw [z, Nat.zero_testBit] at this; cases this
            have ly := lo_yes M0 (show mkW a a.S v < 2 ^ 32 by omega)
            have l30 : lo (mkW a a.S v) < 30 := bt_lt M30 ly.2.1
            have hn1 := (ho.mr v).1
            -- what is done with the count
            have fin : ∀ n : Nat, n ≤ a.J.length → (n = nW a v ∨ n = 0 ∧ (cdW a v → D x v)) → EvV K mX12_findParts 3 127 [(0, .ref 66), (1, .int (nI x)), (2, .long (lN v)), (5, .int (nI n))] [] G1 Q := by
              intro n hn hcase
              have skip0 : n = 0 → ∀ y, EvV K mX12_findParts 3 200 [(0, .ref 66), (1, .int (nI x)), (2, .long (lN v)), (5, .int (nI n)), (6, .int (nI (max n (a.J.length - n))))] [.int y] G1 Q := by
                intro n0 y
                refine kX12_findParts_200 l1 ⟨fun _ => keep (fun u => ?_), fun z => absurd (by rw [n0]; decide) z⟩
                rcases hcase with q | q
                · have := u.2.1.2.2; omega
                · exact u.2.2 (q.2 u.2.1)
              have last : EvV K mX12_findParts 3 151 [(0, .ref 66), (1, .int (nI x)), (2, .long (lN v)), (5, .int (nI n))] [.int (nI (max n (a.J.length - n)))] G1 Q := by
                refine kX12_findParts_151 l1 ?_
                by_cases n0 : n = 0
                · have go199 : EvV K mX12_findParts 3 199 [(0, .ref 66), (1, .int (nI x)), (2, .long (lN v)), (5, .int (nI n)), (6, .int (nI (max n (a.J.length - n))))] [] G1 Q := kX12_findParts_199 l1 (skip0 n0 0)
                  refine ⟨fun _ => skip0 n0 1, fun z => ⟨fun _ => skip0 n0 1, fun _ => ⟨fun _ => go199, fun _ => ?_⟩⟩⟩
                  cases o with
                  | none =>
                    have mp' : sL G1 66 52 = -1 := mp
                    rw [mp'] at z; exact absurd (by decide) z
                  | some w =>
                    obtain ⟨x1, x2, x3⟩ := mp
                    refine s_X12_filled (show v < 27 ^ 8 from n2.1) l1 ?_
                    rw [x1]
                    refine s_X12_filled (show w < 27 ^ 8 from x3.1) l1 ?_
                    exact ⟨fun _ => go199, fun _ => skip0 n0 1⟩
                · have en : n = nW a v := by
                    rcases hcase with q | q
                    · exact q
                    · exact absurd q.1 n0
                  have em : max n (a.J.length - n) = mrW a v := by rw [en]; rfl
                  have cd : cdW a v := ⟨v0, pb', by omega⟩
                  have mr1 := (ho.mr v).2
                  rw [em]
                  have hD : ∀ z, D (x + 1) z ↔ D x z ∨ z = v := by
                    intro z
                    rw [D1, ew]
                    constructor
                    · rintro (u | ⟨-, u, -⟩)
                      · exact Or.inl u
                      · exact Or.inr u
                    · rintro (u | u)
                      · exact Or.inl u
                      · exact Or.inr ⟨hs, u, by rw [u]; exact cd⟩
                  have take1 : beW a o v → EvV K mX12_findParts 3 200 [(0, .ref 66), (1, .int (nI x)), (2, .long (lN v)), (5, .int (nI n)), (6, .int (nI (mrW a v)))] [.int 1] G1 Q := by
                    intro hb
                    refine kX12_findParts_200 l1 ⟨fun z => absurd z (by rw [show (0 : Int32) = nI 0 from rfl, nLe (by omega) (by decide)]; omega), fun _ => ⟨fun y => absurd y (by decide), fun _ => next _ (some v) ((k1.sL ⟨rfl, Or.inl rfl⟩).sI ⟨rfl, Or.inr rfl⟩) ⟨?_, ?_, n2⟩ (opW_new op hD hb)⟩⟩
                    · rw [gLI, gL, if_pos ⟨rfl, rfl⟩]
                    · rw [gI, if_pos ⟨rfl, rfl⟩]
                  have take0 : ¬ beW a o v → EvV K mX12_findParts 3 199 [(0, .ref 66), (1, .int (nI x)), (2, .long (lN v)), (5, .int (nI n)), (6, .int (nI (mrW a v)))] [] G1 Q := fun hb => kX12_findParts_199 l1 (kX12_findParts_200 l1 ⟨fun z => absurd z (by rw [show (0 : Int32) = nI 0 from rfl, nLe (by omega) (by decide)]; omega), fun _ => ⟨fun _ => next G1 o k1 mp (opW_old op hD hb), fun y => absurd rfl y⟩⟩)
                  cases o with
                  | none =>
                    have mp' : sL G1 66 52 = -1 := mp
                    rw [mp']
                    exact ⟨fun _ => take1 trivial, fun y => absurd (by decide) y⟩
                  | some w =>
                    obtain ⟨x1, x2, x3⟩ := mp
                    have mr2 := (ho.mr w).2
                    have fw := flW_lt x3
                    have fv := flW_lt n2
                    rw [x1, x2, nLt (by omega) (by omega), nEq (by omega) (by omega)]
                    refine ⟨fun y => absurd y (lN_pos (by have := x3.1; omega)), fun _ => ⟨fun y => take1 (Or.inl y), fun y => ⟨fun y2 => take0 (fun u => by
                      have u : mrW a v < mrW a w ∨ mrW a v = mrW a w ∧ flW v < flW w := u
                      omega), fun y2 => s_X12_filled (show v < 27 ^ 8 from n2.1) l1 ?_⟩⟩⟩
                    rw [x1]
                    refine s_X12_filled (show w < 27 ^ 8 from x3.1) l1 ?_
                    have e1 : lN (v * 27 ^ (8 - wl v)) < lN (w * 27 ^ (8 - wl w)) ↔ flW v < flW w := pk_lLT (show flW v < 2 ^ 63 by omega) (show flW w < 2 ^ 63 by omega)
                    rw [e1]
                    exact ⟨fun u => take0 (fun b => by
                      have b : mrW a v < mrW a w ∨ mrW a v = mrW a w ∧ flW v < flW w := b
                      omega), fun u => take1 (Or.inr ⟨y2, u⟩)⟩
              refine kX12_findParts_127 l1 ?_
              rw [g1.or.1.1, show nI a.J.length - nI n = nI (a.J.length - n) from nSub hn, nLe (by omega) (by omega)]
              refine ⟨fun z => ?_, fun z => ?_⟩
              · rw [Nat.max_eq_right z] at last; exact last
              · rw [Nat.max_eq_left (by omega)] at last; exact last
            have sh : (1 : Int32) <<< (nI (x / 4) &&& 31) = nI (2 ^ (x / 4)) := shl_one (by omega)
            have pwx : 2 ^ (x / 4) ≤ 2 ^ 29 := Nat.pow_le_pow_right (by decide) (by omega)
            have pwl : 2 ^ lo (mkW a a.S v) ≤ 2 ^ 29 := Nat.pow_le_pow_right (by decide) (by omega)
            have d4 : nI x / 4 = nI (x / 4) := nDivR (by omega) (by decide) (by decide)
            by_cases fr : lo (mkW a a.S v) = x / 4
            · have tot : nW a v = (a.J.filter (fun s => s &&& mkW a a.S v != 0)).length := rfl
              have loop : ∀ (d j : Nat), j + d = a.J.length → EvV K mX12_findParts 3 75 [(0, .ref 66), (1, .int (nI x)), (2, .long (lN v)), (4, .int (nI (mkW a a.S v))), (5, .int (nI ((a.J.take j).filter (fun s => s &&& mkW a a.S v != 0)).length)), (6, .int (nI j))] [] G1 Q := by
                intro d
                induction d with
                | zero =>
                  intro j hd
                  refine kX12_findParts_75 l1 ?_
                  rw [g1.or.1.1, show j = a.J.length by omega, List.take_of_length_le (Nat.le_refl _)]
                  exact ⟨fun _ => fin _ (List.length_filter_le _ _) (Or.inl rfl), fun z => absurd (Int32.le_refl _) z⟩
                | succ d ihd =>
                  intro j hd
                  have hg : a.J[j]? = some (a.J.getD j 0) := getD_lt (by omega)
                  have hm' := getE_mem hg
                  have s30 := (ho.oJ.2 _ hm').1
                  have e90 := (g1.or.1.2 j _ hg).1
                  have lt : ((a.J.take j).filter (fun s => s &&& mkW a a.S v != 0)).length ≤ j := Nat.le_trans (List.length_filter_le _ _) (by rw [List.length_take]; omega)
                  have go : ∀ u, u = (if a.J.getD j 0 &&& mkW a a.S v != 0 then 1 else 0) → EvV K mX12_findParts 3 118 [(0, .ref 66), (1, .int (nI x)), (2, .long (lN v)), (4, .int (nI (mkW a a.S v))), (6, .int (nI j))] [.int (nI u), .int (nI ((a.J.take j).filter (fun s => s &&& mkW a a.S v != 0)).length)] G1 Q := by
                    intro u hu
                    refine kX12_findParts_118 l1 ?_
                    have := ihd (j + 1) (by omega)
                    rw [take_filter _ hg, List.length_append] at this
                    rw [show nI j + 1 = nI (j + 1) from nAdd, show nI ((a.J.take j).filter (fun s => s &&& mkW a a.S v != 0)).length + nI u = nI (((a.J.take j).filter (fun s => s &&& mkW a a.S v != 0)).length + u) from nAdd]
                    have e1 : (if (a.J.getD j 0 &&& mkW a a.S v != 0) = true then [a.J.getD j 0] else []).length = u := by
                      rw [hu]; split <;> rfl
                    rw [e1] at this
                    exact this
                  refine kX12_findParts_75 l1 ?_
                  have al' : a.J.getD j 0 &&& mkW a a.S v ≤ a.J.getD j 0 := Nat.and_le_left
                  have z0 : nI (a.J.getD j 0 &&& mkW a a.S v) = 0 ↔ a.J.getD j 0 &&& mkW a a.S v = 0 := nEq (b := 0) (by omega) (by decide)
                  rw [g1.or.1.1, low_and M0 (by omega), d4, sh, fr, nI_clamp (by omega), e90, fa_and, z0]
                  refine ⟨fun z => absurd z (by rw [nLe (by omega) (by omega)]; omega), fun _ => ⟨fun z => absurd rfl z, fun _ => ⟨(vIn (by omega)).mpr (by omega), fun z => go 0 ?_, fun z => go 1 ?_⟩⟩⟩
                  · rw [if_neg (by simpa using z)]
                  · rw [if_pos (by simpa using z)]
              exact loop a.J.length 0 (by omega)
            · have hlt : lo (mkW a a.S v) < x / 4 := by
                rcases Nat.lt_trichotomy (lo (mkW a a.S v)) (x / 4) with y | y | y
                · exact y
                · exact absurd y fr
                · have := ly.2.2 (x / 4) y
                  rw [(Mb (x / 4)).mpr ⟨hs, hsr⟩] at this; cases this
              have hD : cdW a v → D x v := by
                intro cd
                obtain ⟨u1, u2⟩ := (Mb _).mp ly.2.1
                unfold hsR at u2
                obtain ⟨c', c1, c2⟩ := anyB_iff.mp u2
                have c2 : wdA a.b a.w (lo (mkW a a.S v)) c' = v := by simpa using c2
                refine ⟨4 * lo (mkW a a.S v) + c', by omega, ?_, ?_, cd⟩
                · rw [show (4 * lo (mkW a a.S v) + c') / 4 = lo (mkW a a.S v) by omega]; exact u1
                · rw [show (4 * lo (mkW a a.S v) + c') / 4 = lo (mkW a a.S v) by omega, show (4 * lo (mkW a a.S v) + c') % 4 = c' by omega]; exact c2.symm
              refine kX12_findParts_75 l1 ?_
              rw [low_and M0 (by omega), d4, sh, nEq (by omega) (by omega)]
              have ne : ¬ 2 ^ lo (mkW a a.S v) = 2 ^ (x / 4) := fun y => by
                have := Nat.pow_lt_pow_right (a := 2) (by decide) hlt
                omega
              have f0 := fin 0 (Nat.zero_le _) (Or.inr ⟨rfl, hD⟩)
              exact ⟨fun _ => f0, fun _ => ⟨fun _ => f0, fun y => absurd y ne⟩⟩
        · rw [if_neg tx]
          have ew : wdA a.b a.w (x / 4) (x % 4) = 0 := by unfold wdA; rw [if_neg tx]
          exact ⟨fun _ => keep (fun y => y.2.1.1 ew), fun z => absurd rfl z⟩
      · rw [if_neg hs]
        exact ⟨fun _ => keep (fun y => hs y.1), fun z => absurd rfl z⟩
  refine kX12_findParts_0 hL ?_
  refine cells (4 * a.w.1) 0 none _ (by omega) ((kq_L (S := sFp) ⟨rfl, Or.inl rfl⟩).sI ⟨rfl, Or.inr rfl⟩) ?_ (fun v hv => ?_)
  · show sL (uI (uL G 66 52 (-1)) 66 53 0) 66 52 = -1
    rw [gLI, gL, if_pos ⟨rfl, rfl⟩]
  · obtain ⟨x', p1, -⟩ := hv
    omega
theorem m_parts {Q : Int64 → St → Prop} {x : Int32} (hL : Lay G.2.2) (h : MI G a) (ho : OkA e a) (hQ : ∀ G', Lay G'.2.2 → MI G' a → KM G G' → Q (rParts a x) G') : EvL K mX12_parts 6 0 [(0, .ref 66), (1, .int x)] [] G Q := by
  refine kX12_parts_0 hL (s_X12_within (ly_th hL) ?_)
  rw [show (0 : Int32).toInt = 0 from rfl, show (1 : Int32).toInt = 1 from rfl]
  by_cases hx : 0 ≤ x.toInt ∧ x.toInt ≤ 1
  · rw [if_pos hx]
    refine ⟨fun _ => s_find0 hL h ho (fun G1 l1 h1 f1 k1 => s_findParts l1 h1 f1 ho (fun G2 o l2 h2 k2 mp op => ?_)), fun z => absurd z (by decide)⟩
    have hr := hQ G2 l2 h2 (k1.tr k2)
    unfold rParts at hr
    rw [if_pos hx, ptO_eq ho op] at hr
    cases o with
    | none =>
      have mp' : sL G2 66 52 = -1 := mp
      rw [mp']
      exact ⟨fun y => absurd (by decide) y, fun _ => hr⟩
    | some w =>
      obtain ⟨x1, x2, x3⟩ := mp
      have hr : Q (if x = 0 then lN w else Int32.toInt64 (nI (mrW a w))) G2 := hr
      rw [x1, x2]
      refine ⟨fun _ => ⟨fun y => ?_, fun y => ?_⟩, fun y => absurd y (lN_pos (by have := x3.1; omega))⟩
      · rw [if_neg y] at hr; exact hr
      · rw [if_pos y] at hr; exact hr
  · rw [if_neg hx]
    refine ⟨fun z => absurd rfl z, fun _ => ?_⟩
    have hr := hQ (uI G 66 0 0) (ly_th hL) (h.th ho) km_th
    unfold rParts at hr
    rw [if_neg hx] at hr
    exact hr
end MPARTS2

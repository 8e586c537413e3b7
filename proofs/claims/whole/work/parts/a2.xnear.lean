/-! near: the class -/
noncomputable def rNear (a : AS) (x y : Int32) : Int64 := if inR x a.q.1 ∧ a.q.2.1 x.toInt.toNat = 0 ∧ inR y (NL a x.toInt.toNat (4 * a.w.1)).length then lN ((NL a x.toInt.toNat (4 * a.w.1)).getD y.toInt.toNat 0) else -1
def XNr (G : St) (N : List Nat) : Prop := sI G 5 2 = nI N.length ∧ ∀ i v : Nat, N[i]? = some v → sL G 7 i = lN v
def sNr : Nat → Nat → Prop := fun i k => i = 5 ∧ k = 2 ∨ i = 7
section XNEAR
variable {K : KT} {G : St} {a : AS} {e : Nat}
theorem s_insertNear {Q : St → Prop} {N : List Nat} {v : Nat} (hL : Lay G.2.2) (hN : XNr G N) (hl : N.length < 120) (hg : ∀ u, u ∈ N → gw u) (hv : gw v) (hQ : ∀ G', Kq sNr G G' → XNr G' (inN N v) → Q G') : EvV K mX0_insertNear 2 0 [(0, .ref 5), (1, .long (lN v))] [] G Q := by
  have fv := flW_lt hv
  generalize hp : (N.takeWhile (ltF v)).length = p at *
  have pl : p ≤ N.length := by
    rw [← hp]
    exact (List.takeWhile_prefix (l := N) (ltF v)).length_le
  have eI : inN N v = if N[p]? = some v then N else N.take p ++ (v :: N.drop p) := by unfold inN; rw [hp]
  -- made room for
  have shift : ¬ N[p]? = some v → ∀ (m j : Nat) (G1 : St), j = p + m → j ≤ N.length → Kq sNr G G1 → sI G1 5 2 = nI N.length → (∀ i, i < j → ∀ u, N[i]? = some u → sL G1 7 i = lN u) → (∀ i, j < i → i ≤ N.length → ∀ u, N[i - 1]? = some u → sL G1 7 i = lN u) → EvV K mX0_insertNear 2 90 [(0, .ref 5), (1, .long (lN v)), (5, .int (nI p)), (7, .int (nI j))] [] G1 Q := by
    intro hno m
    induction m with
    | zero =>
      intro j G1 hj hjl k1 e2 lo' hi'
      have ej : j = p := by omega
      subst ej
      refine kX0_insertNear_90 (k1.lay hL) ⟨fun _ => ⟨(vIn (by omega)).mpr (by omega), ?_⟩, fun z => absurd (Int32.le_refl _) z⟩
      rw [nI_clamp (by omega)]
      have e2' : sI (uL G1 7 j (lN v)) 5 2 = nI N.length := e2
      rw [show sI G1 5 2 + 1 = nI (N.length + 1) by rw [e2]; exact nAdd]
      refine hQ _ ((k1.sL (Or.inr rfl)).sI (Or.inl ⟨rfl, rfl⟩)) ?_
      rw [eI, if_neg hno]
      refine ⟨?_, fun i u hu => ?_⟩
      · rw [gI, if_pos ⟨rfl, rfl⟩, List.length_append, List.length_cons, List.length_take, List.length_drop]
        congr 1
        omega
      · rw [gLI, gL]
        rcases Nat.lt_trichotomy i j with z | z | z
        · rw [if_neg (by omega)]
          rw [List.getElem?_append_left (by rw [List.length_take]; omega), List.getElem?_take_of_lt z] at hu
          exact lo' i z u hu
        · rw [if_pos ⟨rfl, z⟩]
          rw [List.getElem?_append_right (by rw [List.length_take]; omega), List.length_take, show i - min j N.length = 0 by omega, List.getElem?_cons_zero] at hu
          cases hu; rfl
        · rw [if_neg (by omega)]
          rw [List.getElem?_append_right (by rw [List.length_take]; omega), List.length_take, show i - min j N.length = (i - 1 - j) + 1 by omega, List.getElem?_cons_succ, List.getElem?_drop, show j + (i - 1 - j) = i - 1 by omega] at hu
          have := getE_lt hu
          exact hi' i z (by omega) u hu
    | succ m ih =>
      intro j G1 hj hjl k1 e2 lo' hi'
      refine kX0_insertNear_90 (k1.lay hL) ⟨fun z => absurd z (by rw [nLe (by omega) (by omega)]; omega), fun _ => ?_⟩
      rw [show nI j - 1 = nI (j - 1) from nSub (b := 1) (by omega), nDec (by omega), nI_clamp (by omega), nI_clamp (by omega)]
      refine ⟨(vIn (by omega)).mpr (by omega), (vIn (by omega)).mpr (by omega), ?_⟩
      have hg' := getD_lt (l := N) (q := j - 1) (by omega)
      have ev := lo' (j - 1) (by omega) _ hg'
      refine ih (j - 1) _ (by omega) (by omega) (k1.sL (Or.inr rfl)) e2 (fun i hi u hu => ?_) (fun i hi hil u hu => ?_)
      · rw [gL, if_neg (by omega)]; exact lo' i (by omega) u hu
      · rw [gL]
        by_cases z : i = j
        · rw [if_pos ⟨rfl, z⟩, ev]
          rw [z, hg'] at hu
          rw [Option.some.inj hu]
        · rw [if_neg (by omega)]; exact hi' i (by omega) hil u hu
  have tail : EvV K mX0_insertNear 2 38 [(0, .ref 5), (1, .long (lN v)), (5, .int (nI p))] [] G Q := by
    have put : ¬ N[p]? = some v → EvV K mX0_insertNear 2 63 [(0, .ref 5), (1, .long (lN v)), (5, .int (nI p))] [] G Q := by
      intro hno
      refine kX0_insertNear_63 hL (kX0_insertNear_64 hL ⟨fun z => absurd rfl z, fun _ => ?_⟩)
      rw [hN.1, nLt (by omega) (by decide)]
      exact ⟨fun _ => shift hno (N.length - p) N.length G (by omega) (Nat.le_refl _) Kq.rf hN.1 (fun i _ u hu => hN.2 i u hu) (fun i h1 h2 => by omega), fun z => absurd hl z⟩
    refine kX0_insertNear_38 hL ?_
    rw [hN.1, nLe (by omega) (by omega), nI_clamp (by omega)]
    refine ⟨fun z => put (fun y => by have := getE_lt y; omega), fun z => ⟨(vIn (by omega)).mpr (by omega), ?_⟩⟩
    have hg' := getD_lt (l := N) (q := p) (by omega)
    have gu := hg _ (getE_mem hg')
    rw [hN.2 p _ hg', lEq (by have := gu.1; omega) (by have := hv.1; omega)]
    refine ⟨fun y => put (fun u => y (by rw [hg'] at u; exact Option.some.inj u)), fun y => kX0_insertNear_64 hL ⟨fun _ => hQ G Kq.rf ?_, fun u => absurd u (by decide)⟩⟩
    rw [eI, if_pos (by rw [hg', y])]
    exact hN
  have find : ∀ (m i : Nat), i + m = p → EvV K mX0_insertNear 2 8 [(0, .ref 5), (1, .long (lN v)), (3, .long (lN (flW v))), (5, .int (nI i))] [] G Q := by
    intro m
    induction m with
    | zero =>
      intro i hm
      have ei : i = p := by omega
      subst ei
      refine kX0_insertNear_8 hL ?_
      rw [hN.1, nLe (by omega) (by omega), nI_clamp (by omega)]
      refine ⟨fun _ => tail, fun z => ⟨(vIn (by omega)).mpr (by omega), ?_⟩⟩
      have hg' := getD_lt (l := N) (q := i) (by omega)
      have gu := hg _ (getE_mem hg')
      rw [hN.2 i _ hg']
      refine s_X10_orderOf (show _ < 27 ^ 8 from gu.1) hL ?_
      have fu := flW_lt gu
      have e1 : lN (N.getD i 0 * 27 ^ (8 - wl (N.getD i 0))) < lN (flW v) ↔ flW (N.getD i 0) < flW v := pk_lLT (show flW (N.getD i 0) < 2 ^ 63 by omega) (show flW v < 2 ^ 63 by omega)
      rw [e1]
      have st := tw_stop (p := ltF v) N (N.getD i 0) (by rw [hp]; exact hg')
      have st : ¬ flW (N.getD i 0) < flW v := of_decide_eq_false st
      exact ⟨fun _ => tail, fun y => absurd y st⟩
    | succ m ih =>
      intro i hm
      have hg' := getD_lt (l := N) (q := i) (by omega)
      have gu := hg _ (getE_mem hg')
      refine kX0_insertNear_8 hL ?_
      rw [hN.1, nLe (by omega) (by omega), nI_clamp (by omega), hN.2 i _ hg', show nI i + 1 = nI (i + 1) from nAdd]
      refine ⟨fun z => by omega, fun _ => ⟨(vIn (by omega)).mpr (by omega), s_X10_orderOf (show _ < 27 ^ 8 from gu.1) hL ?_⟩⟩
      have fu := flW_lt gu
      have e1 : lN (N.getD i 0 * 27 ^ (8 - wl (N.getD i 0))) < lN (flW v) ↔ flW (N.getD i 0) < flW v := pk_lLT (show flW (N.getD i 0) < 2 ^ 63 by omega) (show flW v < 2 ^ 63 by omega)
      rw [e1]
      have st := tw_at (p := ltF v) N i (N.getD i 0) (by rw [hp]; omega) hg'
      have st : flW (N.getD i 0) < flW v := of_decide_eq_true st
      exact ⟨fun y => absurd st y, fun _ => ih (i + 1) (by omega)⟩
  exact kX0_insertNear_0 hL (s_X10_orderOf (show v < 27 ^ 8 from hv.1) hL (find p 0 (by omega)))
theorem x_near {Q : Int64 → St → Prop} {x y : Int32} (h : XI e sen G a) (ho : OkA e a) (hQ : ∀ G', XI e sen G' a → KX G G' → Q (rNear a x y) G') : EvL K mX11_near 4 0 [(0, .ref 1), (1, .int x), (2, .int y)] [] G Q := by
  have hL := h.lay
  have hh := lay_h hL
  have ht := lay_t hL
  have q4 := ho.q4
  have w30 := ho.w30
  have hH : sR G 1 8 = 39 ∨ sR G 1 8 = 49 := by omega
  have c := h.c
  have no : ¬ (inR x a.q.1 ∧ a.q.2.1 x.toInt.toNat = 0) → Q (-1) G := fun z => by
    have := hQ G h Kg.rf
    unfold rNear at this
    rw [if_neg (fun u => z ⟨u.1, u.2.1⟩)] at this; exact this
  refine kX11_near_0 hL (s_isTerm hL c ?_)
  rcases num_cases x (n := a.q.1) (by omega) with ⟨k, hk, ek⟩ | hno
  · have hx : inR x a.q.1 := by rw [ek, inR_n (by omega)]; exact hk
    rw [if_pos hx]
    have ex : x.toInt.toNat = k := by rw [ek, nI_nat (by omega)]
    obtain ⟨a1, a2, a3⟩ := c.tq.2.2 k hk
    obtain ⟨v1, v2, v3⟩ := ho.qv hk
    rw [ek, nI_clamp (by omega), a1, show (0 : Int32) = nI 0 from rfl, nEq (by omega) (by decide)]
    refine ⟨fun z => absurd z (by decide), fun _ => ⟨(vIn (by omega)).mpr (by omega), fun z => s_seen hL c ho ⟨(vIn (by omega)).mpr (by omega), ?_⟩, fun z => no (fun u => z (by rw [← ex]; exact u.2))⟩⟩
    rw [a3, v1]
    have qg : nv (a.q.2.2 k) < 282429536481 := v2 (by omega)
    have s30 := ho.S30
    generalize hH' : sR G 1 8 = H at *
    have stay : ∀ G1, Kq sNr G G1 → Lay G1.2.2 ∧ XTb G1 H a.b ∧ XRw G1 H a.b a.w := fun G1 k1 => ⟨k1.lay hL, (hH' ▸ c.tb).kq k1 (fun i k z => by unfold sNr at z; omega), (hH' ▸ c.ro).kq k1 (fun i k z => by unfold sNr at z; omega)⟩
    have fin : ∀ G1, Kq sNr G G1 → XI e sen G1 a := fun G1 k1 => by
      have fk : ∀ k, sI G1 1 k = sI G 1 k := fun k => k1.I (by unfold sNr; omega)
      exact ⟨k1.lay hL, h.rm.kq k1, h.c.fr hL (k1.g.mono (fun i k _ z => by unfold sNr at z; unfold frS; omega) (fun i k _ z => z)), fun z => by rw [fk] at z; exact (h.fh z).kq k1 (fun i k z => by unfold sNr at z; unfold sHt; omega), fun z => by rw [fk] at z; exact (h.ft z).kq k1 (fun i k z => by unfold sNr at z; unfold sTi; omega), fun z => by rw [fk] at z; exact (h.fo z).kq k1 (fun i k z => by unfold sNr at z; unfold sOf; omega), fun z => by
        rw [fk] at z
        obtain ⟨z1, z2, z3, z4⟩ := h.fs z
        exact ⟨z1, by rw [fk]; exact z2, by rw [fk]; exact z3, z4.kq hL k1 (fun i k z => by unfold sNr at z; omega)⟩⟩
    have rows : ∀ (m r : Nat) (G1 : St), r + m = a.w.1 → Kq sNr G G1 → XNr G1 (NL a k (4 * r)) → EvL K mX0_nearWord 3 8 [(0, .ref 5), (1, .ref H), (2, .int (nI a.S)), (3, .long (lN (nv (a.q.2.2 k)))), (5, .int y), (6, .int (nI r))] [] G1 (fun r5 G5 => Q r5 G5) := by
      intro m
      induction m with
      | zero =>
        intro r G1 hm k1 n1
        obtain ⟨l1, b1, r1⟩ := stay G1 k1
        have er : r = a.w.1 := by omega
        subst er
        have ll := NL_len (a := a) k (4 * a.w.1)
        have hr := hQ G1 (fin G1 k1) (k1.kx (fun i k z => by unfold sNr at z; omega))
        unfold rNear at hr
        rw [ex] at hr
        refine kX0_nearWord_8 l1 hH ?_
        rw [r1.1, n1.1]
        refine ⟨fun _ => ?_, fun u => absurd (Int32.le_refl _) u⟩
        rcases num_cases y (n := (NL a k (4 * a.w.1)).length) (by omega) with ⟨i, hi', ei⟩ | hny
        · have hy : inR y (NL a k (4 * a.w.1)).length := by rw [ei, inR_n (by omega)]; exact hi'
          rw [if_pos ⟨hx, z, hy⟩, ei, nI_nat (by omega)] at hr
          rw [ei, nI_clamp (by omega), n1.2 i _ (getD_lt hi'), nLe (by omega) (by omega)]
          exact ⟨fun u => absurd u (nI_pos (by omega)), fun _ => ⟨fun u => by omega, fun _ => ⟨(vIn (by omega)).mpr (by omega), hr⟩⟩⟩
        · rw [if_neg (fun u => hny u.2.2)] at hr
          rw [fa_lt, fa_le, nI_toInt (by omega), show (0 : Int32).toInt = 0 from rfl]
          exact ⟨fun _ => hr, fun u1 => ⟨fun _ => hr, fun u2 => absurd ⟨by omega, by omega⟩ hny⟩⟩
      | succ m ih =>
        intro r G1 hm k1 n1
        obtain ⟨l1, b1, r1⟩ := stay G1 k1
        have hr : r < a.w.1 := by omega
        have next : ∀ G2, Kq sNr G G2 → XNr G2 (NL a k (4 * (r + 1))) → EvL K mX0_nearWord 3 73 [(0, .ref 5), (1, .ref H), (2, .int (nI a.S)), (3, .long (lN (nv (a.q.2.2 k)))), (5, .int y), (6, .int (nI r))] [] G2 (fun r5 G5 => Q r5 G5) := by
          intro G2 k2 n2
          refine kX0_nearWord_73 (k2.lay hL) hH ?_
          rw [show nI r + 1 = nI (r + 1) from nAdd]
          exact ih (r + 1) G2 (by omega) k2 n2
        have cols : ∀ (n d : Nat) (G2 : St), d + n = 4 → Kq sNr G G2 → XNr G2 (NL a k (4 * r + d)) → EvL K mX0_nearWord 3 20 [(0, .ref 5), (1, .ref H), (2, .int (nI a.S)), (3, .long (lN (nv (a.q.2.2 k)))), (5, .int y), (6, .int (nI r)), (7, .int (nI d))] [] G2 (fun r5 G5 => Q r5 G5) := by
          intro n
          induction n with
          | zero =>
            intro d G2 hn k2 n2
            have ed : d = 4 := by omega
            subst ed
            exact kX0_nearWord_20 (k2.lay hL) hH ⟨fun _ => next G2 k2 (by rw [show 4 * (r + 1) = 4 * r + 4 by omega]; exact n2), fun u => absurd (by decide) u⟩
          | succ n ihn =>
            intro d G2 hn k2 n2
            obtain ⟨l2, b2, r2⟩ := stay G2 k2
            have d4 : (4 * r + d) / 4 = r := by omega
            have m4 : (4 * r + d) % 4 = d := by omega
            have ll := NL_len (a := a) k (4 * r + d)
            have go : ∀ G3, Kq sNr G G3 → XNr G3 (NL a k (4 * r + d + 1)) → EvL K mX0_nearWord 3 67 [(0, .ref 5), (1, .ref H), (2, .int (nI a.S)), (3, .long (lN (nv (a.q.2.2 k)))), (5, .int y), (6, .int (nI r)), (7, .int (nI d))] [] G3 (fun r5 G5 => Q r5 G5) := by
              intro G3 k3 n3
              refine kX0_nearWord_67 (k3.lay hL) hH ?_
              rw [show nI d + 1 = nI (d + 1) from nAdd]
              exact ihn (d + 1) G3 (by omega) k3 n3
            have keep : nrC a k (4 * r + d) = false → XNr G2 (NL a k (4 * r + d + 1)) := fun u => by rw [NL, if_neg (by rw [u]; decide)]; exact n2
            have eC : nrC a k (4 * r + d) = (a.S.testBit r && (wdA a.b a.w r d != 0) && apX (wdA a.b a.w r d) (nv (a.q.2.2 k))) := by unfold nrC; rw [d4, m4]
            refine kX0_nearWord_20 l2 hH ?_
            rw [bit_at (by omega) (by omega)]
            refine ⟨fun u => absurd u (by rw [show (4 : Int32) = nI 4 from rfl, nLe (by decide) (by omega)]; omega), fun _ => ?_⟩
            by_cases hs : a.S.testBit r = true
            · rw [if_pos hs]
              have wl' : wdA a.b a.w r d < 282429536481 := wdA_lt ho.cl hr
              refine ⟨fun u => absurd u (by decide), fun _ => s_X1_wordN l2 hH b2 r2 ho.tb ho.cl hr (by omega) ?_⟩
              rw [show (0 : Int64) = lN 0 from rfl, lEq (by omega) (by decide)]
              refine ⟨fun u => go G2 k2 (keep (by rw [eC, u]; simp)), fun u => s_X10_isOneLetterApart (show _ < 27 ^ 8 from wl') (show _ < 27 ^ 8 from qg) l2 ?_⟩
              by_cases ap : apX (wdA a.b a.w r d) (nv (a.q.2.2 k)) = true
              · rw [if_pos ap]
                refine ⟨fun w => absurd w (by decide), fun _ => s_insertNear l2 n2 (by omega) (fun w hw => ho.ng (by omega) hw) (ho.wg hr u) (fun G3 k3 n3 => go G3 (k2.tr k3) ?_)⟩
                rw [NL, if_pos (by rw [eC, hs, ap]; simp [u]), d4, m4]
                exact n3
              · rw [if_neg ap]
                exact ⟨fun _ => go G2 k2 (keep (by rw [eC]; simp [ap])), fun w => absurd rfl w⟩
            · rw [if_neg hs]
              refine ⟨fun _ => next G2 k2 ?_, fun u => absurd rfl u⟩
              have skip : ∀ j, j + d ≤ 4 → NL a k (4 * r + d + j) = NL a k (4 * r + d) := by
                intro j
                induction j with
                | zero => intro _; rfl
                | succ j ihj =>
                  intro hj
                  rw [← Nat.add_assoc, NL, if_neg, ihj (by omega)]
                  unfold nrC
                  rw [show (4 * r + d + j) / 4 = r by omega]
                  simp [hs]
              rw [show 4 * (r + 1) = 4 * r + d + (4 - d) by omega, skip (4 - d) (by omega)]
              exact n2
        refine kX0_nearWord_8 l1 hH ?_
        rw [r1.1]
        exact ⟨fun u => absurd u (by rw [nLe (by omega) (by omega)]; omega), fun _ => cols 4 0 G1 (by omega) k1 n1⟩
    refine kX0_nearWord_0 hL hH ?_
    exact rows a.w.1 0 _ (by omega) (kq_I (Or.inl ⟨rfl, rfl⟩)) ⟨by rw [gI, if_pos ⟨rfl, rfl⟩]; rfl, fun i v hv => by simp [NL] at hv⟩
  · rw [if_neg hno]
    exact ⟨fun _ => no (fun u => hno u.1), fun z => absurd rfl z⟩
end XNEAR

/-! width, person, hide: both -/
def wdA' (a : AS) (n : Nat) : AS := (a.T, a.b, a.w, a.q, a.d, a.p, n, a.l, a.ch, a.m)
def peA (a : AS) (p : Nat) : AS := (a.T, a.b, a.w, a.q, a.d, p, a.W, a.l, a.ch, a.m)
def hiA (a : AS) (p r : Nat) (y : Bool) : AS := (a.T, a.b, a.w, a.q, (fun i j => if i = p ∧ j = r then y else a.d i j), a.p, a.W, a.l, a.ch, a.m)
section SIGHT
variable {K : KT} {G : St} {a : AS} {e : Nat}
theorem OkA.wd (ho : OkA e a) {n : Nat} (h1 : 1 ≤ n) (h2 : n ≤ 5) : OkA e (wdA' a n) := ⟨ho.b5, ho.c4, ho.tb, ho.ds, ho.nm, ho.w30, ho.wb, ho.ro, ho.cl, ho.q4, ho.q3, ho.qu, ho.p4, h1, h2, ho.dn, ho.lt, ho.l20, ho.ch, ho.m40, ho.tp⟩
theorem OkA.pe (ho : OkA e a) {p : Nat} (h1 : p < 4) : OkA e (peA a p) := ⟨ho.b5, ho.c4, ho.tb, ho.ds, ho.nm, ho.w30, ho.wb, ho.ro, ho.cl, ho.q4, ho.q3, ho.qu, h1, ho.W1, ho.W5, ho.dn, ho.lt, ho.l20, ho.ch, ho.m40, ho.tp⟩
theorem OkA.hi (ho : OkA e a) {p r : Nat} {y : Bool} (h1 : r < a.w.1) : OkA e (hiA a p r y) := ⟨ho.b5, ho.c4, ho.tb, ho.ds, ho.nm, ho.w30, ho.wb, ho.ro, ho.cl, ho.q4, ho.q3, ho.qu, ho.p4, ho.W1, ho.W5, (fun i j (hj : a.w.1 ≤ j) => by
  show (if i = p ∧ j = r then y else a.d i j) = false
  rw [if_neg (by omega)]; exact ho.dn i j hj), ho.lt, ho.l20, ho.ch, ho.m40, ho.tp⟩
/-- when what is seen is the same, all stays; else nothing is fresh -/
theorem s_sightChanged {Q : St → Prop} {a' : AS} (hL : Lay G.2.2) (hR : Rm e G) (c : XC G a') (hQ : ∀ G', XI e sen G' a' → Kq (fun i k => i = 1 ∧ 15 ≤ k) G G' → Q G') : EvV K mX11_sightChanged 1 0 [(0, .ref 1)] [] G Q := by
  refine kX11_sightChanged_0 hL (kX11_termsChanged_0 hL ?_)
  have k1 : Kq (fun i k => i = 1 ∧ 15 ≤ k) G (uI (uI (uI (uI G 1 15 0) 1 17 0) 1 16 0) 1 18 0) := (((kq_I ⟨rfl, by decide⟩).sI ⟨rfl, by decide⟩).sI ⟨rfl, by decide⟩).sI ⟨rfl, by decide⟩
  have z : ∀ k, (k = 15 ∨ k = 16 ∨ k = 17 ∨ k = 18) → sI (uI (uI (uI (uI G 1 15 0) 1 17 0) 1 16 0) 1 18 0) 1 k = 0 := fun k hk => by
    simp only [gI]
    rcases hk with rfl | rfl | rfl | rfl <;> simp
  refine hQ _ ⟨k1.lay hL, hR.kq k1, c.fr hL (k1.g.mono (fun i k _ z => by unfold frS; omega) (fun i k _ z => z)), fun y => absurd (z 16 (by decide)) y, fun y => absurd (z 15 (by decide)) y, fun y => absurd (z 17 (by decide)) y, fun y => absurd (z 18 (by decide)) y⟩ k1
/-- all that is kept speaks of what is seen alone -/
theorem XI.same {G1 : St} {a' : AS} (h : XI e sen G a) (c : XC G1 a') (hL : Lay G1.2.2) (hR : Rm e G1) (hk : Kq (fun i k => i = 1 ∧ k = 12 ∨ i = 48 ∨ i = 58) G G1) (hb : a'.b = a.b) (hw : a'.w = a.w) (hq : a'.q = a.q) (hS : a'.S = a.S) (hl : a'.l = a.l) (hW : a'.W = a.W) : XI e sen G1 a' := by
  have ef : a'.f = a.f := by unfold AS.f; rw [hb, hw, hS, hl]
  have eP : a'.P = a.P := by unfold AS.P; rw [hb, hw, hS, hq]
  have eJ : a'.J = a.J := by unfold AS.J; rw [hq, ef, eP, hS, hW]
  have eO : a'.O = a.O := by unfold AS.O; rw [eJ, ef, eP, hq]
  have exc : a'.xc = a.xc := by unfold AS.xc; rw [eO, eP, hq, hw]
  have emc : a'.mc = a.mc := by unfold AS.mc; rw [eO, eP, hq, hw]
  have esen : sen a' = sen a := by
    funext q
    have efq : fq a' q = fq a q := by unfold fq; rw [emc, eJ]
    unfold sen seS
    rw [efq, eO, hb, hq, hw, eP]
  have fk : ∀ k, k ≠ 12 → sI G1 1 k = sI G 1 k := fun k hk' => hk.I (by omega)
  refine ⟨hL, hR, c, fun z => ?_, fun z => ?_, fun z => ?_, fun z => ?_⟩
  · rw [fk _ (by decide)] at z
    rw [eP, hw, hq]
    exact (h.fh z).kq hk (fun i k z => by unfold sHt; omega)
  · rw [fk _ (by decide)] at z
    rw [ef]
    exact (h.ft z).kq hk (fun i k z => by unfold sTi; omega)
  · rw [fk _ (by decide)] at z
    rw [hb, hw, hS]
    exact (h.fo z).kq hk (fun i k z => by unfold sOf; omega)
  · rw [fk _ (by decide)] at z
    obtain ⟨z1, z2, z3, z4⟩ := h.fs z
    rw [fk _ (by decide), fk _ (by decide), hq, esen]
    refine ⟨z1, z2, z3, ?_⟩
    have z5 := z4.kq h.lay hk (fun i k z => by omega)
    unfold XSd at z5 ⊢
    rw [ef, eP, hq, hS, hW, exc, eJ]
    exact z5
theorem x_width {Q : Int32 → St → Prop} {x : Int32} (h : XI e sen G a) (ho : OkA e a) (hQ0 : ∀ G', XI e sen G' a → KX G G' → ¬ (1 ≤ x.toInt ∧ x.toInt ≤ 5) → Q 0 G') (hQ : ∀ G' n, 1 ≤ n → n ≤ 5 → x = nI n → XI e sen G' (wdA' a n) → KX G G' → Q 1 G') : EvI K mX11_width 0 0 [(0, .ref 1), (1, .int x)] [] G Q := by
  refine kX11_width_0 h.lay ?_
  have hh := lay_h h.lay
  have ht := lay_t h.lay
  rw [fa_lt, fa_le, show (1 : Int32).toInt = 1 from rfl, show (5 : Int32).toInt = 5 from rfl]
  refine ⟨fun z => hQ0 G h Kg.rf (by omega), fun z => ⟨fun z2 => ?_, fun z2 => hQ0 G h Kg.rf (by omega)⟩⟩
  rcases num_cases x (n := 6) (by decide) with ⟨n, hn, en⟩ | hno
  · rw [en, nI_toInt (by omega)] at z
    rw [en, h.c.wi]
    have hW5 := ho.W5
    try simp (disch := omega) only [nLe, nLeR, nLeL, nLt, nLtR, nLtL, nEq, nEqR, nEqL, nClamp, nClampR, nAdd, nAddR, nAddL, nSub, nSubR, nMul, nMulR, nMulL, nDivR, vIn, vInR, iteZ, iteP, lEq, lEqR, forall_eq, forall_const, true_implies, false_implies, not_true_eq_false, not_false_eq_true, true_and, and_true, implies_true, Decidable.not_not, Nat.le_refl]
    refine ⟨fun y => ?_, fun y => ?_⟩
    · refine hQ G n (by omega) (by omega) en ?_ Kg.rf
      have : wdA' a n = a := by unfold wdA'; rw [y]
      rw [this]; exact h
    · have k1 : Kq (fun i k => i = 1 ∧ (k = 13 ∨ k = 18)) G (uI (uI G 1 13 (nI n)) 1 18 0) := (kq_I ⟨rfl, Or.inl rfl⟩).sI ⟨rfl, Or.inr rfl⟩
      have fk : ∀ k, k ≠ 13 → k ≠ 18 → sI (uI (uI G 1 13 (nI n)) 1 18 0) 1 k = sI G 1 k := fun k h1 h2 => k1.I (by omega)
      have c := h.c
      refine hQ _ n (by omega) (by omega) en ⟨k1.lay h.lay, h.rm.kq k1, ⟨c.tp.kq k1 (fun i k z => by omega), ?_, ?_, ?_, ?_, (k1.I (by omega)).trans c.pe, ?_, c.lt.kq k1 (fun i k z => by omega), c.ch.kq k1 (fun i k z => by omega), (k1.I (by omega)).trans c.m0, (k1.I (by omega)).trans c.m1, (k1.I (by omega)).trans c.m2⟩, fun z => ?_, fun z => ?_, fun z => ?_, fun z => ?_⟩ (k1.kx (fun i k z => by omega))
      · rw [k1.R]; exact c.tb.kq k1 (fun i k z => by omega)
      · rw [k1.R]; exact c.ro.kq k1 (fun i k z => by omega)
      · rw [k1.R]; exact c.hd.kq k1 (fun i k z => by omega)
      · rw [k1.R]; exact c.tq.kq k1 (fun i k z => by omega)
      · rw [gI, if_neg (by omega), gI, if_pos ⟨rfl, rfl⟩]; rfl
      · rw [fk _ (by decide) (by decide)] at z; exact (h.fh z).kq k1 (fun i k z => by unfold sHt; omega)
      · rw [fk _ (by decide) (by decide)] at z; exact (h.ft z).kq k1 (fun i k z => by unfold sTi; omega)
      · rw [fk _ (by decide) (by decide)] at z; exact (h.fo z).kq k1 (fun i k z => by unfold sOf; omega)
      · exact absurd (show sI (uI (uI G 1 13 (nI n)) 1 18 0) 1 18 = 0 by rw [gI, if_pos ⟨rfl, rfl⟩]) z
  · exact absurd ⟨by omega, by omega⟩ hno
theorem x_person {Q : Int32 → St → Prop} {x : Int32} (h : XI e sen G a) (ho : OkA e a) (hQ0 : ∀ G', XI e sen G' a → KX G G' → ¬ (0 ≤ x.toInt ∧ x.toInt ≤ 3) → Q 0 G') (hQ : ∀ G' n, n < 4 → x = nI n → XI e sen G' (peA a n) → KX G G' → Q 1 G') : EvI K mX11_person 3 0 [(0, .ref 1), (1, .int x)] [] G Q := by
  refine kX11_person_0 h.lay ?_
  have hh := lay_h h.lay
  have ht := lay_t h.lay
  rw [fa_lt, fa_lt, show (0 : Int32).toInt = 0 from rfl, show (4 : Int32).toInt = 4 from rfl]
  refine ⟨fun z => hQ0 G h Kg.rf (by omega), fun z => ⟨fun z2 => ?_, fun z2 => hQ0 G h Kg.rf (by omega)⟩⟩
  rcases num_cases x (n := 4) (by decide) with ⟨n, hn, en⟩ | hno
  · rw [en]
    refine s_seen h.lay h.c ho ?_
    have k1 : Kq (fun i k => i = 1 ∧ k = 12 ∨ i = 48 ∨ i = 58) G (uI G 1 12 (nI n)) := kq_I (Or.inl ⟨rfl, rfl⟩)
    have c := h.c
    have c1 : XC (uI G 1 12 (nI n)) (peA a n) := by
      refine ⟨c.tp.kq k1 (fun i k z => by omega), ?_, ?_, ?_, ?_, by rw [gI, if_pos ⟨rfl, rfl⟩]; rfl, (k1.I (by omega)).trans c.wi, c.lt.kq k1 (fun i k z => by omega), c.ch.kq k1 (fun i k z => by omega), (k1.I (by omega)).trans c.m0, (k1.I (by omega)).trans c.m1, (k1.I (by omega)).trans c.m2⟩
      · rw [k1.R]; exact c.tb.kq (S := fun i k => i = 1 ∧ k = 12) (kq_I ⟨rfl, rfl⟩) (fun i k z => by omega)
      · rw [k1.R]; exact c.ro.kq (S := fun i k => i = 1 ∧ k = 12) (kq_I ⟨rfl, rfl⟩) (fun i k z => by omega)
      · rw [k1.R]; exact c.hd.kq (S := fun i k => i = 1 ∧ k = 12) (kq_I ⟨rfl, rfl⟩) (fun i k z => by omega)
      · rw [k1.R]; exact c.tq.kq (S := fun i k => i = 1 ∧ k = 12) (kq_I ⟨rfl, rfl⟩) (fun i k z => by omega)
    have ho1 : OkA e (peA a n) := ho.pe hn
    have l1 := k1.lay h.lay
    refine s_seen l1 c1 ho1 ?_
    have s30 := ho.S30
    have s30' := ho1.S30
    rw [nEq (by omega) (by omega)]
    refine ⟨fun y => hQ _ n hn en (h.same c1 l1 (h.rm.kq k1) k1 rfl rfl rfl y rfl rfl) (k1.kx (fun i k z => by omega)), fun y => s_sightChanged l1 (h.rm.kq k1) c1 (fun G2 h2 k2 => hQ G2 n hn en h2 ((k1.kx (fun i k z => by omega)).tr (k2.kx (fun i k z => by omega))))⟩
  · exact absurd ⟨by omega, by omega⟩ hno
theorem x_hide {Q : Int32 → St → Prop} {x y v : Int32} (h : XI e sen G a) (ho : OkA e a) (hv : v = 0 ∨ v = 1) (hQ0 : ∀ G', XI e sen G' a → KX G G' → ¬ ((0 ≤ x.toInt ∧ x.toInt ≤ 3) ∧ inR y a.w.1) → Q 0 G') (hQ : ∀ G' n r, n < 4 → x = nI n → r < a.w.1 → y = nI r → XI e sen G' (hiA a n r (v != 0)) → KX G G' → Q 1 G') : EvI K mX11_hide 3 0 [(0, .ref 1), (1, .int x), (2, .int y), (3, .int v)] [] G Q := by
  refine kX11_hide_0 h.lay ?_
  have hh := lay_h h.lay
  have ht := lay_t h.lay
  have hH : sR G 1 8 = 39 ∨ sR G 1 8 = 49 := by omega
  have w30 := ho.w30
  rw [fa_lt, fa_le, show (0 : Int32).toInt = 0 from rfl, show (4 : Int32).toInt = 4 from rfl]
  refine ⟨fun z => hQ0 G h Kg.rf (by omega), fun z => ⟨fun z2 => hQ0 G h Kg.rf (by omega), fun z2 => s_X1_isTold h.lay hH h.c.ro ?_⟩⟩
  rcases num_cases x (n := 4) (by decide) with ⟨n, hn, en⟩ | hno
  · rcases num_cases y (n := a.w.1) (by omega) with ⟨r, hr, er⟩ | hny
    · have hy : inR y a.w.1 := by rw [er, inR_n (by omega)]; exact hr
      rw [if_pos hy, en, er]
      refine ⟨fun _ => s_seen h.lay h.c ho ?_, fun z => absurd z (by decide)⟩
      have c := h.c
      obtain ⟨kk, d1, d2, d3⟩ := c.hd.1 n hn
      generalize hH' : sR G 1 8 = H at *
      -- the new mask
      have fin : ∀ m, m < 2 ^ 30 → (∀ j, m.testBit j = if j = r then (v != 0) else kk.testBit j) → EvI K mX11_seen 2 0 [(0, .ref 1)] [] (uI G (H + 9) n (nI m)) (fun r4 G4 => (r4 = nI a.S → Q 1 G4) ∧ (¬ r4 = nI a.S → EvV K mX11_sightChanged 1 0 [(0, .ref 1)] [] G4 (fun G5 => Q 1 G5))) := by
        intro m hm hb
        have k1 : Kq (fun i k => i = 1 ∧ k = 12 ∨ i = 48 ∨ i = 58) G (uI G (H + 9) n (nI m)) := kq_I (by omega)
        have l1 := k1.lay h.lay
        have c1 : XC (uI G (H + 9) n (nI m)) (hiA a n r (v != 0)) := by
          have k1' : Kq (fun i k => i = H + 9) G (uI G (H + 9) n (nI m)) := kq_I rfl
          refine ⟨c.tp.kq k1' (fun i k z => by omega), ?_, ?_, ⟨fun p hp => ?_, fun p j hj => ?_⟩, ?_, (k1'.I (by omega)).trans c.pe, (k1'.I (by omega)).trans c.wi, c.lt.kq k1' (fun i k z => by omega), c.ch.kq k1' (fun i k z => by omega), (k1'.I (by omega)).trans c.m0, (k1'.I (by omega)).trans c.m1, (k1'.I (by omega)).trans c.m2⟩
          · rw [k1'.R, hH']; exact (hH' ▸ c.tb).kq k1' (fun i k z => by omega)
          · rw [k1'.R, hH']; exact (hH' ▸ c.ro).kq k1' (fun i k z => by omega)
          · rw [k1'.R, hH']
            by_cases ep : p = n
            · refine ⟨m, hm, by rw [gI, if_pos ⟨rfl, ep⟩], fun j => ?_⟩
              show _ = if p = n ∧ j = r then (v != 0) else a.d p j
              rw [hb j, d3 j, ep]
              by_cases ej : j = r
              · rw [if_pos ej, if_pos ⟨rfl, ej⟩]
              · rw [if_neg ej, if_neg (fun z => ej z.2)]
            · obtain ⟨k2, a1, a2, a3⟩ := (hH' ▸ c.hd).1 p hp
              refine ⟨k2, a1, by rw [gI, if_neg (fun z => ep z.2)]; exact a2, fun j => ?_⟩
              show _ = if p = n ∧ j = r then (v != 0) else a.d p j
              rw [if_neg (fun z => ep z.1)]; exact a3 j
          · show (if p = n ∧ j = r then (v != 0) else a.d p j) = false
            have hj : a.w.1 ≤ j := hj
            rw [if_neg (by omega)]; exact c.hd.2 p j hj
          · rw [k1'.R]; exact c.tq.kq k1' (fun i k z => by omega)
        have ho1 : OkA e (hiA a n r (v != 0)) := ho.hi hr
        refine s_seen l1 c1 ho1 ?_
        have s30 := ho.S30
        have s30' := ho1.S30
        rw [nEq (by omega) (by omega)]
        exact ⟨fun y => hQ _ n r hn en hr er (h.same c1 l1 (h.rm.kq k1) k1 rfl rfl rfl y rfl rfl) (k1.kx (fun i k z => by omega)), fun y => s_sightChanged l1 (h.rm.kq k1) c1 (fun G2 h2 k2 => hQ G2 n r hn en hr er h2 ((k1.kx (fun i k z => by omega)).tr (k2.kx (fun i k z => by omega))))⟩
      have d3' : sI G (H + 9) n = nI kk := hH' ▸ d2
      refine kX1_setHidden_0 h.lay hH ?_
      rw [show sI G (H + 9) (Int32.toNatClampNeg (nI n)) = nI kk by rw [nI_clamp (by omega)]; exact d3', shl_one (by omega), nI_clamp (by omega)]
      have pr : 2 ^ r < 2 ^ 30 := Nat.pow_lt_pow_right (by decide) (by omega)
      refine ⟨fun z => ⟨(vIn (by omega)).mpr hn, (vIn (by omega)).mpr hn, ?_⟩, fun z => ⟨(vIn (by omega)).mpr hn, (vIn (by omega)).mpr hn, ?_⟩⟩
      · have ml := msk_lt (fun j => kk.testBit j && !(j == r)) 30
        rw [and_not (c := msk (fun j => kk.testBit j && !(j == r)) 30) (by omega) (by omega) (by omega) (fun j => by
          rw [msk_bit, Nat.testBit_two_pow]
          by_cases q : j < 30
          · by_cases w : j = r
            · simp [q, w]
            · have w' : r ≠ j := fun z => w z.symm
              simp [q, w, w']
          · have : kk.testBit j = false := by
              cases z : kk.testBit j
              · rfl
              · exact absurd (bt_lt (n := 30) d1 z) q
            simp [q, this])]
        refine fin _ ml (fun j => ?_)
        rw [msk_bit, z]
        by_cases q : j < 30
        · by_cases w : j = r
          · simp [q, w]
          · simp [q, w]
        · have : kk.testBit j = false := by
            cases z : kk.testBit j
            · rfl
            · exact absurd (bt_lt (n := 30) d1 z) q
          simp [q, this]
      · have e1 : nI kk ||| nI (2 ^ r) = nI (kk ||| 2 ^ r) := by
          apply Int32.toBitVec_inj.mp
          show BitVec.ofNat 32 kk ||| BitVec.ofNat 32 (2 ^ r) = BitVec.ofNat 32 (kk ||| 2 ^ r)
          apply BitVec.eq_of_getLsbD_eq
          intro i hi
          simp [BitVec.getLsbD_or, BitVec.getLsbD_ofNat, Nat.testBit_or, hi]
        rw [e1]
        refine fin _ (Nat.or_lt_two_pow d1 pr) (fun j => ?_)
        have ev : v = 1 := by rcases hv with q | q; exact absurd q z; exact q
        rw [Nat.testBit_or, Nat.testBit_two_pow, ev]
        by_cases w : j = r
        · simp [w]
        · have w' : r ≠ j := fun z => w z.symm
          simp [w, w']
    · rw [if_neg hny]
      exact ⟨fun z => absurd rfl z, fun _ => hQ0 G h Kg.rf (fun z => hny z.2)⟩
  · exact absurd ⟨by omega, by omega⟩ hno
theorem m_width {Q : Int32 → St → Prop} {x : Int32} (hL : Lay G.2.2) (h : MI G a) (ho : OkA e a) (hQ0 : ∀ G', Lay G'.2.2 → MI G' a → KM G G' → ¬ (1 ≤ x.toInt ∧ x.toInt ≤ 5) → Q 0 G') (hQ : ∀ G' n, Lay G'.2.2 → 1 ≤ n → n ≤ 5 → x = nI n → MI G' (wdA' a n) → KM G G' → Q 1 G') : EvI K mX12_width 1 0 [(0, .ref 66), (1, .int x)] [] G Q := by
  refine kX12_width_0 hL (s_X12_within (ly_th hL) ?_)
  rw [show (1 : Int32).toInt = 1 from rfl, show (5 : Int32).toInt = 5 from rfl]
  by_cases hx : 1 ≤ x.toInt ∧ x.toInt ≤ 5
  · rw [if_pos hx]
    refine ⟨fun _ => ?_, fun z => absurd z (by decide)⟩
    rcases num_cases x (n := 6) (by decide) with ⟨n, hn, en⟩ | hno
    · rw [en, nI_toInt (by omega)] at hx
      have h0 := h.th ho (v := 0)
      have c := h0.c
      rw [en]
      refine hQ _ n hL (by omega) (by omega) en ⟨⟨c.tp, c.wo, c.tb, c.ro, c.hd, c.tq, c.pe, by rw [gI, if_neg (by omega), gI, if_pos ⟨rfl, rfl⟩]; rfl, c.lt, c.ch, c.m0, c.mm⟩, fun z => absurd z (by rw [gI, if_pos ⟨rfl, rfl⟩]; decide)⟩ ((km_th.sI ⟨by decide, by decide⟩).sI ⟨by decide, by decide⟩)
    · exact absurd ⟨by omega, by omega⟩ hno
  · rw [if_neg hx]
    exact ⟨fun z => absurd rfl z, fun _ => hQ0 _ (ly_th hL) (h.th ho) km_th hx⟩
theorem m_person {Q : Int32 → St → Prop} {x : Int32} (hL : Lay G.2.2) (h : MI G a) (ho : OkA e a) (hQ0 : ∀ G', Lay G'.2.2 → MI G' a → KM G G' → ¬ (0 ≤ x.toInt ∧ x.toInt ≤ 3) → Q 0 G') (hQ : ∀ G' n, Lay G'.2.2 → n < 4 → x = nI n → MI G' (peA a n) → KM G G' → Q 1 G') : EvI K mX12_person 1 0 [(0, .ref 66), (1, .int x)] [] G Q := by
  refine kX12_person_0 hL (s_X12_within (ly_th hL) ?_)
  rw [show (0 : Int32).toInt = 0 from rfl, show (3 : Int32).toInt = 3 from rfl]
  by_cases hx : 0 ≤ x.toInt ∧ x.toInt ≤ 3
  · rw [if_pos hx]
    refine ⟨fun _ => ?_, fun z => absurd z (by decide)⟩
    rcases num_cases x (n := 4) (by decide) with ⟨n, hn, en⟩ | hno
    · have h0 := h.th ho (v := 0)
      have c := h0.c
      rw [en]
      refine hQ _ n hL hn en ⟨⟨c.tp, c.wo, c.tb, c.ro, c.hd, c.tq, by rw [gI, if_neg (by omega), gI, if_pos ⟨rfl, rfl⟩]; rfl, c.wi, c.lt, c.ch, c.m0, c.mm⟩, fun z => absurd z (by rw [gI, if_pos ⟨rfl, rfl⟩]; decide)⟩ ((km_th.sI ⟨by decide, by decide⟩).sI ⟨by decide, by decide⟩)
    · exact absurd ⟨by omega, by omega⟩ hno
  · rw [if_neg hx]
    exact ⟨fun z => absurd rfl z, fun _ => hQ0 _ (ly_th hL) (h.th ho) km_th hx⟩
theorem m_hide {Q : Int32 → St → Prop} {x y v : Int32} (hL : Lay G.2.2) (h : MI G a) (ho : OkA e a) (hv : v = 0 ∨ v = 1) (hQ0 : ∀ G', Lay G'.2.2 → MI G' a → KM G G' → ¬ ((0 ≤ x.toInt ∧ x.toInt ≤ 3) ∧ inR y a.w.1) → Q 0 G') (hQ : ∀ G' n r, Lay G'.2.2 → n < 4 → x = nI n → r < a.w.1 → y = nI r → MI G' (hiA a n r (v != 0)) → KM G G' → Q 1 G') : EvI K mX12_hide 1 0 [(0, .ref 66), (1, .int x), (2, .int y), (3, .int v)] [] G Q := by
  have w30 := ho.w30
  have h0 := h.th ho (v := 0)
  have c := h0.c
  refine kX12_hide_0 hL (s_X12_within (ly_th hL) ?_)
  rw [show (0 : Int32).toInt = 0 from rfl, show (3 : Int32).toInt = 3 from rfl]
  by_cases hx : 0 ≤ x.toInt ∧ x.toInt ≤ 3
  · rw [if_pos hx]
    refine ⟨fun z => absurd z (by decide), fun _ => s_X12_isRow (ly_th hL) c.ro.1 w30 ?_⟩
    by_cases hy : inR y a.w.1
    · rw [if_pos hy]
      refine ⟨fun _ => ?_, fun z => absurd z (by decide)⟩
      rcases num_cases x (n := 4) (by decide) with ⟨n, hn, en⟩ | hno
      · rcases num_cases y (n := a.w.1) (by omega) with ⟨r, hr, er⟩ | hny
        · rw [en, er]
          try simp (disch := omega) only [nLe, nLeR, nLeL, nLt, nLtR, nLtL, nEq, nEqR, nEqL, nClamp, nClampR, nAdd, nAddR, nAddL, nSub, nSubR, nMul, nMulR, nMulL, nDivR, vIn, vInR, iteZ, iteP, lEq, lEqR, forall_eq, forall_const, true_implies, false_implies, not_true_eq_false, not_false_eq_true, true_and, and_true, implies_true, Decidable.not_not, Nat.le_refl]
          refine ⟨by omega, hv, hQ _ n r hL hn en hr er ⟨⟨c.tp, c.wo, c.tb, c.ro, ⟨fun p j hp hj => ?_, fun p j hj => ?_⟩, c.tq, c.pe, c.wi, c.lt, c.ch, c.m0, c.mm⟩, fun z => absurd z (by rw [gI, if_pos ⟨rfl, rfl⟩]; decide)⟩ ((km_th.sI ⟨by decide, by decide⟩).sI ⟨by decide, by decide⟩)⟩
          · have c' := c.hd.1 p j hp hj
            show _ = if (if p = n ∧ j = r then (v != 0) else a.d p j) = true then 1 else 0
            rw [gI, if_neg (by omega), gI]
            by_cases e1 : p = n ∧ j = r
            · rw [if_pos (by omega), if_pos e1]
              rcases hv with q | q <;> rw [q] <;> decide
            · rw [if_neg (by omega), if_neg e1]; exact c'
          · show (if p = n ∧ j = r then (v != 0) else a.d p j) = false
            have hj : a.w.1 ≤ j := hj
            rw [if_neg (by omega)]; exact c.hd.2 p j hj
        · exact absurd hy hny
      · exact absurd ⟨by omega, by omega⟩ hno
    · rw [if_neg hy]
      exact ⟨fun z => absurd rfl z, fun _ => hQ0 _ (ly_th hL) h0 km_th (fun z => hy z.2)⟩
  · rw [if_neg hx]
    exact ⟨fun _ => hQ0 _ (ly_th hL) h0 km_th (fun z => hx z.1), fun z => absurd rfl z⟩
end SIGHT

/-! rows: both -/
def rwA (a : AS) (T : TPt) (w : RWt) : AS := (T, a.b, w, a.q, a.d, a.p, a.W, a.l, a.ch, a.m)
section ROWS
variable {K : KT} {G : St} {a : AS} {e h : Nat} {b : TBt} {w v : RWt}
theorem OkA.rw (ho : OkA e a) {T : TPt} {v : RWt} (hT : T.1 ≤ 1000) (hv : wOk a.b v) (hl : a.w.1 ≤ v.1) : OkA e (rwA a T v) := ⟨ho.b5, ho.c4, ho.tb, ho.ds, ho.nm, hv.1, hv.2.1, hv.2.2.1, hv.2.2.2, ho.q4, ho.q3, ho.qu, ho.p4, ho.W1, ho.W5, fun p r hr => ho.dn p r (Nat.le_trans hl hr), ho.lt, ho.l20, ho.ch, ho.m40, hT⟩
theorem OkA.wk (ho : OkA e a) : wOk a.b a.w := ⟨ho.w30, ho.wb, ho.ro, ho.cl⟩
theorem XRw.pre (hv : XRw G h b (w.1, v.2)) (hp : preW w v) : XRw G h b w := by
  obtain ⟨h1, h2, h3, h4⟩ := hv
  refine ⟨h1, h2, fun r hr => ?_, fun t ht => ?_⟩
  · obtain ⟨a1, a2, a3, a4⟩ := h3 r hr
    have e1 : v.2.1 r = w.2.1 r := (hp.2 r hr).1
    have a1 : v.2.1 r < b.1 := a1
    have a2 : sI G (h + 5) r = nI (v.2.1 r) := a2
    have a3 : sI G (h + 6) r = nI (nOf v.2.1 (v.2.1 r) r) := a3
    have a4 : ∀ c, c < b.2.2.1 (v.2.1 r) → sL G (h + 8) (4 * r + c) = v.2.2 r c := a4
    rw [e1] at a1 a2 a3 a4
    refine ⟨a1, a2, ?_, fun c hc => (a4 c hc).trans ((hp.2 r hr).2 c)⟩
    rw [a3, nOf_cong (rt' := w.2.1) (fun j hj => (hp.2 j (by omega)).1)]
  · have := h4 t ht
    have : sI G (h + 7) t = nI (nOf v.2.1 t w.1) := this
    rw [this, nOf_cong (rt' := w.2.1) (fun j hj => (hp.2 j hj).1)]
theorem s_X1_keepRows {Q : St → Prop} (hL : Lay G.2.2) (hh : h = 39 ∨ h = 49) (hb5 : b.1 ≤ 5) (hv : XRw G h b v) (hp : preW w v) (hQ : ∀ G', Kq (fun i k => i = h ∧ k = 10 ∨ i = h + 7) G G' → XRw G' h b w → Q G') : EvV K mX1_keepRows 0 0 [(0, .ref h), (1, .int (nI w.1))] [] G Q := by
  refine kX1_keepRows_0 hL hh ?_
  have v30 := hv.2.1
  have key : ∀ (m n : Nat) (G1 : St), n = w.1 + m → n ≤ v.1 → Kq (fun i k => i = h ∧ k = 10 ∨ i = h + 7) G G1 → XRw G1 h b (n, v.2) → EvV K mX1_keepRows 0 7 [(0, .ref h), (1, .int (nI w.1)), (2, .int (nI n - 1))] [] G1 Q := by
    intro m
    induction m with
    | zero =>
      intro n G1 hn hv1 k1 w1
      refine kX1_keepRows_7 (k1.lay hL) hh ⟨fun _ => hQ G1 k1 (XRw.pre (by rw [← show n = w.1 from hn]; exact w1) hp), fun z => absurd ?_ z⟩
      rw [hn]
      show nI w.1 - 1 < nI w.1
      by_cases z0 : w.1 = 0
      · rw [z0]; decide
      · try simp (disch := omega) only [nLe, nLeR, nLeL, nLt, nLtR, nLtL, nEq, nEqR, nEqL, nClamp, nClampR, nAdd, nAddR, nAddL, nSub, nSubR, nMul, nMulR, nMulL, nDivR, vIn, vInR, iteZ, iteP, lEq, lEqR, forall_eq, forall_const, true_implies, false_implies, not_true_eq_false, not_false_eq_true, true_and, and_true, implies_true, Decidable.not_not, Nat.le_refl]
        omega
    | succ m ih =>
      intro n G1 hn hv1 k1 w1
      refine kX1_keepRows_7 (k1.lay hL) hh ?_
      obtain ⟨n', rfl⟩ : ∃ n', n = n' + 1 := ⟨n - 1, by omega⟩
      obtain ⟨h1, h2, h3, h4⟩ := w1
      have h1 : sI G1 h 10 = nI (n' + 1) := h1
      obtain ⟨a1, a2, a3, a4⟩ := h3 n' (Nat.lt_succ_self _)
      have a1 : v.2.1 n' < b.1 := a1
      have a2 : sI G1 (h + 5) n' = nI (v.2.1 n') := a2
      have h4' : sI G1 (h + 7) (v.2.1 n') = nI (nOf v.2.1 (v.2.1 n') (n' + 1)) := h4 (v.2.1 n') (by omega)
      have eN : nOf v.2.1 (v.2.1 n') (n' + 1) = nOf v.2.1 (v.2.1 n') n' + 1 := by rw [nOf, if_pos rfl]
      have := nOf_le v.2.1 (v.2.1 n') n'
      rw [show nI (n' + 1) - 1 = nI n' by try simp (disch := omega) only [nLe, nLeR, nLeL, nLt, nLtR, nLtL, nEq, nEqR, nEqL, nClamp, nClampR, nAdd, nAddR, nAddL, nSub, nSubR, nMul, nMulR, nMulL, nDivR, vIn, vInR, iteZ, iteP, lEq, lEqR, forall_eq, forall_const, true_implies, false_implies, not_true_eq_false, not_false_eq_true, true_and, and_true, implies_true, Decidable.not_not, Nat.le_refl]; rfl, nI_clamp (by omega), a2, nI_clamp (by omega), h4', eN]
      refine ⟨fun z => ?_, fun _ => ⟨fun z => absurd z (by rw [show (0 : Int32) = nI 0 from rfl, nLt (by omega) (by decide)]; omega), fun _ => ⟨(vIn (by omega)).mpr (by omega), (vIn (by omega)).mpr (by omega), (vIn (by omega)).mpr (by omega), ?_⟩⟩⟩
      · exfalso
        rw [nLt (by omega) (by omega)] at z
        omega
      · intro v4 e4
        rw [gI, if_neg (by omega), h1] at e4
        rw [e4, show nI n' + (-1) = nI n' - 1 from (Int32.sub_eq_add_neg _ _).symm, show nI (n' + 1) - 1 = nI n' by try simp (disch := omega) only [nLe, nLeR, nLeL, nLt, nLtR, nLtL, nEq, nEqR, nEqL, nClamp, nClampR, nAdd, nAddR, nAddL, nSub, nSubR, nMul, nMulR, nMulL, nDivR, vIn, vInR, iteZ, iteP, lEq, lEqR, forall_eq, forall_const, true_implies, false_implies, not_true_eq_false, not_false_eq_true, true_and, and_true, implies_true, Decidable.not_not, Nat.le_refl]; rfl, show nI (nOf v.2.1 (v.2.1 n') n' + 1) - 1 = nI (nOf v.2.1 (v.2.1 n') n') by try simp (disch := omega) only [nLe, nLeR, nLeL, nLt, nLtR, nLtL, nEq, nEqR, nEqL, nClamp, nClampR, nAdd, nAddR, nAddL, nSub, nSubR, nMul, nMulR, nMulL, nDivR, vIn, vInR, iteZ, iteP, lEq, lEqR, forall_eq, forall_const, true_implies, false_implies, not_true_eq_false, not_false_eq_true, true_and, and_true, implies_true, Decidable.not_not, Nat.le_refl]; rfl]
        refine ih n' _ (by omega) (by omega) ((k1.sI (Or.inr rfl)).sI (Or.inl ⟨rfl, rfl⟩)) ⟨by rw [gI, if_pos ⟨rfl, rfl⟩], Nat.le_of_succ_le h2, fun r hr => ?_, fun t ht => ?_⟩
        · obtain ⟨c1, c2, c3, c4⟩ := h3 r (Nat.lt_succ_of_lt hr)
          refine ⟨c1, ?_, ?_, fun c hc => c4 c hc⟩
          · rw [gI, if_neg (by omega), gI, if_neg (by omega)]; exact c2
          · rw [gI, if_neg (by omega), gI, if_neg (by omega)]; exact c3
        · rw [gI, if_neg (by omega), gI]
          by_cases z : t = v.2.1 n'
          · rw [if_pos ⟨rfl, z⟩, z]
          · rw [if_neg (fun y => z y.2)]
            have := h4 t ht
            have this : sI G1 (h + 7) t = nI (nOf v.2.1 t (n' + 1)) := this
            rw [this, nOf, if_neg (fun y => z y.symm)]; rfl
  rw [hv.1]
  exact key (v.1 - w.1) v.1 G (by have := hp.1; omega) (Nat.le_refl _) Kq.rf hv
theorem XC.rw (c : XC G a) (hL : Lay G.2.2) {G1 : St} {T : TPt} (hk : Kq (sRw (sR G 1 8)) G G1) (hT : XTp G1 T) (hw : XRw G1 (sR G 1 8) a.b v) (hl : a.w.1 ≤ v.1) : XC G1 (rwA a T v) := by
  have hh := lay_h hL
  have ht := lay_t hL
  have ss : ∀ i k, sRw (sR G 1 8) i k → i = 2 ∨ i = sR G 1 8 ∧ k = 10 ∨ sR G 1 8 + 5 ≤ i ∧ i ≤ sR G 1 8 + 8 := fun i k z => z
  generalize sRw (sR G 1 8) = S at hk ss
  refine ⟨hT, ?_, ?_, ?_, ?_, ?_, ?_, ?_, ?_, ?_, ?_, ?_⟩
  · rw [hk.R]; exact c.tb.kq hk (fun i k z => by have := ss _ _ z; omega)
  · rw [hk.R]; exact hw
  · rw [hk.R]
    have := c.hd.kq hk (fun i k z => by have := ss _ _ z; omega)
    exact ⟨this.1, fun p r hr => this.2 p r (Nat.le_trans hl hr)⟩
  · rw [hk.R]; exact c.tq.kq hk (fun i k z => by have := ss _ _ z; omega)
  · exact (hk.I (fun z => by have := ss _ _ z; omega)).trans c.pe
  · exact (hk.I (fun z => by have := ss _ _ z; omega)).trans c.wi
  · exact c.lt.kq hk (fun i k z => by have := ss _ _ z; omega)
  · exact c.ch.kq hk (fun i k z => by have := ss _ _ z; omega)
  · exact (hk.I (fun z => by have := ss _ _ z; omega)).trans c.m0
  · exact (hk.I (fun z => by have := ss _ _ z; omega)).trans c.m1
  · exact (hk.I (fun z => by have := ss _ _ z; omega)).trans c.m2
theorem XI.rw (h : XI e sen G a) {G1 : St} {T : TPt} (hk : Kq (sRw (sR G 1 8)) G G1) (hT : XTp G1 T) (hw : XRw G1 (sR G 1 8) a.b a.w) : XI e sen G1 (tpA a T) := by
  have hL := h.lay
  have hh := lay_h hL
  have c1 : XC G1 (tpA a T) := h.c.rw hL hk hT hw (Nat.le_refl _)
  have ss : ∀ i k, sRw (sR G 1 8) i k → i = 2 ∨ i = sR G 1 8 ∧ k = 10 ∨ sR G 1 8 + 5 ≤ i ∧ i ≤ sR G 1 8 + 8 := fun i k z => z
  generalize sRw (sR G 1 8) = S at hk ss
  have fk : ∀ k, sI G1 1 k = sI G 1 k := fun k => hk.I (fun z => by have := ss _ _ z; omega)
  refine ⟨hk.lay hL, h.rm.kq hk, c1, fun z => ?_, fun z => ?_, fun z => ?_, fun z => ?_⟩
  · rw [fk] at z; exact (h.fh z).kq hk (fun i k z => by have := ss _ _ z; unfold sHt; omega)
  · rw [fk] at z; exact (h.ft z).kq hk (fun i k z => by have := ss _ _ z; unfold sTi; omega)
  · rw [fk] at z; exact (h.fo z).kq hk (fun i k z => by have := ss _ _ z; unfold sOf; omega)
  · rw [fk] at z
    obtain ⟨z1, z2, z3, z4⟩ := h.fs z
    refine ⟨z1, by rw [fk]; exact z2, by rw [fk]; exact z3, ?_⟩
    exact z4.kq hL hk (fun i k z => by have := ss _ _ z; omega)
theorem rdRows_lt' {T : TPt} {b : TBt} (hT : T.1 ≤ 1000) : ∀ {m : Nat} {w : RWt} {i : Nat}, (rdRows T b m w i).1 < 20000
  | 0, w, i => by show (0 : Nat) < 20000; decide
  | m + 1, w, i => by
    rw [rdRows]
    split
    · show (0 : Nat) < 20000; decide
    · split
      · exact rdRow_lt hT
      · exact rdRows_lt' hT
theorem x_rows {Q : Int32 → St → Prop} (h : XI e sen G a) (ho : OkA e a) (hQ0 : ∀ G', (rdRows a.T a.b 31 a.w 0).1 ≠ 0 → XI e sen G' (tpA a (0, a.T.2)) → KX G G' → Q (nI (rdRows a.T a.b 31 a.w 0).1) G') (hQ : ∀ G', (rdRows a.T a.b 31 a.w 0).1 = 0 → XI e sen G' (rwA a (0, a.T.2) (rdRows a.T a.b 31 a.w 0).2.1) → KX G G' → Q (nI 0) G') : EvI K mX11_rows 6 0 [(0, .ref 1)] [] G Q := by
  have hL := h.lay
  have hh := lay_h hL
  have ht := lay_t hL
  have hH : sR G 1 8 = 39 ∨ sR G 1 8 = 49 := by omega
  have fl : (rdRows a.T a.b 31 a.w 0).1 < 20000 := rdRows_lt' h.c.tp.2.1
  have w30 := ho.w30
  refine kX11_rows_0 hL (s_X5_readRows hL hH h.c.tp h.c.tb ho.tb h.c.ro (fun G1 k1 t1 q1 => s_X7_empty (T := a.T) (k1.lay hL) (fun G2 k2 t2 => ?_)))
  have pr : preW a.w (rdRows a.T a.b 31 a.w 0).2.1 := rdRows_pre
  have ok := rdRows_w (T := a.T) (b := a.b) (fun j hj => (h.c.tp.2.2 j hj).2) (m := 31) (i := 0) ho.wk
  generalize hf : (rdRows a.T a.b 31 a.w 0).1 = f at *
  generalize hq' : (rdRows a.T a.b 31 a.w 0).2.1 = v at *
  have kk : Kq (sRw (sR G 1 8)) G G2 := k1.tr (k2.q.mono (fun i k z => Or.inl z))
  have v2 : XRw G2 (sR G 1 8) a.b v := q1.kq k2.q (fun i k z => by omega)
  have v30 := v2.2.1
  have kx2 : ∀ G3, Kq (sRw (sR G 1 8)) G G3 → KX G G3 := fun G3 k => k.kx (fun i k z => by unfold sRw at z; omega)
  rw [kk.R, v2.1, h.c.ro.1, show (0 : Int32) = nI 0 from rfl, nEq (by omega) (by decide), nEq (by omega) (by omega)]
  refine ⟨fun z => ?_, fun z => ?_⟩
  · rw [z]
    obtain ⟨o1, o2, o3⟩ := ok z
    refine ⟨fun y => ?_, fun y => ?_⟩
    · have ev := o3 y
      refine hQ G2 z ?_ (kx2 G2 kk)
      rw [ev]
      rw [ev] at v2
      exact h.rw kk t2 v2
    · exact s_sightChanged (kk.lay hL) (h.rm.kq kk) (h.c.rw hL kk t2 v2 o2) (fun G3 h3 k3 => hQ G3 z h3 ((kx2 G2 kk).tr (k3.kx (fun i k z => by omega))))
  · refine s_X1_keepRows (kk.lay hL) hH ho.b5 v2 pr (fun G3 k3 w3 => ?_)
    have k4 : Kq (sRw (sR G 1 8)) G G3 := kk.tr (k3.mono (fun i k z => by unfold sRw; omega))
    exact hQ0 G3 z (h.rw k4 (t2.kq k3 (fun i k z => by omega)) w3) (kx2 G3 k4)
theorem MC.rw (c : MC G a) {G1 : St} {T : TPt} (hk : Kq sR0 G G1) (hT : MTp G1 T) (hw : MRw G1 a.b v) (hl : a.w.1 ≤ v.1) : MC G1 (rwA a T v) := by
  have ss : ∀ i k, sR0 i k → (i = 68 ∨ i = 69 ∨ i = 70 ∨ i = 66 ∧ (k = 2 ∨ k = 3 ∨ k = 7 ∨ k = 8)) ∨ i = 77 ∨ i = 78 ∨ i = 66 ∧ (k = 0 ∨ k = 15 ∨ k = 16 ∨ k = 17) := fun i k z => z
  generalize sR0 = S at hk ss
  have q4 := c.tq.2.1
  refine ⟨hT, ?_, ?_, hw, ?_, ?_, ?_, ?_, ?_, fun x hx => ?_, ?_, fun k hk' => ⟨?_, ?_⟩⟩
  · exact fun k hk' => (hk.L (fun z => by have := ss _ _ z; omega)).trans (c.wo k hk')
  · exact c.tb.kq hk (fun i k z => by have := ss _ _ z; omega)
  · exact ⟨fun p r hp hr => (hk.I (fun z => by have := ss _ _ z; omega)).trans (c.hd.1 p r hp hr), fun p r hr => c.hd.2 p r (Nat.le_trans hl hr)⟩
  · exact ⟨(hk.I (fun z => by have := ss _ _ z; omega)).trans c.tq.1, c.tq.2.1, fun k (hk' : k < a.q.1) => ⟨(hk.I (fun z => by have := ss _ _ z; omega)).trans (c.tq.2.2 k hk').1, (c.tq.2.2 k hk').2.1, (hk.L (fun z => by have := ss _ _ z; omega)).trans (c.tq.2.2 k hk').2.2⟩⟩
  · exact (hk.I (fun z => by have := ss _ _ z; omega)).trans c.pe
  · exact (hk.I (fun z => by have := ss _ _ z; omega)).trans c.wi
  · exact ⟨(hk.I (fun z => by have := ss _ _ z; omega)).trans c.lt.1, c.lt.2.1, fun k hk' => ⟨(hk.I (fun z => by have := ss _ _ z; omega)).trans (c.lt.2.2 k hk').1, (c.lt.2.2 k hk').2⟩⟩
  · exact (hk.I (fun z => by have := ss _ _ z; omega)).trans (c.ch x hx)
  · exact (hk.I (fun z => by have := ss _ _ z; omega)).trans c.m0
  · exact (hk.I (fun z => by have := ss _ _ z; omega)).trans (c.mm k hk').1
  · exact (hk.I (fun z => by have := ss _ _ z; omega)).trans (c.mm k hk').2
theorem m_rows {Q : Int32 → St → Prop} (hL : Lay G.2.2) (h : MI G a) (ho : OkA e a) (hA : ∀ j, j < a.T.1 → okS (a.T.2 j)) (hQ0 : ∀ G', Lay G'.2.2 → (rdRows a.T a.b 31 a.w 0).1 ≠ 0 → MI G' (tpA a (0, a.T.2)) → KM G G' → Q (nI (rdRows a.T a.b 31 a.w 0).1) G') (hQ : ∀ G', Lay G'.2.2 → (rdRows a.T a.b 31 a.w 0).1 = 0 → MI G' (rwA a (0, a.T.2) (rdRows a.T a.b 31 a.w 0).2.1) → KM G G' → Q (nI 0) G') : EvI K mX12_rows 3 0 [(0, .ref 66)] [] G Q := by
  have c := h.c
  have kmm : ∀ G1, Kq sR0 G G1 → KM G G1 := fun G1 k => k.km (fun i k z => by unfold sR0 ctS at z; omega)
  refine s_X12_rows hL c.tp c.wo c.tb ho.ds ho.tb c.ro (fun z G1 k1 f1 t1 w1 => hQ0 G1 (k1.lay hL) z ⟨c.rw k1 t1 w1 (Nat.le_refl _), fun y => ?_⟩ (kmm G1 k1)) (fun z G1 k1 t1 w1 f1 => hQ G1 (k1.lay hL) z ⟨c.rw k1 t1 w1 (rdRows_w hA ho.wk z).2.1, fun y => absurd y (by rw [f1]; decide)⟩ (kmm G1 k1))
  rw [f1] at y
  exact (h.fa y).kq k1 (fun i k z => by unfold sR0 ctS at z; omega)
end ROWS

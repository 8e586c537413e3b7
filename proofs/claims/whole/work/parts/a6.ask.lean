/-! ask: both -/
def asA (a : AS) (T : TPt) (q : TQt) : AS := (T, a.b, a.w, q, a.d, a.p, a.W, a.l, a.ch, a.m)
/-- two references of the object change their places -/
theorem lay_swap {G : St} {k1 k2 : Nat} (hL : Lay G.2.2) (hk : (k1 = 8 ∧ k2 = 9) ∨ (k1 = 10 ∧ k2 = 11)) : Lay (uR (uR G 1 k1 (sR G 1 k2)) 1 k2 (sR G 1 k1)).2.2 := by
  obtain ⟨a1, a2, a3, a4, a5, a6, a7, a8⟩ := hL
  have eR : ∀ i k, (uR (uR G 1 k1 (sR G 1 k2)) 1 k2 (sR G 1 k1)).2.2.1 i k = if i = 1 ∧ k = k2 then sR G 1 k1 else if i = 1 ∧ k = k1 then sR G 1 k2 else sR G i k := by
    intro i k
    show sR (uR (uR G 1 k1 (sR G 1 k2)) 1 k2 (sR G 1 k1)) i k = _
    by_cases z : i = 1 ∧ k = k2
    · rw [if_pos z, z.1, z.2, uR_at]
    · rw [if_neg z, uR_ne z]
      by_cases y : i = 1 ∧ k = k1
      · rw [if_pos y, y.1, y.2, uR_at]
      · rw [if_neg y, uR_ne y]
  have n1 : ∀ q ∈ ltR, ¬ (q.1 = 1 ∧ (q.2.1 = 8 ∨ q.2.1 = 9 ∨ q.2.1 = 10 ∨ q.2.1 = 11)) := by decide
  have n2 : ∀ q ∈ ltG, q.1 ≠ 1 := by decide
  have gE : ∀ q ∈ ltG, (uR (uR G 1 k1 (sR G 1 k2)) 1 k2 (sR G 1 k1)).2.2.1 q.1 q.2.1 = G.2.2.1 q.1 q.2.1 := fun q hq => by
    rw [eR, if_neg (fun z => n2 q hq z.1), if_neg (fun z => n2 q hq z.1)]; rfl
  have e8 : ∀ k, sR G 1 k = G.2.2.1 1 k := fun k => rfl
  refine ⟨a1, a2, fun q hq => ?_, a4, ?_, ?_, fun q hq => ?_, fun p hp q hq e => ?_⟩
  · have h1 := n1 q hq
    rw [eR, if_neg (fun z => h1 ⟨z.1, by omega⟩), if_neg (fun z => h1 ⟨z.1, by omega⟩)]
    exact a3 q hq
  · rw [eR, eR]
    rcases hk with ⟨rfl, rfl⟩ | ⟨rfl, rfl⟩
    · simp only [e8, and_self, if_true, Nat.reduceEqDiff, and_false, if_false]
      rcases a5 with ⟨b1, b2⟩ | ⟨b1, b2⟩
      · exact Or.inr ⟨b2, b1⟩
      · exact Or.inl ⟨b2, b1⟩
    · simp only [e8, Nat.reduceEqDiff, and_false, if_false]
      exact a5
  · rw [eR, eR]
    rcases hk with ⟨rfl, rfl⟩ | ⟨rfl, rfl⟩
    · simp only [e8, Nat.reduceEqDiff, and_false, if_false]
      exact a6
    · simp only [e8, and_self, if_true, Nat.reduceEqDiff, and_false, if_false]
      rcases a6 with ⟨b1, b2⟩ | ⟨b1, b2⟩
      · exact Or.inr ⟨b2, b1⟩
      · exact Or.inl ⟨b2, b1⟩
  · have := a7 q hq
    unfold LayG at this ⊢
    rw [gE q hq]; exact this
  · rw [gE p hp, gE q hq] at e
    exact a8 p hp q hq e
theorem rdAsk_lt {T : TPt} (hT : T.1 ≤ 1000) : ∀ {m : Nat} {q : TQt} {i : Nat}, (rdAsk T m q i).1 < 20000
  | 0, q, i => by show (0 : Nat) < 20000; decide
  | m + 1, q, i => by
    rw [rdAsk]
    split
    · exact rdTerm_lt hT
    · split
      · exact rdTerm_lt hT
      · exact rdAsk_lt hT
section ASK
variable {K : KT} {G : St} {a : AS} {e : Nat}
theorem OkA.as (ho : OkA e a) {T : TPt} {q : TQt} (hT : T.1 ≤ 1000) (hq : okQ3 q) : OkA e (asA a T q) := ⟨ho.b5, ho.c4, ho.tb, ho.ds, ho.nm, ho.w30, ho.wb, ho.ro, ho.cl, hq.1, hq.2.1, hq.2.2, ho.p4, ho.W1, ho.W5, ho.dn, ho.lt, ho.l20, ho.ch, ho.m40, hT⟩
theorem Rm.swap {G : St} {k1 k2 v1 v2 : Nat} (h : Rm e G) : Rm e (uR (uR G 1 k1 v1) 1 k2 v2) := by
  have eR : ∀ i k, i ≠ 1 → sR (uR (uR G 1 k1 v1) 1 k2 v2) i k = sR G i k := fun i k hi => by rw [uR_ne (fun z => hi z.1), uR_ne (fun z => hi z.1)]
  unfold Rm
  rw [eR 18 9 (by decide), eR 18 10 (by decide), eR 28 5 (by decide), eR 28 2 (by decide), eR 28 1 (by decide), eR 28 3 (by decide), eR 28 4 (by decide)]
  exact h
theorem x_ask {Q : Int32 → St → Prop} (h : XI e sen G a) (ho : OkA e a) (hQ0 : ∀ G', (rdAsk a.T 5 eQ 0).1 ≠ 0 → XI e sen G' (tpA a (0, a.T.2)) → KX G G' → Q (nI (rdAsk a.T 5 eQ 0).1) G') (hQ : ∀ G', (rdAsk a.T 5 eQ 0).1 = 0 → XI e sen G' (asA a (0, a.T.2) (rdAsk a.T 5 eQ 0).2.1) → KX G G' → Q (nI 0) G') : EvIa K mX11_ask 5 0 [(0, .ref 1)] [] G Q := by
  have hL := h.lay
  have hh := lay_h hL
  have ht := lay_t hL
  have fl : (rdAsk a.T 5 eQ 0).1 < 20000 := rdAsk_lt h.c.tp.2.1
  refine kX11_ask_0 hL (s_X5_readAsk hL (by omega) h.c.tp (fun G1 k1 t1 q1 => s_X7_empty (T := a.T) (k1.lay hL) (fun G2 k2 t2 => ?_)))
  generalize hf : (rdAsk a.T 5 eQ 0).1 = f at *
  generalize hq' : (rdAsk a.T 5 eQ 0).2.1 = q' at *
  have kk : Kq (sTq (sR G 1 11)) G G2 := k1.tr (k2.q.mono (fun i k z => Or.inl z))
  have x2 : XI e sen G2 (tpA a (0, a.T.2)) := h.tape kk (fun i k z => by unfold sTq at z; omega) t2
  have q2 : XTq G2 (sR G 1 11) q' := q1.kq k2.q (fun i k z => by omega)
  have kx2 : KX G G2 := kk.kx (fun i k z => by unfold sTq at z; omega)
  rw [show (0 : Int32) = nI 0 from rfl, nEq (by omega) (by decide)]
  refine ⟨fun z => hQ0 G2 z x2 kx2, fun z => ?_⟩
  rw [z]
  have L3 := lay_swap (k1 := 10) (k2 := 11) x2.lay (Or.inr ⟨rfl, rfl⟩)
  refine ⟨L3, kX11_termsChanged_0 L3 ?_⟩
  have eR : ∀ i k, sR (uR (uR G2 1 10 (sR G2 1 11)) 1 11 (sR G2 1 10)) i k = if i = 1 ∧ k = 11 then sR G2 1 10 else if i = 1 ∧ k = 10 then sR G2 1 11 else sR G2 i k := by
    intro i k
    by_cases z : i = 1 ∧ k = 11
    · rw [if_pos z, z.1, z.2, uR_at]
    · rw [if_neg z, uR_ne z]
      by_cases y : i = 1 ∧ k = 10
      · rw [if_pos y, y.1, y.2, uR_at]
      · rw [if_neg y, uR_ne y]
  have rm3 : Rm e (uR (uR G2 1 10 (sR G2 1 11)) 1 11 (sR G2 1 10)) := x2.rm.swap
  have kg3 : Kg (fun i _ => i ≤ 65 ∨ 104 ≤ i) (fun i _ => i ≤ 65) G2 (uR (uR G2 1 10 (sR G2 1 11)) 1 11 (sR G2 1 10)) := (kg_R (by decide)).tr (kg_R (by decide))
  have e10 : sR (uR (uR G2 1 10 (sR G2 1 11)) 1 11 (sR G2 1 10)) 1 10 = sR G 1 11 := by rw [eR, if_neg (by decide), if_pos ⟨rfl, rfl⟩, kk.R]
  have e8 : sR (uR (uR G2 1 10 (sR G2 1 11)) 1 11 (sR G2 1 10)) 1 8 = sR G2 1 8 := by rw [eR, if_neg (by decide), if_neg (by decide)]
  have sI3 : sI (uR (uR G2 1 10 (sR G2 1 11)) 1 11 (sR G2 1 10)) = sI G2 := rfl
  have sL3 : sL (uR (uR G2 1 10 (sR G2 1 11)) 1 11 (sR G2 1 10)) = sL G2 := rfl
  generalize hG3 : uR (uR G2 1 10 (sR G2 1 11)) 1 11 (sR G2 1 10) = G3 at *
  have k4 : Kq (fun i k => i = 1 ∧ (k = 16 ∨ k = 18)) G3 (uI (uI G3 1 16 0) 1 18 0) := (kq_I ⟨rfl, Or.inl rfl⟩).sI ⟨rfl, Or.inr rfl⟩
  have c := x2.c
  have h8 : sR G2 1 8 = sR G 1 8 := kk.R 1 8
  have tb3 : XTb G3 (sR G2 1 8) a.b := by
    have := c.tb
    unfold XTb at this ⊢
    rw [sI3, sL3]; exact this
  have ro3 : XRw G3 (sR G2 1 8) a.b a.w := by
    have := c.ro
    unfold XRw at this ⊢
    rw [sI3, sL3]; exact this
  have hd3 : XHd G3 (sR G2 1 8) a.w.1 a.d := by
    have := c.hd
    unfold XHd at this ⊢
    rw [sI3]; exact this
  have tq3 : XTq G3 (sR G 1 11) q' := by
    have := q2
    unfold XTq at this ⊢
    rw [sI3, sL3]; exact this
  have fk : ∀ k, k ≠ 16 → k ≠ 18 → sI (uI (uI G3 1 16 0) 1 18 0) 1 k = sI G2 1 k := fun k u1 u2 => by rw [k4.I (by omega), sI3]
  have ik : ∀ i k, i ≠ 1 → sI (uI (uI G3 1 16 0) 1 18 0) i k = sI G2 i k := fun i k u => by rw [k4.I (by omega), sI3]
  refine hQ _ z ⟨k4.lay L3, rm3.kq k4, ⟨?_, ?_, ?_, ?_, ?_, (fk 12 (by decide) (by decide)).trans c.pe, (fk 13 (by decide) (by decide)).trans c.wi, ?_, ?_, (ik 65 0 (by decide)).trans c.m0, (ik 65 1 (by decide)).trans c.m1, (ik 65 2 (by decide)).trans c.m2⟩, fun y => ?_, fun y => ?_, fun y => ?_, fun y => ?_⟩ ((kx2.tr kg3).tr (k4.kx (fun i k z => by omega)))
  · exact ⟨(ik 2 2 (by decide)).trans t2.1, t2.2.1, fun j hj => absurd hj (Nat.not_lt_zero _)⟩
  · rw [k4.R, e8]; exact tb3.kq k4 (fun i k z => by omega)
  · rw [k4.R, e8]; exact ro3.kq k4 (fun i k z => by omega)
  · rw [k4.R, e8]; exact hd3.kq k4 (fun i k z => by omega)
  · rw [k4.R, e10]; exact tq3.kq k4 (fun i k z => by omega)
  · have := c.lt
    exact ⟨(ik 14 4 (by decide)).trans this.1, this.2.1, fun k hk => ⟨(ik 16 k (by decide)).trans (this.2.2 k hk).1, (this.2.2 k hk).2⟩⟩
  · obtain ⟨L, l1, l2, l3, l4, l5⟩ := c.ch
    exact ⟨L, l1, l2, (ik 28 11 (by decide)).trans l3, fun i y hy => ⟨(ik 35 i (by decide)).trans (l4 i y hy).1, (ik 36 i (by decide)).trans (l4 i y hy).2⟩, l5⟩
  · exact absurd (show sI (uI (uI G3 1 16 0) 1 18 0) 1 16 = 0 by rw [gI, if_neg (by omega), gI, if_pos ⟨rfl, rfl⟩]) y
  · rw [fk _ (by decide) (by decide)] at y
    obtain ⟨⟨t1', t2'⟩, p, l, p1, p2, p3⟩ := x2.ft y
    exact ⟨⟨fun u v hu hv => (ik 12 _ (by decide)).trans (t1' u v hu hv), fun u hu => (ik 13 u (by decide)).trans (t2' u hu)⟩, p, l, (ik 11 2 (by decide)).trans p1, (ik 11 3 (by decide)).trans p2, p3⟩
  · rw [fk _ (by decide) (by decide)] at y
    have := x2.fo y
    exact ⟨(ik 14 3 (by decide)).trans this.1, fun i v hv => (ik 15 i (by decide)).trans (this.2 i v hv)⟩
  · exact absurd (show sI (uI (uI G3 1 16 0) 1 18 0) 1 18 = 0 by rw [gI, if_pos ⟨rfl, rfl⟩]) y
theorem m_ask {Q : Int32 → St → Prop} (hL : Lay G.2.2) (h : MI G a) (ho : OkA e a) (hQ0 : ∀ G', Lay G'.2.2 → (rdAsk a.T 5 eQ 0).1 ≠ 0 → MI G' (tpA a (0, a.T.2)) → KM G G' → Q (nI (rdAsk a.T 5 eQ 0).1) G') (hQ : ∀ G', Lay G'.2.2 → (rdAsk a.T 5 eQ 0).1 = 0 → MI G' (asA a (0, a.T.2) (rdAsk a.T 5 eQ 0).2.1) → KM G G' → Q (nI 0) G') : EvI K mX12_ask 2 0 [(0, .ref 66)] [] G Q := by
  have c := h.c
  refine s_X12_ask hL c.tp c.wo (fun z G1 k1 t1 => hQ0 G1 (k1.lay hL) z (h.tape ho k1 (fun i k z => by unfold sQ0 ctS at z; unfold mS sAl; omega) t1) (k1.km (fun i k z => by unfold sQ0 ctS at z; omega))) (fun z G1 k1 t1 q1 f1 => hQ G1 (k1.lay hL) z ⟨⟨t1, ?_, ?_, ?_, ?_, q1, ?_, ?_, ?_, fun x hx => ?_, ?_, fun k hk' => ⟨?_, ?_⟩⟩, fun y => absurd y (by rw [f1]; decide)⟩ (k1.km (fun i k z => by unfold sQ0 ctS at z; omega)))
  · exact fun k hk' => (k1.L (by unfold sQ0 ctS; omega)).trans (c.wo k hk')
  · exact c.tb.kq k1 (fun i k z => by unfold sQ0 ctS at z; omega)
  · exact c.ro.kq ho.c4 k1 (fun i k z => by unfold sQ0 ctS at z; omega)
  · exact ⟨fun p r hp hr => (k1.I (by unfold sQ0 ctS; omega)).trans (c.hd.1 p r hp hr), c.hd.2⟩
  · exact (k1.I (by unfold sQ0 ctS; omega)).trans c.pe
  · exact (k1.I (by unfold sQ0 ctS; omega)).trans c.wi
  · exact ⟨(k1.I (by unfold sQ0 ctS; omega)).trans c.lt.1, c.lt.2.1, fun k hk' => ⟨(k1.I (by unfold sQ0 ctS; omega)).trans (c.lt.2.2 k hk').1, (c.lt.2.2 k hk').2⟩⟩
  · exact (k1.I (by unfold sQ0 ctS; omega)).trans (c.ch x hx)
  · exact (k1.I (by unfold sQ0 ctS; omega)).trans c.m0
  · exact (k1.I (by unfold sQ0 ctS; omega)).trans (c.mm k hk').1
  · exact (k1.I (by unfold sQ0 ctS; omega)).trans (c.mm k hk').2
end ASK

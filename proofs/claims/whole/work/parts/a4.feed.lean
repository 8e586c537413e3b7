/-! the tape: feed, and what stays when it is read -/
def tpA (a : AS) (T : TPt) : AS := (T, a.b, a.w, a.q, a.d, a.p, a.W, a.l, a.ch, a.m)
section FEED
variable {K : KT} {G : St} {a : AS} {e : Nat}
theorem OkA.ta (ho : OkA e a) {T : TPt} (hT : T.1 ≤ 1000) : OkA e (tpA a T) := ⟨ho.b5, ho.c4, ho.tb, ho.ds, ho.nm, ho.w30, ho.wb, ho.ro, ho.cl, ho.q4, ho.q3, ho.qu, ho.p4, ho.W1, ho.W5, ho.dn, ho.lt, ho.l20, ho.ch, ho.m40, hT⟩
/-- only the tape, the reader and the drafts are written -/
theorem XI.tape {S : Nat → Nat → Prop} {G1 : St} {T : TPt} (h : XI e sen G a) (hk : Kq S G G1) (hs : ∀ i k, S i k → i = 2 ∨ i = 3 ∨ i = 4 ∨ sR G 1 9 ≤ i ∧ i ≤ sR G 1 9 + 9 ∨ sR G 1 11 ≤ i ∧ i ≤ sR G 1 11 + 2) (hT : XTp G1 T) : XI e sen G1 (tpA a T) := by
  have hL := h.lay
  have hh := lay_h hL
  have ht := lay_t hL
  have c := h.c
  have sx : ∀ i k, S i k → i = 2 ∨ i = 3 ∨ i = 4 ∨ sR G 1 9 ≤ i ∧ i ≤ sR G 1 9 + 9 ∨ sR G 1 11 ≤ i ∧ i ≤ sR G 1 11 + 2 := hs
  have fk : ∀ k, sI G1 1 k = sI G 1 k := fun k => hk.I (fun z => by have := sx _ _ z; omega)
  refine ⟨hk.lay hL, h.rm.kq hk, ⟨hT, ?_, ?_, ?_, ?_, (fk 12).trans c.pe, (fk 13).trans c.wi, c.lt.kq hk (fun i k z => by have := sx _ _ z; omega), c.ch.kq hk (fun i k z => by have := sx _ _ z; omega), (hk.I (fun z => by have := sx _ _ z; omega)).trans c.m0, (hk.I (fun z => by have := sx _ _ z; omega)).trans c.m1, (hk.I (fun z => by have := sx _ _ z; omega)).trans c.m2⟩, fun z => ?_, fun z => ?_, fun z => ?_, fun z => ?_⟩
  · rw [hk.R]; exact c.tb.kq hk (fun i k z => by have := sx _ _ z; omega)
  · rw [hk.R]; exact c.ro.kq hk (fun i k z => by have := sx _ _ z; omega)
  · rw [hk.R]; exact c.hd.kq hk (fun i k z => by have := sx _ _ z; omega)
  · rw [hk.R]; exact c.tq.kq hk (fun i k z => by have := sx _ _ z; omega)
  · rw [fk] at z; exact (h.fh z).kq hk (fun i k z => by have := sx _ _ z; unfold sHt; omega)
  · rw [fk] at z; exact (h.ft z).kq hk (fun i k z => by have := sx _ _ z; unfold sTi; omega)
  · rw [fk] at z; exact (h.fo z).kq hk (fun i k z => by have := sx _ _ z; unfold sOf; omega)
  · rw [fk] at z
    obtain ⟨z1, z2, z3, z4⟩ := h.fs z
    refine ⟨z1, by rw [fk]; exact z2, by rw [fk]; exact z3, ?_⟩
    exact z4.kq hL hk (fun i k z => by have := sx _ _ z; omega)
/-- the model's tape alone, its reading and its drafts -/
theorem MI.tape {S : Nat → Nat → Prop} {G1 : St} {T : TPt} (h : MI G a) (ho : OkA e a) (hk : Kq S G G1) (hs : ∀ i k, S i k → ¬ ((mS i k ∧ i ≠ 67 ∧ ¬ (i = 66 ∧ k = 2)) ∨ sAl i k)) (hT : MTp G1 T) : MI G1 (tpA a T) := by
  have c := h.c
  have i1 : ∀ i k, (mS i k ∧ i ≠ 67 ∧ ¬ (i = 66 ∧ k = 2)) → sI G1 i k = sI G i k := fun i k z => hk.I (fun y => hs i k y (Or.inl z))
  have l1 : ∀ i k, (mS i k ∧ i ≠ 67 ∧ ¬ (i = 66 ∧ k = 2)) → sL G1 i k = sL G i k := fun i k z => hk.L (fun y => hs i k y (Or.inl z))
  have q4 := c.tq.2.1
  refine ⟨⟨hT, ?_, ?_, ?_, ?_, ?_, ?_, ?_, ?_, fun x hx => ?_, ?_, fun k hk' => ⟨?_, ?_⟩⟩, fun z => ?_⟩
  · exact fun k hk' => (l1 71 k (by unfold mS; omega)).trans (c.wo k hk')
  · exact c.tb.kq hk (fun i k z y => hs i k z (Or.inl (by unfold mS; omega)))
  · exact c.ro.kq ho.c4 hk (fun i k z y => hs i k z (Or.inl (by unfold mS; omega)))
  · exact ⟨fun p r hp hr => (i1 83 _ (by unfold mS; omega)).trans (c.hd.1 p r hp hr), c.hd.2⟩
  · exact ⟨(i1 66 20 (by unfold mS; omega)).trans c.tq.1, c.tq.2.1, fun k (hk' : k < a.q.1) => ⟨(i1 79 k (by unfold mS; omega)).trans (c.tq.2.2 k hk').1, (c.tq.2.2 k hk').2.1, (l1 80 k (by unfold mS; omega)).trans (c.tq.2.2 k hk').2.2⟩⟩
  · exact (i1 66 26 (by unfold mS; omega)).trans c.pe
  · exact (i1 66 27 (by unfold mS; omega)).trans c.wi
  · exact ⟨(i1 66 29 (by unfold mS; omega)).trans c.lt.1, c.lt.2.1, fun k hk' => ⟨(i1 84 k (by unfold mS; omega)).trans (c.lt.2.2 k hk').1, (c.lt.2.2 k hk').2⟩⟩
  · exact (i1 99 x (by unfold mS; omega)).trans (c.ch x hx)
  · exact (i1 66 54 (by unfold mS; omega)).trans c.m0
  · exact (i1 101 k (by unfold mS; omega)).trans (c.mm k hk').1
  · exact (i1 102 k (by unfold mS; omega)).trans (c.mm k hk').2
  · rw [hk.I (fun y => hs _ _ y (Or.inr (by unfold sAl; omega)))] at z
    exact (h.fa z).kq hk (fun i k z y => hs i k z (Or.inr (by unfold sAl; omega)))
theorem x_feed {Q : Int32 → St → Prop} {u v w : Int64} (h : XI e sen G a) (hQ : ∀ G', XI e sen G' (tpA a (tLay (tLay (tLay a.T u 8) v 8) w 8)) → (tLay (tLay (tLay a.T u 8) v 8) w 8).1 ≤ 1000 → KX G G' → Q (nI (tLay (tLay (tLay a.T u 8) v 8) w 8).1) G') : EvI K mX11_feed 2 0 [(0, .ref 1), (1, .long u), (3, .long v), (5, .long w)] [] G Q :=
  s_X11_feed h.lay h.c.tp (fun G1 k1 t1 => hQ G1 (h.tape k1.q (fun i k z => by omega) t1) t1.2.1 (k1.q.kx (fun i k z => by omega)))
theorem m_feed {Q : Int32 → St → Prop} {u v w : Int64} (hL : Lay G.2.2) (h : MI G a) (ho : OkA e a) (hQ : ∀ G', Lay G'.2.2 → MI G' (tpA a (tLay (tLay (tLay a.T u 8) v 8) w 8)) → KM G G' → Q (nI (tLay (tLay (tLay a.T u 8) v 8) w 8).1) G') : EvI K mX12_feed 1 0 [(0, .ref 66), (1, .long u), (3, .long v), (5, .long w)] [] G Q := by
  refine s_X12_feed hL h.c.tp (fun G1 k1 s1 s2 t1 => ?_)
  have k2 : Kq (fun i k => i = 66 ∧ (k = 0 ∨ k = 2) ∨ i = 67) G G1 := by
    refine ⟨k1.1, fun i k hi => ?_⟩
    by_cases z : i = 66
    · subst z
      exact ⟨s1 k (fun y => hi (Or.inl ⟨rfl, Or.inr y⟩)) (fun y => hi (Or.inl ⟨rfl, Or.inl y⟩)), by rw [s2]⟩
    · have := k1.2 i (fun y => y.elim z (fun w => hi (Or.inr w)))
      exact ⟨by rw [this.1], by rw [this.2]⟩
  exact hQ G1 (k2.lay hL) (h.tape ho k2 (fun i k z => by unfold mS sAl; omega) t1) (k2.km (fun i k z => by omega))
end FEED

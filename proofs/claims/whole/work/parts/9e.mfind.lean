/-! the model finds all -/
def mS : Nat → Nat → Prop := fun i k => i = 66 ∧ (k = 2 ∨ k = 16 ∨ k = 20 ∨ k = 26 ∨ k = 27 ∨ k = 29 ∨ k = 54) ∨ i = 67 ∨ i = 71 ∨ i = 72 ∧ k = 0 ∨ (i = 73 ∨ i = 74) ∧ k < 5 ∨ (i = 75 ∨ i = 76) ∧ k < 20 ∨ i = 77 ∨ i = 78 ∨ (i = 79 ∨ i = 80) ∧ k < 4 ∨ i = 83 ∨ i = 84 ∨ i = 99 ∨ i = 101 ∨ i = 102
/-- what findAll writes -/
def sAl : Nat → Nat → Prop := fun i k => 86 ≤ i ∧ i ≤ 98 ∨ i = 66 ∧ (k = 15 ∨ k = 37 ∨ k = 38 ∨ k = 43)
section MFIND
variable {K : KT} {G : St} {a : AS} {e : Nat}
theorem MC.kq {S : Nat → Nat → Prop} {G1 : St} (c : MC G a) (h4 : ∀ t, t < a.b.1 → a.b.2.2.1 t ≤ 4) (hk : Kq S G G1) (hs : ∀ i k, S i k → ¬ mS i k) : MC G1 a := by
  have i1 : ∀ i k, mS i k → sI G1 i k = sI G i k := fun i k z => hk.I (fun y => hs i k y z)
  have l1 : ∀ i k, mS i k → sL G1 i k = sL G i k := fun i k z => hk.L (fun y => hs i k y z)
  refine ⟨?_, ?_, ?_, ?_, ?_, ?_, ?_, ?_, ?_, fun x hx => ?_, ?_, fun k hk' => ⟨?_, ?_⟩⟩
  · exact ⟨(i1 66 2 (by unfold mS; omega)).trans c.tp.1, c.tp.2.1, fun j hj => ⟨(i1 67 j (by unfold mS; omega)).trans (c.tp.2.2 j hj).1, (c.tp.2.2 j hj).2⟩⟩
  · exact fun k hk' => (l1 71 k (by unfold mS; omega)).trans (c.wo k hk')
  · exact c.tb.kq hk (fun i k z y => hs i k z (by unfold mS; omega))
  · exact c.ro.kq h4 hk (fun i k z y => hs i k z (by unfold mS; omega))
  · exact ⟨fun p r hp hr => (i1 83 _ (by unfold mS; omega)).trans (c.hd.1 p r hp hr), c.hd.2⟩
  · exact ⟨(i1 66 20 (by unfold mS; omega)).trans c.tq.1, c.tq.2.1, fun k hk' => ⟨(i1 79 k (by have := c.tq.2.1; unfold mS; omega)).trans (c.tq.2.2 k hk').1, (c.tq.2.2 k hk').2.1, (l1 80 k (by have := c.tq.2.1; unfold mS; omega)).trans (c.tq.2.2 k hk').2.2⟩⟩
  · exact (i1 66 26 (by unfold mS; omega)).trans c.pe
  · exact (i1 66 27 (by unfold mS; omega)).trans c.wi
  · exact ⟨(i1 66 29 (by unfold mS; omega)).trans c.lt.1, c.lt.2.1, fun k hk' => ⟨(i1 84 k (by unfold mS; omega)).trans (c.lt.2.2 k hk').1, (c.lt.2.2 k hk').2⟩⟩
  · exact (i1 99 x (by unfold mS; omega)).trans (c.ch x hx)
  · exact (i1 66 54 (by unfold mS; omega)).trans c.m0
  · exact (i1 101 k (by unfold mS; omega)).trans (c.mm k hk').1
  · exact (i1 102 k (by unfold mS; omega)).trans (c.mm k hk').2
theorem MF.kq {S : Nat → Nat → Prop} {G1 : St} (c : MF G a) (hk : Kq S G G1) (hs : ∀ i k, S i k → ¬ (86 ≤ i ∧ i ≤ 98 ∨ i = 66 ∧ (k = 37 ∨ k = 38 ∨ k = 43))) : MF G1 a := by
  have i1 : ∀ i k, (86 ≤ i ∧ i ≤ 98 ∨ i = 66 ∧ (k = 37 ∨ k = 38 ∨ k = 43)) → sI G1 i k = sI G i k := fun i k z => hk.I (fun y => hs i k y z)
  refine ⟨c.ti.kq hk (fun i k z y => hs i k z (by omega)), c.ht.kq hk (fun i k z y => hs i k z (by omega)), (i1 66 37 (by omega)).trans c.se, ⟨⟨(i1 66 38 (by omega)).trans c.or.1.1, fun i s hs' => ⟨(i1 90 i (by omega)).trans (c.or.1.2 i s hs').1, (i1 91 i (by omega)).trans (c.or.1.2 i s hs').2⟩⟩, fun k s hs' => ?_⟩, ?_⟩
  · obtain ⟨j, j1, j2, j3⟩ := c.or.2 k s hs'
    exact ⟨j, j1, (i1 92 k (by omega)).trans j2, j3⟩
  · exact QS_cong c.qs (i1 66 43 (by omega)) (fun j _ => i1 94 j (by omega)) (fun q _ => ⟨i1 95 q (by omega), i1 96 q (by omega), i1 97 q (by omega), i1 98 q (by omega)⟩)
theorem MI.kq {S : Nat → Nat → Prop} {G1 : St} (h : MI G a) (h4 : ∀ t, t < a.b.1 → a.b.2.2.1 t ≤ 4) (hk : Kq S G G1) (hs : ∀ i k, S i k → ¬ (mS i k ∨ sAl i k)) : MI G1 a := by
  refine ⟨h.c.kq h4 hk (fun i k z y => hs i k z (Or.inl y)), fun z => ?_⟩
  rw [hk.I (fun y => hs _ _ y (by unfold sAl; omega))] at z
  exact (h.fa z).kq hk (fun i k z y => hs i k z (by unfold sAl; omega))
theorem MC.ms (c : MC G a) (ho : OkA e a) : MS G a.w.1 a.S := by
  refine ⟨ho.S30, ho.Sn, c.ro.1, ho.w30, a.p, ho.p4, c.pe, fun r hr => ?_⟩
  have := ho.w30
  rw [c.hd.1 a.p r ho.p4 (by omega)]
  unfold AS.S
  rw [seeM_bit]
  cases a.d a.p r <;> simp [hr]
theorem s_findAll {Q : St → Prop} (hL : Lay G.2.2) (h : MI G a) (ho : OkA e a) (hQ : ∀ G', Lay G'.2.2 → MI G' a → MF G' a → Kq sAl G G' → Q G') : EvV K mX12_findAll 5 0 [(0, .ref 66)] [] G Q := by
  refine kX12_findAll_0 hL ⟨fun z => ?_, fun z => hQ G hL h (h.fa z) Kq.rf⟩
  have k0 : Kq sAl G (uI G 66 15 0) := kq_I (by unfold sAl; omega)
  have c0 : MC (uI G 66 15 0) a := h.c.kq ho.c4 k0 (fun i k z => by unfold sAl at z; unfold mS; omega)
  have hL0 := k0.lay hL
  refine s_X12_findTies hL0 (c0.ms ho) c0.tb ho.tb c0.ro ho.ro ho.cl c0.tq ho.qu c0.lt ho.lt (fun G1 k1 t1 p1 s1 => ?_)
  have kk1 : Kq sAl G G1 := k0.tr (k1.mono (fun i k z => by unfold sFt at z; unfold sAl; omega))
  have c1 : MC G1 a := h.c.kq ho.c4 kk1 (fun i k z => by unfold sAl at z; unfold mS; omega)
  have hq4 := ho.q4
  rw [c1.tq.1, shl_one (by omega), nSubR (by exact Nat.one_le_two_pow)]
  show EvV K mX12_findAll 5 33 [(0, .ref 66), (1, .int (nI (2 ^ a.q.1 - 1))), (2, .int 1)] [] (uI G1 66 38 0) Q
  have k2 : Kq sAl G (uI G1 66 38 0) := kk1.sI (by unfold sAl; omega)
  have kx : Kq (fun i k => i = 66 ∧ k = 38) G1 (uI G1 66 38 0) := kq_I ⟨rfl, rfl⟩
  have c2 : MC (uI G1 66 38 0) a := h.c.kq ho.c4 k2 (fun i k z => by unfold sAl at z; unfold mS; omega)
  have t2 : MTi (uI G1 66 38 0) a.f := MTi.kq t1 kx (fun i k z => by omega)
  have p2 : MHt (uI G1 66 38 0) a.P a.q.1 := MHt.kq p1 kx (fun i k z => by omega)
  have s2 : sI (uI G1 66 38 0) 66 37 = nI a.S := by rw [gI, if_neg (by omega)]; exact s1
  refine s_sets (k2.lay hL) t2 ho.f' p2 c2.tq.1 c2.ro.1 ho.w30 c2.wi ho.W5 s2 ho.S30 ho.Sn ho.q4 ho.P1 ho.P2 (by rw [gI, if_pos ⟨rfl, rfl⟩]; rfl) (fun G3 k3 j3 => ?_)
  have kk3 : Kq sAl G G3 := k2.tr (k3.mono (fun i k z => by unfold sFa at z; unfold sAl; omega))
  have j3' : MJs G3 a.f a.P a.q.1 a.J := j3
  refine s_msort (kk3.lay hL) j3' ho.Jl (fun s hs => (ho.oJ.2 s hs).2.2.1) (fun G4 k4 o4 => ?_)
  have kk4 : Kq sAl G G4 := kk3.tr (k4.mono (fun i k z => by unfold sFa at z; unfold sAl; omega))
  have c4 : MC G4 a := h.c.kq ho.c4 kk4 (fun i k z => by unfold sAl at z; unfold mS; omega)
  have p4 : MHt G4 a.P a.q.1 := (p2.kq k3 (fun i k z => by unfold sFa at z; omega)).kq k4 (fun i k z => by unfold sFa at z; omega)
  have t4 : MTi G4 a.f := (t2.kq k3 (fun i k z => by unfold sFa at z; omega)).kq k4 (fun i k z => by unfold sFa at z; omega)
  have s4 : sI G4 66 37 = nI a.S := by rw [k4.I (by unfold sFa; omega), k3.I (by unfold sFa; omega)]; exact s2
  refine s_findQuestions (b := a.b) (kk4.lay hL) o4 ho.Jl ho.b5 ho.c4 c4.ro p4 c4.tq.1 ho.q4 ho.P1 ho.P2 (fun s hs => by
    have := ho.oJ.2 s hs
    exact ⟨by omega, this.2.2.2.1, this.2.2.2.2⟩) (fun G5 k5 m5 => ?_)
  have kk5 : Kq sAl G G5 := kk4.tr (k5.mono (fun i k z => by unfold sFq at z; unfold sAl; omega))
  have c5 : MC G5 a := h.c.kq ho.c4 kk5 (fun i k z => by unfold sAl at z; unfold mS; omega)
  have o5 : MOr G5 a.f a.P a.q.1 a.J := by
    refine ⟨⟨(k5.I (by unfold sFq; omega)).trans o4.1.1, fun i s hs => ⟨(k5.I (by unfold sFq; omega)).trans (o4.1.2 i s hs).1, (k5.I (by unfold sFq; omega)).trans (o4.1.2 i s hs).2⟩⟩, fun k s hs => ?_⟩
    obtain ⟨j, j1, j2, j3⟩ := o4.2 k s hs
    exact ⟨j, j1, (k5.I (by unfold sFq; omega)).trans j2, j3⟩
  have F : MF G5 a := ⟨t4.kq k5 (fun i k z => by unfold sFq at z; omega), p4.kq k5 (fun i k z => by unfold sFq at z; omega), by rw [k5.I (by unfold sFq; omega)]; exact s4, o5, m5⟩
  exact hQ G5 (kk5.lay hL) ⟨c5, fun _ => F⟩ F kk5
end MFIND

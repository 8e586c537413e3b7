/-! the class makes things fresh; the model finds all -/
theorem jl_t {a : AS} (h : a.q.1 ≠ 0) : a.J = jL a.f a.P a.q.1 a.S a.W := by unfold AS.J; rw [if_neg h]
section FRESH
variable {K : KT} {G : St} {a : AS} {e : Nat} {sen : AS → Nat → List Nat}
/-- what is written aside from what is told -/
def frS : Nat → Nat → Prop := fun i k => i = 1 ∧ 15 ≤ k ∨ 5 ≤ i ∧ i ≤ 13 ∨ i = 14 ∧ k = 3 ∨ i = 15 ∨ i = 17 ∨ i = 18 ∨ 19 ≤ i ∧ i ≤ 27 ∨ i = 28 ∧ (k = 9 ∨ k = 10 ∨ k = 12) ∨ 29 ≤ i ∧ i ≤ 34 ∨ i = 37 ∨ i = 38 ∨ 104 ≤ i
def frT : Nat → Nat → Prop := fun i k => i = 18 ∧ (k = 9 ∨ k = 10) ∨ i = 28 ∧ 1 ≤ k ∧ k ≤ 5
theorem XC.fr {G1 : St} (c : XC G a) (hL : Lay G.2.2) (hk : Kg frS frT G G1) : XC G1 a :=
  c.kg hL hk (fun i k z => by have h1 := lay_h hL; have h2 := lay_t hL; unfold frS at z; unfold cS; omega) (fun i k z => by unfold frT at z; omega)
theorem s_seen {Q : Int32 → St → Prop} (hL : Lay G.2.2) (c : XC G a) (ho : OkA e a) (hQ : Q (nI a.S) G) : EvI K mX11_seen 2 0 [(0, .ref 1)] [] G Q := by
  refine kX11_seen_0 hL ?_
  rw [c.pe]
  exact s_X1_seenBy hL (by have := lay_h hL; omega) c.ro c.hd ho.p4 hQ
theorem s_freshenHits {Q : St → Prop} (h : XI e sen G a) (ho : OkA e a) (hQ : ∀ G', XI e sen G' a → Kq (fun i k => sHt i k ∨ i = 1 ∧ k = 16) G G' → sI G' 1 16 ≠ 0 → Q G') : EvV K mX11_freshenHits 5 0 [(0, .ref 1)] [] G Q := by
  have hL := h.lay
  have hh := lay_h hL
  have ht := lay_t hL
  refine kX11_freshenHits_0 hL ⟨fun z => hQ G h Kq.rf z, fun z => s_seen hL h.c ho ?_⟩
  refine s_X0_fill hL (by omega) (by omega) h.c.tb h.c.ro ho.tb ho.cl h.c.tq ho.qu ho.S30 ho.Sn (fun G1 k1 x1 => ?_)
  have k2 : Kq (fun i k => sHt i k ∨ i = 1 ∧ k = 16) G (uI G1 1 16 1) := (k1.mono (fun i k z => Or.inl z)).sI (Or.inr ⟨rfl, rfl⟩)
  have k3 : Kg frS frT G (uI G1 1 16 1) := k2.g.mono (fun i k _ z => by unfold sHt at z; unfold frS; omega) (fun i k _ z => z)
  have e16 : sI (uI G1 1 16 1) 1 16 = 1 := by rw [gI, if_pos ⟨rfl, rfl⟩]
  refine hQ _ ⟨k2.lay hL, h.rm.kq k2, h.c.fr hL k3, fun _ => ?_, fun z => ?_, fun z => ?_, fun z => ?_⟩ k2 (by rw [e16]; decide)
  · exact XHt.kq (S := fun i k => i = 1) x1 (kq_I rfl) (fun i k z => by unfold sHt; omega)
  · rw [k2.I (by unfold sHt; omega)] at z
    exact (h.ft z).kq k2 (fun i k z => by unfold sHt at z; unfold sTi; omega)
  · rw [k2.I (by unfold sHt; omega)] at z
    exact (h.fo z).kq k2 (fun i k z => by unfold sHt at z; unfold sOf; omega)
  · rw [k2.I (by unfold sHt; omega)] at z
    exact absurd (h.fs z).2.1 (fun y => y (by assumption))
theorem s_freshenTies {Q : St → Prop} (h : XI e sen G a) (ho : OkA e a) (hQ : ∀ G', XI e sen G' a → Kq (fun i k => sTi i k ∨ i = 1 ∧ k = 15) G G' → sI G' 1 15 ≠ 0 → Q G') : EvV K mX11_freshenTies 5 0 [(0, .ref 1)] [] G Q := by
  have hL := h.lay
  have hh := lay_h hL
  refine kX11_freshenTies_0 hL ⟨fun z => hQ G h Kq.rf z, fun z => s_seen hL h.c ho ?_⟩
  refine s_X9_fill hL (by omega) h.c.tb h.c.ro ho.tb ho.ro ho.cl ho.S30 h.c.lt ho.lt (fun G1 k1 x1 => ?_)
  have k2 : Kq (fun i k => sTi i k ∨ i = 1 ∧ k = 15) G (uI G1 1 15 1) := (k1.mono (fun i k z => Or.inl z)).sI (Or.inr ⟨rfl, rfl⟩)
  have k3 : Kg frS frT G (uI G1 1 15 1) := k2.g.mono (fun i k _ z => by unfold sTi at z; unfold frS; omega) (fun i k _ z => z)
  have e16 : sI (uI G1 1 15 1) 1 15 = 1 := by rw [gI, if_pos ⟨rfl, rfl⟩]
  refine hQ _ ⟨k2.lay hL, h.rm.kq k2, h.c.fr hL k3, fun z => ?_, fun _ => ?_, fun z => ?_, fun z => ?_⟩ k2 (by rw [e16]; decide)
  · rw [k2.I (by unfold sTi; omega)] at z
    exact (h.fh z).kq k2 (fun i k z => by unfold sTi at z; unfold sHt; omega)
  · exact XTl.kq (S := fun i k => i = 1) x1 (kq_I rfl) (fun i k z => by unfold sTi; omega)
  · rw [k2.I (by unfold sTi; omega)] at z
    exact (h.fo z).kq k2 (fun i k z => by unfold sTi at z; unfold sOf; omega)
  · rw [k2.I (by unfold sTi; omega)] at z
    exact absurd (h.fs z).2.2.1 (fun y => y (by assumption))
theorem XSr.kq {S : Nat → Nat → Prop} {G1 : St} {f P : Nat → Nat → Nat} {t SS W : Nat} (h : XSr G f P t SS W) (hL : Lay G.2.2) (hk : Kq S G G1) (hs : ∀ i k, S i k → ¬ (i = 18 ∨ 19 ≤ i ∧ i ≤ 27 ∨ 104 ≤ i)) : XSr G1 f P t SS W := by
  obtain ⟨h1, h2, h3, h4, h5, h6, h7⟩ := h
  have k18 : ∀ k, sI G1 18 k = sI G 18 k := fun k => hk.I (fun z => hs _ _ z (Or.inl rfl))
  have g10 := (lay_g hL (i := 18) (k := 10) (t := 1) (f := 27) (by decide)).2.1
  refine ⟨(k18 13).trans h1, (k18 14).trans h2, (k18 15).trans h3, (k18 16).trans h4, fun j hj => (hk.I (fun z => hs _ _ z (by omega))).trans (h5 j hj), ⟨(k18 11).trans h6.1, h6.2.1, fun i p hp => ⟨(hk.I (fun z => hs _ _ z (by omega))).trans (h6.2.2 i p hp).1, (hk.I (fun z => hs _ _ z (by omega))).trans (h6.2.2 i p hp).2.1, (h6.2.2 i p hp).2.2⟩⟩, (k18 17).trans h7.1, ?_, fun k s hs' => ?_⟩
  · rw [hk.R, show sN G1 = sN G from congrArg (fun x => x.2.1) hk.1]; exact h7.2.1
  · rw [hk.R, hk.L (fun z => hs _ _ z (by omega))]; exact h7.2.2 k s hs'
theorem XSd.kq {S : Nat → Nat → Prop} {G1 : St} {se : Nat → List Nat} (h : XSd G a se) (hL : Lay G.2.2) (hk : Kq S G G1) (hs : ∀ i k, S i k → ¬ (i = 18 ∨ 19 ≤ i ∧ i ≤ 27 ∨ i = 28 ∧ (k = 9 ∨ k = 10 ∨ k = 12) ∨ 29 ≤ i ∧ i ≤ 34 ∨ i = 37 ∨ 104 ≤ i)) : XSd G1 a se := by
  have g1 := (lay_g hL (i := 28) (k := 1) (t := 0) (f := 30) (by decide)).2.1
  have g2 := (lay_g hL (i := 28) (k := 2) (t := 0) (f := 31) (by decide)).2.1
  have g3 := (lay_g hL (i := 28) (k := 3) (t := 0) (f := 32) (by decide)).2.1
  have g4 := (lay_g hL (i := 28) (k := 4) (t := 0) (f := 33) (by decide)).2.1
  have g5 := (lay_g hL (i := 28) (k := 5) (t := 0) (f := 34) (by decide)).2.1
  have eN : sN G1 = sN G := congrArg (fun x => x.2.1) hk.1
  have i1 : ∀ i k, (i = 18 ∨ 19 ≤ i ∧ i ≤ 27 ∨ i = 28 ∧ (k = 9 ∨ k = 10 ∨ k = 12) ∨ 29 ≤ i ∧ i ≤ 34 ∨ i = 37 ∨ 104 ≤ i) → sI G1 i k = sI G i k := fun i k z => hk.I (fun y => hs _ _ y z)
  refine ⟨h.sr.kq hL hk (fun i k z y => hs i k z (by omega)), ?_, ?_, ?_, fun i hi => ?_, ?_⟩
  · unfold XQ
    simp only [hk.R]
    exact QS_cong h.qs (i1 _ _ (by omega)) (fun j _ => i1 _ _ (by omega)) (fun q _ => ⟨i1 _ _ (by omega), i1 _ _ (by omega), i1 _ _ (by omega), i1 _ _ (by omega)⟩)
  · rw [hk.R, eN]; exact h.n5
  · rw [hk.R, eN]; exact h.n2
  · obtain ⟨q, j, a1, a2, a3⟩ := h.nm i hi
    exact ⟨q, j, a1, a2, by rw [hk.R, i1 _ _ (by omega)]; exact a3⟩
  · rcases h.se with z | ⟨q, a1, a2, a3, a4⟩
    · exact Or.inl ((i1 _ _ (by omega)).trans z)
    · exact Or.inr ⟨q, a1, (i1 _ _ (by omega)).trans a2, (i1 _ _ (by omega)).trans a3, fun i c hc => (i1 _ _ (by omega)).trans (a4 i c hc)⟩
theorem s_freshenOffers {Q : St → Prop} (h : XI e sen G a) (ho : OkA e a) (hQ : ∀ G', XI e sen G' a → Kq (fun i k => sOf i k ∨ i = 1 ∧ k = 17) G G' → XOf G' (ofL a.b a.w a.S 20) → Q G') : EvV K mX11_freshenOffers 6 0 [(0, .ref 1)] [] G Q := by
  have hL := h.lay
  have hh := lay_h hL
  refine kX11_freshenOffers_0 hL ⟨fun z => hQ G h Kq.rf (h.fo z), fun z => s_seen hL h.c ho ?_⟩
  refine s_X2_fill hL (by omega) h.c.tb h.c.ro ho.tb ho.cl ho.S30 (fun G1 k1 x1 => ?_)
  have k2 : Kq (fun i k => sOf i k ∨ i = 1 ∧ k = 17) G (uI G1 1 17 1) := (k1.mono (fun i k z => Or.inl z)).sI (Or.inr ⟨rfl, rfl⟩)
  have k3 : Kg frS frT G (uI G1 1 17 1) := k2.g.mono (fun i k _ z => by unfold sOf at z; unfold frS; omega) (fun i k _ z => z)
  have x2 : XOf (uI G1 1 17 1) (ofL a.b a.w a.S 20) := XOf.kq (S := fun i k => i = 1) x1 (kq_I rfl) (fun i k z => by unfold sOf; omega)
  refine hQ _ ⟨k2.lay hL, h.rm.kq k2, h.c.fr hL k3, fun z => ?_, fun z => ?_, fun _ => x2, fun z => ?_⟩ k2 x2
  · rw [k2.I (by unfold sOf; omega)] at z
    exact (h.fh z).kq k2 (fun i k z => by unfold sOf at z; unfold sHt; omega)
  · rw [k2.I (by unfold sOf; omega)] at z
    exact (h.ft z).kq k2 (fun i k z => by unfold sOf at z; unfold sTi; omega)
  · rw [k2.I (by unfold sOf; omega)] at z
    obtain ⟨z1, z2, z3, z4⟩ := h.fs z
    refine ⟨z1, ?_, ?_, z4.kq hL k2 (fun i k z => by unfold sOf at z; omega)⟩
    · rw [k2.I (by unfold sOf; omega)]; exact z2
    · rw [k2.I (by unfold sOf; omega)]; exact z3
theorem s_searched {Q : Int32 → St → Prop} (h : XI e sen G a) (ho : OkA e a) (hQ0 : a.q.1 = 0 → Q 0 G) (hQ : ∀ G', a.q.1 ≠ 0 → XI e sen G' a → Kg frS frT G G' → sI G' 1 18 ≠ 0 → Q 1 G') : EvIa K mX11_searched 10 0 [(0, .ref 1)] [] G Q := by
  have hL := h.lay
  have hh := lay_h hL
  have ht := lay_t hL
  have hq4 := ho.q4
  refine kX11_searched_0 hL ?_
  rw [h.c.tq.1]
  refine ⟨fun z => ?_, fun z => hQ0 (by rw [show (0 : Int32) = nI 0 from rfl, nEq (by omega) (by decide)] at z; exact z)⟩
  have hq0 : a.q.1 ≠ 0 := fun y => z (by rw [y]; rfl)
  refine ⟨fun y => hQ G hq0 h Kg.rf y, fun y => s_freshenHits h ho (fun G1 h1 k1 f1 => s_freshenTies h1 ho (fun G2 h2 k2 f2 => s_seen h2.lay h2.c ho ?_))⟩
  have f1' : sI G2 1 16 ≠ 0 := by rw [k2.I (by unfold sTi; omega)]; exact f1
  have hL2 := h2.lay
  have h104 : 104 ≤ nx G2 := hL2.2.2.2.1
  have kk : Kq frS G G2 := (k1.mono (fun i k z => by unfold sHt at z; unfold frS; omega)).tr (k2.mono (fun i k z => by unfold sTi at z; unfold frS; omega))
  have hh2 := lay_h hL2
  have ht2 := lay_t hL2
  have hX := h2.ft f2
  have hH := h2.fh f1'
  rw [h2.c.wi, h2.c.tq.1]
  refine s_run hL2 h2.rm ho.f' ho.w30 ho.q4 ho.P1 ho.P2 hX.1 hH ho.S30 ho.W5 (fun G3 hL3 hR3 hk3 hS3 => ⟨hL3, ?_⟩)
  have c3 : XC G3 a := h2.c.fr hL2 (hk3.mono (fun i k _ z => by unfold sRu at z; unfold frS; omega) (fun i k _ z => by unfold tRu at z; unfold frT; omega))
  have hh3 := lay_h hL3
  have ht3 := lay_t hL3
  have hH3 : XHt G3 a.P a.w.1 a.q.1 := hH.kg hL2 hk3 (fun i k z => by unfold sRu at z; unfold sHt; omega)
  have hX3 : XTl G3 a.f := XTl.kq (G1 := mixS G2 G3) hX hk3.toq (fun i k z => by unfold sRu at z; unfold sTi; omega)
  have h104' : 104 ≤ nx G3 := hL3.2.2.2.1
  have eJ := jl_t hq0
  rw [c3.tq.1]
  have hXo : XOr G3 a.f a.P a.q.1 a.J := by rw [eJ]; exact hS3.2.2.2.2.2.2
  refine s_X4_fill hL3 hR3 (by omega) c3.tb c3.ro hH3 ho.q4 ho.P1 ho.P2 hXo ho.oJ (fun k s hs => ho.Om hs) (fun s hs => ho.x31 hs) (fun G4 hL4 hR4 hk4 x1 x2 x3 x4 x5 => ⟨hL4, ?_⟩)
  have i9 := (lay_g hL3 (i := 18) (k := 9) (t := 1) (f := 26) (by decide)).2
  have i10 := (lay_g hL3 (i := 18) (k := 10) (t := 1) (f := 27) (by decide)).2
  have c4 : XC G4 a := c3.fr hL3 (hk4.mono (fun i k _ z => by unfold sQf at z; unfold frS; omega) (fun i k _ z => by unfold tQf at z; unfold frT; omega))
  have hH4 : XHt G4 a.P a.w.1 a.q.1 := hH3.kg hL3 hk4 (fun i k z => by unfold sQf at z; unfold sHt; omega)
  have hX4 : XTl G4 a.f := XTl.kq (G1 := mixS G3 G4) hX3 hk4.toq (fun i k z => by unfold sQf at z; unfold sTi; omega)
  have h104'' : 104 ≤ nx G4 := hL4.2.2.2.1
  have hS4 : XSr G4 a.f a.P a.q.1 a.S a.W := by
    obtain ⟨a1, a2, a3, a4, a5, a6, a7⟩ := hS3
    have k18 : ∀ k, sI G4 18 k = sI G3 18 k := fun k => hk4.I (by omega) (by unfold sQf; omega)
    refine ⟨(k18 13).trans a1, (k18 14).trans a2, (k18 15).trans a3, (k18 16).trans a4, fun j hj => (hk4.I (by omega) (by unfold sQf; omega)).trans (a5 j hj), ⟨(k18 11).trans a6.1, a6.2.1, fun i p hp => ⟨(hk4.I (by omega) (by unfold sQf; omega)).trans (a6.2.2 i p hp).1, (hk4.I (by omega) (by unfold sQf; omega)).trans (a6.2.2 i p hp).2.1, (a6.2.2 i p hp).2.2⟩⟩, ?_⟩
    exact XOr.kg a7 hL3 hk4 (by unfold tQf; omega) (by unfold sQf; omega) (fun k => by unfold sQf; omega)
  have kq5 : Kq (fun i k => i = 1 ∧ k = 18) G4 (uI G4 1 18 1) := kq_I ⟨rfl, rfl⟩
  have kg5 : Kg frS frT G4 (uI G4 1 18 1) := kq5.g.mono (fun i k _ z => by unfold frS; omega) (fun i k _ z => z)
  have kall : Kg frS frT G (uI G4 1 18 1) := kk.g.tr ((hk3.mono (fun i k _ z => by unfold sRu at z; unfold frS; omega) (fun i k _ z => by unfold tRu at z; unfold frT; omega)).tr ((hk4.mono (fun i k _ z => by unfold sQf at z; unfold frS; omega) (fun i k _ z => by unfold tQf at z; unfold frT; omega)).tr kg5))
  have fl : ∀ k, k ≠ 18 → sI (uI G4 1 18 1) 1 k = sI G2 1 k := fun k hk => by
    rw [gI, if_neg (by omega), hk4.I (by omega) (by unfold sQf; omega), hk3.I (by omega) (by unfold sRu; omega)]
  have e18 : sI (uI G4 1 18 1) 1 18 = 1 := by rw [gI, if_pos ⟨rfl, rfl⟩]
  refine hQ _ hq0 ⟨kq5.lay hL4, hR4.kq kq5, c4.fr hL4 kg5, fun _ => ?_, fun _ => ?_, fun z => ?_, fun _ => ⟨hq0, ?_, ?_, ?_⟩⟩ kall (by rw [e18]; decide)
  · exact hH4.kq kq5 (fun i k z => by unfold sHt; omega)
  · exact hX4.kq kq5 (fun i k z => by unfold sTi; omega)
  · rw [fl 17 (by decide)] at z
    have x0 := h2.fo z
    have x1 : XOf G3 (ofL a.b a.w a.S 20) := XOf.kq (G1 := mixS G2 G3) x0 hk3.toq (fun i k z => by unfold sRu at z; unfold sOf; omega)
    have x2 : XOf G4 (ofL a.b a.w a.S 20) := XOf.kq (G1 := mixS G3 G4) x1 hk4.toq (fun i k z => by unfold sQf at z; unfold sOf; omega)
    exact x2.kq kq5 (fun i k z => by unfold sOf; omega)
  · rw [fl 16 (by decide)]; exact f1'
  · rw [fl 15 (by decide)]; exact f2
  · have : XSd G4 a (sen a) := ⟨hS4, x1, x2, x3, x4, Or.inl x5⟩
    exact this.kq hL4 kq5 (fun i k z => by omega)
end FRESH

/-! both objects: what is told, and what each of them holds -/
abbrev AS : Type := (TPt) × (TBt) × (RWt) × (TQt) × (Nat → Nat → Bool) × (Nat) × (Nat) × (LTt) × (Nat → Nat) × (Nat × (Nat → Bool) × (Nat → Bool))
abbrev AS.T (a : AS) : TPt := a.1
abbrev AS.b (a : AS) : TBt := a.2.1
abbrev AS.w (a : AS) : RWt := a.2.2.1
abbrev AS.q (a : AS) : TQt := a.2.2.2.1
abbrev AS.d (a : AS) : Nat → Nat → Bool := a.2.2.2.2.1
abbrev AS.p (a : AS) : Nat := a.2.2.2.2.2.1
abbrev AS.W (a : AS) : Nat := a.2.2.2.2.2.2.1
abbrev AS.l (a : AS) : LTt := a.2.2.2.2.2.2.2.1
abbrev AS.ch (a : AS) : Nat → Nat := a.2.2.2.2.2.2.2.2.1
abbrev AS.m (a : AS) : Nat × (Nat → Bool) × (Nat → Bool) := a.2.2.2.2.2.2.2.2.2
def AS.S (a : AS) : Nat := seeM a.w.1 a.d a.p
def AS.f (a : AS) : Nat → Nat → Nat := fTi a.b a.w a.S a.l
def AS.P (a : AS) : Nat → Nat → Nat := PR a.b a.w a.S a.q
noncomputable def AS.J (a : AS) : List Nat := if a.q.1 = 0 then [] else jL a.f a.P a.q.1 a.S a.W
noncomputable def AS.O (a : AS) : List Nat := ol a.J (tpr a.f a.P a.q.1) 64
noncomputable def AS.xc (a : AS) : Nat → Nat := oC (xC a.w.2.1 a.P a.q.1) a.O
noncomputable def AS.mc (a : AS) : Nat → Nat := oC (mC a.w.2.1 a.P a.q.1) a.O
/-- what holds of all that is told -/
def OkA (e : Nat) (a : AS) : Prop := (a.b.1 ≤ 5) ∧ (∀ t, t < a.b.1 → a.b.2.2.1 t ≤ 4) ∧ (okTb a.b) ∧ (dsN a.b) ∧ (∀ t, t < a.b.1 → ∃ n, a.b.2.1 t = lN n ∧ gw n) ∧ (a.w.1 ≤ 30) ∧ (∀ r, r < a.w.1 → a.w.2.1 r < a.b.1) ∧ (okRw a.b a.w) ∧ (okC a.b a.w) ∧ (a.q.1 ≤ 4) ∧ (∀ k, k < a.q.1 → a.q.2.1 k ≤ 3) ∧ (okQ a.q) ∧ (a.p < 4) ∧ (1 ≤ a.W) ∧ (a.W ≤ 5) ∧ (∀ p r, a.w.1 ≤ r → a.d p r = false) ∧ (okLt a.b a.l) ∧ (a.l.1 ≤ 20) ∧ (∀ x, a.ch x ≤ e) ∧ (a.m.1 ≤ 40) ∧ (a.T.1 ≤ 1000)
theorem OkA.b5 {e : Nat} {a : AS} (h : OkA e a) : a.b.1 ≤ 5 := h.1
theorem OkA.c4 {e : Nat} {a : AS} (h : OkA e a) : ∀ t, t < a.b.1 → a.b.2.2.1 t ≤ 4 := h.2.1
theorem OkA.tb {e : Nat} {a : AS} (h : OkA e a) : okTb a.b := h.2.2.1
theorem OkA.ds {e : Nat} {a : AS} (h : OkA e a) : dsN a.b := h.2.2.2.1
theorem OkA.nm {e : Nat} {a : AS} (h : OkA e a) : ∀ t, t < a.b.1 → ∃ n, a.b.2.1 t = lN n ∧ gw n := h.2.2.2.2.1
theorem OkA.w30 {e : Nat} {a : AS} (h : OkA e a) : a.w.1 ≤ 30 := h.2.2.2.2.2.1
theorem OkA.wb {e : Nat} {a : AS} (h : OkA e a) : ∀ r, r < a.w.1 → a.w.2.1 r < a.b.1 := h.2.2.2.2.2.2.1
theorem OkA.ro {e : Nat} {a : AS} (h : OkA e a) : okRw a.b a.w := h.2.2.2.2.2.2.2.1
theorem OkA.cl {e : Nat} {a : AS} (h : OkA e a) : okC a.b a.w := h.2.2.2.2.2.2.2.2.1
theorem OkA.q4 {e : Nat} {a : AS} (h : OkA e a) : a.q.1 ≤ 4 := h.2.2.2.2.2.2.2.2.2.1
theorem OkA.q3 {e : Nat} {a : AS} (h : OkA e a) : ∀ k, k < a.q.1 → a.q.2.1 k ≤ 3 := h.2.2.2.2.2.2.2.2.2.2.1
theorem OkA.qu {e : Nat} {a : AS} (h : OkA e a) : okQ a.q := h.2.2.2.2.2.2.2.2.2.2.2.1
theorem OkA.p4 {e : Nat} {a : AS} (h : OkA e a) : a.p < 4 := h.2.2.2.2.2.2.2.2.2.2.2.2.1
theorem OkA.W1 {e : Nat} {a : AS} (h : OkA e a) : 1 ≤ a.W := h.2.2.2.2.2.2.2.2.2.2.2.2.2.1
theorem OkA.W5 {e : Nat} {a : AS} (h : OkA e a) : a.W ≤ 5 := h.2.2.2.2.2.2.2.2.2.2.2.2.2.2.1
theorem OkA.dn {e : Nat} {a : AS} (h : OkA e a) : ∀ p r, a.w.1 ≤ r → a.d p r = false := h.2.2.2.2.2.2.2.2.2.2.2.2.2.2.2.1
theorem OkA.lt {e : Nat} {a : AS} (h : OkA e a) : okLt a.b a.l := h.2.2.2.2.2.2.2.2.2.2.2.2.2.2.2.2.1
theorem OkA.l20 {e : Nat} {a : AS} (h : OkA e a) : a.l.1 ≤ 20 := h.2.2.2.2.2.2.2.2.2.2.2.2.2.2.2.2.2.1
theorem OkA.ch {e : Nat} {a : AS} (h : OkA e a) : ∀ x, a.ch x ≤ e := h.2.2.2.2.2.2.2.2.2.2.2.2.2.2.2.2.2.2.1
theorem OkA.m40 {e : Nat} {a : AS} (h : OkA e a) : a.m.1 ≤ 40 := h.2.2.2.2.2.2.2.2.2.2.2.2.2.2.2.2.2.2.2.1
theorem OkA.tp {e : Nat} {a : AS} (h : OkA e a) : a.T.1 ≤ 1000 := h.2.2.2.2.2.2.2.2.2.2.2.2.2.2.2.2.2.2.2.2
/-- tables alone, in sixes and in eights -/
def sx (y : Nat) : Nat := y % 6 + 8 * (y / 6 % 6) + 64 * (y / 36 % 6) + 512 * (y / 216 % 6) + 4096 * (y / 1296)
def yL : List Nat := vL.map vN
def XCh (G : St) (ch : Nat → Nat) : Prop := ∃ L : List Nat, L.Nodup ∧ (∀ y, y ∈ L → y ∈ yL ∧ y ≠ 0) ∧ sI G 28 11 = nI L.length ∧ (∀ i y : Nat, L[i]? = some y → sI G 35 i = nI (sx y) ∧ sI G 36 i = nI (ch y)) ∧ ∀ y, y ∉ L → ch y = 0
/-- what the class holds of it -/
def XC (G : St) (a : AS) : Prop := (XTp G a.T) ∧ (XTb G (sR G 1 8) a.b) ∧ (XRw G (sR G 1 8) a.b a.w) ∧ (XHd G (sR G 1 8) a.w.1 a.d) ∧ (XTq G (sR G 1 10) a.q) ∧ (sI G 1 12 = nI a.p) ∧ (sI G 1 13 = nI a.W) ∧ (XLt G a.l) ∧ (XCh G a.ch) ∧ (sI G 65 0 = nI a.m.1) ∧ (sI G 65 1 = nI (fb_ct a.m.2.1 a.m.1)) ∧ (sI G 65 2 = nI (fb_ct a.m.2.2 a.m.1))
theorem XC.tp {G : St} {a : AS} (h : XC G a) : XTp G a.T := h.1
theorem XC.tb {G : St} {a : AS} (h : XC G a) : XTb G (sR G 1 8) a.b := h.2.1
theorem XC.ro {G : St} {a : AS} (h : XC G a) : XRw G (sR G 1 8) a.b a.w := h.2.2.1
theorem XC.hd {G : St} {a : AS} (h : XC G a) : XHd G (sR G 1 8) a.w.1 a.d := h.2.2.2.1
theorem XC.tq {G : St} {a : AS} (h : XC G a) : XTq G (sR G 1 10) a.q := h.2.2.2.2.1
theorem XC.pe {G : St} {a : AS} (h : XC G a) : sI G 1 12 = nI a.p := h.2.2.2.2.2.1
theorem XC.wi {G : St} {a : AS} (h : XC G a) : sI G 1 13 = nI a.W := h.2.2.2.2.2.2.1
theorem XC.lt {G : St} {a : AS} (h : XC G a) : XLt G a.l := h.2.2.2.2.2.2.2.1
theorem XC.ch {G : St} {a : AS} (h : XC G a) : XCh G a.ch := h.2.2.2.2.2.2.2.2.1
theorem XC.m0 {G : St} {a : AS} (h : XC G a) : sI G 65 0 = nI a.m.1 := h.2.2.2.2.2.2.2.2.2.1
theorem XC.m1 {G : St} {a : AS} (h : XC G a) : sI G 65 1 = nI (fb_ct a.m.2.1 a.m.1) := h.2.2.2.2.2.2.2.2.2.2.1
theorem XC.m2 {G : St} {a : AS} (h : XC G a) : sI G 65 2 = nI (fb_ct a.m.2.2 a.m.1) := h.2.2.2.2.2.2.2.2.2.2.2
def cS (h t : Nat) : Nat → Nat → Prop := fun i k => i = 2 ∧ k = 2 ∨ i = 3 ∨ i = 1 ∧ (k = 12 ∨ k = 13) ∨ h ≤ i ∧ i ≤ h + 9 ∨ t ≤ i ∧ i ≤ t + 2 ∨ i = 14 ∧ k = 4 ∨ i = 16 ∨ i = 65 ∨ i = 28 ∧ k = 11 ∨ i = 35 ∨ i = 36
theorem XLt.kq {S : Nat → Nat → Prop} {G G1 : St} {l : LTt} (h : XLt G l) (hk : Kq S G G1) (hs : ∀ i k, S i k → ¬ (i = 14 ∧ k = 4 ∨ i = 16)) : XLt G1 l :=
  ⟨(hk.I (fun z => hs _ _ z (Or.inl ⟨rfl, rfl⟩))).trans h.1, h.2.1, fun k hk' => ⟨(hk.I (fun z => hs _ _ z (Or.inr rfl))).trans (h.2.2 k hk').1, (h.2.2 k hk').2⟩⟩
theorem XCh.kq {S : Nat → Nat → Prop} {G G1 : St} {ch : Nat → Nat} (h : XCh G ch) (hk : Kq S G G1) (hs : ∀ i k, S i k → ¬ (i = 28 ∧ k = 11 ∨ i = 35 ∨ i = 36)) : XCh G1 ch := by
  obtain ⟨L, h1, h2, h3, h4, h5⟩ := h
  exact ⟨L, h1, h2, (hk.I (fun z => hs _ _ z (Or.inl ⟨rfl, rfl⟩))).trans h3, fun i y hy => ⟨(hk.I (fun z => hs _ _ z (Or.inr (Or.inl rfl)))).trans (h4 i y hy).1, (hk.I (fun z => hs _ _ z (Or.inr (Or.inr rfl)))).trans (h4 i y hy).2⟩, h5⟩
theorem XOf.kq {S : Nat → Nat → Prop} {G G1 : St} {L : List Nat} (h : XOf G L) (hk : Kq S G G1) (hs : ∀ i k, S i k → ¬ sOf i k) : XOf G1 L :=
  ⟨(hk.I (fun z => hs _ _ z (Or.inl ⟨rfl, rfl⟩))).trans h.1, fun i c hc => (hk.I (fun z => hs _ _ z (Or.inr (Or.inl rfl)))).trans (h.2 i c hc)⟩
theorem lay_h {G : St} (h : Lay G.2.2) : (sR G 1 8 = 39 ∧ sR G 1 9 = 49) ∨ (sR G 1 8 = 49 ∧ sR G 1 9 = 39) := h.2.2.2.2.1
theorem lay_t {G : St} (h : Lay G.2.2) : (sR G 1 10 = 59 ∧ sR G 1 11 = 62) ∨ (sR G 1 10 = 62 ∧ sR G 1 11 = 59) := h.2.2.2.2.2.1
theorem XC.kg {S T : Nat → Nat → Prop} {G G1 : St} {a : AS} (c : XC G a) (hL : Lay G.2.2) (hk : Kg S T G G1) (hS : ∀ i k, S i k → ¬ cS (sR G 1 8) (sR G 1 10) i k) (hT : ∀ i k, T i k → i ≠ 1) : XC G1 a := by
  have h104 : 104 ≤ nx G := hL.2.2.2.1
  have hh := lay_h hL
  have ht := lay_t hL
  have e8 : sR G1 1 8 = sR G 1 8 := hk.R (by omega) (fun z => hT _ _ z rfl)
  have e10 : sR G1 1 10 = sR G 1 10 := hk.R (by omega) (fun z => hT _ _ z rfl)
  have q := hk.toq
  have hS' : ∀ i k, (S i k ∨ nx G ≤ i) → ¬ cS (sR G 1 8) (sR G 1 10) i k := fun i k z => by
    rcases z with z | z
    · exact hS i k z
    · unfold cS; omega
  generalize hH : sR G 1 8 = h at *
  generalize hTT : sR G 1 10 = t at *
  have i1 : ∀ i k, cS h t i k → sI G1 i k = sI G i k := fun i k z => q.I (fun y => hS' i k y z)
  refine ⟨?_, ?_, ?_, ?_, ?_, ?_, ?_, ?_, ?_, ?_, ?_, ?_⟩
  · exact XTp.kq (G1 := mixS G G1) c.tp q (fun i k z y => hS' i k z (by unfold cS; omega))
  · rw [e8]; exact XTb.kq (G1 := mixS G G1) (hH ▸ c.tb) q (fun i k z y => hS' i k z (by unfold cS; omega))
  · rw [e8]; exact XRw.kq (G1 := mixS G G1) (hH ▸ c.ro) q (fun i k z y => hS' i k z (by unfold cS; omega))
  · rw [e8]; exact XHd.kq (G1 := mixS G G1) (hH ▸ c.hd) q (fun i k z y => hS' i k z (by unfold cS; omega))
  · rw [e10]; exact XTq.kq (G1 := mixS G G1) (hTT ▸ c.tq) q (fun i k z y => hS' i k z (by unfold cS; omega))
  · exact (i1 1 12 (by unfold cS; omega)).trans c.pe
  · exact (i1 1 13 (by unfold cS; omega)).trans c.wi
  · exact XLt.kq (G1 := mixS G G1) c.lt q (fun i k z y => hS' i k z (by unfold cS; omega))
  · exact XCh.kq (G1 := mixS G G1) c.ch q (fun i k z y => hS' i k z (by unfold cS; omega))
  · exact (i1 65 0 (by unfold cS; omega)).trans c.m0
  · exact (i1 65 1 (by unfold cS; omega)).trans c.m1
  · exact (i1 65 2 (by unfold cS; omega)).trans c.m2
/-- the sentence that was told last; sen says what the signs of a question are -/
def XSe (G : St) (sen : Nat → List Nat) (n : Nat) : Prop := sI G 28 10 = -1 ∨ ∃ q, q < n ∧ sI G 28 10 = nI q ∧ sI G 28 9 = nI (sen q).length ∧ ∀ i c : Nat, (sen q)[i]? = some c → sI G 37 i = nI c
/-- what was searched -/
def XSd (G : St) (a : AS) (sen : Nat → List Nat) : Prop := (XSr G a.f a.P a.q.1 a.S a.W) ∧ (XQ G a.xc a.J.length a.J.length) ∧ (a.J.length ≤ sN G (sR G 28 5)) ∧ ((fL a.xc a.J.length).length ≤ sN G (sR G 28 2)) ∧ (XNm G a.xc a.J.length a.J.length) ∧ (XSe G sen (fL a.xc a.J.length).length)
theorem XSd.sr {G : St} {a : AS} {sen : Nat → List Nat} (h : XSd G a sen) : XSr G a.f a.P a.q.1 a.S a.W := h.1
theorem XSd.qs {G : St} {a : AS} {sen : Nat → List Nat} (h : XSd G a sen) : XQ G a.xc a.J.length a.J.length := h.2.1
theorem XSd.n5 {G : St} {a : AS} {sen : Nat → List Nat} (h : XSd G a sen) : a.J.length ≤ sN G (sR G 28 5) := h.2.2.1
theorem XSd.n2 {G : St} {a : AS} {sen : Nat → List Nat} (h : XSd G a sen) : (fL a.xc a.J.length).length ≤ sN G (sR G 28 2) := h.2.2.2.1
theorem XSd.nm {G : St} {a : AS} {sen : Nat → List Nat} (h : XSd G a sen) : XNm G a.xc a.J.length a.J.length := h.2.2.2.2.1
theorem XSd.se {G : St} {a : AS} {sen : Nat → List Nat} (h : XSd G a sen) : XSe G sen (fL a.xc a.J.length).length := h.2.2.2.2.2
/-- the class -/
def XI (e : Nat) (sen : AS → Nat → List Nat) (G : St) (a : AS) : Prop := (Lay G.2.2) ∧ (Rm e G) ∧ (XC G a) ∧ (sI G 1 16 ≠ 0 → XHt G a.P a.w.1 a.q.1) ∧ (sI G 1 15 ≠ 0 → XTl G a.f) ∧ (sI G 1 17 ≠ 0 → XOf G (ofL a.b a.w a.S 20)) ∧ (sI G 1 18 ≠ 0 → a.q.1 ≠ 0 ∧ sI G 1 16 ≠ 0 ∧ sI G 1 15 ≠ 0 ∧ XSd G a (sen a))
theorem XI.lay {e : Nat} {sen : AS → Nat → List Nat} {G : St} {a : AS} (h : XI e sen G a) : Lay G.2.2 := h.1
theorem XI.rm {e : Nat} {sen : AS → Nat → List Nat} {G : St} {a : AS} (h : XI e sen G a) : Rm e G := h.2.1
theorem XI.c {e : Nat} {sen : AS → Nat → List Nat} {G : St} {a : AS} (h : XI e sen G a) : XC G a := h.2.2.1
theorem XI.fh {e : Nat} {sen : AS → Nat → List Nat} {G : St} {a : AS} (h : XI e sen G a) : sI G 1 16 ≠ 0 → XHt G a.P a.w.1 a.q.1 := h.2.2.2.1
theorem XI.ft {e : Nat} {sen : AS → Nat → List Nat} {G : St} {a : AS} (h : XI e sen G a) : sI G 1 15 ≠ 0 → XTl G a.f := h.2.2.2.2.1
theorem XI.fo {e : Nat} {sen : AS → Nat → List Nat} {G : St} {a : AS} (h : XI e sen G a) : sI G 1 17 ≠ 0 → XOf G (ofL a.b a.w a.S 20) := h.2.2.2.2.2.1
theorem XI.fs {e : Nat} {sen : AS → Nat → List Nat} {G : St} {a : AS} (h : XI e sen G a) : sI G 1 18 ≠ 0 → a.q.1 ≠ 0 ∧ sI G 1 16 ≠ 0 ∧ sI G 1 15 ≠ 0 ∧ XSd G a (sen a) := h.2.2.2.2.2.2
/-- the model -/
def MC (G : St) (a : AS) : Prop := (MTp G a.T) ∧ (MWd G) ∧ (MTb G 0 a.b) ∧ (MRw G a.b a.w) ∧ (MHd G a.w.1 a.d) ∧ (MTq G a.q) ∧ (sI G 66 26 = nI a.p) ∧ (sI G 66 27 = nI a.W) ∧ (MLt G a.l) ∧ (∀ x, x < 7776 → sI G 99 x = nI (a.ch x)) ∧ (sI G 66 54 = nI a.m.1) ∧ (∀ k, k < a.m.1 → (sI G 101 k = if a.m.2.1 k = true then 1 else 0) ∧ sI G 102 k = if a.m.2.2 k = true then 1 else 0)
theorem MC.tp {G : St} {a : AS} (h : MC G a) : MTp G a.T := h.1
theorem MC.wo {G : St} {a : AS} (h : MC G a) : MWd G := h.2.1
theorem MC.tb {G : St} {a : AS} (h : MC G a) : MTb G 0 a.b := h.2.2.1
theorem MC.ro {G : St} {a : AS} (h : MC G a) : MRw G a.b a.w := h.2.2.2.1
theorem MC.hd {G : St} {a : AS} (h : MC G a) : MHd G a.w.1 a.d := h.2.2.2.2.1
theorem MC.tq {G : St} {a : AS} (h : MC G a) : MTq G a.q := h.2.2.2.2.2.1
theorem MC.pe {G : St} {a : AS} (h : MC G a) : sI G 66 26 = nI a.p := h.2.2.2.2.2.2.1
theorem MC.wi {G : St} {a : AS} (h : MC G a) : sI G 66 27 = nI a.W := h.2.2.2.2.2.2.2.1
theorem MC.lt {G : St} {a : AS} (h : MC G a) : MLt G a.l := h.2.2.2.2.2.2.2.2.1
theorem MC.ch {G : St} {a : AS} (h : MC G a) : ∀ x, x < 7776 → sI G 99 x = nI (a.ch x) := h.2.2.2.2.2.2.2.2.2.1
theorem MC.m0 {G : St} {a : AS} (h : MC G a) : sI G 66 54 = nI a.m.1 := h.2.2.2.2.2.2.2.2.2.2.1
theorem MC.mm {G : St} {a : AS} (h : MC G a) : ∀ k, k < a.m.1 → (sI G 101 k = if a.m.2.1 k = true then 1 else 0) ∧ sI G 102 k = if a.m.2.2 k = true then 1 else 0 := h.2.2.2.2.2.2.2.2.2.2.2
def MF (G : St) (a : AS) : Prop := (MTi G a.f) ∧ (MHt G a.P a.q.1) ∧ (sI G 66 37 = nI a.S) ∧ (MOr G a.f a.P a.q.1 a.J) ∧ (MQn G a.mc a.J.length a.J.length)
theorem MF.ti {G : St} {a : AS} (h : MF G a) : MTi G a.f := h.1
theorem MF.ht {G : St} {a : AS} (h : MF G a) : MHt G a.P a.q.1 := h.2.1
theorem MF.se {G : St} {a : AS} (h : MF G a) : sI G 66 37 = nI a.S := h.2.2.1
theorem MF.or {G : St} {a : AS} (h : MF G a) : MOr G a.f a.P a.q.1 a.J := h.2.2.2.1
theorem MF.qs {G : St} {a : AS} (h : MF G a) : MQn G a.mc a.J.length a.J.length := h.2.2.2.2
def MI (G : St) (a : AS) : Prop := (MC G a) ∧ (sI G 66 15 = 0 → MF G a)
theorem MI.c {G : St} {a : AS} (h : MI G a) : MC G a := h.1
theorem MI.fa {G : St} {a : AS} (h : MI G a) : sI G 66 15 = 0 → MF G a := h.2
section INV
variable {e : Nat} {a : AS}
theorem OkA.S30 (h : OkA e a) : a.S < 1073741824 := seeM_lt h.w30
theorem OkA.Sn (h : OkA e a) : ∀ r, a.S.testBit r = true → r < a.w.1 := fun r hr => by
  unfold AS.S at hr
  rw [seeM_bit] at hr
  simp at hr; exact hr.1
theorem OkA.f' (h : OkA e a) : okF a.f := fTi_ok h.ro h.w30 h.lt
theorem OkA.P1 (_ : OkA e a) : ∀ k r, a.P k r ≤ 4 ∨ a.P k r = 9 := fun k r => PR_le _ _ _ _ k r
theorem OkA.P2 (h : OkA e a) : ∀ k r, a.w.1 ≤ r → a.P k r = 9 := fun k r hr => by
  unfold AS.P PR
  rw [if_neg]
  intro z
  have := h.Sn r z
  omega
theorem OkA.J1 (h : OkA e a) {s : Nat} (hs : s ∈ a.J) : okJ a.f a.P a.q.1 s ∧ sb s a.S ∧ pc s ≤ a.W ∧ jqF a.f a.P a.q.1 s = true := by
  unfold AS.J at hs
  split at hs
  · cases hs
  · exact jL_ok h.S30 h.W5 hs
theorem OkA.Jl (h : OkA e a) : a.J.length ≤ 174436 := by
  unfold AS.J
  split
  · exact Nat.zero_le _
  · exact jL_len h.W5
theorem OkA.oJ (h : OkA e a) : okO a.f a.P a.q.1 a.w.1 a.J := by
  refine ⟨h.Jl, fun s hs => ?_⟩
  obtain ⟨h1, h2, -, -⟩ := h.J1 hs
  have := tpr_le h.f' h.q4 h.P1 h1
  exact ⟨h1.1, this.1, this.2, h1, fun r hr => h.Sn r (h2 r hr)⟩
theorem OkA.Ol (h : OkA e a) : a.O.length = a.J.length := okO_len h.oJ
theorem ol_in {J : List Nat} {c : Nat → Nat} : ∀ {n s}, s ∈ ol J c n → s ∈ J
  | 0, s, h => by cases h
  | n + 1, s, h => by
    rw [ol] at h
    rcases List.mem_append.mp h with z | z
    · exact ol_in z
    · exact (List.mem_filter.mp z).1
theorem OkA.Om (_ : OkA e a) {k s : Nat} (hk : a.O[k]? = some s) : s ∈ a.J := ol_in (getE_mem hk)
theorem OkA.x31 (h : OkA e a) {s : Nat} (hs : s ∈ a.J) : xC a.w.2.1 a.P a.q.1 s < 2147483648 := by
  obtain ⟨hj, -, -, -⟩ := h.J1 hs
  have cn5 : ∀ u, cnS a.w.2.1 s u ≤ 5 := fun u => Nat.le_trans cnS_le hj.2.2.1
  have hsc := shC_lt cn5
  have hq4 := h.q4
  have e : shT (tnS a.w.2.1 a.P s) a.q.1 = shT (fun j => if j < a.q.1 then tnS a.w.2.1 a.P s j else 0) a.q.1 := by
    have : ∀ j, j ≤ a.q.1 → shT (tnS a.w.2.1 a.P s) j = shT (fun j => if j < a.q.1 then tnS a.w.2.1 a.P s j else 0) j := by
      intro j
      induction j with
      | zero => intro _; rfl
      | succ j ihj => intro hj'; rw [shT, shT, ihj (by omega), if_pos (by omega)]
    exact this _ (Nat.le_refl _)
  have := (shT_lt (tn := fun j => if j < a.q.1 then tnS a.w.2.1 a.P s j else 0) (fun j => by
    split
    · have := (okJ_tn (b := a.b) h.P1 h.P2 h.wb h.b5 hj (show j < a.q.1 by assumption)).1; omega
    · decide) a.q.1).1
  have p : 2 ^ (15 + 3 * a.q.1) ≤ 2 ^ 27 := Nat.pow_le_pow_right (by decide) (by omega)
  unfold xC
  rw [e]
  omega
/-- both codes say the same -/
theorem OkA.cc (h : OkA e a) {i j : Nat} (hi : i < a.J.length) (hj : j < a.J.length) : a.xc i = a.xc j ↔ a.mc i = a.mc j := by
  have hl := h.Ol
  have g : ∀ k, k < a.J.length → okJ a.f a.P a.q.1 (a.O.getD k 0) := fun k hk => (h.J1 (h.Om (getD_lt (l := a.O) (q := k) (by omega)))).1
  have gi := g i hi
  have gj := g j hj
  have cn : ∀ s, okJ a.f a.P a.q.1 s → ∀ u, cnS a.w.2.1 s u ≤ 5 := fun s hs u => Nat.le_trans cnS_le hs.2.2.1
  have tn : ∀ s, okJ a.f a.P a.q.1 s → ∀ k, k < a.q.1 → tnS a.w.2.1 a.P s k < 5 := fun s hs k hk => (okJ_tn (b := a.b) h.P1 h.P2 h.wb h.b5 hs hk).1
  show xC _ _ _ _ = xC _ _ _ _ ↔ mC _ _ _ _ = mC _ _ _ _
  unfold xC mC
  rw [sh_x h.q4 (cn _ gi) (cn _ gj) (tn _ gi) (tn _ gj), sh_m h.q4 (cn _ gi) (cn _ gj) (tn _ gi) (tn _ gj)]
theorem OkA.fl (h : OkA e a) {n : Nat} (hn : n ≤ a.J.length) : fL a.xc n = fL a.mc n := fL_cong (fun i j hi hj => h.cc (by omega) (by omega))
theorem OkA.cqe (h : OkA e a) {n j : Nat} (hn : n ≤ a.J.length) (hj : j < a.J.length) : cQ a.xc n j = cQ a.mc n j := by
  unfold cQ
  have : ∀ m, m ≤ n → fb_ct (fun i => a.xc i == a.xc j) m = fb_ct (fun i => a.mc i == a.mc j) m := by
    intro m
    induction m with
    | zero => intro _; rfl
    | succ m ih =>
      intro hm
      rw [fb_ct, fb_ct, ih (by omega)]
      congr 1
      have := h.cc (i := m) (j := j) (by omega) hj
      simp only [beq_iff_eq]
      by_cases hx : a.xc m = a.xc j
      · rw [if_pos hx, if_pos (this.mp hx)]
      · rw [if_neg hx, if_neg (fun z => hx (this.mpr z))]
  exact this n (Nat.le_refl _)
end INV

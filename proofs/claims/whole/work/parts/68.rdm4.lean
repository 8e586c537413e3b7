theorem nDec {a : Nat} (h : 1 ≤ a) : nI a + (-1) = nI (a - 1) := by
  have := pk_sub h
  rw [← this, Int32.sub_eq_add_neg]
  rfl
theorem nOf_kth {rt : Nat → Nat} {k v : Nat} : ∀ {n : Nat}, v < nOf rt k n → ∃ r, r < n ∧ rt r = k ∧ nOf rt k r = v
  | 0, h => absurd h (Nat.not_lt_zero v)
  | n + 1, h => by
    rw [nOf] at h
    by_cases q : v < nOf rt k n
    · obtain ⟨r, a, b⟩ := nOf_kth q
      exact ⟨r, by omega, b⟩
    · by_cases e : rt n = k
      · rw [if_pos e] at h
        exact ⟨n, by omega, e, by omega⟩
      · rw [if_neg e] at h; omega
theorem nOf_step (rt : Nat → Nat) (k : Nat) {r n : Nat} (h : r < n) (e : rt r = k) : nOf rt k r < nOf rt k n := by
  have hm : ∀ d, nOf rt k (r + 1) ≤ nOf rt k (r + 1 + d) := by
    intro d
    induction d with
    | zero => exact Nat.le_refl _
    | succ d ih =>
      have e : nOf rt k (r + 1 + (d + 1)) = nOf rt k (r + 1 + d) + if rt (r + 1 + d) = k then 1 else 0 := rfl
      omega
  have h1 := hm (n - (r + 1))
  rw [show r + 1 + (n - (r + 1)) = n by omega, nOf, if_pos e] at h1
  omega
theorem fR_lt {w : RWt} {k v : Nat} : fR w k v < w.1 ↔ v < nOf w.2.1 k w.1 := by
  constructor
  · intro h
    have := fa_first_yes (fun r => w.2.1 r == k && nOf w.2.1 k r == v) w.1 h
    simp at this
    have h2 := nOf_step w.2.1 k h this.1
    rw [show nOf w.2.1 k (fR w k v) = v from this.2] at h2
    exact h2
  · intro h
    obtain ⟨r, a, b, c⟩ := nOf_kth h
    rcases Nat.lt_or_ge (fR w k v) w.1 with q | q
    · exact q
    · have := fa_first_no (fun r => w.2.1 r == k && nOf w.2.1 k r == v) w.1 r (show r < fR w k v by omega)
      simp [b, c] at this
section RDM4
variable {K : KT} {G G1 : St} {t N i f n0 : Nat} {b : TBt} {w : RWt} {q : TQt} {T : TPt} {S : Nat → Nat → Prop}
/-- the rows as they are being read -/
def MRr (G : St) (b : TBt) (w : RWt) : Prop := sI G 66 17 = nI w.1 ∧ w.1 ≤ 30 ∧ ∀ r, r < w.1 → w.2.1 r < b.1 ∧ sI G 77 r = nI (w.2.1 r) ∧ ∀ c, c < b.2.2.1 (w.2.1 r) → sL G 78 (4 * r + c) = w.2.2 r c
def MCs (G : St) (n c : Nat) (cs : Nat → Int64) : Prop := ∀ j, j < c → sL G 78 (4 * n + j) = cs j
theorem MTb.z (hb : MTb G 0 b) : sI G 72 0 = nI b.1 ∧ ∀ t, t < b.1 → sL G 73 t = b.2.1 t ∧ sI G 74 t = nI (b.2.2.1 t) ∧ b.2.2.1 t ≤ 4 ∧ ∀ c, c < b.2.2.1 t → sL G 75 (4 * t + c) = b.2.2.2.1 t c ∧ sI G 76 (4 * t + c) = nI (b.2.2.2.2 t c) := by
  have := hb.2.2
  simp only [Nat.mul_zero, Nat.zero_add] at this
  exact ⟨hb.1, this⟩
theorem MRr.kq (hw : MRr G b w) (h4 : ∀ u, u < b.1 → b.2.2.1 u ≤ 4) (hk : Kq S G G1) (hs : ∀ i k, S i k → ¬ (i = 66 ∧ k = 17 ∨ i = 77 ∧ k < w.1 ∨ i = 78 ∧ k < 4 * w.1)) : MRr G1 b w := by
  obtain ⟨h1, h2, h3⟩ := hw
  refine ⟨(hk.I (fun z => hs _ _ z (by omega))).trans h1, h2, fun r hr => ?_⟩
  obtain ⟨a1, a2, a3⟩ := h3 r hr
  have := h4 _ a1
  exact ⟨a1, (hk.I (fun z => hs _ _ z (by omega))).trans a2, fun c hc => (hk.L (fun z => hs _ _ z (by omega))).trans (a3 c hc)⟩
theorem MRw.kq (hw : MRw G b w) (h4 : ∀ u, u < b.1 → b.2.2.1 u ≤ 4) (hk : Kq S G G1) (hs : ∀ i k, S i k → ¬ (i = 66 ∧ k = 16 ∨ i = 77 ∧ k < w.1 ∨ i = 78 ∧ k < 4 * w.1)) : MRw G1 b w := by
  obtain ⟨h1, h2, h3⟩ := hw
  refine ⟨(hk.I (fun z => hs _ _ z (by omega))).trans h1, h2, fun r hr => ?_⟩
  obtain ⟨a1, a2, a3⟩ := h3 r hr
  have := h4 _ a1
  exact ⟨a1, (hk.I (fun z => hs _ _ z (by omega))).trans a2, fun c hc => (hk.L (fun z => hs _ _ z (by omega))).trans (a3 c hc)⟩
theorem s_X12_rowsOf {Q : Int32 → St → Prop} {k : Nat} (hL : Lay G.2.2) (hw : MRr G b w) (hb5 : b.1 ≤ 5) (hk : k < 5) (hQ : Q (nI (nOf w.2.1 k w.1)) G) : EvI K mX12_rowsOf 0 0 [(0, .ref 66), (1, .int (nI k))] [] G Q := by
  obtain ⟨h1, h2, h3⟩ := hw
  refine kX12_rowsOf_0 hL ?_
  have key : ∀ m r, r + m = w.1 → EvI K mX12_rowsOf 0 4 [(0, .ref 66), (1, .int (nI k)), (2, .int (nI (nOf w.2.1 k r))), (3, .int (nI r))] [] G Q := by
    intro m
    induction m with
    | zero =>
      intro r hr
      refine kX12_rowsOf_4 hL ?_
      try simp (disch := omega) only [nLe, nLeR, nLeL, nLt, nLtR, nLtL, nEq, nEqR, nEqL, nClamp, nClampR, nAdd, nAddR, nAddL, nSub, nSubR, nMul, nMulR, nMulL, nDivR, vIn, vInR, iteZ, iteP, lEq, lEqR, forall_eq, forall_const, true_implies, false_implies, not_true_eq_false, not_false_eq_true, true_and, and_true, implies_true, Decidable.not_not, Nat.le_refl, h1]
      refine ⟨fun _ => ?_, fun z => by omega⟩
      rw [show r = w.1 by omega]; exact hQ
    | succ m ih =>
      intro r hr
      obtain ⟨a1, a2, -⟩ := h3 r (by omega)
      refine kX12_rowsOf_4 hL ?_
      try simp (disch := omega) only [nLe, nLeR, nLeL, nLt, nLtR, nLtL, nEq, nEqR, nEqL, nClamp, nClampR, nAdd, nAddR, nAddL, nSub, nSubR, nMul, nMulR, nMulL, nDivR, vIn, vInR, iteZ, iteP, lEq, lEqR, forall_eq, forall_const, true_implies, false_implies, not_true_eq_false, not_false_eq_true, true_and, and_true, implies_true, Decidable.not_not, Nat.le_refl, h1, a2]
      refine ⟨fun z => by omega, fun _ => ⟨by omega, fun z => kX12_rowsOf_28 hL ?_, fun z => kX12_rowsOf_28 hL ?_⟩⟩
      · try simp (disch := omega) only [nLe, nLeR, nLeL, nLt, nLtR, nLtL, nEq, nEqR, nEqL, nClamp, nClampR, nAdd, nAddR, nAddL, nSub, nSubR, nMul, nMulR, nMulL, nDivR, vIn, vInR, iteZ, iteP, lEq, lEqR, forall_eq, forall_const, true_implies, false_implies, not_true_eq_false, not_false_eq_true, true_and, and_true, implies_true, Decidable.not_not, Nat.le_refl]
        have := ih (r + 1) (by omega)
        rw [nOf, if_neg z] at this
        exact this
      · try simp (disch := omega) only [nLe, nLeR, nLeL, nLt, nLtR, nLtL, nEq, nEqR, nEqL, nClamp, nClampR, nAdd, nAddR, nAddL, nSub, nSubR, nMul, nMulR, nMulL, nDivR, vIn, vInR, iteZ, iteP, lEq, lEqR, forall_eq, forall_const, true_implies, false_implies, not_true_eq_false, not_false_eq_true, true_and, and_true, implies_true, Decidable.not_not, Nat.le_refl]
        have := ih (r + 1) (by omega)
        rw [nOf, if_pos z] at this
        exact this
  exact key w.1 0 (by omega)
theorem s_X12_rowAt {Q : Int32 → St → Prop} {k v : Nat} (hL : Lay G.2.2) (hw : MRr G b w) (hb5 : b.1 ≤ 5) (hk : k < 5) (hv : fR w k v < w.1) (hv2 : v < 10000) (hQ : Q (nI (fR w k v)) G) : EvI K mX12_rowAt 0 0 [(0, .ref 66), (1, .int (nI k)), (2, .int (nI v))] [] G Q := by
  obtain ⟨h1, h2, h3⟩ := hw
  refine kX12_rowAt_0 hL ?_
  have hy := fa_first_yes (fun r => w.2.1 r == k && nOf w.2.1 k r == v) w.1 hv
  have hy2 : (w.2.1 (fR w k v) == k && nOf w.2.1 k (fR w k v) == v) = true := hy
  have hy : w.2.1 (fR w k v) = k ∧ nOf w.2.1 k (fR w k v) = v := by simpa using hy2
  have key : ∀ m r, r + m = fR w k v → nOf w.2.1 k r ≤ v → EvI K mX12_rowAt 0 5 [(0, .ref 66), (1, .int (nI k)), (3, .int (nI (v - nOf w.2.1 k r))), (4, .int (nI r))] [] G Q := by
    intro m
    induction m with
    | zero =>
      intro r hr hn
      obtain ⟨a1, a2, -⟩ := h3 r (by omega)
      have e : r = fR w k v := by omega
      rw [← e] at hy hQ
      refine kX12_rowAt_5 hL ?_
      try simp (disch := omega) only [nLe, nLeR, nLeL, nLt, nLtR, nLtL, nEq, nEqR, nEqL, nClamp, nClampR, nAdd, nAddR, nAddL, nSub, nSubR, nMul, nMulR, nMulL, nDivR, vIn, vInR, iteZ, iteP, lEq, lEqR, forall_eq, forall_const, true_implies, false_implies, not_true_eq_false, not_false_eq_true, true_and, and_true, implies_true, Decidable.not_not, Nat.le_refl, h1, a2]
      exact ⟨fun z => by omega, fun _ => ⟨by omega, fun z => absurd hy.1 z, fun _ => ⟨fun z => by omega, fun _ => hQ⟩⟩⟩
    | succ m ih =>
      intro r hr hn
      obtain ⟨a1, a2, -⟩ := h3 r (by omega)
      have hstep : w.2.1 r = k → nOf w.2.1 k r < v := by
        intro e
        have := nOf_step w.2.1 k (show r < fR w k v by omega) e
        omega
      refine kX12_rowAt_5 hL ?_
      try simp (disch := omega) only [nLe, nLeR, nLeL, nLt, nLtR, nLtL, nEq, nEqR, nEqL, nClamp, nClampR, nAdd, nAddR, nAddL, nSub, nSubR, nMul, nMulR, nMulL, nDivR, vIn, vInR, iteZ, iteP, lEq, lEqR, forall_eq, forall_const, true_implies, false_implies, not_true_eq_false, not_false_eq_true, true_and, and_true, implies_true, Decidable.not_not, Nat.le_refl, h1, a2]
      refine ⟨fun z => by omega, fun _ => ⟨by omega, fun z => kX12_rowAt_35 hL ?_, fun z => ⟨fun z2 => kX12_rowAt_35 hL ?_, fun z2 => ?_⟩⟩⟩
      · try simp (disch := omega) only [nLe, nLeR, nLeL, nLt, nLtR, nLtL, nEq, nEqR, nEqL, nClamp, nClampR, nAdd, nAddR, nAddL, nSub, nSubR, nMul, nMulR, nMulL, nDivR, vIn, vInR, iteZ, iteP, lEq, lEqR, forall_eq, forall_const, true_implies, false_implies, not_true_eq_false, not_false_eq_true, true_and, and_true, implies_true, Decidable.not_not, Nat.le_refl]
        have := ih (r + 1) (by omega) (by rw [nOf, if_neg z]; omega)
        rw [nOf, if_neg z] at this
        exact this
      · have hs := hstep z
        rw [nDec (by omega)]
        try simp (disch := omega) only [nLe, nLeR, nLeL, nLt, nLtR, nLtL, nEq, nEqR, nEqL, nClamp, nClampR, nAdd, nAddR, nAddL, nSub, nSubR, nMul, nMulR, nMulL, nDivR, vIn, vInR, iteZ, iteP, lEq, lEqR, forall_eq, forall_const, true_implies, false_implies, not_true_eq_false, not_false_eq_true, true_and, and_true, implies_true, Decidable.not_not, Nat.le_refl]
        have := ih (r + 1) (by omega) (by rw [nOf, if_pos z]; omega)
        rw [nOf, if_pos z, show v - (nOf w.2.1 k r + 1) = v - nOf w.2.1 k r - 1 by omega] at this
        exact this
      · have := hstep z
        omega
  have := key (fR w k v) 0 (by omega) (Nat.zero_le _)
  exact this
def sMr (n : Nat) : Nat → Nat → Prop := fun i k => i = 66 ∧ (k = 7 ∨ k = 8 ∨ k = 17) ∨ i = 77 ∧ n ≤ k ∨ i = 78 ∧ 4 * n ≤ k
theorem s_X12_readCell {Q : St → Prop} {c : Nat} {cs : Nat → Int64} (hL : Lay G.2.2) (hA : MAt G T N i 0) (hb : MTb G 0 b) (hob : okTb b) (ht : t < b.1) (hc : c < b.2.2.1 t) (hw : MRr G b w) (h30 : w.1 < 30) (hn0 : n0 ≤ w.1) (hcs : MCs G w.1 c cs) (hQ : ∀ G', Kq (sMr n0) G G' → MAt G' T N (rdCell T b w t c i).2.2 (rdCell T b w t c i).1 → MRr G' b w → ((rdCell T b w t c i).1 = 0 → MCs G' w.1 (c + 1) (fun d => if d = c then (rdCell T b w t c i).2.1 else cs d)) → Q G') : EvV K mX12_readCell 1 0 [(0, .ref 66), (1, .int (nI t)), (2, .int (nI c))] [] G Q := by
  have hb5 := hb.2.1
  obtain ⟨m1, m2, m3, m4⟩ := hb.z.2 t ht
  have hk6 := hob t c ht hc
  have hi := hA.lt
  have hcc : ∀ u, u < b.1 → b.2.2.1 u ≤ 4 := fun u hu => (hb.2.2 u hu).2.2.1
  have h4t := tk_4 (T := T) i
  -- a value is put, the token passed
  have fin : ∀ v : Int64, rdCell T b w t c i = (0, v, i + 1) → (tk T i).1 ≠ 0 → EvV K mX12_readCell 1 192 [(0, .ref 66)] [] (uL G 78 (4 * w.1 + c) v) Q := by
    intro v e hne
    rw [e] at hQ
    have k1 : Kq (fun i k => i = 78 ∧ 4 * w.1 ≤ k) G (uL G 78 (4 * w.1 + c) v) := kq_L ⟨rfl, by omega⟩
    have A1 := hA.kq k1 (fun i k z => by omega)
    refine kX12_readCell_192 (k1.lay hL) ?_
    try simp (disch := omega) only [nLe, nLeR, nLeL, nLt, nLtR, nLtL, nEq, nEqR, nEqL, nClamp, nClampR, nAdd, nAddR, nAddL, nSub, nSubR, nMul, nMulR, nMulL, nDivR, vIn, vInR, iteZ, iteP, lEq, lEqR, forall_eq, forall_const, true_implies, false_implies, not_true_eq_false, not_false_eq_true, true_and, and_true, implies_true, Decidable.not_not, Nat.le_refl, A1.f0, A1.2.2.1]
    have k2 : Kq (fun i k => i = 66 ∧ k = 7) (uL G 78 (4 * w.1 + c) v) (uI (uL G 78 (4 * w.1 + c) v) 66 7 (nI (i + 1))) := kq_I ⟨rfl, rfl⟩
    refine hQ _ ((k1.mono (fun i k z => by unfold sMr; omega)).tr (k2.mono (fun i k z => by unfold sMr; omega))) (A1.go k2 (by (simp [gI, gL, gIL, gLI] <;> try rfl)) hne) ((hw.kq hcc k1 (fun i k z => by omega)).kq hcc k2 (fun i k z => by omega)) (fun _ j hj => ?_)
    by_cases e : j = c
    · (simp [gI, gL, gIL, gLI, e] <;> try rfl)
    · (simp [gI, gL, gIL, gLI, e] <;> try rfl)
      exact hcs j (by omega)
  -- a fault, with something put or not
  have bad : ∀ (x : Nat) (G1 : St), x ≤ 5 → 0 < x → rdCell T b w t c i = (fx T i x, 0, i) → Kq (sMr n0) G G1 → MRr G1 b w → MAt G1 T N i (fx T i x) → EvV K mX12_readCell 1 192 [(0, .ref 66)] [] G1 Q := by
    intro x G1 hx hx0 e k1 w1 A1
    rw [e] at hQ
    have hlt := A1.flt
    have h0 := fx_pos (T := T) (i := i) hx0
    refine kX12_readCell_192 (k1.lay hL) ?_
    try simp (disch := omega) only [nLe, nLeR, nLeL, nLt, nLtR, nLtL, nEq, nEqR, nEqL, nClamp, nClampR, nAdd, nAddR, nAddL, nSub, nSubR, nMul, nMulR, nMulL, nDivR, vIn, vInR, iteZ, iteP, lEq, lEqR, forall_eq, forall_const, true_implies, false_implies, not_true_eq_false, not_false_eq_true, true_and, and_true, implies_true, Decidable.not_not, Nat.le_refl, A1.f0, A1.2.2.1]
    refine ⟨fun _ => ?_, fun z => absurd z h0⟩
    have k2 : Kq (fun i k => i = 66 ∧ k = 7) G1 (uI G1 66 7 (nI (i + 0))) := kq_I ⟨rfl, rfl⟩
    refine hQ _ (k1.tr (k2.mono (fun i k z => by unfold sMr; omega))) ?_ (w1.kq hcc k2 (fun i k z => by omega)) (fun z => absurd z h0)
    obtain ⟨a, b, cc, d, e, g⟩ := A1
    exact ⟨a.kq k2 (fun i k z => by omega), b.kq k2 (fun i k z => by omega), by (simp [gI, gL, gIL, gLI] <;> try rfl), d, by (simp [gI, gL, gIL, gLI, e] <;> try rfl), g⟩
  have put : ∀ (x : Nat) (G1 : St) (v : Int64), x ≤ 5 → 0 < x → rdCell T b w t c i = (fx T i x, 0, i) → Kq (fun i k => i = 66 ∧ k = 8) G G1 → MAt G1 T N i (fx T i x) → EvV K mX12_readCell 1 192 [(0, .ref 66)] [] (uL G1 78 (4 * w.1 + c) v) Q := by
    intro x G1 v hx hx0 e k1 A1
    have k2 : Kq (fun i k => i = 78 ∧ 4 * w.1 ≤ k) G1 (uL G1 78 (4 * w.1 + c) v) := kq_L ⟨rfl, by omega⟩
    exact bad x _ hx hx0 e ((k1.mono (fun i k z => by unfold sMr; omega)).tr (k2.mono (fun i k z => by unfold sMr; omega))) ((hw.kq hcc k1 (fun i k z => by omega)).kq hcc k2 (fun i k z => by omega)) (A1.kq k2 (fun i k z => by omega))
  refine kX12_readCell_0 hL ?_
  try simp (disch := omega) only [nLe, nLeR, nLeL, nLt, nLtR, nLtL, nEq, nEqR, nEqL, nClamp, nClampR, nAdd, nAddR, nAddL, nSub, nSubR, nMul, nMulR, nMulL, nDivR, vIn, vInR, iteZ, iteP, lEq, lEqR, forall_eq, forall_const, true_implies, false_implies, not_true_eq_false, not_false_eq_true, true_and, and_true, implies_true, Decidable.not_not, Nat.le_refl, (m4 c hc).2, hw.1, hA.2.2.1, hA.tok.1]
  refine ⟨by omega, fun k5 => ⟨fun k6 => s_X12_isWord (x := 3) hL hA (by decide) ?_, fun k6 => ⟨by omega, fun z => ?_, fun z => ?_⟩⟩, fun k5 => s_X12_isName hL hA ?_⟩
  · -- a key
    rw [show mw 3 = 286880 from rfl]
    try simp (disch := omega) only [nLe, nLeR, nLeL, nLt, nLtR, nLtL, nEq, nEqR, nEqL, nClamp, nClampR, nAdd, nAddR, nAddL, nSub, nSubR, nMul, nMulR, nMulL, nDivR, vIn, vInR, iteZ, iteP, lEq, lEqR, forall_eq, forall_const, true_implies, false_implies, not_true_eq_false, not_false_eq_true, true_and, and_true, implies_true, Decidable.not_not, Nat.le_refl, hA.2.2.1, hA.tok.1]
    refine ⟨fun zw => ⟨by omega, fun z2 => ⟨by omega, s_X12_rowsOf hL hw hb5 (by omega) ?_⟩, fun z2 => s_X12_wrong (x := 1) hL hA (by decide) (fun G1 k1 A1 => ?_)⟩, fun zw => ⟨by omega, fin _ (by simp [rdCell, k5, k6, zw]) (by rw [isW_k zw]; decide)⟩⟩
    · have hv := tk_v (G := G) (T := T) (i := i) hA.1.2.2.2.2.1 (by omega)
      have hvn := hv.2.2.1 z2
      have hno := nOf_le w.2.1 (b.2.2.2.2 t c) w.1
      have hw30 := hw.2.1
      rw [hA.v (by omega) (by omega)]
      try simp (disch := omega) only [nLe, nLeR, nLeL, nLt, nLtR, nLtL, nEq, nEqR, nEqL, nClamp, nClampR, nAdd, nAddR, nAddL, nSub, nSubR, nMul, nMulR, nMulL, nDivR, vIn, vInR, iteZ, iteP, lEq, lEqR, forall_eq, forall_const, true_implies, false_implies, not_true_eq_false, not_false_eq_true, true_and, and_true, implies_true, Decidable.not_not, Nat.le_refl, nI_l, hA.2.2.1]
      rw [hA.v (by omega) (by omega)]
      unfold vl
      rw [lN_i, pk_lLT (by omega) (by omega)]
      refine ⟨fun z3 => ⟨by omega, ?_⟩, fun z3 => s_X12_wrong (x := 4) hL hA (by decide) (fun G1 k1 A1 => ?_)⟩
      · have hf := fR_lt.mpr z3
        refine s_X12_rowAt hL hw hb5 (by omega) hf hvn ?_
        try simp (disch := omega) only [nLe, nLeR, nLeL, nLt, nLtR, nLtL, nEq, nEqR, nEqL, nClamp, nClampR, nAdd, nAddR, nAddL, nSub, nSubR, nMul, nMulR, nMulL, nDivR, vIn, vInR, iteZ, iteP, lEq, lEqR, forall_eq, forall_const, true_implies, false_implies, not_true_eq_false, not_false_eq_true, true_and, and_true, implies_true, Decidable.not_not, Nat.le_refl, nI_l]
        exact ⟨by omega, fin _ (by simp [rdCell, k5, k6, zw, z2, hf]) (by omega)⟩
      · rw [if_pos rfl] at A1
        have hf : ¬ fR w (b.2.2.2.2 t c) (tk T i).2.2.1 < w.1 := fun y => z3 (fR_lt.mp y)
        exact bad 4 G1 (by decide) (by decide) (by simp [rdCell, k5, k6, zw, z2, hf]) (k1.mono (fun i k z => by unfold sMr; omega)) (hw.kq hcc k1 (fun i k z => by omega)) A1
    · rw [if_pos rfl] at A1
      exact bad 1 G1 (by decide) (by decide) (by simp [rdCell, k5, k6, zw, z2]) (k1.mono (fun i k z => by unfold sMr; omega)) (hw.kq hcc k1 (fun i k z => by omega)) A1
  · refine kX12_readCell_81 hL ?_
    try simp (disch := omega) only [nLe, nLeR, nLeL, nLt, nLtR, nLtL, nEq, nEqR, nEqL, nClamp, nClampR, nAdd, nAddR, nAddL, nSub, nSubR, nMul, nMulR, nMulL, nDivR, vIn, vInR, iteZ, iteP, lEq, lEqR, forall_eq, forall_const, true_implies, false_implies, not_true_eq_false, not_false_eq_true, true_and, and_true, implies_true, Decidable.not_not, Nat.le_refl, hA.2.2.1]
    rw [hA.v (by omega) (by omega)]
    exact ⟨by omega, by omega, fin _ (by simp [rdCell, k6, z]) (by omega)⟩
  · refine s_X12_wrong (x := 1) hL hA (by decide) (fun G1 k1 A1 => kX12_readCell_81 (k1.lay hL) ?_)
    rw [if_pos rfl] at A1
    try simp (disch := omega) only [nLe, nLeR, nLeL, nLt, nLtR, nLtL, nEq, nEqR, nEqL, nClamp, nClampR, nAdd, nAddR, nAddL, nSub, nSubR, nMul, nMulR, nMulL, nDivR, vIn, vInR, iteZ, iteP, lEq, lEqR, forall_eq, forall_const, true_implies, false_implies, not_true_eq_false, not_false_eq_true, true_and, and_true, implies_true, Decidable.not_not, Nat.le_refl, A1.2.2.1]
    exact ⟨by omega, by omega, put 1 G1 _ (by decide) (by decide) (by simp [rdCell, k5, k6, z]) k1 A1⟩
  · try simp (disch := omega) only [nLe, nLeR, nLeL, nLt, nLtR, nLtL, nEq, nEqR, nEqL, nClamp, nClampR, nAdd, nAddR, nAddL, nSub, nSubR, nMul, nMulR, nMulL, nDivR, vIn, vInR, iteZ, iteP, lEq, lEqR, forall_eq, forall_const, true_implies, false_implies, not_true_eq_false, not_false_eq_true, true_and, and_true, implies_true, Decidable.not_not, Nat.le_refl]
    refine ⟨fun z => kX12_readCell_38 hL ?_, fun z => s_X12_wrong (x := 1) hL hA (by decide) (fun G1 k1 A1 => kX12_readCell_38 (k1.lay hL) ?_)⟩
    · try simp (disch := omega) only [nLe, nLeR, nLeL, nLt, nLtR, nLtL, nEq, nEqR, nEqL, nClamp, nClampR, nAdd, nAddR, nAddL, nSub, nSubR, nMul, nMulR, nMulL, nDivR, vIn, vInR, iteZ, iteP, lEq, lEqR, forall_eq, forall_const, true_implies, false_implies, not_true_eq_false, not_false_eq_true, true_and, and_true, implies_true, Decidable.not_not, Nat.le_refl, hA.2.2.1]
      rw [hA.v (by rw [tk_1 z]; decide) (by rw [tk_1 z]; decide)]
      exact ⟨by omega, by omega, fin _ (by simp [rdCell, k5, z]) (by rw [tk_1 z]; decide)⟩
    · rw [if_pos rfl] at A1
      try simp (disch := omega) only [nLe, nLeR, nLeL, nLt, nLtR, nLtL, nEq, nEqR, nEqL, nClamp, nClampR, nAdd, nAddR, nAddL, nSub, nSubR, nMul, nMulR, nMulL, nDivR, vIn, vInR, iteZ, iteP, lEq, lEqR, forall_eq, forall_const, true_implies, false_implies, not_true_eq_false, not_false_eq_true, true_and, and_true, implies_true, Decidable.not_not, Nat.le_refl, A1.2.2.1]
      exact ⟨by omega, by omega, put 1 G1 _ (by decide) (by decide) (by simp [rdCell, k5, z]) k1 A1⟩
theorem s_X12_readRow {Q : St → Prop} (hL : Lay G.2.2) (hA : MAt G T N i 0) (hb : MTb G 0 b) (hd : dsN b) (hob : okTb b) (hw : MRr G b w) (hn0 : n0 ≤ w.1) (hQ : ∀ G', Kq (sMr n0) G G' → MAt G' T N (rdRow T b w i).2.2 (rdRow T b w i).1 → MRr G' b (rdRow T b w i).2.1 → Q G') : EvV K mX12_readRow 2 0 [(0, .ref 66)] [] G Q := by
  have hb5 := hb.2.1
  have hw30 := hw.2.1
  have t1000 := hA.1.2.2.2.2.2
  have hcc : ∀ u, u < b.1 → b.2.2.1 u ≤ 4 := fun u hu => (hb.2.2 u hu).2.2.1
  have stop : ∀ (x : Int32) (k : Nat), k ≤ 5 → 0 < k → rdRow T b w i = (fx T i k, w, i) → EvV K mX12_wrong 0 0 [(0, .ref 66), (1, .int (nI k))] [] G (fun G1 => EvV K mX12_readRow 2 58 [(0, .ref 66), (1, .int x)] [] G1 Q) := by
    intro x k hk hk0 e
    rw [e] at hQ
    refine s_X12_wrong hL hA hk (fun G1 k1 A1 => kX12_readRow_58 (k1.lay hL) ?_)
    rw [if_pos rfl] at A1
    have hlt := A1.flt
    have h0 := fx_pos (T := T) (i := i) hk0
    try simp (disch := omega) only [nLe, nLeR, nLeL, nLt, nLtR, nLtL, nEq, nEqR, nEqL, nClamp, nClampR, nAdd, nAddR, nAddL, nSub, nSubR, nMul, nMulR, nMulL, nDivR, vIn, vInR, iteZ, iteP, lEq, lEqR, forall_eq, forall_const, true_implies, false_implies, not_true_eq_false, not_false_eq_true, true_and, and_true, implies_true, Decidable.not_not, Nat.le_refl, A1.f0]
    exact ⟨fun z => by omega, fun _ => hQ G1 (k1.mono (fun i k z => by unfold sMr; omega)) A1 (hw.kq hcc k1 (fun i k z => by omega))⟩
  have f16 : ∀ x : Int32, (isN (tk T i) = true → x = if fT b (vl T i) < b.1 then nI (fT b (vl T i)) else -1) → EvV K mX12_readRow 2 16 [(0, .ref 66)] [.int x] G Q := by
    intro x hx
    refine kX12_readRow_16 hL (s_X12_isName hL hA ?_)
    try simp (disch := omega) only [nLe, nLeR, nLeL, nLt, nLtR, nLtL, nEq, nEqR, nEqL, nClamp, nClampR, nAdd, nAddR, nAddL, nSub, nSubR, nMul, nMulR, nMulL, nDivR, vIn, vInR, iteZ, iteP, lEq, lEqR, forall_eq, forall_const, true_implies, false_implies, not_true_eq_false, not_false_eq_true, true_and, and_true, implies_true, Decidable.not_not, Nat.le_refl, hw.1]
    refine ⟨fun hn => ?_, fun hn => stop x 1 (by decide) (by decide) ?_⟩
    case refine_2 =>
      have e : rdName T b i = fx T i 1 := by simp [rdName, hn]
      have e0 := fx_pos (T := T) (i := i) (w := 1) (by decide)
      simp [rdRow, e, e0]
    rw [hx hn]
    by_cases hf : fT b (vl T i) < b.1
    · rw [if_pos hf]
      have hne : (tk T i).1 ≠ 0 := by rw [tk_1 hn]; decide
      have en : rdName T b i = 0 := by simp [rdName, hn, hf]
      try simp (disch := omega) only [nLe, nLeR, nLeL, nLt, nLtR, nLtL, nEq, nEqR, nEqL, nClamp, nClampR, nAdd, nAddR, nAddL, nSub, nSubR, nMul, nMulR, nMulL, nDivR, vIn, vInR, iteZ, iteP, lEq, lEqR, forall_eq, forall_const, true_implies, false_implies, not_true_eq_false, not_false_eq_true, true_and, and_true, implies_true, Decidable.not_not, Nat.le_refl]
      refine ⟨fun _ => ⟨fun h30 => kX12_readRow_58 hL ?_, fun h30 => stop _ 5 (by decide) (by decide) ?_⟩, fun z => by omega⟩
      · try simp (disch := omega) only [nLe, nLeR, nLeL, nLt, nLtR, nLtL, nEq, nEqR, nEqL, nClamp, nClampR, nAdd, nAddR, nAddL, nSub, nSubR, nMul, nMulR, nMulL, nDivR, vIn, vInR, iteZ, iteP, lEq, lEqR, forall_eq, forall_const, true_implies, false_implies, not_true_eq_false, not_false_eq_true, true_and, and_true, implies_true, Decidable.not_not, Nat.le_refl, hA.f0, hA.2.2.1]
        have k1 : Kq (fun i k => i = 66 ∧ k = 7) G (uI G 66 7 (nI (i + 1))) := kq_I ⟨rfl, rfl⟩
        have A1 := hA.go k1 (by (simp [gI, gL, gIL, gLI] <;> try rfl)) hne
        have kk1 : Kq (sMr n0) G (uI G 66 7 (nI (i + 1))) := k1.mono (fun i k z => by unfold sMr; omega)
        have b1 := hb.kq k1 (fun i k z => by omega)
        have w1 := hw.kq hcc k1 (fun i k z => by omega)
        generalize uI G 66 7 (nI (i + 1)) = G1 at *
        have hL1 := kk1.lay hL
        generalize htt : fT b (vl T i) = tt at *
        have hrow : rdRow T b w i = if (rdCs T b w tt (i + 1)).1 ≠ 0 then ((rdCs T b w tt (i + 1)).1, w, (rdCs T b w tt (i + 1)).2.2) else if isS (tk T (rdCs T b w tt (i + 1)).2.2) 59 = true then (0, addR w tt (rdCs T b w tt (i + 1)).2.1, (rdCs T b w tt (i + 1)).2.2 + 1) else (fx T (rdCs T b w tt (i + 1)).2.2 1, w, (rdCs T b w tt (i + 1)).2.2) := by
          conv => lhs; unfold rdRow
          rw [if_neg (by simp [en]), if_neg (by omega), htt]
        -- behind the cells
        have last : ∀ (G2 : St), Kq (sMr n0) G G2 → MAt G2 T N (rdCs T b w tt (i + 1)).2.2 (rdCs T b w tt (i + 1)).1 → MRr G2 b w → ((rdCs T b w tt (i + 1)).1 = 0 → MCs G2 w.1 (b.2.2.1 tt) (rdCs T b w tt (i + 1)).2.1) → EvV K mX12_readRow 2 107 [(0, .ref 66), (1, .int (nI tt))] [] G2 Q := by
          intro G2 k2 A2 w2 c2
          rw [hrow] at hQ
          generalize rdCs T b w tt (i + 1) = r at *
          have hL2 := k2.lay hL
          refine kX12_readRow_107 hL2 (s_X12_takeSign (c := 59) hL2 A2 (by decide) (fun G3 k3 A3 => ?_))
          have kk3 : Kq (sMr n0) G G3 := k2.tr (k3.mono (fun i k z => by unfold sAt at z; unfold sMr; omega))
          have w3 := w2.kq hcc k3 (fun i k z => by unfold sAt at z; omega)
          have hlt := A3.flt
          have kE : ∀ v, Kq (sMr n0) G (uI (uI G3 77 w.1 (nI tt)) 66 17 v) := fun v => (kk3.sI (by unfold sMr; omega)).sI (by unfold sMr; omega)
          have AE : ∀ v j f, MAt G3 T N j f → MAt (uI (uI G3 77 w.1 (nI tt)) 66 17 v) T N j f := fun v j f h => h.kq (S := fun i k => i = 77 ∨ i = 66 ∧ k = 17) ((kq_I (by omega)).sI (by omega)) (fun i k z => by omega)
          have wE : MRr (uI (uI G3 77 w.1 (nI tt)) 66 17 (nI w.1)) b w := by
            refine ⟨by (simp [gI, gL, gIL, gLI] <;> try rfl), hw30, fun r hr => ?_⟩
            obtain ⟨a1, a2, a3⟩ := w3.2.2 r hr
            have e : ¬ r = w.1 := by omega
            exact ⟨a1, by (simp [gI, gL, gIL, gLI, e] <;> try rfl); exact a2, fun c hc => by (simp [gI, gL, gIL, gLI] <;> try rfl); exact a3 c hc⟩
          try simp (disch := omega) only [nLe, nLeR, nLeL, nLt, nLtR, nLtL, nEq, nEqR, nEqL, nClamp, nClampR, nAdd, nAddR, nAddL, nSub, nSubR, nMul, nMulR, nMulL, nDivR, vIn, vInR, iteZ, iteP, lEq, lEqR, forall_eq, forall_const, true_implies, false_implies, not_true_eq_false, not_false_eq_true, true_and, and_true, implies_true, Decidable.not_not, Nat.le_refl, w3.1, A3.f0]
          refine ⟨by omega, ?_⟩
          by_cases hr : r.1 = 0
          · rw [if_neg (by simp [hr])] at hQ
            rw [if_pos hr] at A3 hlt ⊢
            by_cases hs : isS (tk T r.2.2) 59 = true
            · rw [if_pos ⟨hr, hs⟩, if_pos hs] at A3
              rw [if_pos hs] at hQ hlt ⊢
              try simp (disch := omega) only [nLe, nLeR, nLeL, nLt, nLtR, nLtL, nEq, nEqR, nEqL, nClamp, nClampR, nAdd, nAddR, nAddL, nSub, nSubR, nMul, nMulR, nMulL, nDivR, vIn, vInR, iteZ, iteP, lEq, lEqR, forall_eq, forall_const, true_implies, false_implies, not_true_eq_false, not_false_eq_true, true_and, and_true, implies_true, Decidable.not_not, Nat.le_refl]
              refine hQ _ (kE _) (AE _ _ _ A3) ⟨by (simp [gI, gL, gIL, gLI, addR] <;> try rfl), by simp [addR]; omega, fun r' hr' => ?_⟩
              have hr' : r' < w.1 + 1 := hr'
              by_cases e : r' = w.1
              · subst e
                refine ⟨by simp [addR]; exact hf, by (simp [gI, gL, gIL, gLI, addR] <;> try rfl), fun c hc => ?_⟩
                have hc : c < b.2.2.1 tt := by simpa [addR] using hc
                (simp [gI, gL, gIL, gLI, addR] <;> try rfl)
                rw [k3.L (by unfold sAt; omega)]
                exact c2 hr c hc
              · obtain ⟨a1, a2, a3⟩ := w3.2.2 r' (by omega)
                refine ⟨by simp [addR, e]; exact a1, by (simp [gI, gL, gIL, gLI, addR, e] <;> try rfl); exact a2, fun c hc => ?_⟩
                have hc : c < b.2.2.1 (w.2.1 r') := by simpa [addR, e] using hc
                (simp [gI, gL, gIL, gLI, addR, e] <;> try rfl)
                exact a3 c hc
            · rw [if_neg (fun y => hs y.2), if_neg hs] at A3
              rw [if_neg hs] at hQ hlt ⊢
              have h0 := fx_pos (T := T) (i := r.2.2) (w := 1) (by decide)
              try simp (disch := omega) only [nLe, nLeR, nLeL, nLt, nLtR, nLtL, nEq, nEqR, nEqL, nClamp, nClampR, nAdd, nAddR, nAddL, nSub, nSubR, nMul, nMulR, nMulL, nDivR, vIn, vInR, iteZ, iteP, lEq, lEqR, forall_eq, forall_const, true_implies, false_implies, not_true_eq_false, not_false_eq_true, true_and, and_true, implies_true, Decidable.not_not, Nat.le_refl]
              exact ⟨fun _ => hQ _ (kE _) (AE _ _ _ A3) wE, fun y => absurd y h0⟩
          · rw [if_pos hr] at hQ
            rw [if_neg (fun y => hr y.1), if_neg hr] at A3
            rw [if_neg hr] at hlt ⊢
            try simp (disch := omega) only [nLe, nLeR, nLeL, nLt, nLtR, nLtL, nEq, nEqR, nEqL, nClamp, nClampR, nAdd, nAddR, nAddL, nSub, nSubR, nMul, nMulR, nMulL, nDivR, vIn, vInR, iteZ, iteP, lEq, lEqR, forall_eq, forall_const, true_implies, false_implies, not_true_eq_false, not_false_eq_true, true_and, and_true, implies_true, Decidable.not_not, Nat.le_refl]
            exact ⟨fun _ => hQ _ (kE _) (AE _ _ _ A3) wE, fun y => absurd y hr⟩
        have key : ∀ (m c : Nat) (cs : Nat → Int64) (j f : Nat) (G2 : St), m + c = b.2.2.1 tt → Kq (sMr n0) G G2 → MRr G2 b w → MAt G2 T N j f → (f = 0 → MCs G2 w.1 c cs) → (if f = 0 then rdCells T b w tt m c cs j else (f, cs, j)) = rdCs T b w tt (i + 1) → EvV K mX12_readRow 2 78 [(0, .ref 66), (1, .int (nI tt)), (2, .int (nI c))] [] G2 Q := by
          intro m
          induction m with
          | zero =>
            intro c cs j f G2 hm k2 w2 A2 c2 he
            have b2 : MTb G2 0 b := hb.kq k2 (fun i k z => by unfold sMr at z; omega)
            have n2 := (b2.z.2 tt hf).2.1
            have n4 := hcc tt hf
            refine kX12_readRow_78 (k2.lay hL) ?_
            try simp (disch := omega) only [nLe, nLeR, nLeL, nLt, nLtR, nLtL, nEq, nEqR, nEqL, nClamp, nClampR, nAdd, nAddR, nAddL, nSub, nSubR, nMul, nMulR, nMulL, nDivR, vIn, vInR, iteZ, iteP, lEq, lEqR, forall_eq, forall_const, true_implies, false_implies, not_true_eq_false, not_false_eq_true, true_and, and_true, implies_true, Decidable.not_not, Nat.le_refl, n2]
            refine ⟨by omega, fun _ => ?_, fun z => by omega⟩
            by_cases hz : f = 0
            · rw [if_pos hz, rdCells] at he
              rw [← he] at last
              rw [hz] at A2
              exact last G2 k2 A2 w2 (fun _ => by rw [show b.2.2.1 tt = c by omega]; exact c2 hz)
            · rw [if_neg hz] at he
              rw [← he] at last
              exact last G2 k2 A2 w2 (fun y => absurd y hz)
          | succ m ih =>
            intro c cs j f G2 hm k2 w2 A2 c2 he
            have b2 : MTb G2 0 b := hb.kq k2 (fun i k z => by unfold sMr at z; omega)
            have n2 := (b2.z.2 tt hf).2.1
            have n4 := hcc tt hf
            have hlt := A2.flt
            refine kX12_readRow_78 (k2.lay hL) ?_
            try simp (disch := omega) only [nLe, nLeR, nLeL, nLt, nLtR, nLtL, nEq, nEqR, nEqL, nClamp, nClampR, nAdd, nAddR, nAddL, nSub, nSubR, nMul, nMulR, nMulL, nDivR, vIn, vInR, iteZ, iteP, lEq, lEqR, forall_eq, forall_const, true_implies, false_implies, not_true_eq_false, not_false_eq_true, true_and, and_true, implies_true, Decidable.not_not, Nat.le_refl, n2, A2.f0]
            refine ⟨by omega, fun z => by omega, fun _ => ⟨fun hz => ?_, fun hz => ?_⟩⟩
            · rw [if_neg hz] at he
              rw [← he] at last
              exact last G2 k2 A2 w2 (fun y => absurd y hz)
            · rw [if_pos hz, rdCells] at he
              have c2' := c2 hz
              rw [hz] at A2
              refine s_X12_readCell (k2.lay hL) A2 b2 hob hf (by omega) w2 (by omega) hn0 c2' (fun G3 k3 A3 w3 c3 => ?_)
              by_cases y : (rdCell T b w tt c j).1 = 0
              · refine ih (c + 1) (fun d => if d = c then (rdCell T b w tt c j).2.1 else cs d) _ _ G3 (by omega) (k2.tr k3) w3 A3 c3 ?_
                rw [if_pos y]
                rw [if_neg (by simp [y])] at he
                exact he
              · refine ih (c + 1) cs _ _ G3 (by omega) (k2.tr k3) w3 A3 (fun z => absurd z y) ?_
                rw [if_neg y]
                rw [if_pos y] at he
                exact he
        exact key (b.2.2.1 tt) 0 (fun _ => 0) (i + 1) 0 G1 (by omega) kk1 w1 A1 (fun _ j hj => absurd hj (Nat.not_lt_zero j)) (by rw [if_pos rfl]; rfl)
      · unfold rdRow
        rw [if_neg (by simp [en]), if_pos (by omega)]
    · rw [if_neg hf]
      refine ⟨fun z => absurd z (by decide), fun _ => stop _ 2 (by decide) (by decide) ?_⟩
      have e : rdName T b i = fx T i 2 := by simp [rdName, hn, hf]
      have e0 := fx_pos (T := T) (i := i) (w := 2) (by decide)
      simp [rdRow, e, e0]
  refine kX12_readRow_0 hL (s_X12_isName hL hA ?_)
  try simp (disch := omega) only [nLe, nLeR, nLeL, nLt, nLtR, nLtL, nEq, nEqR, nEqL, nClamp, nClampR, nAdd, nAddR, nAddL, nSub, nSubR, nMul, nMulR, nMulL, nDivR, vIn, vInR, iteZ, iteP, lEq, lEqR, forall_eq, forall_const, true_implies, false_implies, not_true_eq_false, not_false_eq_true, true_and, and_true, implies_true, Decidable.not_not, Nat.le_refl]
  exact ⟨fun hn => f16 _ (fun y => absurd y hn), fun hn => s_X12_findTable (p := 0) hL (by decide) hA hn hb hd (f16 _ (fun _ => rfl))⟩
end RDM4
section RDM5
variable {K : KT} {G G1 : St} {t N i f n0 : Nat} {b : TBt} {w : RWt} {q : TQt} {T : TPt} {S : Nat → Nat → Prop}
/-- all that reading rows may write -/
def sR0 : Nat → Nat → Prop := fun i k => ctS i k ∨ i = 77 ∨ i = 78 ∨ i = 66 ∧ (k = 0 ∨ k = 15 ∨ k = 16 ∨ k = 17)
theorem s_X12_rows {Q : Int32 → St → Prop} (hL : Lay G.2.2) (hT : MTp G T) (hW : MWd G) (hb : MTb G 0 b) (hd : dsN b) (hob : okTb b) (hw : MRw G b w)
    (hno : (rdRows T b 31 w 0).1 ≠ 0 → ∀ G', Kq sR0 G G' → sI G' 66 15 = sI G 66 15 → MTp G' (0, T.2) → MRw G' b w → Q (nI (rdRows T b 31 w 0).1) G')
    (hyes : (rdRows T b 31 w 0).1 = 0 → ∀ G', Kq sR0 G G' → MTp G' (0, T.2) → MRw G' b (rdRows T b 31 w 0).2.1 → sI G' 66 15 = 1 → Q (nI 0) G') : EvI K mX12_rows 3 0 [(0, .ref 66)] [] G Q := by
  have t1000 := hT.2.1
  have hcc : ∀ u, u < b.1 → b.2.2.1 u ≤ 4 := fun u hu => (hb.2.2 u hu).2.2.1
  refine kX12_rows_0 hL ?_
  have k0 : Kq (fun i k => i = 66 ∧ k = 0) G (uI G 66 0 0) := kq_I ⟨rfl, rfl⟩
  have hT0 : MTp (uI G 66 0 0) T := ⟨by (simp [gI, gL, gIL, gLI, hT.1] <;> try rfl), hT.2.1, fun j hj => by (simp [gI, gL, gIL, gLI] <;> try rfl); exact hT.2.2 j hj⟩
  refine s_X12_cutAll hL hT0 (hW.kq k0 (fun i k z => by omega)) (fun G1 N k1 t1 A1 => ?_)
  have w1 : MRw G1 b w := (hw.kq hcc k0 (fun i k z => by omega)).kq hcc k1 (fun i k z => by unfold ctS at z; omega)
  have b1 : MTb G1 0 b := (hb.kq k0 (fun i k z => by omega)).kq k1 (fun i k z => by unfold ctS at z; omega)
  rw [w1.1]
  have k2 : Kq (fun i k => i = 66 ∧ k = 17) G1 (uI G1 66 17 (nI w.1)) := kq_I ⟨rfl, rfl⟩
  have A2 := A1.kq k2 (fun i k z => by omega)
  have b2 := b1.kq k2 (fun i k z => by omega)
  have w2 : MRw (uI G1 66 17 (nI w.1)) b w := w1.kq hcc k2 (fun i k z => by omega)
  have r2 : MRr (uI G1 66 17 (nI w.1)) b w := ⟨by (simp [gI, gL, gIL, gLI] <;> try rfl), w2.2.1, w2.2.2⟩
  have t2 : sI (uI G1 66 17 (nI w.1)) 66 2 = nI 0 := by (simp [gI, gL, gIL, gLI] <;> try rfl); exact t1.1
  have c2 : sI (uI G1 66 17 (nI w.1)) 66 15 = sI G 66 15 := by (simp [gI, gL, gIL, gLI] <;> try rfl); rw [k1.I (by unfold ctS; omega)]; (simp [gI, gL, gIL, gLI] <;> try rfl)
  have kk2 : Kq sR0 G (uI G1 66 17 (nI w.1)) := ((k0.mono (S' := sR0) (fun i k z => by unfold sR0; omega)).tr (k1.mono (S' := sR0) (fun i k z => Or.inl z))).tr (k2.mono (S' := sR0) (fun i k z => by unfold sR0; omega))
  generalize uI G1 66 17 (nI w.1) = G2 at *
  have hL2 := kk2.lay hL
  have hend : ∀ (G3 : St) (r : Nat × RWt × Nat), r = rdRows T b 31 w 0 → Kq (sMr w.1) G2 G3 → MAt G3 T N r.2.2 r.1 → MRr G3 b r.2.1 → EvI K mX12_rows 3 43 [(0, .ref 66)] [] G3 Q := by
    intro G3 r hr k3 A3 w3
    have hlt := A3.flt
    have kk3 : Kq sR0 G G3 := kk2.tr (k3.mono (fun i k z => by unfold sMr at z; unfold sR0 ctS; omega))
    have t3 : sI G3 66 2 = nI 0 := by rw [k3.I (by unfold sMr; omega)]; exact t2
    refine kX12_rows_43 (k3.lay hL2) ?_
    try simp (disch := omega) only [nLe, nLeR, nLeL, nLt, nLtR, nLtL, nEq, nEqR, nEqL, nClamp, nClampR, nAdd, nAddR, nAddL, nSub, nSubR, nMul, nMulR, nMulL, nDivR, vIn, vInR, iteZ, iteP, lEq, lEqR, forall_eq, forall_const, true_implies, false_implies, not_true_eq_false, not_false_eq_true, true_and, and_true, implies_true, Decidable.not_not, Nat.le_refl, A3.f0, w3.1]
    refine ⟨fun z => ?_, fun z => ?_⟩
    · rw [hr] at z ⊢
      exact hno z G3 kk3 (by rw [k3.I (by unfold sMr; omega)]; exact c2) ⟨t3, Nat.zero_le _, fun j hj => absurd hj (Nat.not_lt_zero j)⟩ (w2.kq hcc k3 (fun i k z => by unfold sMr at z; omega))
    · rw [z]
      have hw3 : MRw (uI (uI G3 66 16 (nI r.2.1.1)) 66 15 1) b r.2.1 := by
        refine ⟨by (simp [gI, gL, gIL, gLI] <;> try rfl), w3.2.1, fun r' hr' => ?_⟩
        obtain ⟨a1, a2, a3⟩ := w3.2.2 r' hr'
        exact ⟨a1, by (simp [gI, gL, gIL, gLI] <;> try rfl); exact a2, fun c hc => by (simp [gI, gL, gIL, gLI] <;> try rfl); exact a3 c hc⟩
      rw [hr] at z hw3 ⊢
      exact hyes z _ ((kk3.sI (by unfold sR0; omega)).sI (by unfold sR0; omega)) ⟨by (simp [gI, gL, gIL, gLI] <;> try rfl); exact t3, Nat.zero_le _, fun j hj => absurd hj (Nat.not_lt_zero j)⟩ hw3 (by (simp [gI, gL, gIL, gLI] <;> try rfl))
  have key : ∀ (m : Nat) (v : RWt) (j f : Nat) (G3 : St), (f = 0 → 31 ≤ v.1 + m) → w.1 ≤ v.1 → Kq (sMr w.1) G2 G3 → MAt G3 T N j f → MRr G3 b v → (if f = 0 then rdRows T b m v j else (f, v, j)) = rdRows T b 31 w 0 → EvI K mX12_rows 3 17 [(0, .ref 66)] [] G3 Q := by
    intro m
    induction m with
    | zero =>
      intro v j f G3 hc hv k3 A3 w3 he
      have hlt := A3.flt
      by_cases hz : f = 0
      · have := w3.2.1
        have := hc hz
        omega
      · rw [if_neg hz] at he
        refine kX12_rows_17 (k3.lay hL2) ?_
        try simp (disch := omega) only [nLe, nLeR, nLeL, nLt, nLtR, nLtL, nEq, nEqR, nEqL, nClamp, nClampR, nAdd, nAddR, nAddL, nSub, nSubR, nMul, nMulR, nMulL, nDivR, vIn, vInR, iteZ, iteP, lEq, lEqR, forall_eq, forall_const, true_implies, false_implies, not_true_eq_false, not_false_eq_true, true_and, and_true, implies_true, Decidable.not_not, Nat.le_refl, A3.f0]
        exact ⟨fun _ => hend G3 _ he k3 A3 w3, fun y => absurd y hz⟩
    | succ m ih =>
      intro v j f G3 hc hv k3 A3 w3 he
      have hlt := A3.flt
      have hj := A3.lt
      have h4 := tk_4 (T := T) j
      refine kX12_rows_17 (k3.lay hL2) ?_
      try simp (disch := omega) only [nLe, nLeR, nLeL, nLt, nLtR, nLtL, nEq, nEqR, nEqL, nClamp, nClampR, nAdd, nAddR, nAddL, nSub, nSubR, nMul, nMulR, nMulL, nDivR, vIn, vInR, iteZ, iteP, lEq, lEqR, forall_eq, forall_const, true_implies, false_implies, not_true_eq_false, not_false_eq_true, true_and, and_true, implies_true, Decidable.not_not, Nat.le_refl, A3.f0, A3.2.2.1, A3.tok.1]
      refine ⟨fun hz => ?_, fun hz => ⟨by omega, fun z0 => ?_, fun z0 => ?_⟩⟩
      · rw [if_neg hz] at he
        exact hend G3 _ he k3 A3 w3
      · rw [if_pos hz, rdRows, if_pos z0] at he
        subst hz
        exact hend G3 _ he k3 A3 w3
      · rw [if_pos hz, rdRows, if_neg z0] at he
        subst hz
        refine s_X12_readRow (n0 := w.1) (k3.lay hL2) A3 (b2.kq k3 (fun i k z => by unfold sMr at z; omega)) hd hob w3 hv (fun G4 k4 A4 w4 => ?_)
        have hmono : w.1 ≤ (rdRow T b v j).2.1.1 := by
          by_cases y : (rdRow T b v j).1 = 0
          · rw [(rdRow_ok y).2.2.2]; show w.1 ≤ v.1 + 1; omega
          · have : (rdRow T b v j).2.1 = v := by
              revert y
              unfold rdRow
              repeat' split
              all_goals simp
            rw [this]; exact hv
        refine ih (rdRow T b v j).2.1 _ (rdRow T b v j).1 G4 (fun z => ?_) hmono (k3.tr k4) A4 w4 ?_
        · rw [(rdRow_ok z).2.2.2]
          have := hc rfl
          show 31 ≤ v.1 + 1 + m
          omega
        · by_cases y : (rdRow T b v j).1 = 0
          · rw [if_pos y]; rw [if_neg (by simp [y])] at he; exact he
          · rw [if_neg y]; rw [if_pos y] at he; exact he
  exact key 31 w 0 0 G2 (fun _ => by omega) (Nat.le_refl _) Kq.rf A2 r2 (by rw [if_pos rfl])
end RDM5

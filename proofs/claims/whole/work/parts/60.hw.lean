/-! reading, told once -/
def addT (b : TBt) (v : Int64) : TBt := (b.1 + 1, fun t => if t = b.1 then v else b.2.1 t, fun t => if t = b.1 then 0 else b.2.2.1 t, b.2.2.2.1, b.2.2.2.2)
def addC (b : TBt) (t : Nat) (v : Int64) (k : Nat) : TBt := (b.1, b.2.1, fun u => if u = t then b.2.2.1 t + 1 else b.2.2.1 u, fun u c => if u = t ∧ c = b.2.2.1 t then v else b.2.2.2.1 u c, fun u c => if u = t ∧ c = b.2.2.1 t then k else b.2.2.2.2 u c)
def addR (w : RWt) (t : Nat) (cs : Nat → Int64) : RWt := (w.1 + 1, fun r => if r = w.1 then t else w.2.1 r, fun r c => if r = w.1 then cs c else w.2.2 r c)
def addQ (q : TQt) (k : Nat) (v : Int64) : TQt := (q.1 + 1, fun j => if j = q.1 then k else q.2.1 j, fun j => if j = q.1 then v else q.2.2 j)
theorem nOf_le (rt : Nat → Nat) (t : Nat) : ∀ r, nOf rt t r ≤ r
  | 0 => Nat.le_refl _
  | r + 1 => by have := nOf_le rt t r; rw [nOf]; split <;> omega
theorem nOf_cong {rt rt' : Nat → Nat} {t : Nat} : ∀ {r : Nat}, (∀ j, j < r → rt j = rt' j) → nOf rt t r = nOf rt' t r
  | 0, _ => rfl
  | r + 1, h => by rw [nOf, nOf, nOf_cong (fun j hj => h j (by omega)), h r (by omega)]
theorem addR_n {w : RWt} {t u r : Nat} {cs : Nat → Int64} (h : r ≤ w.1) : nOf (addR w t cs).2.1 u r = nOf w.2.1 u r := by
  refine nOf_cong (fun j hj => ?_)
  have : ¬ j = w.1 := by omega
  simp [addR, this]
/-- what is written when tables are read, when rows are read -/
def sTb (h : Nat) : Nat → Nat → Prop := fun i k => i = 2 ∨ i = h ∧ k = 9 ∨ h + 1 ≤ i ∧ i ≤ h + 4
def sRw (h : Nat) : Nat → Nat → Prop := fun i k => i = 2 ∨ i = h ∧ k = 10 ∨ h + 5 ≤ i ∧ i ≤ h + 8
section HW
variable {K : KT} {G G1 : St} {h t : Nat} {b : TBt} {w : RWt} {q : TQt} {S : Nat → Nat → Prop} {T : TPt}
theorem XTb.kq (hb : XTb G h b) (hk : Kq S G G1) (hs : ∀ i k, S i k → ¬ (i = h ∧ k = 9 ∨ h + 1 ≤ i ∧ i ≤ h + 4)) : XTb G1 h b := by
  obtain ⟨h1, h2, h3⟩ := hb
  refine ⟨(hk.I (fun z => hs _ _ z (by omega))).trans h1, h2, fun t ht => ?_⟩
  obtain ⟨a1, a2, a3, a4⟩ := h3 t ht
  refine ⟨(hk.L (fun z => hs _ _ z (by omega))).trans a1, (hk.I (fun z => hs _ _ z (by omega))).trans a2, a3, fun c hc => ?_⟩
  obtain ⟨c1, c2⟩ := a4 c hc
  exact ⟨(hk.L (fun z => hs _ _ z (by omega))).trans c1, (hk.I (fun z => hs _ _ z (by omega))).trans c2⟩
theorem XRw.kq (hw : XRw G h b w) (hk : Kq S G G1) (hs : ∀ i k, S i k → ¬ (i = h ∧ k = 10 ∨ h + 5 ≤ i ∧ i ≤ h + 8)) : XRw G1 h b w := by
  obtain ⟨h1, h2, h3, h4⟩ := hw
  refine ⟨(hk.I (fun z => hs _ _ z (by omega))).trans h1, h2, fun r hr => ?_, fun t ht => (hk.I (fun z => hs _ _ z (by omega))).trans (h4 t ht)⟩
  obtain ⟨a1, a2, a3, a4⟩ := h3 r hr
  exact ⟨a1, (hk.I (fun z => hs _ _ z (by omega))).trans a2, (hk.I (fun z => hs _ _ z (by omega))).trans a3, fun c hc => (hk.L (fun z => hs _ _ z (by omega))).trans (a4 c hc)⟩
theorem XHd.kq {n : Nat} {d : Nat → Nat → Bool} (hd : XHd G h n d) (hk : Kq S G G1) (hs : ∀ i k, S i k → ¬ i = h + 9) : XHd G1 h n d := by
  refine ⟨fun p hp => ?_, hd.2⟩
  obtain ⟨k, a, b, c⟩ := hd.1 p hp
  exact ⟨k, a, (hk.I (fun z => hs _ _ z rfl)).trans b, c⟩
theorem XTq.kq (hq : XTq G t q) (hk : Kq S G G1) (hs : ∀ i k, S i k → ¬ (i = t ∧ k = 2 ∨ i = t + 1 ∨ i = t + 2)) : XTq G1 t q := by
  obtain ⟨h1, h2, h3⟩ := hq
  refine ⟨(hk.I (fun z => hs _ _ z (by omega))).trans h1, h2, fun k hk' => ?_⟩
  obtain ⟨a, b, c⟩ := h3 k hk'
  exact ⟨(hk.I (fun z => hs _ _ z (by omega))).trans a, b, (hk.L (fun z => hs _ _ z (by omega))).trans c⟩
theorem XTp.kq (hT : XTp G T) (hk : Kq S G G1) (hs : ∀ i k, S i k → ¬ (i = 2 ∧ k = 2 ∨ i = 3)) : XTp G1 T := by
  obtain ⟨h1, h2, h3⟩ := hT
  exact ⟨(hk.I (fun z => hs _ _ z (by omega))).trans h1, h2, fun j hj => ⟨(hk.I (fun z => hs _ _ z (by omega))).trans (h3 j hj).1, (h3 j hj).2⟩⟩
theorem XAt.kq {i : Nat} (hA : XAt G T i) (hk : Kq S G G1) (hs : ∀ i k, S i k → ¬ (i = 2 ∨ i = 3)) : XAt G1 T i := by
  obtain ⟨hT, a, b, c, d⟩ := hA
  exact ⟨hT.kq hk (fun i k z y => hs i k z (by omega)), (hk.I (fun z => hs _ _ z (by omega))).trans a, (hk.I (fun z => hs _ _ z (by omega))).trans b, (hk.I (fun z => hs _ _ z (by omega))).trans c, fun y => (hk.L (fun z => hs _ _ z (by omega))).trans (d y)⟩
theorem KpT.toq (hk : KpT G G1) : Kq (fun i _ => i = 2) G G1 := hk.1.q
theorem s_X1_addTable {Q : St → Prop} {v : Int64} (hL : Lay G.2.2) (hh : h = 39 ∨ h = 49) (hb : XTb G h b) (h5 : b.1 < 5) (hQ : ∀ G', Kq (sTb h) G G' → XTb G' h (addT b v) → (∀ i k, i < h → sI G' i k = sI G i k ∧ sL G' i k = sL G i k) → Q G') : EvV K mX1_addTable 0 0 [(0, .ref h), (1, .long v)] [] G Q := by
  obtain ⟨h1, h2, h3⟩ := hb
  refine kX1_addTable_0 hL hh ?_
  try simp (disch := omega) only [nLe, nLeR, nLeL, nLt, nLtR, nLtL, nEq, nEqR, nEqL, nClamp, nClampR, nAdd, nAddR, nAddL, nSub, nSubR, nMul, nMulR, nMulL, nDivR, vIn, vInR, iteZ, iteP, lEq, lEqR, forall_eq, forall_const, true_implies, false_implies, not_true_eq_false, not_false_eq_true, true_and, and_true, implies_true, Decidable.not_not, h1, gI, gIL]
  refine ⟨fun z => by omega, fun _ => ⟨by omega, by omega, ?_⟩⟩
  try simp only [Nat.left_eq_add, Nat.add_left_cancel_iff, Nat.add_right_cancel_iff, Nat.add_eq_left, Nat.reduceEqDiff, reduceCtorEq, false_and, and_false, true_and, and_true, if_false, if_true, ite_false, ite_true]
  refine hQ _ (((kq_L (by unfold sTb; omega)).sI (by unfold sTb; omega)).sI (by unfold sTb; omega)) ⟨?_, h5, fun t ht => ?_⟩ (fun i k hi => ?_)
  · (simp [gI, gL, gIL, gLI, h1, nAddR, addT] <;> try rfl)
  · have ht : t < b.1 + 1 := ht
    by_cases e : t = b.1
    · subst e
      refine ⟨?_, ?_, ?_, ?_⟩
      · (simp [gI, gL, gIL, gLI, addT] <;> try rfl)
      · (simp [gI, gL, gIL, gLI, addT] <;> try rfl)
      · simp [addT]
      · intro c hc; simp [addT] at hc
    · obtain ⟨a1, a2, a3, a4⟩ := h3 t (by omega)
      refine ⟨?_, ?_, ?_, ?_⟩
      · (simp [gI, gL, gIL, gLI, addT, e, a1] <;> try rfl)
      · (simp [gI, gL, gIL, gLI, addT, e, a2] <;> try rfl)
      · simp [addT, e, a3]
      · intro c hc
        have hc : c < b.2.2.1 t := by simpa [addT, e] using hc
        exact ⟨by (simp [gI, gL, gIL, gLI, addT, (a4 c hc).1] <;> try rfl), by (simp [gI, gL, gIL, gLI, addT, (a4 c hc).2] <;> try rfl)⟩
  · have e1 : ¬ i = h := by omega
    have e2 : ¬ i = h + 1 := by omega
    have e3 : ¬ i = h + 2 := by omega
    exact ⟨by (simp [gI, gL, gIL, gLI, e1, e3] <;> try rfl), by (simp [gI, gL, gIL, gLI, e2] <;> try rfl)⟩
theorem s_X1_addColumn {Q : St → Prop} {v : Int64} {k : Nat} (hL : Lay G.2.2) (hh : h = 39 ∨ h = 49) (hb : XTb G h b) (ht : t < b.1) (h5 : b.2.2.1 t < 4) (hQ : ∀ G', Kq (sTb h) G G' → XTb G' h (addC b t v k) → (∀ i k, i < h → sI G' i k = sI G i k ∧ sL G' i k = sL G i k) → Q G') : EvV K mX1_addColumn 0 0 [(0, .ref h), (1, .int (nI t)), (2, .long v), (4, .int (kdX k))] [] G Q := by
  obtain ⟨h1, h2, h3⟩ := hb
  obtain ⟨a1, a2, a3, a4⟩ := h3 t ht
  refine kX1_addColumn_0 hL hh ?_
  try simp (disch := omega) only [nLe, nLeR, nLeL, nLt, nLtR, nLtL, nEq, nEqR, nEqL, nClamp, nClampR, nAdd, nAddR, nAddL, nSub, nSubR, nMul, nMulR, nMulL, nDivR, vIn, vInR, iteZ, iteP, lEq, lEqR, forall_eq, forall_const, true_implies, false_implies, not_true_eq_false, not_false_eq_true, true_and, and_true, implies_true, Decidable.not_not, a2, gI, gIL]
  refine ⟨by omega, fun z => by omega, fun _ => ⟨by omega, by omega, by omega, by omega, ?_⟩⟩
  try simp only [Nat.left_eq_add, Nat.add_left_cancel_iff, Nat.add_right_cancel_iff, Nat.add_eq_left, Nat.reduceEqDiff, reduceCtorEq, false_and, and_false, true_and, and_true, if_false, if_true, ite_false, ite_true]
  try simp (disch := omega) only [nLe, nLeR, nLeL, nLt, nLtR, nLtL, nEq, nEqR, nEqL, nClamp, nClampR, nAdd, nAddR, nAddL, nSub, nSubR, nMul, nMulR, nMulL, nDivR, vIn, vInR, iteZ, iteP, lEq, lEqR, forall_eq, forall_const, true_implies, false_implies, not_true_eq_false, not_false_eq_true, true_and, and_true, implies_true, Decidable.not_not, a2]
  have hkq : Kq (sTb h) G (uI (uI (uL G (h + 3) (t * 4 + b.2.2.1 t) v) (h + 4) (t * 4 + b.2.2.1 t) (kdX k)) (h + 2) t (nI (b.2.2.1 t + 1))) := ((kq_L (by unfold sTb; omega)).sI (by unfold sTb; omega)).sI (by unfold sTb; omega)
  refine hQ _ hkq ⟨?_, h2, fun u hu => ?_⟩ (fun i k hi => ?_)
  · (simp [gI, gL, gIL, gLI, h1, addC] <;> try rfl)
  · have hu : u < b.1 := hu
    obtain ⟨c1, c2, c3, c4⟩ := h3 u hu
    by_cases e : u = t
    · subst e
      refine ⟨?_, ?_, ?_, ?_⟩
      · (simp [gI, gL, gIL, gLI, addC, c1] <;> try rfl)
      · (simp [gI, gL, gIL, gLI, addC] <;> try rfl)
      · simp [addC]; omega
      · intro c hc
        have hc : c < b.2.2.1 u + 1 := by simpa [addC] using hc
        by_cases e2 : c = b.2.2.1 u
        · subst e2
          exact ⟨by (simp [gI, gL, gIL, gLI, addC, Nat.mul_comm] <;> try rfl), by (simp [gI, gL, gIL, gLI, addC, Nat.mul_comm] <;> try rfl)⟩
        · have e3 : ¬ 4 * u + c = u * 4 + b.2.2.1 u := by omega
          obtain ⟨d1, d2⟩ := c4 c (by omega)
          exact ⟨by (simp [gI, gL, gIL, gLI, addC, e2, e3, d1] <;> try rfl), by (simp [gI, gL, gIL, gLI, addC, e2, e3, d2] <;> try rfl)⟩
    · refine ⟨?_, ?_, ?_, ?_⟩
      · (simp [gI, gL, gIL, gLI, addC, c1] <;> try rfl)
      · (simp [gI, gL, gIL, gLI, addC, e, c2] <;> try rfl)
      · simp [addC, e, c3]
      · intro c hc
        have hc : c < b.2.2.1 u := by simpa [addC, e] using hc
        have e3 : ¬ 4 * u + c = t * 4 + b.2.2.1 t := by omega
        obtain ⟨d1, d2⟩ := c4 c (by omega)
        exact ⟨by (simp [gI, gL, gIL, gLI, addC, e, e3, d1] <;> try rfl), by (simp [gI, gL, gIL, gLI, addC, e, e3, d2] <;> try rfl)⟩
  · have e1 : ¬ i = h + 4 := by omega
    have e2 : ¬ i = h + 3 := by omega
    have e3 : ¬ i = h + 2 := by omega
    exact ⟨by (simp [gI, gL, gIL, gLI, e1, e3] <;> try rfl), by (simp [gI, gL, gIL, gLI, e2] <;> try rfl)⟩
/-- cells of the row that is being read -/
def XCs (G : St) (h : Nat) (n c : Nat) (cs : Nat → Int64) : Prop := ∀ j, j < c → sL G (h + 8) (4 * n + j) = cs j
theorem s_X1_putCell {Q : St → Prop} {v : Int64} {c : Nat} {cs : Nat → Int64} (hL : Lay G.2.2) (hh : h = 39 ∨ h = 49) (hw : XRw G h b w) (hb : ∀ u, u < b.1 → b.2.2.1 u ≤ 4) (h30 : w.1 < 30) (hc : c < 4) (hcs : XCs G h w.1 c cs) (hQ : ∀ G', Kq (fun i _ => i = h + 8) G G' → XRw G' h b w → XCs G' h w.1 (c + 1) (fun d => if d = c then v else cs d) → Q G') : EvV K mX1_putCell 0 0 [(0, .ref h), (1, .int (nI c)), (2, .long v)] [] G Q := by
  obtain ⟨h1, h2, h3, h4⟩ := hw
  refine kX1_putCell_0 hL hh ?_
  try simp (disch := omega) only [nLe, nLeR, nLeL, nLt, nLtR, nLtL, nEq, nEqR, nEqL, nClamp, nClampR, nAdd, nAddR, nAddL, nSub, nSubR, nMul, nMulR, nMulL, nDivR, vIn, vInR, iteZ, iteP, lEq, lEqR, forall_eq, forall_const, true_implies, false_implies, not_true_eq_false, not_false_eq_true, true_and, and_true, implies_true, Decidable.not_not, h1]
  refine ⟨fun z => by omega, fun _ => ⟨fun z => by omega, fun _ => ⟨fun z => by omega, fun _ => ⟨by omega, ?_⟩⟩⟩⟩
  refine hQ _ (kq_L rfl) ⟨by (simp [gI, gL, gIL, gLI, h1] <;> try rfl), h2, fun r hr => ?_, fun u hu => by (simp [gI, gL, gIL, gLI, h4 u hu] <;> try rfl)⟩ (fun j hj => ?_)
  · obtain ⟨a1, a2, a3, a4⟩ := h3 r hr
    refine ⟨a1, by (simp [gI, gL, gIL, gLI, a2] <;> try rfl), by (simp [gI, gL, gIL, gLI, a3] <;> try rfl), fun d hd => ?_⟩
    have := hb _ a1
    have e : ¬ 4 * r + d = w.1 * 4 + c := by omega
    (simp [gI, gL, gIL, gLI, e, a4 d hd] <;> try rfl)
  · by_cases e : j = c
    · subst e
      (simp [gI, gL, gIL, gLI, Nat.mul_comm] <;> try rfl)
    · have e2 : ¬ 4 * w.1 + j = w.1 * 4 + c := by omega
      (simp [gI, gL, gIL, gLI, e, e2] <;> try rfl)
      exact hcs j (by omega)
theorem s_X1_addRow {Q : St → Prop} {cs : Nat → Int64} (hL : Lay G.2.2) (hh : h = 39 ∨ h = 49) (hw : XRw G h b w) (hb : b.1 ≤ 5) (h30 : w.1 < 30) (ht : t < b.1) (hcs : XCs G h w.1 (b.2.2.1 t) cs) (hQ : ∀ G', Kq (fun i k => i = h ∧ k = 10 ∨ h + 5 ≤ i ∧ i ≤ h + 8) G G' → XRw G' h b (addR w t cs) → Q G') : EvV K mX1_addRow 0 0 [(0, .ref h), (1, .int (nI t))] [] G Q := by
  obtain ⟨h1, h2, h3, h4⟩ := hw
  refine kX1_addRow_0 hL hh ?_
  have n1 := nOf_le w.2.1 t w.1
  try simp (disch := omega) only [nLe, nLeR, nLeL, nLt, nLtR, nLtL, nEq, nEqR, nEqL, nClamp, nClampR, nAdd, nAddR, nAddL, nSub, nSubR, nMul, nMulR, nMulL, nDivR, vIn, vInR, iteZ, iteP, lEq, lEqR, forall_eq, forall_const, true_implies, false_implies, not_true_eq_false, not_false_eq_true, true_and, and_true, implies_true, Decidable.not_not, h1, gI]
  try simp only [Nat.left_eq_add, Nat.add_left_cancel_iff, Nat.add_right_cancel_iff, Nat.add_eq_left, Nat.reduceEqDiff, reduceCtorEq, false_and, and_false, true_and, and_true, if_false, if_true, ite_false, ite_true]
  try simp (disch := omega) only [nLe, nLeR, nLeL, nLt, nLtR, nLtL, nEq, nEqR, nEqL, nClamp, nClampR, nAdd, nAddR, nAddL, nSub, nSubR, nMul, nMulR, nMulL, nDivR, vIn, vInR, iteZ, iteP, lEq, lEqR, forall_eq, forall_const, true_implies, false_implies, not_true_eq_false, not_false_eq_true, true_and, and_true, implies_true, Decidable.not_not, h1, gI]
  try simp only [Nat.left_eq_add, Nat.add_left_cancel_iff, Nat.add_right_cancel_iff, Nat.add_eq_left, Nat.reduceEqDiff, reduceCtorEq, false_and, and_false, true_and, and_true, if_false, if_true, ite_false, ite_true]
  try simp (disch := omega) only [nLe, nLeR, nLeL, nLt, nLtR, nLtL, nEq, nEqR, nEqL, nClamp, nClampR, nAdd, nAddR, nAddL, nSub, nSubR, nMul, nMulR, nMulL, nDivR, vIn, vInR, iteZ, iteP, lEq, lEqR, forall_eq, forall_const, true_implies, false_implies, not_true_eq_false, not_false_eq_true, true_and, and_true, implies_true, Decidable.not_not, h1, h4 t (by omega)]
  refine ⟨fun z => by omega, fun _ => ⟨by omega, by omega, by omega, by omega, by omega, ?_⟩⟩
  refine hQ _ ((((kq_I (by omega)).sI (by omega)).sI (by omega)).sI (by omega)) ⟨by (simp [gI, gL, gIL, gLI, addR] <;> try rfl), by simp [addR]; omega, fun r hr => ?_, fun u hu => ?_⟩
  · have hr : r < w.1 + 1 := hr
    by_cases e : r = w.1
    · subst e
      refine ⟨by simp [addR]; exact ht, by (simp [gI, gL, gIL, gLI, addR] <;> try rfl), ?_, fun c hc => ?_⟩
      · rw [addR_n (Nat.le_refl _)]
        (simp [gI, gL, gIL, gLI, addR] <;> try rfl)
      · have hc : c < b.2.2.1 t := by simpa [addR] using hc
        (simp [gI, gL, gIL, gLI, addR] <;> try rfl)
        exact hcs c hc
    · obtain ⟨a1, a2, a3, a4⟩ := h3 r (by omega)
      refine ⟨by simp [addR, e]; exact a1, by (simp [gI, gL, gIL, gLI, addR, e, a2] <;> try rfl), ?_, fun c hc => ?_⟩
      · rw [addR_n (by omega)]
        (simp [gI, gL, gIL, gLI, addR, e, a3] <;> try rfl)
      · have hc : c < b.2.2.1 (w.2.1 r) := by simpa [addR, e] using hc
        (simp [gI, gL, gIL, gLI, addR, e] <;> try rfl)
        exact a4 c hc
  · have e3 : nOf (addR w t cs).2.1 u (addR w t cs).1 = nOf w.2.1 u w.1 + if t = u then 1 else 0 := by
      show nOf _ u (w.1 + 1) = _
      rw [nOf, nOf_cong (rt' := w.2.1) (fun j hj => by have : ¬ j = w.1 := by omega
                                                       simp [addR, this])]
      simp [addR]
    rw [e3]
    by_cases e : u = t
    · subst e
      (simp [gI, gL, gIL, gLI] <;> try rfl)
    · have e' : ¬ t = u := fun z => e z.symm
      (simp [gI, gL, gIL, gLI, e, e', h4 u hu] <;> try rfl)
theorem s_X1_rowNumbered {Q : Int32 → St → Prop} {v k : Nat} (hL : Lay G.2.2) (hh : h = 39 ∨ h = 49) (hw : XRw G h b w) (hb : b.1 ≤ 5) (hv : v < 9223372036854775808) (hk : k < 5) (hQ : Q (fI (fun r => w.2.1 r == k && nOf w.2.1 k r == v) w.1) G) : EvI K mX1_rowNumbered 0 0 [(0, .ref h), (1, .int (nI k)), (2, .long (lN v))] [] G Q := by
  refine kX1_rowNumbered_0 hL hh ?_
  obtain ⟨h1, h2, h3, h4⟩ := hw
  have key : ∀ m r, r + m = w.1 → (∀ j, j < r → (w.2.1 j == k && nOf w.2.1 k j == v) = false) → EvI K mX1_rowNumbered 0 3 [(0, .ref h), (1, .int (nI k)), (2, .long (lN v)), (4, .int (nI r))] [] G Q := by
    intro m
    induction m with
    | zero =>
      intro r hr hp
      refine kX1_rowNumbered_3 hL hh ?_
      try simp (disch := omega) only [nLe, nLeR, nLeL, nLt, nLtR, nLtL, nEq, nEqR, nEqL, nClamp, nClampR, nAdd, nAddR, nAddL, nSub, nSubR, nMul, nMulR, nMulL, nDivR, vIn, vInR, iteZ, iteP, lEq, lEqR, forall_eq, forall_const, true_implies, false_implies, not_true_eq_false, not_false_eq_true, true_and, and_true, implies_true, Decidable.not_not, h1]
      refine ⟨fun _ => ?_, fun z => by omega⟩
      rw [fI_no (fun j hj => hp j (by omega))] at hQ
      exact hQ
    | succ m ih =>
      intro r hr hp
      obtain ⟨a1, a2, a3, a4⟩ := h3 r (by omega)
      have n1 := nOf_le w.2.1 (w.2.1 r) r
      have no : (w.2.1 r == k && nOf w.2.1 k r == v) = false → EvI K mX1_rowNumbered 0 39 [(0, .ref h), (1, .int (nI k)), (2, .long (lN v)), (4, .int (nI r))] [] G Q := by
        intro e
        refine kX1_rowNumbered_39 hL hh ?_
        try simp (disch := omega) only [nLe, nLeR, nLeL, nLt, nLtR, nLtL, nEq, nEqR, nEqL, nClamp, nClampR, nAdd, nAddR, nAddL, nSub, nSubR, nMul, nMulR, nMulL, nDivR, vIn, vInR, iteZ, iteP, lEq, lEqR, forall_eq, forall_const, true_implies, false_implies, not_true_eq_false, not_false_eq_true, true_and, and_true, implies_true, Decidable.not_not]
        refine ih (r + 1) (by omega) (fun j hj => ?_)
        rcases Nat.lt_succ_iff_lt_or_eq.mp hj with z | z
        · exact hp j z
        · subst z; exact e
      refine kX1_rowNumbered_3 hL hh ?_
      try simp (disch := omega) only [nLe, nLeR, nLeL, nLt, nLtR, nLtL, nEq, nEqR, nEqL, nClamp, nClampR, nAdd, nAddR, nAddL, nSub, nSubR, nMul, nMulR, nMulL, nDivR, vIn, vInR, iteZ, iteP, lEq, lEqR, forall_eq, forall_const, true_implies, false_implies, not_true_eq_false, not_false_eq_true, true_and, and_true, implies_true, Decidable.not_not, h1, a2, a3, nI_l]
      refine ⟨fun z => by omega, fun _ => ⟨by omega, fun z => no (by simp [z]), fun z => ⟨by omega, fun z2 => no (by subst z; simp [z2]), fun z2 => ?_⟩⟩⟩
      rw [fI_at hp (by subst z; simp [z2]) (by omega)] at hQ
      exact hQ
  exact key w.1 0 (by omega) (fun j hj => absurd hj (Nat.not_lt_zero j))
end HW

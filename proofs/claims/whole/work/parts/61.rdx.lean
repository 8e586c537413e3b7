/-! the readings as functions: fault, data, token -/
def fx (T : TPt) (i w : Nat) : Nat := w + 16 * (tk T i).2.1
def vl (T : TPt) (i : Nat) : Int64 := lN (tk T i).2.2.1
def fT (b : TBt) (v : Int64) : Nat := fa_first (fun t => b.2.1 t == v) b.1
def fC (b : TBt) (t : Nat) (v : Int64) : Nat := fa_first (fun c => b.2.2.2.1 t c == v) (b.2.2.1 t)
def eT : TBt := (0, fun _ => 0, fun _ => 0, fun _ _ => 0, fun _ _ => 0)
def rdCol (T : TPt) (b : TBt) (t i : Nat) : Nat × TBt × Nat :=
  if isN (tk T i) = false then (fx T i 1, b, i)
  else if fC b t (vl T i) < b.2.2.1 t then (fx T i 3, b, i)
  else if 4 ≤ b.2.2.1 t then (fx T i 5, b, i)
  else if isN (tk T (i + 1)) = true then (if fT b (vl T (i + 1)) < b.1 then (0, addC b t (vl T i) (fT b (vl T (i + 1))), i + 2) else (fx T (i + 1) 2, b, i + 1))
  else if isW (tk T (i + 1)) 397973 = true then (0, addC b t (vl T i) 5, i + 2)
  else if isW (tk T (i + 1)) 212302449 = true then (0, addC b t (vl T i) 6, i + 2)
  else (fx T (i + 1) 1, b, i + 1)
def rdCols (T : TPt) (t : Nat) : Nat → TBt → Nat → Nat × TBt × Nat
  | 0, b, i => (0, b, i)
  | m + 1, b, i =>
    if (rdCol T b t (i + 1)).1 ≠ 0 then rdCol T b t (i + 1)
    else if isS (tk T (rdCol T b t (i + 1)).2.2) 44 = true then rdCols T t m (rdCol T b t (i + 1)).2.1 (rdCol T b t (i + 1)).2.2
    else if isS (tk T (rdCol T b t (i + 1)).2.2) 59 = true then (0, (rdCol T b t (i + 1)).2.1, (rdCol T b t (i + 1)).2.2 + 1)
    else (fx T (rdCol T b t (i + 1)).2.2 1, (rdCol T b t (i + 1)).2.1, (rdCol T b t (i + 1)).2.2)
def rdTab (T : TPt) (b : TBt) (i : Nat) : Nat × TBt × Nat :=
  if isW (tk T i) 10650290 = false then (fx T i 1, b, i)
  else if 5 ≤ b.1 then (fx T i 5, b, i)
  else if isN (tk T (i + 1)) = false then (fx T (i + 1) 1, b, i + 1)
  else if fT b (vl T (i + 1)) < b.1 then (fx T (i + 1) 3, b, i + 1)
  else rdCols T b.1 5 (addT b (vl T (i + 1))) (i + 1)
def rdTabs (T : TPt) : Nat → TBt → Nat → Nat × TBt × Nat
  | 0, b, i => (0, b, i)
  | m + 1, b, i => if (tk T i).1 = 0 then (0, b, i) else if (rdTab T b i).1 ≠ 0 then rdTab T b i else rdTabs T m (rdTab T b i).2.1 (rdTab T b i).2.2
theorem fx_pos {T : TPt} {i w : Nat} (h : 0 < w) : fx T i w ≠ 0 := by unfold fx; omega
theorem fx_lt {T : TPt} {i w : Nat} (hT : T.1 ≤ 1000) (h : w ≤ 5) : fx T i w < 20000 := by
  have := (tok_le (tp_le T i)).2.2
  unfold fx tk; omega
/-- a column that is read adds one -/
theorem rdCol_ok {T : TPt} {b : TBt} {t i : Nat} (h : (rdCol T b t i).1 = 0) : ∃ k, (k = 5 ∨ k = 6 ∨ k < b.1) ∧ b.2.2.1 t < 4 ∧ isN (tk T i) = true ∧ ¬ fC b t (vl T i) < b.2.2.1 t ∧ (rdCol T b t i).2 = (addC b t (vl T i) k, i + 2) := by
  revert h
  unfold rdCol
  split
  · intro h; exact absurd h (fx_pos (by decide))
  · rename_i hn
    split
    · intro h; exact absurd h (fx_pos (by decide))
    · split
      · intro h; exact absurd h (fx_pos (by decide))
      · have hn : isN (tk T i) = true := by simpa using hn
        split
        · split
          · rename_i hk; intro _; exact ⟨_, Or.inr (Or.inr hk), by omega, hn, by assumption, rfl⟩
          · intro h; exact absurd h (fx_pos (by decide))
        · split
          · intro _; exact ⟨5, Or.inl rfl, by omega, hn, by assumption, rfl⟩
          · split
            · intro _; exact ⟨6, Or.inr (Or.inl rfl), by omega, hn, by assumption, rfl⟩
            · intro h; exact absurd h (fx_pos (by decide))
theorem rdCols_n {T : TPt} {t : Nat} : ∀ (m : Nat) (b : TBt) (i : Nat), (rdCols T t m b i).1 = 0 → (rdCols T t m b i).2.1.1 = b.1
  | 0, b, i, _ => rfl
  | m + 1, b, i, h => by
    rw [rdCols] at h ⊢
    by_cases h1 : (rdCol T b t (i + 1)).1 = 0
    · obtain ⟨k, -, -, -, -, e⟩ := rdCol_ok h1
      rw [if_neg (by simp [h1])] at h ⊢
      have e1 : (rdCol T b t (i + 1)).2.1.1 = b.1 := by rw [e]; rfl
      split
      · rename_i hs
        rw [if_pos hs] at h
        rw [rdCols_n m _ _ h, e1]
      · split <;> exact e1
    · rw [if_pos h1] at h
      exact absurd h h1
theorem rdTab_n {T : TPt} {b : TBt} {i : Nat} (h : (rdTab T b i).1 = 0) : (rdTab T b i).2.1.1 = b.1 + 1 ∧ b.1 < 5 := by
  revert h
  unfold rdTab
  split
  · intro h; exact absurd h (fx_pos (by decide))
  · split
    · intro h; exact absurd h (fx_pos (by decide))
    · split
      · intro h; exact absurd h (fx_pos (by decide))
      · split
        · intro h; exact absurd h (fx_pos (by decide))
        · intro h; exact ⟨by rw [rdCols_n _ _ _ h]; rfl, by omega⟩
section RDX
variable {K : KT} {G : St} {h t : Nat} {b : TBt} {w : RWt} {T : TPt} {i : Nat}
theorem tk_1 {k : Nat} (hA : isN (tk T k) = true) : (tk T k).1 = 1 := by simp [isN] at hA; exact hA.1
theorem XAt.v {k : Nat} (hA : XAt G T k) (h4 : (tk T k).1 ≠ 4) : sL G 2 5 = vl T k := hA.2.2.2.2 h4
theorem s_X5_faultHere {Q : Int32 → St → Prop} {k : Nat} (hL : Lay G.2.2) (hA : XAt G T i) (hQ : Q (nI (fx T i k)) G) : EvI K mX5_faultHere 0 0 [(0, .ref 4), (1, .int (nI k))] [] G Q := by
  refine kX5_faultHere_0 hL ?_
  try simp (disch := omega) only [nLe, nLeR, nLeL, nLt, nLtR, nLtL, nEq, nEqR, nEqL, nClamp, nClampR, nAdd, nAddR, nAddL, nSub, nSubR, nMul, nMulR, nMulL, nDivR, vIn, vInR, iteZ, iteP, lEq, lEqR, forall_eq, forall_const, true_implies, false_implies, not_true_eq_false, not_false_eq_true, true_and, and_true, implies_true, Decidable.not_not, hA.2.2.1]
  exact hQ
theorem s_X5_passSign {Q : Int32 → St → Prop} {c : Nat} (hL : Lay G.2.2) (hA : XAt G T i) (hc : c < 256) (hQ : ∀ G', KpT G G' → XAt G' T (if isS (tk T i) c then i + 1 else i) → Q (nI (if isS (tk T i) c then 0 else fx T i 1)) G') : EvI K mX5_passSign 3 0 [(0, .ref 4), (1, .int (nI c))] [] G Q := by
  refine kX5_passSign_0 hL (s_X7_isSign hL hA hc ?_)
  by_cases hs : isS (tk T i) c = true
  · rw [if_pos hs] at hQ ⊢
    rw [if_pos hs] at hQ
    exact ⟨fun _ => s_X7_next hL hA (fun G1 k1 a1 => hQ G1 k1 a1), fun z => absurd z (by decide)⟩
  · rw [if_neg hs] at hQ ⊢
    rw [if_neg hs] at hQ
    exact ⟨fun z => absurd rfl z, fun _ => s_X5_faultHere hL hA (hQ G KpT.rf hA)⟩
theorem fI_fT {v : Int64} (hb : b.1 ≤ 5) : fI (fun t => b.2.1 t == v) b.1 = if fT b v < b.1 then nI (fT b v) else -1 := rfl
theorem nI_m1 {a : Nat} (ha : a < 2147483648) : ¬ nI a = -1 := by
  intro z
  have := congrArg Int32.toInt z
  rw [nI_toInt ha, show (-1 : Int32).toInt = -1 from rfl] at this; omega
theorem kdX_lo {k : Nat} (h : k < 5) : kdX k = nI k := by unfold kdX; rw [if_neg (by omega), if_neg (by omega)]
theorem s_X5_readColumn {Q : Int32 → St → Prop} (hL : Lay G.2.2) (hh : h = 39 ∨ h = 49) (hb : XTb G h b) (ht : t < b.1) (hA : XAt G T i) (hQ : ∀ G', Kq (sTb h) G G' → XAt G' T (rdCol T b t i).2.2 → XTb G' h (rdCol T b t i).2.1 → Q (nI (rdCol T b t i).1) G') : EvI K mX5_readColumn 3 0 [(0, .ref 4), (1, .ref h), (2, .int (nI t))] [] G Q := by
  have hb5 := hb.2.1
  have ct := (hb.2.2 t ht).2.1
  have c4 := (hb.2.2 t ht).2.2.1
  refine kX5_readColumn_0 hL hh (s_X7_isName hL hA ?_)
  try simp (disch := omega) only [nLe, nLeR, nLeL, nLt, nLtR, nLtL, nEq, nEqR, nEqL, nClamp, nClampR, nAdd, nAddR, nAddL, nSub, nSubR, nMul, nMulR, nMulL, nDivR, vIn, vInR, iteZ, iteP, lEq, lEqR, forall_eq, forall_const, true_implies, false_implies, not_true_eq_false, not_false_eq_true, true_and, and_true, implies_true, Decidable.not_not]
  refine ⟨fun hn => ?_, fun hn => ?_⟩
  case refine_2 =>
    have hn : isN (tk T i) = false := by simpa using hn
    have e : rdCol T b t i = (fx T i 1, b, i) := by simp [rdCol, hn]
    rw [e] at hQ
    exact s_X5_faultHere hL hA (hQ G Kq.rf hA hb)
  rw [hA.v (by rw [tk_1 hn]; decide)]
  refine s_X1_hasColumnNamed hL hh hb ht ?_
  try simp (disch := omega) only [nLe, nLeR, nLeL, nLt, nLtR, nLtL, nEq, nEqR, nEqL, nClamp, nClampR, nAdd, nAddR, nAddL, nSub, nSubR, nMul, nMulR, nMulL, nDivR, vIn, vInR, iteZ, iteP, lEq, lEqR, forall_eq, forall_const, true_implies, false_implies, not_true_eq_false, not_false_eq_true, true_and, and_true, implies_true, Decidable.not_not]
  refine ⟨fun hc => ⟨by omega, ?_⟩, fun hc => ?_⟩
  case refine_2 =>
    have e : rdCol T b t i = (fx T i 3, b, i) := by simp [rdCol, hn]; intro q; exact absurd hc (Nat.not_lt.mpr q)
    rw [e] at hQ
    exact s_X5_faultHere hL hA (hQ G Kq.rf hA hb)
  try simp (disch := omega) only [nLe, nLeR, nLeL, nLt, nLtR, nLtL, nEq, nEqR, nEqL, nClamp, nClampR, nAdd, nAddR, nAddL, nSub, nSubR, nMul, nMulR, nMulL, nDivR, vIn, vInR, iteZ, iteP, lEq, lEqR, forall_eq, forall_const, true_implies, false_implies, not_true_eq_false, not_false_eq_true, true_and, and_true, implies_true, Decidable.not_not, ct]
  have hc : ¬ fC b t (vl T i) < b.2.2.1 t := hc
  refine ⟨fun h4 => ?_, fun h4 => ?_⟩
  case refine_2 =>
    have e : rdCol T b t i = (fx T i 5, b, i) := by
      unfold rdCol
      rw [if_neg (by simp [hn]), if_neg hc, if_pos (by omega)]
    rw [e] at hQ
    exact s_X5_faultHere hL hA (hQ G Kq.rf hA hb)
  refine s_X7_next hL hA (fun G1 k1 a1 => ?_)
  have hL1 := k1.1.lay hL
  have q1 : Kq (sTb h) G G1 := k1.toq.mono (fun i k z => Or.inl z)
  have b1 : XTb G1 h b := hb.kq k1.toq (fun i k z => by omega)
  have base : rdCol T b t i = (if isN (tk T (i + 1)) = true then (if fT b (vl T (i + 1)) < b.1 then (0, addC b t (vl T i) (fT b (vl T (i + 1))), i + 2) else (fx T (i + 1) 2, b, i + 1)) else if isW (tk T (i + 1)) 397973 = true then (0, addC b t (vl T i) 5, i + 2) else if isW (tk T (i + 1)) 212302449 = true then (0, addC b t (vl T i) 6, i + 2) else (fx T (i + 1) 1, b, i + 1)) := by
    conv => lhs; unfold rdCol
    rw [if_neg (by simp [hn]), if_neg hc, if_neg (by omega)]
  have fin : ∀ k, rdCol T b t i = (0, addC b t (vl T i) k, i + 2) → EvI K mX5_readColumn 3 151 [(0, .ref 4), (1, .ref h), (2, .int (nI t)), (3, .long (vl T i)), (5, .int (kdX k))] [] G1 Q := by
    intro k e
    rw [e] at hQ
    refine kX5_readColumn_151 hL1 hh (s_X1_addColumn hL1 hh b1 ht h4 (fun G2 k2 b2 lo2 => ?_))
    have a2 : XAt G2 T (i + 1) := by
      obtain ⟨⟨p1, p2, p3⟩, p4, p5, p6, p7⟩ := a1
      exact ⟨⟨(lo2 2 2 (by omega)).1.trans p1, p2, fun j hj => ⟨(lo2 3 j (by omega)).1.trans (p3 j hj).1, (p3 j hj).2⟩⟩, (lo2 2 3 (by omega)).1.trans p4, (lo2 2 4 (by omega)).1.trans p5, (lo2 2 1 (by omega)).1.trans p6, fun y => (lo2 2 5 (by omega)).2.trans (p7 y)⟩
    refine s_X7_next (k2.lay hL1) a2 (fun G3 k3 a3 => hQ G3 ((q1.tr k2).tr (k3.toq.mono (fun i k z => Or.inl z))) a3 (b2.kq k3.toq (fun i k z => by omega)))
  refine s_X7_isName hL1 a1 ?_
  try simp (disch := omega) only [nLe, nLeR, nLeL, nLt, nLtR, nLtL, nEq, nEqR, nEqL, nClamp, nClampR, nAdd, nAddR, nAddL, nSub, nSubR, nMul, nMulR, nMulL, nDivR, vIn, vInR, iteZ, iteP, lEq, lEqR, forall_eq, forall_const, true_implies, false_implies, not_true_eq_false, not_false_eq_true, true_and, and_true, implies_true, Decidable.not_not]
  refine ⟨fun hn2 => s_X7_isWord (w := 397973) hL1 a1 (by decide) ?_, fun hn2 => ?_⟩
  · try simp (disch := omega) only [nLe, nLeR, nLeL, nLt, nLtR, nLtL, nEq, nEqR, nEqL, nClamp, nClampR, nAdd, nAddR, nAddL, nSub, nSubR, nMul, nMulR, nMulL, nDivR, vIn, vInR, iteZ, iteP, lEq, lEqR, forall_eq, forall_const, true_implies, false_implies, not_true_eq_false, not_false_eq_true, true_and, and_true, implies_true, Decidable.not_not]
    rw [if_neg hn2] at base
    refine ⟨fun w1 => s_X7_isWord (w := 212302449) hL1 a1 (by decide) ?_, fun w1 => ?_⟩
    · try simp (disch := omega) only [nLe, nLeR, nLeL, nLt, nLtR, nLtL, nEq, nEqR, nEqL, nClamp, nClampR, nAdd, nAddR, nAddL, nSub, nSubR, nMul, nMulR, nMulL, nDivR, vIn, vInR, iteZ, iteP, lEq, lEqR, forall_eq, forall_const, true_implies, false_implies, not_true_eq_false, not_false_eq_true, true_and, and_true, implies_true, Decidable.not_not]
      rw [if_neg w1] at base
      refine ⟨fun w2 => ?_, fun w2 => ?_⟩
      · rw [if_neg w2] at base
        rw [base] at hQ
        exact s_X5_faultHere hL1 a1 (hQ G1 q1 a1 b1)
      · rw [if_pos w2] at base
        rw [hA.v (by rw [tk_1 hn]; decide)]
        exact fin 6 base
    · rw [if_pos w1] at base
      rw [hA.v (by rw [tk_1 hn]; decide)]
      exact fin 5 base
  · rw [if_pos hn2] at base
    rw [a1.v (by rw [tk_1 hn2]; decide), hA.v (by rw [tk_1 hn]; decide)]
    refine s_X1_tableNamed hL1 hh b1 ?_
    rw [fI_fT hb5]
    by_cases hf : fT b (vl T (i + 1)) < b.1
    · rw [if_pos hf] at base ⊢
      refine ⟨fun _ => ?_, fun z => absurd z (nI_m1 (by omega))⟩
      have := fin _ base
      rw [kdX_lo (by omega)] at this
      exact this
    · rw [if_neg hf] at base ⊢
      rw [base] at hQ
      exact ⟨fun z => absurd rfl z, fun _ => s_X5_faultHere hL1 a1 (hQ G1 q1 a1 b1)⟩
theorem addC_n {v : Int64} {k : Nat} : (addC b t v k).1 = b.1 ∧ (addC b t v k).2.2.1 t = b.2.2.1 t + 1 := ⟨rfl, by simp [addC]⟩
theorem s_X5_readColumns {Q : Int32 → St → Prop} (hL : Lay G.2.2) (hh : h = 39 ∨ h = 49) (hb : XTb G h b) (ht : t < b.1) (h0 : b.2.2.1 t = 0) (hA : XAt G T i) (hQ : ∀ G', Kq (sTb h) G G' → XAt G' T (rdCols T t 5 b i).2.2 → XTb G' h (rdCols T t 5 b i).2.1 → Q (nI (rdCols T t 5 b i).1) G') : EvI K mX5_readColumns 4 0 [(0, .ref 4), (1, .ref h), (2, .int (nI t))] [] G Q := by
  refine kX5_readColumns_0 hL hh ?_
  have key : ∀ (m : Nat) (b : TBt) (i : Nat) (G1 : St), m ≤ 5 → Lay G1.2.2 → XTb G1 h b → t < b.1 → b.2.2.1 t + m = 5 → XAt G1 T i → (∀ G', Kq (sTb h) G1 G' → XAt G' T (rdCols T t m b i).2.2 → XTb G' h (rdCols T t m b i).2.1 → Q (nI (rdCols T t m b i).1) G') → EvI K mX5_readColumns 4 5 [(0, .ref 4), (1, .ref h), (2, .int (nI t)), (3, .int 0), (4, .int (nI (5 - m)))] [] G1 Q := by
    intro m
    induction m with
    | zero =>
      intro b i G1 hm hL1 hb1 ht1 hc hA1 hQ1
      have := (hb1.2.2 t ht1).2.2.1
      omega
    | succ m ih =>
      intro b i G1 hm hL1 hb1 ht1 hc hA1 hQ1
      refine kX5_readColumns_5 hL1 hh ?_
      try simp (disch := omega) only [nLe, nLeR, nLeL, nLt, nLtR, nLtL, nEq, nEqR, nEqL, nClamp, nClampR, nAdd, nAddR, nAddL, nSub, nSubR, nMul, nMulR, nMulL, nDivR, vIn, vInR, iteZ, iteP, lEq, lEqR, forall_eq, forall_const, true_implies, false_implies, not_true_eq_false, not_false_eq_true, true_and, and_true, implies_true, Decidable.not_not]
      refine ⟨fun z => by omega, fun _ => s_X7_next hL1 hA1 (fun G2 k2 a2 => ?_)⟩
      have hL2 := k2.1.lay hL1
      have q2 : Kq (sTb h) G1 G2 := k2.toq.mono (fun i k z => Or.inl z)
      refine s_X5_readColumn hL2 hh (hb1.kq k2.toq (fun i k z => by omega)) ht1 a2 (fun G3 k3 a3 b3 => ?_)
      have hL3 := k3.lay hL2
      rw [rdCols] at hQ1
      have hlt : (rdCol T b t (i + 1)).1 < 20000 := by
        have : T.1 ≤ 1000 := hA1.1.2.1
        have f : ∀ j w, w ≤ 5 → fx T j w < 20000 := fun j w hw => fx_lt this hw
        unfold rdCol
        repeat' split
        all_goals first | exact f _ _ (by decide) | simp
      generalize hr : rdCol T b t (i + 1) = r at *
      try simp (disch := omega) only [nLe, nLeR, nLeL, nLt, nLtR, nLtL, nEq, nEqR, nEqL, nClamp, nClampR, nAdd, nAddR, nAddL, nSub, nSubR, nMul, nMulR, nMulL, nDivR, vIn, vInR, iteZ, iteP, lEq, lEqR, forall_eq, forall_const, true_implies, false_implies, not_true_eq_false, not_false_eq_true, true_and, and_true, implies_true, Decidable.not_not]
      by_cases hz : r.1 = 0
      · have hsuc : t < r.2.1.1 ∧ r.2.1.2.2.1 t + m = 5 := by
          rw [← hr] at hz ⊢
          obtain ⟨k, -, -, -, -, e⟩ := rdCol_ok hz
          rw [e]
          have := addC_n (b := b) (t := t) (v := vl T (i + 1)) (k := k)
          exact ⟨by show t < b.1; exact ht1, by show (addC b t (vl T (i + 1)) k).2.2.1 t + m = 5; omega⟩
        rw [if_neg (by simp [hz])] at hQ1
        refine ⟨fun z => absurd hz z, fun _ => s_X7_isSign (c := 44) hL3 a3 (by decide) ?_⟩
        try simp (disch := omega) only [nLe, nLeR, nLeL, nLt, nLtR, nLtL, nEq, nEqR, nEqL, nClamp, nClampR, nAdd, nAddR, nAddL, nSub, nSubR, nMul, nMulR, nMulL, nDivR, vIn, vInR, iteZ, iteP, lEq, lEqR, forall_eq, forall_const, true_implies, false_implies, not_true_eq_false, not_false_eq_true, true_and, and_true, implies_true, Decidable.not_not]
        refine ⟨fun z => ?_, fun z => ?_⟩
        · rw [if_pos z] at hQ1
          rw [hz, show 5 - (m + 1) + 1 = 5 - m by omega]
          exact ih _ _ G3 (by omega) hL3 b3 hsuc.1 hsuc.2 a3 (fun G4 k4 a4 b4 => hQ1 G4 ((q2.tr k3).tr k4) a4 b4)
        · rw [if_neg z] at hQ1
          refine kX5_readColumns_50 hL3 ?_
          rw [hz]
          refine ⟨fun _ => s_X5_passSign (c := 59) hL3 a3 (by decide) (fun G4 k4 a4 => ?_), fun z => absurd rfl z⟩
          have q4 := (q2.tr k3).tr (k4.toq.mono (fun i k z => Or.inl z))
          have b4 := b3.kq k4.toq (fun i k z => by omega)
          by_cases hs : isS (tk T r.2.2) 59 = true
          · rw [if_pos hs] at hQ1 a4 ⊢
            exact hQ1 G4 q4 a4 b4
          · rw [if_neg hs] at hQ1 a4 ⊢
            exact hQ1 G4 q4 a4 b4
      · rw [if_pos hz] at hQ1
        refine ⟨fun _ => kX5_readColumns_50 hL3 ?_, fun z => absurd z hz⟩
        try simp (disch := omega) only [nLe, nLeR, nLeL, nLt, nLtR, nLtL, nEq, nEqR, nEqL, nClamp, nClampR, nAdd, nAddR, nAddL, nSub, nSubR, nMul, nMulR, nMulL, nDivR, vIn, vInR, iteZ, iteP, lEq, lEqR, forall_eq, forall_const, true_implies, false_implies, not_true_eq_false, not_false_eq_true, true_and, and_true, implies_true, Decidable.not_not]
        exact ⟨fun z => absurd z hz, fun _ => hQ1 G3 (q2.tr k3) a3 b3⟩
  exact key 5 b i G (by omega) hL hb ht (by omega) hA hQ
theorem s_X5_readTable {Q : Int32 → St → Prop} (hL : Lay G.2.2) (hh : h = 39 ∨ h = 49) (hb : XTb G h b) (hA : XAt G T i) (hQ : ∀ G', Kq (sTb h) G G' → XAt G' T (rdTab T b i).2.2 → XTb G' h (rdTab T b i).2.1 → Q (nI (rdTab T b i).1) G') : EvI K mX5_readTable 5 0 [(0, .ref 4), (1, .ref h)] [] G Q := by
  have hb5 := hb.2.1
  refine kX5_readTable_0 hL hh (s_X7_isWord (w := 10650290) hL hA (by decide) ?_)
  unfold rdTab at hQ
  try simp (disch := omega) only [nLe, nLeR, nLeL, nLt, nLtR, nLtL, nEq, nEqR, nEqL, nClamp, nClampR, nAdd, nAddR, nAddL, nSub, nSubR, nMul, nMulR, nMulL, nDivR, vIn, vInR, iteZ, iteP, lEq, lEqR, forall_eq, forall_const, true_implies, false_implies, not_true_eq_false, not_false_eq_true, true_and, and_true, implies_true, Decidable.not_not, hb.1]
  refine ⟨fun hw => ?_, fun hw => ?_⟩
  case refine_2 =>
    rw [if_pos (by simpa using hw)] at hQ
    exact s_X5_faultHere hL hA (hQ G Kq.rf hA hb)
  rw [if_neg (by simp [hw])] at hQ
  refine ⟨fun h5 => s_X7_next hL hA (fun G1 k1 a1 => ?_), fun h5 => ?_⟩
  case refine_2 =>
    rw [if_pos (by omega)] at hQ
    exact s_X5_faultHere hL hA (hQ G Kq.rf hA hb)
  rw [if_neg (by omega)] at hQ
  have hL1 := k1.1.lay hL
  have q1 : Kq (sTb h) G G1 := k1.toq.mono (fun i k z => Or.inl z)
  have b1 : XTb G1 h b := hb.kq k1.toq (fun i k z => by omega)
  refine s_X7_isName hL1 a1 ?_
  try simp (disch := omega) only [nLe, nLeR, nLeL, nLt, nLtR, nLtL, nEq, nEqR, nEqL, nClamp, nClampR, nAdd, nAddR, nAddL, nSub, nSubR, nMul, nMulR, nMulL, nDivR, vIn, vInR, iteZ, iteP, lEq, lEqR, forall_eq, forall_const, true_implies, false_implies, not_true_eq_false, not_false_eq_true, true_and, and_true, implies_true, Decidable.not_not]
  refine ⟨fun hn => ?_, fun hn => ?_⟩
  case refine_2 =>
    rw [if_pos (by simpa using hn)] at hQ
    exact s_X5_faultHere hL1 a1 (hQ G1 q1 a1 b1)
  rw [if_neg (by simp [hn])] at hQ
  rw [a1.v (by rw [tk_1 hn]; decide)]
  refine s_X1_tableNamed hL1 hh b1 ?_
  rw [fI_fT hb5]
  by_cases hf : fT b (vl T (i + 1)) < b.1
  · rw [if_pos hf] at hQ ⊢
    exact ⟨fun z => absurd z (nI_m1 (by omega)), fun _ => s_X5_faultHere hL1 a1 (hQ G1 q1 a1 b1)⟩
  · rw [if_neg hf] at hQ ⊢
    rw [a1.v (by rw [tk_1 hn]; decide)]
    refine ⟨fun _ => s_X1_addTable hL1 hh b1 (by omega) (fun G2 k2 b2 lo2 => ?_), fun z => absurd rfl z⟩
    have a2 : XAt G2 T (i + 1) := by
      obtain ⟨⟨p1, p2, p3⟩, p4, p5, p6, p7⟩ := a1
      exact ⟨⟨(lo2 2 2 (by omega)).1.trans p1, p2, fun j hj => ⟨(lo2 3 j (by omega)).1.trans (p3 j hj).1, (p3 j hj).2⟩⟩, (lo2 2 3 (by omega)).1.trans p4, (lo2 2 4 (by omega)).1.trans p5, (lo2 2 1 (by omega)).1.trans p6, fun y => (lo2 2 5 (by omega)).2.trans (p7 y)⟩
    have e2 : sI G2 h 9 = nI (b.1 + 1) := b2.1
    try simp (disch := omega) only [nLe, nLeR, nLeL, nLt, nLtR, nLtL, nEq, nEqR, nEqL, nClamp, nClampR, nAdd, nAddR, nAddL, nSub, nSubR, nMul, nMulR, nMulL, nDivR, vIn, vInR, iteZ, iteP, lEq, lEqR, forall_eq, forall_const, true_implies, false_implies, not_true_eq_false, not_false_eq_true, true_and, and_true, implies_true, Decidable.not_not, e2]
    exact s_X5_readColumns (t := b.1) (k2.lay hL1) hh b2 (Nat.lt_succ_self _) (by simp [addT]) a2 (fun G3 k3 a3 b3 => hQ G3 ((q1.tr k2).tr k3) a3 b3)
theorem rdCol_lt (hT : T.1 ≤ 1000) : (rdCol T b t i).1 < 20000 := by
  have f : ∀ j w, w ≤ 5 → fx T j w < 20000 := fun j w hw => fx_lt hT hw
  unfold rdCol
  repeat' split
  all_goals first | exact f _ _ (by decide) | simp
theorem rdCols_lt (hT : T.1 ≤ 1000) : ∀ (m : Nat) (b : TBt) (i : Nat), (rdCols T t m b i).1 < 20000
  | 0, b, i => by rw [rdCols]; simp
  | m + 1, b, i => by
    rw [rdCols]
    repeat' split
    · exact rdCol_lt hT
    · exact rdCols_lt hT m _ _
    · simp
    · exact fx_lt hT (by decide)
theorem rdTab_lt (hT : T.1 ≤ 1000) : (rdTab T b i).1 < 20000 := by
  have f : ∀ j w, w ≤ 5 → fx T j w < 20000 := fun j w hw => fx_lt hT hw
  unfold rdTab
  repeat' split
  all_goals first | exact f _ _ (by decide) | exact rdCols_lt hT _ _ _
theorem s_X5_readTables {Q : Int32 → St → Prop} (hL : Lay G.2.2) (hh : h = 39 ∨ h = 49) (hT : XTp G T) (hQ : ∀ G', Kq (fun i k => i = 2 ∨ h ≤ i ∧ i ≤ h + 9) G G' → XTp G' T → ((rdTabs T 6 eT 0).1 = 0 → XTb G' h (rdTabs T 6 eT 0).2.1 ∧ sI G' h 10 = 0 ∧ (∀ j, j < 5 → sI G' (h + 7) j = 0) ∧ (∀ j, j < 4 → sI G' (h + 9) j = 0)) → Q (nI (rdTabs T 6 eT 0).1) G') : EvI K mX5_readTables 6 0 [(0, .ref 4), (1, .ref h)] [] G Q := by
  have t1000 := hT.2.1
  refine kX5_readTables_0 hL hh (kX1_clear_0 hL hh ?_)
  have ar7 : ∀ G : St, Lay G.2.2 → Ar G (h + 7) 0 5 := by
    rcases hh with rfl | rfl
    · intro G hL; exact la_46 hL
    · intro G hL; exact la_56 hL
  have ar9 : ∀ G : St, Lay G.2.2 → Ar G (h + 9) 0 4 := by
    rcases hh with rfl | rfl
    · intro G hL; exact la_48 hL
    · intro G hL; exact la_58 hL
  refine s_J7_fill hL (ar7 _ hL) (by decide) (fun G1 k1 z1 _ _ => s_J7_fill (k1.lay hL) (ar9 _ (k1.lay hL)) (by decide) (fun G2 k2 z2 _ _ => ?_))
  have hL2 := k2.lay (k1.lay hL)
  have q0 : Kq (fun i k => i = 2 ∨ h ≤ i ∧ i ≤ h + 9) G (uI (uI G h 9 0) h 10 0) := (kq_I (by omega)).sI (by omega)
  have q2 : Kq (fun i k => i = 2 ∨ h ≤ i ∧ i ≤ h + 9) G G2 := (q0.tr (k1.q.mono (fun i k z => by omega))).tr (k2.q.mono (fun i k z => by omega))
  have hT2 : XTp G2 T := by
    refine ((hT.kq ((kq_I (S := fun i _ => i = h) rfl).sI rfl) (fun i k z => by omega)).kq k1.q (fun i k z => by omega)).kq k2.q (fun i k z => by omega)
  have n9 : sI G2 h 9 = 0 := by rw [k2.I (by omega), k1.I (by omega)]; (simp [gI, gL, gIL, gLI] <;> try rfl)
  have n10 : sI G2 h 10 = 0 := by rw [k2.I (by omega), k1.I (by omega)]; (simp [gI, gL, gIL, gLI] <;> try rfl)
  have n7 : ∀ j, j < 5 → sI G2 (h + 7) j = 0 := fun j hj => by rw [k2.I (by omega)]; exact z1 j hj
  refine s_X7_rewind hL2 hT2 (fun G3 k3 a3 => ?_)
  have q3 := k3.toq
  have key : ∀ (m : Nat) (b : TBt) (i : Nat) (f : Nat) (G1 : St), m ≤ 6 → f < 20000 → Lay G1.2.2 → (f = 0 → XTb G1 h b) → (f = 0 → b.1 + m = 6) → XAt G1 T i → (∀ G', Kq (sTb h) G1 G' → XTp G' T → ((if f = 0 then rdTabs T m b i else (f, b, i)).1 = 0 → XTb G' h (if f = 0 then rdTabs T m b i else (f, b, i)).2.1) → Q (nI (if f = 0 then rdTabs T m b i else (f, b, i)).1) G') → EvI K mX5_readTables 6 15 [(0, .ref 4), (1, .ref h), (2, .int (nI f)), (3, .int (nI (6 - m)))] [] G1 Q := by
    intro m
    induction m with
    | zero =>
      intro b i f G1 hm hf hL1 hb1 hc hA1 hQ1
      refine kX5_readTables_15 hL1 hh ?_
      try simp (disch := omega) only [nLe, nLeR, nLeL, nLt, nLtR, nLtL, nEq, nEqR, nEqL, nClamp, nClampR, nAdd, nAddR, nAddL, nSub, nSubR, nMul, nMulR, nMulL, nDivR, vIn, vInR, iteZ, iteP, lEq, lEqR, forall_eq, forall_const, true_implies, false_implies, not_true_eq_false, not_false_eq_true, true_and, and_true, implies_true, Decidable.not_not]
      refine ⟨fun _ => ?_, fun z => by omega⟩
      by_cases hz : f = 0
      · have := (hb1 hz).2.1
        have := hc hz
        omega
      · rw [if_neg hz] at hQ1
        exact hQ1 G1 Kq.rf hA1.1 (fun z => absurd z hz)
    | succ m ih =>
      intro b i f G1 hm hf hL1 hb1 hc hA1 hQ1
      have h4 := tk_4 (T := T) i
      refine kX5_readTables_15 hL1 hh ?_
      try simp (disch := omega) only [nLe, nLeR, nLeL, nLt, nLtR, nLtL, nEq, nEqR, nEqL, nClamp, nClampR, nAdd, nAddR, nAddL, nSub, nSubR, nMul, nMulR, nMulL, nDivR, vIn, vInR, iteZ, iteP, lEq, lEqR, forall_eq, forall_const, true_implies, false_implies, not_true_eq_false, not_false_eq_true, true_and, and_true, implies_true, Decidable.not_not, hA1.2.1]
      refine ⟨fun z => by omega, fun _ => ⟨fun z => ?_, fun z => ⟨fun z2 => ?_, fun z2 => ?_⟩⟩⟩
      · rw [if_neg z] at hQ1
        exact hQ1 G1 Kq.rf hA1.1 (fun z2 => absurd z2 z)
      · rw [if_pos z, rdTabs, if_pos z2] at hQ1
        subst z
        exact hQ1 G1 Kq.rf hA1.1 (fun _ => hb1 rfl)
      · rw [if_pos z, rdTabs, if_neg z2] at hQ1
        refine s_X5_readTable hL1 hh (hb1 z) hA1 (fun G2 k2 a2 b2 => ?_)
        rw [show 6 - (m + 1) + 1 = 6 - m by omega]
        refine ih (rdTab T b i).2.1 (rdTab T b i).2.2 (rdTab T b i).1 G2 (by omega) (rdTab_lt t1000) (k2.lay hL1) (fun _ => b2) (fun z5 => ?_) a2 (fun G3 k3 a3 b3 => ?_)
        · have := (rdTab_n z5).1
          have := hc z
          omega
        · have e : (if (rdTab T b i).1 ≠ 0 then rdTab T b i else rdTabs T m (rdTab T b i).2.1 (rdTab T b i).2.2) = (if (rdTab T b i).1 = 0 then rdTabs T m (rdTab T b i).2.1 (rdTab T b i).2.2 else ((rdTab T b i).1, (rdTab T b i).2.1, (rdTab T b i).2.2)) := by
            by_cases y : (rdTab T b i).1 = 0
            · rw [if_neg (by simp [y]), if_pos y]
            · rw [if_pos y, if_neg y]
          rw [e] at hQ1
          exact hQ1 G3 (k2.tr k3) a3 b3
  refine key 6 eT 0 0 G3 (Nat.le_refl _) (by decide) (k3.1.lay hL2) (fun _ => ⟨by rw [q3.I (by omega), n9]; rfl, by decide, fun t ht => absurd ht (Nat.not_lt_zero t)⟩) (fun _ => rfl) a3 (fun G4 k4 t4 b4 => ?_)
  rw [if_pos rfl] at b4 ⊢
  refine hQ G4 ((q2.tr (q3.mono (fun i k z => Or.inl z))).tr (k4.mono (fun i k z => by unfold sTb at z; omega))) t4 (fun z => ⟨b4 z, ?_, fun j hj => ?_, fun j hj => ?_⟩)
  · rw [k4.I (by unfold sTb; omega), q3.I (by omega)]; exact n10
  · rw [k4.I (by unfold sTb; omega), q3.I (by omega)]; exact n7 j hj
  · rw [k4.I (by unfold sTb; omega), q3.I (by omega)]; exact z2 j hj
end RDX

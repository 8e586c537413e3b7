def rdName (T : TPt) (b : TBt) (i : Nat) : Nat := if isN (tk T i) = false then fx T i 1 else if fT b (vl T i) < b.1 then 0 else fx T i 2
def fR (w : RWt) (k v : Nat) : Nat := fa_first (fun r => w.2.1 r == k && nOf w.2.1 k r == v) w.1
def rdCell (T : TPt) (b : TBt) (w : RWt) (t c i : Nat) : Nat × Int64 × Nat :=
  if b.2.2.2.2 t c = 5 then (if isN (tk T i) = true then (0, vl T i, i + 1) else (fx T i 1, 0, i))
  else if b.2.2.2.2 t c = 6 then (if (tk T i).1 = 2 then (0, vl T i, i + 1) else (fx T i 1, 0, i))
  else if isW (tk T i) 286880 = true then (0, -1, i + 1)
  else if (tk T i).1 = 2 then (if fR w (b.2.2.2.2 t c) (tk T i).2.2.1 < w.1 then (0, lN (fR w (b.2.2.2.2 t c) (tk T i).2.2.1), i + 1) else (fx T i 4, 0, i))
  else (fx T i 1, 0, i)
def rdCells (T : TPt) (b : TBt) (w : RWt) (t : Nat) : Nat → Nat → (Nat → Int64) → Nat → Nat × (Nat → Int64) × Nat
  | 0, _, cs, i => (0, cs, i)
  | m + 1, c, cs, i => if (rdCell T b w t c i).1 ≠ 0 then ((rdCell T b w t c i).1, cs, (rdCell T b w t c i).2.2) else rdCells T b w t m (c + 1) (fun d => if d = c then (rdCell T b w t c i).2.1 else cs d) (rdCell T b w t c i).2.2
/-- the cells of a row of table t, from token i on -/
def rdCs (T : TPt) (b : TBt) (w : RWt) (t i : Nat) : Nat × (Nat → Int64) × Nat := rdCells T b w t (b.2.2.1 t) 0 (fun _ => 0) i
def rdRow (T : TPt) (b : TBt) (w : RWt) (i : Nat) : Nat × RWt × Nat :=
  if rdName T b i ≠ 0 then (rdName T b i, w, i)
  else if 30 ≤ w.1 then (fx T i 5, w, i)
  else if (rdCs T b w (fT b (vl T i)) (i + 1)).1 ≠ 0 then ((rdCs T b w (fT b (vl T i)) (i + 1)).1, w, (rdCs T b w (fT b (vl T i)) (i + 1)).2.2)
  else if isS (tk T (rdCs T b w (fT b (vl T i)) (i + 1)).2.2) 59 = true then (0, addR w (fT b (vl T i)) (rdCs T b w (fT b (vl T i)) (i + 1)).2.1, (rdCs T b w (fT b (vl T i)) (i + 1)).2.2 + 1)
  else (fx T (rdCs T b w (fT b (vl T i)) (i + 1)).2.2 1, w, (rdCs T b w (fT b (vl T i)) (i + 1)).2.2)
def rdRows (T : TPt) (b : TBt) : Nat → RWt → Nat → Nat × RWt × Nat
  | 0, w, i => (0, w, i)
  | m + 1, w, i => if (tk T i).1 = 0 then (0, w, i) else if (rdRow T b w i).1 ≠ 0 then rdRow T b w i else rdRows T b m (rdRow T b w i).2.1 (rdRow T b w i).2.2
theorem rdName_lt {T : TPt} {b : TBt} {i : Nat} (hT : T.1 ≤ 1000) : rdName T b i < 20000 := by
  unfold rdName
  split
  · exact fx_lt hT (by decide)
  · split
    · decide
    · exact fx_lt hT (by decide)
theorem rdName_0 {T : TPt} {b : TBt} {i : Nat} (h : rdName T b i = 0) : isN (tk T i) = true ∧ fT b (vl T i) < b.1 := by
  revert h
  unfold rdName
  split
  · intro h; exact absurd h (fx_pos (by decide))
  · rename_i hn
    split
    · intro _; exact ⟨by simpa using hn, by assumption⟩
    · intro h; exact absurd h (fx_pos (by decide))
theorem rdCell_lt {T : TPt} {b : TBt} {w : RWt} {t c i : Nat} (hT : T.1 ≤ 1000) : (rdCell T b w t c i).1 < 20000 := by
  have f : ∀ j w, w ≤ 5 → fx T j w < 20000 := fun j w hw => fx_lt hT hw
  unfold rdCell
  repeat' split
  all_goals first | exact f _ _ (by decide) | simp
theorem rdCells_lt {T : TPt} {b : TBt} {w : RWt} {t : Nat} (hT : T.1 ≤ 1000) : ∀ (m c : Nat) (cs : Nat → Int64) (i : Nat), (rdCells T b w t m c cs i).1 < 20000
  | 0, _, cs, i => by rw [rdCells]; simp
  | m + 1, c, cs, i => by
    rw [rdCells]
    split
    · exact rdCell_lt hT
    · exact rdCells_lt hT m _ _ _
theorem rdRow_lt {T : TPt} {b : TBt} {w : RWt} {i : Nat} (hT : T.1 ≤ 1000) : (rdRow T b w i).1 < 20000 := by
  have f : ∀ j w, w ≤ 5 → fx T j w < 20000 := fun j w hw => fx_lt hT hw
  unfold rdRow
  repeat' split
  all_goals first | exact f _ _ (by decide) | exact rdName_lt hT | exact rdCells_lt hT _ _ _ _ | simp
theorem rdRow_ok {T : TPt} {b : TBt} {w : RWt} {i : Nat} (h : (rdRow T b w i).1 = 0) : rdName T b i = 0 ∧ w.1 < 30 ∧ (rdCs T b w (fT b (vl T i)) (i + 1)).1 = 0 ∧ (rdRow T b w i).2 = (addR w (fT b (vl T i)) (rdCs T b w (fT b (vl T i)) (i + 1)).2.1, (rdCs T b w (fT b (vl T i)) (i + 1)).2.2 + 1) := by
  revert h
  unfold rdRow
  split
  · rename_i q; intro h; exact absurd h q
  · rename_i q
    split
    · intro h; exact absurd h (fx_pos (by decide))
    · split
      · rename_i q2; intro h; exact absurd h q2
      · rename_i q2
        split
        · intro _; exact ⟨by simpa using q, by omega, by simpa using q2, rfl⟩
        · intro h; exact absurd h (fx_pos (by decide))
section RDX2
variable {K : KT} {G : St} {h t : Nat} {b : TBt} {w : RWt} {T : TPt} {i : Nat}
theorem s_X5_faultOfTableName {Q : Int32 → St → Prop} (hL : Lay G.2.2) (hh : h = 39 ∨ h = 49) (hb : XTb G h b) (hA : XAt G T i) (hQ : Q (nI (rdName T b i)) G) : EvI K mX5_faultOfTableName 2 0 [(0, .ref 4), (1, .ref h)] [] G Q := by
  have hb5 := hb.2.1
  refine kX5_faultOfTableName_0 hL hh (s_X7_isName hL hA ?_)
  unfold rdName at hQ
  try simp (disch := omega) only [nLe, nLeR, nLeL, nLt, nLtR, nLtL, nEq, nEqR, nEqL, nClamp, nClampR, nAdd, nAddR, nAddL, nSub, nSubR, nMul, nMulR, nMulL, nDivR, vIn, vInR, iteZ, iteP, lEq, lEqR, forall_eq, forall_const, true_implies, false_implies, not_true_eq_false, not_false_eq_true, true_and, and_true, implies_true, Decidable.not_not]
  refine ⟨fun hn => ?_, fun hn => ?_⟩
  · rw [if_neg (by simp [hn])] at hQ
    rw [hA.v (by rw [tk_1 hn]; decide)]
    refine s_X1_tableNamed hL hh hb ?_
    rw [fI_fT hb5]
    by_cases hf : fT b (vl T i) < b.1
    · rw [if_pos hf] at hQ ⊢
      exact ⟨fun _ => hQ, fun z => absurd z (nI_m1 (by omega))⟩
    · rw [if_neg hf] at hQ ⊢
      exact ⟨fun z => absurd rfl z, fun _ => s_X5_faultHere hL hA hQ⟩
  · rw [if_pos (by simpa using hn)] at hQ
    exact s_X5_faultHere hL hA hQ
theorem s_X5_readCell {Q : Int32 → St → Prop} {c : Nat} {cs : Nat → Int64} (hL : Lay G.2.2) (hh : h = 39 ∨ h = 49) (hb : XTb G h b) (hob : okTb b) (ht : t < b.1) (hc : c < b.2.2.1 t) (hw : XRw G h b w) (h30 : w.1 < 30) (hcs : XCs G h w.1 c cs) (hA : XAt G T i) (hQ : ∀ G', Kq (sRw h) G G' → XAt G' T (rdCell T b w t c i).2.2 → XRw G' h b w → ((rdCell T b w t c i).1 = 0 → XCs G' h w.1 (c + 1) (fun d => if d = c then (rdCell T b w t c i).2.1 else cs d)) → Q (nI (rdCell T b w t c i).1) G') : EvI K mX5_readCell 3 0 [(0, .ref 4), (1, .ref h), (2, .int (nI t)), (3, .int (nI c))] [] G Q := by
  have hb5 := hb.2.1
  have c4 := (hb.2.2 t ht).2.2.1
  have hk6 := hob t c ht hc
  have hkd : sI G (h + 4) (t * 4 + c) = kdX (b.2.2.2.2 t c) := by rw [Nat.mul_comm]; exact ((hb.2.2 t ht).2.2.2 c hc).2
  have h4t := tk_4 (T := T) i
  -- a value is put
  have fin : ∀ v : Int64, rdCell T b w t c i = (0, v, i + 1) → EvI K mX5_readCell 3 123 [(0, .ref 4), (1, .ref h), (3, .int (nI c)), (5, .long v)] [] G Q := by
    intro v e
    rw [e] at hQ
    refine kX5_readCell_123 hL hh (s_X1_putCell hL hh hw (fun u hu => (hb.2.2 u hu).2.2.1) h30 (by omega) hcs (fun G1 k1 w1 c1 => ?_))
    have hL1 := k1.lay hL
    refine s_X7_next hL1 (hA.kq k1 (fun i k z => by omega)) (fun G2 k2 a2 => hQ G2 ((k1.mono (fun i k z => by unfold sRw; omega)).tr (k2.toq.mono (fun i k z => Or.inl z))) a2 (w1.kq k2.toq (fun i k z => by omega)) (fun _ j hj => ?_))
    rw [k2.toq.L (by omega)]
    exact c1 j hj
  have flt : ∀ k, rdCell T b w t c i = (fx T i k, 0, i) → 0 < k → EvI K mX5_faultHere 0 0 [(0, .ref 4), (1, .int (nI k))] [] G (fun r G => Q r G) := by
    intro k e hk
    rw [e] at hQ
    exact s_X5_faultHere hL hA (hQ G Kq.rf hA hw (fun z => absurd z (fx_pos hk)))
  refine kX5_readCell_0 hL hh ?_
  try simp (disch := omega) only [nLe, nLeR, nLeL, nLt, nLtR, nLtL, nEq, nEqR, nEqL, nClamp, nClampR, nAdd, nAddR, nAddL, nSub, nSubR, nMul, nMulR, nMulL, nDivR, vIn, vInR, iteZ, iteP, lEq, lEqR, forall_eq, forall_const, true_implies, false_implies, not_true_eq_false, not_false_eq_true, true_and, and_true, implies_true, Decidable.not_not, hkd]
  refine ⟨by omega, fun k1 => ?_, fun k1 => s_X7_isName hL hA ?_⟩
  · have k5 : ¬ b.2.2.2.2 t c = 5 := fun z => k1 ((kdX_m1 (by omega)).mpr z)
    refine ⟨fun k2 => ?_, fun k2 => s_X7_isWord (w := 286880) hL hA (by decide) ?_⟩
    · have k6 : b.2.2.2.2 t c = 6 := (kdX_m2 (by omega)).mp k2
      refine kX5_readCell_63 hL hh ?_
      try simp (disch := omega) only [nLe, nLeR, nLeL, nLt, nLtR, nLtL, nEq, nEqR, nEqL, nClamp, nClampR, nAdd, nAddR, nAddL, nSub, nSubR, nMul, nMulR, nMulL, nDivR, vIn, vInR, iteZ, iteP, lEq, lEqR, forall_eq, forall_const, true_implies, false_implies, not_true_eq_false, not_false_eq_true, true_and, and_true, implies_true, Decidable.not_not, hA.2.1]
      refine ⟨fun z => ⟨fun _ => ?_, fun z2 => absurd k2 z2⟩, fun z => flt 1 (by simp [rdCell, k5, k6, z]) (by decide)⟩
      rw [hA.v (by omega)]
      exact fin _ (by simp [rdCell, k6, z])
    · have k6 : ¬ b.2.2.2.2 t c = 6 := fun z => k2 ((kdX_m2 (by omega)).mpr z)
      try simp (disch := omega) only [nLe, nLeR, nLeL, nLt, nLtR, nLtL, nEq, nEqR, nEqL, nClamp, nClampR, nAdd, nAddR, nAddL, nSub, nSubR, nMul, nMulR, nMulL, nDivR, vIn, vInR, iteZ, iteP, lEq, lEqR, forall_eq, forall_const, true_implies, false_implies, not_true_eq_false, not_false_eq_true, true_and, and_true, implies_true, Decidable.not_not]
      refine ⟨fun z => fin _ (by simp [rdCell, k5, k6, z]), fun zw => ?_⟩
      refine kX5_readCell_63 hL hh ?_
      try simp (disch := omega) only [nLe, nLeR, nLeL, nLt, nLtR, nLtL, nEq, nEqR, nEqL, nClamp, nClampR, nAdd, nAddR, nAddL, nSub, nSubR, nMul, nMulR, nMulL, nDivR, vIn, vInR, iteZ, iteP, lEq, lEqR, forall_eq, forall_const, true_implies, false_implies, not_true_eq_false, not_false_eq_true, true_and, and_true, implies_true, Decidable.not_not, hA.2.1]
      refine ⟨fun z => ⟨fun z2 => absurd z2 k2, fun _ => ?_⟩, fun z => flt 1 (by simp [rdCell, k5, k6, zw, z]) (by decide)⟩
      have hv := tk_v (G := G) (T := T) (i := i) (fun j hj => (hA.1.2.2 j hj).2) (by omega)
      rw [hA.v (by omega), kdX_lo (by omega)]
      refine s_X1_rowNumbered hL hh hw hb5 (by omega) (by omega) ?_
      have hw30 := hw.2.1
      show ((¬ (Int32.toInt64 (if fR w (b.2.2.2.2 t c) (tk T i).2.2.1 < w.1 then nI (fR w (b.2.2.2.2 t c) (tk T i).2.2.1) else -1)) = (-1) → EvI K mX5_readCell 3 123 [(0, .ref 4), (1, .ref h), (3, .int (nI c)), (5, .long (Int32.toInt64 (if fR w (b.2.2.2.2 t c) (tk T i).2.2.1 < w.1 then nI (fR w (b.2.2.2.2 t c) (tk T i).2.2.1) else -1)))] [] G Q) ∧ _)
      by_cases hf : fR w (b.2.2.2.2 t c) (tk T i).2.2.1 < w.1
      · rw [if_pos hf, nI_l (by omega)]
        refine ⟨fun _ => fin _ (by simp [rdCell, k5, k6, zw, z, hf]), fun z2 => ?_⟩
        rw [show fI (fun r => w.2.1 r == b.2.2.2.2 t c && nOf w.2.1 (b.2.2.2.2 t c) r == (tk T i).2.2.1) w.1 = nI (fR w (b.2.2.2.2 t c) (tk T i).2.2.1) from if_pos hf, nI_l (by omega)] at z2
        have := congrArg Int64.toInt z2
        rw [pk_lT (by omega), show (-1 : Int64).toInt = -1 from rfl] at this
        omega
      · rw [if_neg hf]
        exact ⟨fun z2 => absurd (by decide) z2, fun _ => flt 4 (by simp [rdCell, k5, k6, zw, z, hf]) (by decide)⟩
  · have k5 : b.2.2.2.2 t c = 5 := (kdX_m1 (by omega)).mp k1
    try simp (disch := omega) only [nLe, nLeR, nLeL, nLt, nLtR, nLtL, nEq, nEqR, nEqL, nClamp, nClampR, nAdd, nAddR, nAddL, nSub, nSubR, nMul, nMulR, nMulL, nDivR, vIn, vInR, iteZ, iteP, lEq, lEqR, forall_eq, forall_const, true_implies, false_implies, not_true_eq_false, not_false_eq_true, true_and, and_true, implies_true, Decidable.not_not]
    refine ⟨fun z => ?_, fun z => flt 1 (by simp [rdCell, k5, z]) (by decide)⟩
    rw [hA.v (by rw [tk_1 z]; decide)]
    exact fin _ (by simp [rdCell, k5, z])
theorem s_X5_readRow {Q : Int32 → St → Prop} (hL : Lay G.2.2) (hh : h = 39 ∨ h = 49) (hb : XTb G h b) (hob : okTb b) (hw : XRw G h b w) (hA : XAt G T i) (hQ : ∀ G', Kq (sRw h) G G' → XAt G' T (rdRow T b w i).2.2 → XRw G' h b (rdRow T b w i).2.1 → Q (nI (rdRow T b w i).1) G') : EvI K mX5_readRow 4 0 [(0, .ref 4), (1, .ref h)] [] G Q := by
  have hb5 := hb.2.1
  have hw30 := hw.2.1
  have t1000 := hA.1.2.1
  have n1 := rdName_lt (b := b) (i := i) t1000
  refine kX5_readRow_0 hL hh (s_X5_faultOfTableName hL hh hb hA ?_)
  unfold rdRow at hQ
  try simp (disch := omega) only [nLe, nLeR, nLeL, nLt, nLtR, nLtL, nEq, nEqR, nEqL, nClamp, nClampR, nAdd, nAddR, nAddL, nSub, nSubR, nMul, nMulR, nMulL, nDivR, vIn, vInR, iteZ, iteP, lEq, lEqR, forall_eq, forall_const, true_implies, false_implies, not_true_eq_false, not_false_eq_true, true_and, and_true, implies_true, Decidable.not_not, hw.1]
  refine ⟨fun z => ?_, fun z => ?_⟩
  case refine_2 =>
    rw [if_pos z] at hQ
    exact hQ G Kq.rf hA hw
  obtain ⟨hn, hf⟩ := rdName_0 z
  rw [if_neg (by simp [z])] at hQ
  refine ⟨fun h30 => ?_, fun h30 => ?_⟩
  case refine_2 =>
    rw [if_pos (by omega)] at hQ
    exact s_X5_faultHere hL hA (hQ G Kq.rf hA hw)
  rw [if_neg (by omega)] at hQ
  rw [hA.v (by rw [tk_1 hn]; decide), z]
  refine s_X1_tableNamed hL hh hb ?_
  rw [fI_fT hb5, if_pos hf]
  refine s_X7_next hL hA (fun G1 k1 a1 => ?_)
  generalize htt : fT b (vl T i) = tt at *
  have key : ∀ (m c : Nat) (cs : Nat → Int64) (j f : Nat) (G2 : St), m + c = b.2.2.1 tt → f < 20000 → Lay G2.2.2 → Kq (sRw h) G G2 → XRw G2 h b w → XAt G2 T j → (f = 0 → XCs G2 h w.1 c cs) → (∀ G', Kq (sRw h) G G' → XAt G' T (if f = 0 then rdCells T b w tt m c cs j else (f, cs, j)).2.2 → XRw G' h b w → ((if f = 0 then rdCells T b w tt m c cs j else (f, cs, j)).1 = 0 → XCs G' h w.1 (b.2.2.1 tt) (if f = 0 then rdCells T b w tt m c cs j else (f, cs, j)).2.1) → EvI K mX5_readRow 4 79 [(0, .ref 4), (1, .ref h), (2, .int (nI (if f = 0 then rdCells T b w tt m c cs j else (f, cs, j)).1)), (3, .int (nI tt))] [] G' Q) → EvI K mX5_readRow 4 49 [(0, .ref 4), (1, .ref h), (2, .int (nI f)), (3, .int (nI tt)), (4, .int (nI c))] [] G2 Q := by
    intro m
    induction m with
    | zero =>
      intro c cs j f G2 hm hf2 hL2 hk w2 a2 c2 hQ2
      have b2 : XTb G2 h b := hb.kq hk (fun i k z => by unfold sRw at z; omega)
      have cc := (b2.2.2 tt hf).2.1
      have c4 := (b2.2.2 tt hf).2.2.1
      refine kX5_readRow_49 hL2 hh ?_
      try simp (disch := omega) only [nLe, nLeR, nLeL, nLt, nLtR, nLtL, nEq, nEqR, nEqL, nClamp, nClampR, nAdd, nAddR, nAddL, nSub, nSubR, nMul, nMulR, nMulL, nDivR, vIn, vInR, iteZ, iteP, lEq, lEqR, forall_eq, forall_const, true_implies, false_implies, not_true_eq_false, not_false_eq_true, true_and, and_true, implies_true, Decidable.not_not, cc]
      refine ⟨by omega, fun _ => ?_, fun z => by omega⟩
      by_cases hz : f = 0
      · rw [if_pos hz, rdCells] at hQ2
        rw [hz]
        exact hQ2 G2 hk a2 w2 (fun _ => by rw [show b.2.2.1 tt = c by omega]; exact c2 hz)
      · rw [if_neg hz] at hQ2
        exact hQ2 G2 hk a2 w2 (fun y => absurd y hz)
    | succ m ih =>
      intro c cs j f G2 hm hf2 hL2 hk w2 a2 c2 hQ2
      have b2 : XTb G2 h b := hb.kq hk (fun i k z => by unfold sRw at z; omega)
      have cc := (b2.2.2 tt hf).2.1
      have c4 := (b2.2.2 tt hf).2.2.1
      refine kX5_readRow_49 hL2 hh ?_
      try simp (disch := omega) only [nLe, nLeR, nLeL, nLt, nLtR, nLtL, nEq, nEqR, nEqL, nClamp, nClampR, nAdd, nAddR, nAddL, nSub, nSubR, nMul, nMulR, nMulL, nDivR, vIn, vInR, iteZ, iteP, lEq, lEqR, forall_eq, forall_const, true_implies, false_implies, not_true_eq_false, not_false_eq_true, true_and, and_true, implies_true, Decidable.not_not, cc]
      refine ⟨by omega, fun z => by omega, fun _ => ⟨fun hz => ?_, fun hz => ?_⟩⟩
      · rw [if_neg hz] at hQ2
        exact hQ2 G2 hk a2 w2 (fun y => absurd y hz)
      · rw [if_pos hz, rdCells] at hQ2
        refine s_X5_readCell hL2 hh b2 hob hf (by omega) w2 h30 (c2 hz) a2 (fun G3 k3 a3 w3 c3 => ?_)
        refine ih (c + 1) (fun d => if d = c then (rdCell T b w tt c j).2.1 else cs d) _ (rdCell T b w tt c j).1 G3 (by omega) (rdCell_lt t1000) (k3.lay hL2) (hk.tr k3) w3 a3 c3 (fun G4 k4 a4 w4 c4 => ?_)
        by_cases y : (rdCell T b w tt c j).1 = 0
        · rw [if_pos y] at a4 c4 ⊢
          rw [if_neg (by simp [y])] at hQ2
          exact hQ2 G4 k4 a4 w4 c4
        · rw [if_neg y] at a4 c4 ⊢
          rw [if_pos y] at hQ2
          exact hQ2 G4 k4 a4 w4 (fun z => absurd z y)
  have q1 : Kq (sRw h) G G1 := k1.toq.mono (fun i k z => Or.inl z)
  refine key (b.2.2.1 tt) 0 (fun _ => 0) (i + 1) 0 G1 (by omega) (by decide) (k1.1.lay hL) q1 (hw.kq k1.toq (fun i k z => by omega)) a1 (fun _ j hj => absurd hj (Nat.not_lt_zero j)) (fun G2 k2 a2 w2 c2 => ?_)
  rw [if_pos rfl] at a2 c2 ⊢
  have hlt := rdCells_lt (b := b) (w := w) (t := tt) t1000 (b.2.2.1 tt) 0 (fun _ => 0) (i + 1)
  have hL2 := k2.lay hL
  change XAt G2 T (rdCs T b w tt (i + 1)).2.2 at a2
  change (rdCs T b w tt (i + 1)).1 = 0 → XCs G2 h w.1 (b.2.2.1 tt) (rdCs T b w tt (i + 1)).2.1 at c2
  change (rdCs T b w tt (i + 1)).1 < 20000 at hlt
  show EvI K mX5_readRow 4 79 [(0, .ref 4), (1, .ref h), (2, .int (nI (rdCs T b w tt (i + 1)).1)), (3, .int (nI tt))] [] G2 Q
  generalize rdCs T b w tt (i + 1) = r at *
  refine kX5_readRow_79 hL2 hh ?_
  try simp (disch := omega) only [nLe, nLeR, nLeL, nLt, nLtR, nLtL, nEq, nEqR, nEqL, nClamp, nClampR, nAdd, nAddR, nAddL, nSub, nSubR, nMul, nMulR, nMulL, nDivR, vIn, vInR, iteZ, iteP, lEq, lEqR, forall_eq, forall_const, true_implies, false_implies, not_true_eq_false, not_false_eq_true, true_and, and_true, implies_true, Decidable.not_not]
  refine ⟨fun y => ?_, fun y => s_X5_passSign (c := 59) hL2 a2 (by decide) (fun G3 k3 a3 => ?_)⟩
  · rw [if_pos y] at hQ
    refine kX5_readRow_90 hL2 hh ?_
    try simp (disch := omega) only [nLe, nLeR, nLeL, nLt, nLtR, nLtL, nEq, nEqR, nEqL, nClamp, nClampR, nAdd, nAddR, nAddL, nSub, nSubR, nMul, nMulR, nMulL, nDivR, vIn, vInR, iteZ, iteP, lEq, lEqR, forall_eq, forall_const, true_implies, false_implies, not_true_eq_false, not_false_eq_true, true_and, and_true, implies_true, Decidable.not_not]
    exact ⟨fun _ => hQ G2 k2 a2 w2, fun q => absurd q y⟩
  · rw [if_neg (by simp [y])] at hQ
    have hL3 := k3.1.lay hL2
    have q3 : Kq (sRw h) G G3 := k2.tr (k3.toq.mono (fun i k z => Or.inl z))
    have w3 := w2.kq k3.toq (fun i k z => by omega)
    refine kX5_readRow_90 hL3 hh ?_
    by_cases hs : isS (tk T r.2.2) 59 = true
    · rw [if_pos hs] at hQ a3 ⊢
      refine ⟨fun q => absurd rfl q, fun _ => s_X1_addRow hL3 hh w3 hb5 h30 hf (cs := r.2.1) (fun j hj => by rw [k3.toq.L (by omega)]; exact c2 y j hj) (fun G4 k4 w4 => ?_)⟩
      exact hQ G4 (q3.tr (k4.mono (fun i k z => by unfold sRw; omega))) (a3.kq k4 (fun i k z => by omega)) w4
    · rw [if_neg hs] at hQ a3 ⊢
      have hp := fx_lt (i := r.2.2) (w := 1) t1000 (by decide)
      try simp (disch := omega) only [nLe, nLeR, nLeL, nLt, nLtR, nLtL, nEq, nEqR, nEqL, nClamp, nClampR, nAdd, nAddR, nAddL, nSub, nSubR, nMul, nMulR, nMulL, nDivR, vIn, vInR, iteZ, iteP, lEq, lEqR, forall_eq, forall_const, true_implies, false_implies, not_true_eq_false, not_false_eq_true, true_and, and_true, implies_true, Decidable.not_not]
      exact ⟨fun _ => hQ G3 q3 a3 w3, fun q => absurd q (fx_pos (by decide))⟩
theorem s_X5_readRows {Q : Int32 → St → Prop} (hL : Lay G.2.2) (hh : h = 39 ∨ h = 49) (hT : XTp G T) (hb : XTb G h b) (hob : okTb b) (hw : XRw G h b w) (hQ : ∀ G', Kq (sRw h) G G' → XTp G' T → XRw G' h b (rdRows T b 31 w 0).2.1 → Q (nI (rdRows T b 31 w 0).1) G') : EvI K mX5_readRows 5 0 [(0, .ref 4), (1, .ref h)] [] G Q := by
  have t1000 := hT.2.1
  refine kX5_readRows_0 hL hh (s_X7_rewind hL hT (fun G1 k1 a1 => ?_))
  have key : ∀ (m : Nat) (w : RWt) (j f : Nat) (G2 : St), m ≤ 31 → f < 20000 → Lay G2.2.2 → Kq (sRw h) G G2 → XRw G2 h b w → (f = 0 → 31 ≤ w.1 + m) → XAt G2 T j → (∀ G', Kq (sRw h) G G' → XTp G' T → XRw G' h b (if f = 0 then rdRows T b m w j else (f, w, j)).2.1 → Q (nI (if f = 0 then rdRows T b m w j else (f, w, j)).1) G') → EvI K mX5_readRows 5 11 [(0, .ref 4), (1, .ref h), (2, .int (nI f)), (3, .int (nI (31 - m)))] [] G2 Q := by
    intro m
    induction m with
    | zero =>
      intro w j f G2 hm hf hL2 hk w2 hc a2 hQ2
      refine kX5_readRows_11 hL2 hh ?_
      try simp (disch := omega) only [nLe, nLeR, nLeL, nLt, nLtR, nLtL, nEq, nEqR, nEqL, nClamp, nClampR, nAdd, nAddR, nAddL, nSub, nSubR, nMul, nMulR, nMulL, nDivR, vIn, vInR, iteZ, iteP, lEq, lEqR, forall_eq, forall_const, true_implies, false_implies, not_true_eq_false, not_false_eq_true, true_and, and_true, implies_true, Decidable.not_not]
      refine ⟨fun _ => ?_, fun z => by omega⟩
      by_cases hz : f = 0
      · have := w2.2.1
        have := hc hz
        omega
      · rw [if_neg hz] at hQ2
        exact hQ2 G2 hk a2.1 w2
    | succ m ih =>
      intro w j f G2 hm hf hL2 hk w2 hc a2 hQ2
      have h4 := tk_4 (T := T) j
      refine kX5_readRows_11 hL2 hh ?_
      try simp (disch := omega) only [nLe, nLeR, nLeL, nLt, nLtR, nLtL, nEq, nEqR, nEqL, nClamp, nClampR, nAdd, nAddR, nAddL, nSub, nSubR, nMul, nMulR, nMulL, nDivR, vIn, vInR, iteZ, iteP, lEq, lEqR, forall_eq, forall_const, true_implies, false_implies, not_true_eq_false, not_false_eq_true, true_and, and_true, implies_true, Decidable.not_not, a2.2.1]
      refine ⟨fun z => by omega, fun _ => ⟨fun z => ?_, fun z => ⟨fun z2 => ?_, fun z2 => ?_⟩⟩⟩
      · rw [if_neg z] at hQ2
        exact hQ2 G2 hk a2.1 w2
      · rw [if_pos z, rdRows, if_pos z2] at hQ2
        rw [z]
        exact hQ2 G2 hk a2.1 w2
      · rw [if_pos z, rdRows, if_neg z2] at hQ2
        refine s_X5_readRow hL2 hh (hb.kq hk (fun i k z => by unfold sRw at z; omega)) hob w2 a2 (fun G3 k3 a3 w3 => ?_)
        rw [show 31 - (m + 1) + 1 = 31 - m by omega]
        refine ih (rdRow T b w j).2.1 _ (rdRow T b w j).1 G3 (by omega) (rdRow_lt t1000) (k3.lay hL2) (hk.tr k3) w3 (fun z5 => ?_) a3 (fun G4 k4 a4 w4 => ?_)
        · have e := (rdRow_ok z5).2.2.2
          have := hc z
          rw [e]
          show 31 ≤ w.1 + 1 + m
          omega
        · by_cases y : (rdRow T b w j).1 = 0
          · rw [if_pos y] at w4 ⊢
            rw [if_neg (by simp [y])] at hQ2
            exact hQ2 G4 k4 a4 w4
          · rw [if_neg y] at w4 ⊢
            rw [if_pos y] at hQ2
            exact hQ2 G4 k4 a4 w4
  refine key 31 w 0 0 G1 (Nat.le_refl _) (by decide) (k1.1.lay hL) (k1.toq.mono (fun i k z => Or.inl z)) (hw.kq k1.toq (fun i k z => by omega)) (fun _ => by omega) a1 (fun G2 k2 t2 w2 => ?_)
  rw [if_pos rfl] at w2 ⊢
  exact hQ G2 k2 t2 w2
end RDX2

/-! sentences: their signs; the class tells them -/
def wSn (n : Nat) : Nat → List Nat
  | 0 => []
  | k + 1 => (96 + dg n k) :: wSn n k
def wS (n : Nat) : List Nat := wSn n (wl n)
def nSu (n u : Nat) : List Nat := if u ≤ n ∨ u = 1 then [48 + n / u % 10] else []
def nS (n : Nat) : List Nat := nSu n 1000 ++ (nSu n 100 ++ (nSu n 10 ++ nSu n 1))
def tNk (n : Nat) : Nat → List Nat → List Nat
  | 0, l => l
  | k + 1, l => tNk n k (l ++ ((if l.length = 0 then [] else [32, 44, 32]) ++ wS n))
def tTs (nm cn : Nat → Nat) : Nat → List Nat → List Nat
  | 0, l => l
  | t + 1, l => tNk (nm t) (cn t) (tTs nm cn t l)
def tmS (kd v : Nat) : List Nat := if kd = 0 then wS v else if kd = 1 then wS 279252 ++ (32 :: wS v) else if kd = 2 then wS 311436 ++ (32 :: nS v) else wS 11438892 ++ (32 :: nS v)
def tKt (kd v n k : Nat) : List Nat := (if k = 0 then [32] else [32, 44, 32]) ++ (tmS kd v ++ (32 :: (wS 411 ++ (32 :: wS n))))
def tKs (nm kd v tn : Nat → Nat) : Nat → List Nat → List Nat
  | 0, l => l
  | k + 1, l => tKs nm kd v tn k l ++ tKt (kd k) (v k) (nm (tn k)) k
/-- all signs of a question -/
noncomputable def seS (a : AS) (s : Nat) : List Nat := tKs (fun t => nv (a.b.2.1 t)) a.q.2.1 (fun k => nv (a.q.2.2 k)) (tnS a.w.2.1 a.P s) a.q.1 (tTs (fun t => nv (a.b.2.1 t)) (cnS a.w.2.1 s) a.b.1 [] ++ [32, 58])
noncomputable def sen (a : AS) (q : Nat) : List Nat := seS a (a.O.getD (fq a q) 0)
theorem wSn_len (n : Nat) : ∀ k, (wSn n k).length = k
  | 0 => rfl
  | k + 1 => by rw [wSn, List.length_cons, wSn_len n k]
theorem wS_len (n : Nat) : (wS n).length = wl n := wSn_len n _
theorem nSu_len (n u : Nat) : (nSu n u).length ≤ 1 := by unfold nSu; split <;> simp
theorem nS_len (n : Nat) : (nS n).length ≤ 4 := by
  have := nSu_len n 1000
  have := nSu_len n 100
  have := nSu_len n 10
  have := nSu_len n 1
  unfold nS
  simp only [List.length_append]; omega
theorem tmS_len (kd v : Nat) : (tmS kd v).length ≤ 14 := by
  have h1 := wl_le v
  have h2 := nS_len v
  have e1 : wl 279252 = 4 := by decide +kernel
  have e2 : wl 311436 = 4 := by decide +kernel
  have e3 : wl 11438892 = 5 := by decide +kernel
  unfold tmS
  repeat' split
  all_goals simp only [List.length_append, List.length_cons, wS_len]; omega
theorem tKt_len (kd v n k : Nat) : (tKt kd v n k).length ≤ 29 := by
  have h1 := tmS_len kd v
  have h2 := wl_le n
  have e1 : wl 411 = 2 := by decide +kernel
  unfold tKt
  simp only [List.length_append, List.length_cons, wS_len]
  split <;> simp only [List.length_cons, List.length_nil] <;> omega
theorem tNk_len (n : Nat) : ∀ k l, (tNk n k l).length ≤ l.length + 11 * k
  | 0, l => Nat.le_refl _
  | k + 1, l => by
    have ih := tNk_len n k (l ++ ((if l.length = 0 then [] else [32, 44, 32]) ++ wS n))
    have h := wl_le n
    rw [tNk]
    rw [List.length_append, List.length_append, wS_len] at ih
    have : (if l.length = 0 then ([] : List Nat) else [32, 44, 32]).length ≤ 3 := by split <;> simp
    omega
theorem tTs_len (nm cn : Nat → Nat) : ∀ t l, (tTs nm cn t l).length ≤ l.length + 11 * fb_sm cn t
  | 0, l => Nat.le_refl _
  | t + 1, l => by
    have h1 := tTs_len nm cn t l
    have h2 := tNk_len (nm t) (cn t) (tTs nm cn t l)
    rw [tTs, fb_sm]
    omega
theorem tKs_len (nm kd v tn : Nat → Nat) : ∀ k l, (tKs nm kd v tn k l).length ≤ l.length + 29 * k
  | 0, l => Nat.le_refl _
  | k + 1, l => by
    have h1 := tKs_len nm kd v tn k l
    have h2 := tKt_len (kd k) (v k) (nm (tn k)) k
    rw [tKs, List.length_append]
    omega
def XW (G : St) (l : List Nat) : Prop := sI G 28 9 = nI l.length ∧ ∀ i c : Nat, l[i]? = some c → sI G 37 i = nI c
def sW : Nat → Nat → Prop := fun i k => i = 28 ∧ k = 9 ∨ i = 37
section SENT
variable {K : KT} {G : St}
theorem s_put {Q : St → Prop} {l : List Nat} {c : Nat} (hL : Lay G.2.2) (hW : XW G l) (hl : l.length < 200) (hc : c < 128) (hQ : ∀ G', Kq sW G G' → XW G' (l ++ [c]) → Q G') : EvV K mX4_put 0 0 [(0, .ref 28), (1, .int (nI c))] [] G Q := by
  refine kX4_put_0 hL ?_
  rw [hW.1, fa_byte_small hc, fa_byte_small hc]
  try simp (disch := omega) only [nLe, nLeR, nLeL, nLt, nLtR, nLtL, nEq, nEqR, nEqL, nClamp, nClampR, nAdd, nAddR, nAddL, nSub, nSubR, nMul, nMulR, nMulL, nDivR, vIn, vInR, iteZ, iteP, lEq, lEqR, forall_eq, forall_const, true_implies, false_implies, not_true_eq_false, not_false_eq_true, true_and, and_true, implies_true, Decidable.not_not, Nat.le_refl]
  refine ⟨fun z => by omega, fun _ => ⟨hl, hQ _ ((kq_I (by unfold sW; omega)).sI (by unfold sW; omega)) ⟨?_, fun i d hd => ?_⟩⟩⟩
  · rw [gI, if_neg (by omega), gI, if_pos ⟨rfl, rfl⟩, List.length_append]; rfl
  · rcases app1 hd with ⟨z, z'⟩ | ⟨z, z'⟩
    · rw [gI, if_neg (by omega), gI, if_neg (by omega)]; exact hW.2 i d z'
    · rw [z, z', gI, if_pos ⟨rfl, rfl⟩]
theorem s_putComma {Q : St → Prop} {l : List Nat} (hL : Lay G.2.2) (hW : XW G l) (hl : l.length < 197) (hQ : ∀ G', Kq sW G G' → XW G' (l ++ (if l.length = 0 then [] else [32, 44, 32])) → Q G') : EvV K mX4_putComma 1 0 [(0, .ref 28)] [] G Q := by
  refine kX4_putComma_0 hL ?_
  rw [hW.1]
  try simp (disch := omega) only [nLe, nLeR, nLeL, nLt, nLtR, nLtL, nEq, nEqR, nEqL, nClamp, nClampR, nAdd, nAddR, nAddL, nSub, nSubR, nMul, nMulR, nMulL, nDivR, vIn, vInR, iteZ, iteP, lEq, lEqR, forall_eq, forall_const, true_implies, false_implies, not_true_eq_false, not_false_eq_true, true_and, and_true, implies_true, Decidable.not_not, Nat.le_refl]
  refine ⟨fun z => ?_, fun z => ?_⟩
  · have := hQ G Kq.rf
    rw [if_pos (by omega), List.append_nil] at this
    exact this hW
  · rw [if_neg (by omega)] at hQ
    refine s_put (c := 32) hL hW (by omega) (by decide) (fun G1 k1 w1 => s_put (c := 44) (k1.lay hL) w1 (by rw [List.length_append, List.length_singleton]; omega) (by decide) (fun G2 k2 w2 => s_put (c := 32) ((k1.tr k2).lay hL) w2 (by simp only [List.length_append, List.length_singleton]; omega) (by decide) (fun G3 k3 w3 => hQ G3 ((k1.tr k2).tr k3) ?_)))
    rw [List.append_assoc, List.append_assoc] at w3
    exact w3
theorem s_putWord {Q : St → Prop} {l : List Nat} {n : Nat} (hL : Lay G.2.2) (hW : XW G l) (hn : n < 282429536481) (hl : l.length + 8 ≤ 200) (hQ : ∀ G', Kq sW G G' → XW G' (l ++ wS n) → Q G') : EvV K mX4_putWord 1 0 [(0, .ref 28), (1, .long (lN n))] [] G Q := by
  have h8 := wl_le n
  have key : ∀ (m : Nat) (M : List Nat) (G1 : St), m ≤ 8 → M.length + m ≤ 200 → Kq sW G G1 → XW G1 M → M ++ wSn n m = l ++ wS n → EvV K mX4_putWord 1 7 [(0, .ref 28), (1, .long (lN n)), (3, .int (nI m - 1))] [] G1 Q := by
    intro m
    induction m with
    | zero =>
      intro M G1 hm hM k1 w1 e1
      refine kX4_putWord_7 (k1.lay hL) ⟨fun _ => hQ G1 k1 ?_, fun z => absurd (by decide) z⟩
      rw [← e1, wSn, List.append_nil]; exact w1
    | succ m ih =>
      intro M G1 hm hM k1 w1 e1
      have p1 := pw_pos m
      have p2 := pw_lt (j := m) (by omega)
      refine kX4_putWord_7 (k1.lay hL) ?_
      rw [show nI (m + 1) - 1 = nI m from nSub (a := m + 1) (b := 1) (by omega)]
      refine ⟨fun z => absurd z (nI_pos (by omega)), fun _ => ⟨pk_in m 9 (by omega), ?_, fun v3 e3 => ?_⟩⟩
      · rw [nI_clamp (by omega), pw]
        intro q
        have := (pk_lEQ (a := 27 ^ m) (b := 0) (by omega) (by decide)).mp q
        omega
      · have hd := Nat.div_le_self n (27 ^ m)
        rw [nI_clamp (by omega), pw, pk_lDiv (by omega) p1 (by omega), show (27 : Int64) = lN 27 from rfl, pk_lRem (by omega) (by decide) (by decide), lN_i] at e3
        have dl : n / 27 ^ m % 27 < 27 := Nat.mod_lt _ (by decide)
        rw [e3, show (96 : Int32) + nI (n / 27 ^ m % 27) = nI (96 + dg n m) from nAdd]
        refine s_put (k1.lay hL) w1 (by omega) (by show 96 + n / 27 ^ m % 27 < 128; omega) (fun G2 k2 w2 => ?_)
        rw [show nI m + (-1) = nI m - 1 from (Int32.sub_eq_add_neg _ _).symm]
        exact ih (M ++ [96 + dg n m]) G2 (by omega) (by rw [List.length_append, List.length_singleton]; omega) (k1.tr k2) w2 (by rw [List.append_assoc]; exact e1)
  exact kX4_putWord_0 hL (s_X10_lengthOf (by omega) hL (key (wl n) l G h8 (by omega) Kq.rf hW rfl))
theorem s_putNumber {Q : St → Prop} {l : List Nat} {n : Nat} (hL : Lay G.2.2) (hW : XW G l) (hn : n < 10000) (hl : l.length + 4 ≤ 200) (hQ : ∀ G', Kq sW G G' → XW G' (l ++ nS n) → Q G') : EvV K mX4_putNumber 1 0 [(0, .ref 28), (1, .int (nI n))] [] G Q := by
  have step : ∀ (u : Nat) (M : List Nat) (G1 : St), 1 ≤ u → u ≤ 1000 → M.length < 200 → Kq sW G G1 → XW G1 M → (∀ G2, Kq sW G G2 → XW G2 (M ++ nSu n u) → EvV K mX4_putNumber 1 4 [(0, .ref 28), (1, .int (nI n)), (2, .int (nI (u / 10)))] [] G2 Q) → EvV K mX4_putNumber 1 4 [(0, .ref 28), (1, .int (nI n)), (2, .int (nI u))] [] G1 Q := by
    intro u M G1 h1 h2 hM k1 w1 hgo
    have hd := Nat.div_le_self n u
    have ml : n / u % 10 < 10 := Nat.mod_lt _ (by decide)
    have put : (u ≤ n ∨ u = 1) → EvV K mX4_putNumber 1 18 [(0, .ref 28), (1, .int (nI n)), (2, .int (nI u))] [] G1 Q := by
      intro hu
      refine kX4_putNumber_18 (k1.lay hL) ⟨fun z => ?_, ?_⟩
      · rw [show (0 : Int32) = nI 0 from rfl, nEq (by omega) (by decide)] at z; omega
      · rw [pk_div (by omega) (by omega) (by omega)]
        have e1 : (48 : Int32) + (nI (n / u) - nI (n / u) / 10 * 10) = nI (48 + n / u % 10) := by
          have e : n / u % 10 = n / u - n / u / 10 * 10 := by omega
          try simp (disch := omega) only [nLe, nLeR, nLeL, nLt, nLtR, nLtL, nEq, nEqR, nEqL, nClamp, nClampR, nAdd, nAddR, nAddL, nSub, nSubR, nMul, nMulR, nMulL, nDivR, vIn, vInR, iteZ, iteP, lEq, lEqR, forall_eq, forall_const, true_implies, false_implies, not_true_eq_false, not_false_eq_true, true_and, and_true, implies_true, Decidable.not_not, Nat.le_refl]
          rw [e]
        rw [e1]
        refine s_put (k1.lay hL) w1 hM (by omega) (fun G2 k2 w2 => kX4_putNumber_31 ((k1.tr k2).lay hL) ?_)
        rw [nDivR (by omega) (by decide) (by decide)]
        refine hgo G2 (k1.tr k2) ?_
        unfold nSu
        rw [if_pos hu]; exact w2
    refine kX4_putNumber_4 (k1.lay hL) ?_
    try simp (disch := omega) only [nLe, nLeR, nLeL, nLt, nLtR, nLtL, nEq, nEqR, nEqL, nClamp, nClampR, nAdd, nAddR, nAddL, nSub, nSubR, nMul, nMulR, nMulL, nDivR, vIn, vInR, iteZ, iteP, lEq, lEqR, forall_eq, forall_const, true_implies, false_implies, not_true_eq_false, not_false_eq_true, true_and, and_true, implies_true, Decidable.not_not, Nat.le_refl]
    refine ⟨fun z => by omega, fun _ => ⟨fun z => put (Or.inl z), fun z => ⟨fun z2 => kX4_putNumber_31 (k1.lay hL) ?_, fun z2 => put (Or.inr z2)⟩⟩⟩
    rw [nDivR (by omega) (by decide) (by decide)]
    refine hgo G1 k1 ?_
    unfold nSu
    rw [if_neg (by omega), List.append_nil]; exact w1
  have l1 := nSu_len n 1000
  have l2 := nSu_len n 100
  have l3 := nSu_len n 10
  refine kX4_putNumber_0 hL (step 1000 l G (by decide) (by decide) (by omega) Kq.rf hW (fun G1 k1 w1 => step 100 _ G1 (by decide) (by decide) (by rw [List.length_append]; omega) k1 w1 (fun G2 k2 w2 => step 10 _ G2 (by decide) (by decide) (by simp only [List.length_append]; omega) k2 w2 (fun G3 k3 w3 => step 1 _ G3 (by decide) (by decide) (by simp only [List.length_append]; omega) k3 w3 (fun G4 k4 w4 => kX4_putNumber_4 (k4.lay hL) ⟨fun _ => hQ G4 k4 ?_, fun z => absurd (by decide) z⟩)))))
  simp only [List.append_assoc] at w4
  exact w4
theorem s_tellTerm {Q : St → Prop} {l : List Nat} {kd v : Nat} (hL : Lay G.2.2) (hW : XW G l) (hk : kd ≤ 3) (hv1 : kd ≤ 1 → v < 282429536481) (hv2 : 2 ≤ kd → v < 10000) (hl : l.length + 17 ≤ 200) (hQ : ∀ G', Kq sW G G' → XW G' (l ++ tmS kd v) → Q G') : EvV K mX4_tellTerm 2 0 [(0, .ref 28), (1, .int (nI kd)), (2, .long (lN v))] [] G Q := by
  have num : ∀ (w : Nat), w < 282429536481 → 2 ≤ kd → tmS kd v = wS w ++ (32 :: nS v) → EvV K mX4_tellTerm 2 53 [(0, .ref 28), (2, .long (lN v))] [.long (lN w), .ref 28] G Q := by
    intro w hw hk2 e
    have h8 := wl_le w
    refine kX4_tellTerm_53 hL (s_putWord hL hW hw (by omega) (fun G1 k1 w1 => s_put (c := 32) (k1.lay hL) w1 (by rw [List.length_append, wS_len]; omega) (by decide) (fun G2 k2 w2 => ?_)))
    rw [lN_i]
    refine s_putNumber ((k1.tr k2).lay hL) w2 (hv2 hk2) (by simp only [List.length_append, wS_len, List.length_singleton]; omega) (fun G3 k3 w3 => hQ G3 ((k1.tr k2).tr k3) ?_)
    rw [e]
    simp only [List.append_assoc] at w3
    exact w3
  refine kX4_tellTerm_0 hL ?_
  try simp (disch := omega) only [nLe, nLeR, nLeL, nLt, nLtR, nLtL, nEq, nEqR, nEqL, nClamp, nClampR, nAdd, nAddR, nAddL, nSub, nSubR, nMul, nMulR, nMulL, nDivR, vIn, vInR, iteZ, iteP, lEq, lEqR, forall_eq, forall_const, true_implies, false_implies, not_true_eq_false, not_false_eq_true, true_and, and_true, implies_true, Decidable.not_not, Nat.le_refl]
  refine ⟨fun z => ⟨fun z1 => ⟨fun z2 => num 11438892 (by decide) (by omega) ?_, fun z2 => num 311436 (by decide) (by omega) ?_⟩, fun z1 => ?_⟩, fun z => ?_⟩
  · unfold tmS; rw [if_neg z, if_neg z1, if_neg z2]
  · unfold tmS; rw [if_neg z, if_neg z1, if_pos z2]
  · have h8 := wl_le 279252
    refine s_putWord (n := 279252) hL hW (by decide) (by omega) (fun G1 k1 w1 => s_put (c := 32) (k1.lay hL) w1 (by rw [List.length_append, wS_len]; omega) (by decide) (fun G2 k2 w2 => s_putWord ((k1.tr k2).lay hL) w2 (hv1 (by omega)) (by simp only [List.length_append, wS_len, List.length_singleton]; omega) (fun G3 k3 w3 => hQ G3 ((k1.tr k2).tr k3) ?_)))
    unfold tmS
    rw [if_neg z, if_pos z1]
    simp only [List.append_assoc] at w3
    exact w3
  · refine s_putWord hL hW (hv1 (by omega)) (by omega) (fun G1 k1 w1 => hQ G1 k1 ?_)
    unfold tmS
    rw [if_pos z]; exact w1
end SENT

/-! the model says a question -/
def MW (G : St) (l : List Nat) : Prop := sI G 66 50 = nI l.length ∧ ∀ i c : Nat, l[i]? = some c → sI G 100 i = nI c
def sMw : Nat → Nat → Prop := fun i k => i = 66 ∧ k = 50 ∨ i = 100
section MSENT
variable {K : KT} {G : St}
theorem s_says {Q : St → Prop} {l : List Nat} {c : Nat} (hL : Lay G.2.2) (hW : MW G l) (hl : l.length < 300) (hQ : ∀ G', Kq sMw G G' → MW G' (l ++ [c]) → Q G') : EvV K mX12_says 0 0 [(0, .ref 66), (1, .int (nI c))] [] G Q := by
  refine kX12_says_0 hL ?_
  rw [hW.1]
  try simp (disch := omega) only [nLe, nLeR, nLeL, nLt, nLtR, nLtL, nEq, nEqR, nEqL, nClamp, nClampR, nAdd, nAddR, nAddL, nSub, nSubR, nMul, nMulR, nMulL, nDivR, vIn, vInR, iteZ, iteP, lEq, lEqR, forall_eq, forall_const, true_implies, false_implies, not_true_eq_false, not_false_eq_true, true_and, and_true, implies_true, Decidable.not_not, Nat.le_refl]
  refine ⟨hl, hQ _ ((kq_I (by unfold sMw; omega)).sI (by unfold sMw; omega)) ⟨?_, fun i d hd => ?_⟩⟩
  · rw [gI, if_pos ⟨rfl, rfl⟩, List.length_append]; rfl
  · rcases app1 hd with ⟨z, z'⟩ | ⟨z, z'⟩
    · rw [gI, if_neg (by omega), gI, if_neg (by omega)]; exact hW.2 i d z'
    · rw [z, z', gI, if_neg (by omega), gI, if_pos ⟨rfl, rfl⟩]
theorem s_saysWord {Q : St → Prop} {l : List Nat} {n : Nat} (hL : Lay G.2.2) (hW : MW G l) (hn : n < 282429536481) (hl : l.length + 8 ≤ 300) (hQ : ∀ G', Kq sMw G G' → MW G' (l ++ wS n) → Q G') : EvV K mX12_saysWord 1 0 [(0, .ref 66), (1, .long (lN n))] [] G Q := by
  have h8 := wl_le n
  have e8 : (27 : Nat) ^ 8 = 282429536481 := by decide
  have key : ∀ (m : Nat) (M : List Nat) (G1 : St), m ≤ 8 → M.length + m ≤ 300 → Kq sMw G G1 → MW G1 M → M ++ wSn n m = l ++ wS n → EvV K mX12_saysWord 1 7 [(0, .ref 66), (1, .long (lN n)), (3, .int (nI m - 1))] [] G1 Q := by
    intro m
    induction m with
    | zero =>
      intro M G1 hm hM k1 w1 e1
      refine kX12_saysWord_7 (k1.lay hL) ⟨fun _ => hQ G1 k1 ?_, fun z => absurd (by decide) z⟩
      rw [← e1, wSn, List.append_nil]; exact w1
    | succ m ih =>
      intro M G1 hm hM k1 w1 e1
      have dl : dg n m < 27 := Nat.mod_lt _ (by decide)
      refine kX12_saysWord_7 (k1.lay hL) ?_
      rw [show nI (m + 1) - 1 = nI m from nSub (a := m + 1) (b := 1) (by omega)]
      refine ⟨fun z => absurd z (nI_pos (by omega)), fun _ => s_X12_letter (by omega) (by omega) (k1.lay hL) ?_⟩
      rw [lN_i, show nI (dg n m) + 96 = nI (96 + dg n m) by rw [show nI (dg n m) + 96 = nI (dg n m + 96) from nAdd, Nat.add_comm]]
      refine s_says (k1.lay hL) w1 (by omega) (fun G2 k2 w2 => ?_)
      rw [show nI m + (-1) = nI m - 1 from (Int32.sub_eq_add_neg _ _).symm]
      exact ih (M ++ [96 + dg n m]) G2 (by omega) (by rw [List.length_append, List.length_singleton]; omega) (k1.tr k2) w2 (by rw [List.append_assoc]; exact e1)
  exact kX12_saysWord_0 hL (s_X12_lettersOf (by omega) hL (key (wl n) l G h8 (by omega) Kq.rf hW rfl))
theorem s_saysNumber {Q : St → Prop} {l : List Nat} {n : Nat} (hL : Lay G.2.2) (hW : MW G l) (hn : n < 10000) (hl : l.length + 4 ≤ 300) (hQ : ∀ G', Kq sMw G G' → MW G' (l ++ nS n) → Q G') : EvV K mX12_saysNumber 1 0 [(0, .ref 66), (1, .long (lN n))] [] G Q := by
  have step : ∀ (u : Nat) (M : List Nat) (G1 : St), 1 ≤ u → u ≤ 1000 → M.length < 300 → Kq sMw G G1 → MW G1 M → (∀ G2, Kq sMw G G2 → MW G2 (M ++ nSu n u) → EvV K mX12_saysNumber 1 4 [(0, .ref 66), (1, .long (lN n)), (3, .long (lN (u / 10)))] [] G2 Q) → EvV K mX12_saysNumber 1 4 [(0, .ref 66), (1, .long (lN n)), (3, .long (lN u))] [] G1 Q := by
    intro u M G1 h1 h2 hM k1 w1 hgo
    have hd := Nat.div_le_self n u
    have ml : n / u % 10 < 10 := Nat.mod_lt _ (by decide)
    have put : (u ≤ n ∨ u = 1) → EvV K mX12_saysNumber 1 22 [(0, .ref 66), (1, .long (lN n)), (3, .long (lN u))] [] G1 Q := by
      intro hu
      refine kX12_saysNumber_22 (k1.lay hL) ⟨fun z => ?_, ?_⟩
      · have := (pk_lEQ (a := u) (b := 0) (by omega) (by decide)).mp z
        omega
      · rw [pk_lDiv (by omega) (by omega) (by omega), show (10 : Int64) = lN 10 from rfl, pk_lRem (by omega) (by decide) (by decide), lN_i, show nI (n / u % 10) + 48 = nI (48 + n / u % 10) by rw [show nI (n / u % 10) + 48 = nI (n / u % 10 + 48) from nAdd, Nat.add_comm]]
        refine s_says (k1.lay hL) w1 hM (fun G2 k2 w2 => kX12_saysNumber_37 ((k1.tr k2).lay hL) ?_)
        rw [show (10 : Int64) = lN 10 from rfl, pk_lDiv (by omega) (by decide) (by decide)]
        refine hgo G2 (k1.tr k2) ?_
        unfold nSu
        rw [if_pos hu]; exact w2
    refine kX12_saysNumber_4 (k1.lay hL) ?_
    rw [show (0 : Int64) = lN 0 from rfl, show (1 : Int64) = lN 1 from rfl, pk_lLT (by decide) (by omega), pk_lLT (by omega) (by omega), pk_lEQ (by omega) (by decide)]
    refine ⟨fun z => by omega, fun _ => ⟨fun z => put (Or.inl (by omega)), fun z => ⟨fun z2 => kX12_saysNumber_37 (k1.lay hL) ?_, fun z2 => put (Or.inr z2)⟩⟩⟩
    rw [show (10 : Int64) = lN 10 from rfl, pk_lDiv (by omega) (by decide) (by decide)]
    refine hgo G1 k1 ?_
    unfold nSu
    rw [if_neg (by omega), List.append_nil]; exact w1
  have l1 := nSu_len n 1000
  have l2 := nSu_len n 100
  have l3 := nSu_len n 10
  refine kX12_saysNumber_0 hL (step 1000 l G (by decide) (by decide) (by omega) Kq.rf hW (fun G1 k1 w1 => step 100 _ G1 (by decide) (by decide) (by rw [List.length_append]; omega) k1 w1 (fun G2 k2 w2 => step 10 _ G2 (by decide) (by decide) (by simp only [List.length_append]; omega) k2 w2 (fun G3 k3 w3 => step 1 _ G3 (by decide) (by decide) (by simp only [List.length_append]; omega) k3 w3 (fun G4 k4 w4 => kX12_saysNumber_4 (k4.lay hL) ⟨fun _ => hQ G4 k4 ?_, fun z => absurd z (by decide)⟩)))))
  simp only [List.append_assoc] at w4
  exact w4
variable {a : AS} {e : Nat}
theorem tTs_hi {nm cn : Nat → Nat} {b : Nat} (h : ∀ u, b ≤ u → cn u = 0) : ∀ d l, tTs nm cn (b + d) l = tTs nm cn b l
  | 0, l => rfl
  | d + 1, l => by rw [← Nat.add_assoc, tTs, h (b + d) (by omega), tNk]; exact tTs_hi h d l
set_option maxHeartbeats 3000000 in
theorem s_saysSentence {Q : St → Prop} {q : Nat} (hL : Lay G.2.2) (h : MI G a) (f1 : MF G a) (ho : OkA e a) (hq : q < nQ a) (hQ : ∀ G', Lay G'.2.2 → MI G' a → KM G G' → MW G' (sen a q) → Q G') : EvV K mX12_saysSentence 2 0 [(0, .ref 66), (1, .int (nI q))] [] G Q := by
  have n30 : nQ a ≤ 30000 := ho.fl30
  obtain ⟨oj, sr, ex, em⟩ := ho.jq hq
  have c := h.c
  have b5 := ho.b5
  have q4 := ho.q4
  have hy := ho.yqE (ho.fqE hq).2
  have c31 := cL_31 (ho.cL (ho.fqE hq).2)
  have y7 := ho.yq7 hq
  have h96 := (f1.qat ho hq).1
  have done : ∀ G', Kq sMw G G' → MW G' (sen a q) → Q G' := fun G' k' w' => hQ G' (k'.lay hL) (h.kq ho.c4 k' (fun i k z => by unfold sMw at z; unfold mS sAl; omega)) (k'.km (fun i k z => by unfold sMw at z; omega)) w'
  have hsen : sen a q = seS a (a.O.getD (fq a q) 0) := rfl
  generalize hss : a.O.getD (fq a q) 0 = s at *
  have cn5 : ∀ u, cnS a.w.2.1 s u ≤ 5 := fun u => Nat.le_trans cnS_le oj.2.2.1
  have tn5 : ∀ k, k < a.q.1 → tnS a.w.2.1 a.P s k < 5 := fun k hk => (okJ_tn (b := a.b) ho.P1 ho.P2 ho.wb ho.b5 oj hk).1
  have tnb : ∀ k, k < a.q.1 → tnS a.w.2.1 a.P s k < a.b.1 := fun k hk => ho.wb _ (okJ_tn (b := a.b) ho.P1 ho.P2 ho.wb ho.b5 oj hk).2.1
  have smn := sm5 (cn := cnS a.w.2.1 s) (n := 5) (Nat.le_refl _) (Nat.le_trans cnS_sum oj.2.2.1)
  have chi : ∀ u, a.b.1 ≤ u → cnS a.w.2.1 s u = 0 := fun u hu => cnS_hi sr ho.wb hu
  have e5 : tTs (fun t => nv (a.b.2.1 t)) (cnS a.w.2.1 s) 5 [] = tTs (fun t => nv (a.b.2.1 t)) (cnS a.w.2.1 s) a.b.1 [] := by
    have := tTs_hi (nm := fun t => nv (a.b.2.1 t)) (cn := cnS a.w.2.1 s) chi (5 - a.b.1) []
    rw [show a.b.1 + (5 - a.b.1) = 5 by omega] at this
    exact this
  generalize htn : (fun k => if k < a.q.1 then tnS a.w.2.1 a.P s k else 0) = tn at *
  have tnv : ∀ k, tn k = if k < a.q.1 then tnS a.w.2.1 a.P s k else 0 := fun k => by rw [← htn]
  have tnl : ∀ k, tn k < 5 := fun k => by
    rw [tnv]
    split
    · rename_i z; exact tn5 k z
    · decide
  have em' : a.mc (fq a q) = mdC (cnS a.w.2.1 s) tn := by rw [em]; unfold mC; rw [htn]
  have c0 := cn5 0
  have c1 := cn5 1
  have c2 := cn5 2
  have c3 := cn5 3
  have c4 := cn5 4
  have t0 := tnl 0
  have t1 := tnl 1
  have t2 := tnl 2
  have t3 := tnl 3
  have ey : yq a q = cnS a.w.2.1 s 0 + 6 * cnS a.w.2.1 s 1 + 36 * cnS a.w.2.1 s 2 + 216 * cnS a.w.2.1 s 3 + 1296 * cnS a.w.2.1 s 4 := by
    show a.mc (fq a q) / 625 = _
    rw [em']; unfold mdC; omega
  have er : a.mc (fq a q) % 625 = ((tn 0 * 5 + tn 1) * 5 + tn 2) * 5 + tn 3 := by rw [em']; unfold mdC; omega
  have stay : ∀ G1, Kq sMw G G1 → Lay G1.2.2 ∧ MTb G1 0 a.b ∧ MTq G1 a.q ∧ MWd G1 ∧ sI G1 96 q = nI (a.mc (fq a q)) := fun G1 k1 => by
    have c' := c.kq ho.c4 k1 (fun i k z => by unfold sMw at z; unfold mS; omega)
    exact ⟨k1.lay hL, c'.tb, c'.tq, c'.wo, by rw [k1.I (by unfold sMw; omega)]; exact h96⟩
  clear hy hss ex em em' htn h f1
  -- the terms
  have terms : ∀ (m k : Nat) (M : List Nat) (G1 : St), k + m = a.q.1 → M.length ≤ 57 + 29 * k → Kq sMw G G1 → MW G1 M → (M = tKs (fun t => nv (a.b.2.1 t)) a.q.2.1 (fun k => nv (a.q.2.2 k)) (tnS a.w.2.1 a.P s) k (tTs (fun t => nv (a.b.2.1 t)) (cnS a.w.2.1 s) a.b.1 [] ++ [32, 58])) → EvV K mX12_saysSentence 2 101 [(0, .ref 66), (1, .int (nI q)), (4, .int (nI k))] [] G1 Q := by
    intro m
    induction m with
    | zero =>
      intro k M G1 hm hM k1 w1 eM
      obtain ⟨l1, b1, q1, -, -⟩ := stay G1 k1
      refine kX12_saysSentence_101 l1 ?_
      rw [q1.1, show k = a.q.1 by omega]
      refine ⟨fun _ => done G1 k1 ?_, fun z => absurd (Int32.le_refl _) z⟩
      rw [hsen]
      unfold seS
      rw [show k = a.q.1 by omega] at eM
      rw [← eM]; exact w1
    | succ m ih =>
      intro k M G1 hm hM k1 w1 eM
      obtain ⟨l1, b1, q1, -, -⟩ := stay G1 k1
      have hk : k < a.q.1 := by omega
      obtain ⟨v1, v2, v3⟩ := ho.qv hk
      have kd3 := ho.q3 k hk
      have ml := tmS_len (a.q.2.1 k) (nv (a.q.2.2 k))
      have e411 : wl 411 = 2 := by decide +kernel
      have tb := tnb k hk
      obtain ⟨nm1, nm2⟩ := ho.nm' tb
      have eM' : M ++ tKt (a.q.2.1 k) (nv (a.q.2.2 k)) (nv (a.b.2.1 (tnS a.w.2.1 a.P s k))) k = tKs (fun t => nv (a.b.2.1 t)) a.q.2.1 (fun k => nv (a.q.2.2 k)) (tnS a.w.2.1 a.P s) (k + 1) (tTs (fun t => nv (a.b.2.1 t)) (cnS a.w.2.1 s) a.b.1 [] ++ [32, 58]) := by rw [tKs, ← eM]
      have tl := tKt_len (a.q.2.1 k) (nv (a.q.2.2 k)) (nv (a.b.2.1 (tnS a.w.2.1 a.P s k))) k
      have c3' : (if k = 0 then [32] else [32, 44, 32] : List Nat).length ≤ 3 := by split <;> simp
      -- of the table
      have off : ∀ G2, Kq sMw G G2 → MW G2 (M ++ ((if k = 0 then [32] else [32, 44, 32]) ++ tmS (a.q.2.1 k) (nv (a.q.2.2 k)))) → EvV K mX12_saysSentence 2 216 [(0, .ref 66), (1, .int (nI q)), (4, .int (nI k))] [] G2 Q := by
        intro G2 k2 w2
        obtain ⟨l2, b2, q2, d2, -⟩ := stay G2 k2
        refine kX12_saysSentence_216 l2 (s_says (c := 32) l2 w2 (by simp only [List.length_append]; omega) (fun G3 k3 w3 => ?_))
        obtain ⟨l3, b3, q3, d3, -⟩ := stay G3 (k2.tr k3)
        rw [show sL G3 71 7 = lN 411 from d3 7 (by decide)]
        refine s_saysWord l3 w3 (by decide) (by simp only [List.length_append, List.length_singleton]; omega) (fun G4 k4 w4 => s_says (c := 32) (((k2.tr k3).tr k4).lay hL) w4 (by simp only [List.length_append, List.length_singleton, wS_len]; omega) (fun G5 k5 w5 => ?_))
        have kk := ((k2.tr k3).tr k4).tr k5
        obtain ⟨l5, b5', q5, d5, s5⟩ := stay G5 kk
        have m625 : nI (a.mc (fq a q)) - nI (a.mc (fq a q)) / 625 * 625 = nI (a.mc (fq a q) % 625) := by
          have e : a.mc (fq a q) % 625 = a.mc (fq a q) - a.mc (fq a q) / 625 * 625 := by omega
          try simp (disch := omega) only [nLe, nLeR, nLeL, nLt, nLtR, nLtL, nEq, nEqR, nEqL, nClamp, nClampR, nAdd, nAddR, nAddL, nSub, nSubR, nMul, nMulR, nMulL, nDivR, vIn, vInR, iteZ, iteP, lEq, lEqR, forall_eq, forall_const, true_implies, false_implies, not_true_eq_false, not_false_eq_true, true_and, and_true, implies_true, Decidable.not_not, Nat.le_refl]
          rw [e]
        rw [show sI G5 96 (Int32.toNatClampNeg (nI q)) = nI (a.mc (fq a q)) by rw [nI_clamp (by omega)]; exact s5, m625, er]
        refine ⟨(vIn (by omega)).mpr (by omega), ?_⟩
        -- which table
        have last : ∀ x i : Nat, x < 1000 → i = k → x % 5 = tnS a.w.2.1 a.P s k → EvV K mX12_saysSentence 2 254 [(0, .ref 66), (1, .int (nI q)), (4, .int (nI k)), (5, .int (nI x)), (6, .int (nI i))] [] G5 Q := by
          intro x i hx hi hx5
          have m5 : nI x - nI x / 5 * 5 = nI (x % 5) := by
            have e : x % 5 = x - x / 5 * 5 := by omega
            try simp (disch := omega) only [nLe, nLeR, nLeL, nLt, nLtR, nLtL, nEq, nEqR, nEqL, nClamp, nClampR, nAdd, nAddR, nAddL, nSub, nSubR, nMul, nMulR, nMulL, nDivR, vIn, vInR, iteZ, iteP, lEq, lEqR, forall_eq, forall_const, true_implies, false_implies, not_true_eq_false, not_false_eq_true, true_and, and_true, implies_true, Decidable.not_not, Nat.le_refl]
            rw [e]
          refine kX12_saysSentence_254 l5 ⟨fun _ => ?_, fun z => absurd (by rw [hi]; exact Int32.le_refl _) z⟩
          have tn5' := tn5 k hk
          rw [m5, hx5, show sL G5 73 (Int32.toNatClampNeg (nI (tnS a.w.2.1 a.P s k))) = lN (nv (a.b.2.1 (tnS a.w.2.1 a.P s k))) by
            rw [nI_clamp (by omega)]
            have := (b5'.2.2 _ tb).1
            rw [Nat.mul_zero, Nat.zero_add] at this
            rw [this]; exact nm1]
          refine ⟨(vIn (by omega)).mpr (by omega), s_saysWord l5 w5 nm2 (by simp only [List.length_append, List.length_singleton, wS_len]; omega) (fun G6 k6 w6 => ?_)⟩
          rw [show nI k + 1 = nI (k + 1) from nAdd]
          refine ih (k + 1) _ G6 (by omega) (by rw [List.length_append]; omega) (kk.tr k6) ?_ eM'
          unfold tKt
          simp only [List.append_assoc] at w6
          exact w6
        have down : ∀ (x i : Nat), x < 1000 → k < i → i ≤ 3 → EvV K mX12_saysSentence 2 254 [(0, .ref 66), (1, .int (nI q)), (4, .int (nI k)), (5, .int (nI (x / 5))), (6, .int (nI (i - 1)))] [] G5 Q → EvV K mX12_saysSentence 2 254 [(0, .ref 66), (1, .int (nI q)), (4, .int (nI k)), (5, .int (nI x)), (6, .int (nI i))] [] G5 Q := by
          intro x i hx hki hi3 hgo
          refine kX12_saysSentence_254 l5 ⟨fun z => absurd z (by rw [nLe (by omega) (by omega)]; omega), fun _ => ?_⟩
          rw [nDec (by omega), nDivR (by omega) (by decide) (by decide)]
          exact hgo
        have tk : tn k = tnS a.w.2.1 a.P s k := by rw [tnv, if_pos hk]
        show EvV K mX12_saysSentence 2 254 [(0, .ref 66), (1, .int (nI q)), (4, .int (nI k)), (5, .int (nI (((tn 0 * 5 + tn 1) * 5 + tn 2) * 5 + tn 3))), (6, .int (nI 3))] [] G5 Q
        rcases (show k = 0 ∨ k = 1 ∨ k = 2 ∨ k = 3 by omega) with e | e | e | e
        · rw [e] at tk
          refine down _ 3 (by omega) (by omega) (by decide) (down _ 2 (by omega) (by omega) (by decide) (down _ 1 (by omega) (by omega) (by decide) (last _ _ (by omega) (by omega) ?_)))
          rw [e, ← tk]; omega
        · rw [e] at tk
          refine down _ 3 (by omega) (by omega) (by decide) (down _ 2 (by omega) (by omega) (by decide) (last _ _ (by omega) (by omega) ?_))
          rw [e, ← tk]; omega
        · rw [e] at tk
          refine down _ 3 (by omega) (by omega) (by decide) (last _ _ (by omega) (by omega) ?_)
          rw [e, ← tk]; omega
        · rw [e] at tk
          refine last _ _ (by omega) (by omega) ?_
          rw [e, ← tk]; omega
      -- the value
      have val : ∀ (G2 : St) (L : List Nat), Kq sMw G G2 → MW G2 L → L.length ≤ 57 + 29 * k + 10 → (a.q.2.1 k ≤ 1 → L ++ wS (nv (a.q.2.2 k)) = M ++ ((if k = 0 then [32] else [32, 44, 32]) ++ tmS (a.q.2.1 k) (nv (a.q.2.2 k)))) → (2 ≤ a.q.2.1 k → L ++ nS (nv (a.q.2.2 k)) = M ++ ((if k = 0 then [32] else [32, 44, 32]) ++ tmS (a.q.2.1 k) (nv (a.q.2.2 k)))) → EvV K mX12_saysSentence 2 169 [(0, .ref 66), (1, .int (nI q)), (4, .int (nI k))] [] G2 Q := by
        intro G2 L k2 w2 hLl e1 e2
        obtain ⟨l2, b2, q2, d2, -⟩ := stay G2 k2
        obtain ⟨a1, a2, a3⟩ := q2.2.2 k hk
        have num : 2 ≤ a.q.2.1 k → EvV K mX12_saysSentence 2 191 [(0, .ref 66), (1, .int (nI q)), (4, .int (nI k))] [] G2 Q := by
          intro hk2
          refine kX12_saysSentence_191 l2 ⟨(vIn (by omega)).mpr (by omega), ?_⟩
          rw [show sL G2 80 (Int32.toNatClampNeg (nI k)) = lN (nv (a.q.2.2 k)) by rw [nI_clamp (by omega), a3]; exact v1]
          exact s_saysNumber l2 w2 (v3 hk2) (by omega) (fun G3 k3 w3 => off G3 (k2.tr k3) (by rw [← e2 hk2]; exact w3))
        refine kX12_saysSentence_169 l2 ?_
        rw [show sI G2 79 (Int32.toNatClampNeg (nI k)) = nI (a.q.2.1 k) by rw [nI_clamp (by omega)]; exact a1, show sL G2 80 (Int32.toNatClampNeg (nI k)) = lN (nv (a.q.2.2 k)) by rw [nI_clamp (by omega), a3]; exact v1]
        try simp (disch := omega) only [nLe, nLeR, nLeL, nLt, nLtR, nLtL, nEq, nEqR, nEqL, nClamp, nClampR, nAdd, nAddR, nAddL, nSub, nSubR, nMul, nMulR, nMulL, nDivR, vIn, vInR, iteZ, iteP, lEq, lEqR, forall_eq, forall_const, true_implies, false_implies, not_true_eq_false, not_false_eq_true, true_and, and_true, implies_true, Decidable.not_not, Nat.le_refl]
        refine ⟨by omega, fun z => num (by omega), fun z => ⟨by omega, fun z2 => ⟨by omega, s_saysWord l2 w2 (v2 (by omega)) (by omega) (fun G3 k3 w3 => off G3 (k2.tr k3) (by rw [← e1 (by omega)]; exact w3))⟩, fun z2 => num (by omega)⟩⟩
      -- behind the comma
      have rest : ∀ (G2 : St) (L : List Nat), Kq sMw G G2 → MW G2 L → L ++ [32] = M ++ (if k = 0 then [32] else [32, 44, 32]) → EvV K mX12_saysSentence 2 127 [(0, .ref 66), (1, .int (nI q)), (4, .int (nI k))] [] G2 Q := by
        intro G2 L k2 w2 eL
        obtain ⟨l2, b2, q2, d2, -⟩ := stay G2 k2
        have eLl := congrArg List.length eL
        rw [List.length_append, List.length_append, List.length_singleton] at eLl
        refine kX12_saysSentence_127 l2 (s_says (c := 32) l2 w2 (by omega) (fun G3 k3 w3 => ?_))
        rw [eL] at w3
        obtain ⟨l3, b3, q3, d3, -⟩ := stay G3 (k2.tr k3)
        obtain ⟨a1, a2, a3⟩ := q3.2.2 k hk
        rw [show sI G3 79 (Int32.toNatClampNeg (nI k)) = nI (a.q.2.1 k) by rw [nI_clamp (by omega)]; exact a1]
        try simp (disch := omega) only [nLe, nLeR, nLeL, nLt, nLtR, nLtL, nEq, nEqR, nEqL, nClamp, nClampR, nAdd, nAddR, nAddL, nSub, nSubR, nMul, nMulR, nMulL, nDivR, vIn, vInR, iteZ, iteP, lEq, lEqR, forall_eq, forall_const, true_implies, false_implies, not_true_eq_false, not_false_eq_true, true_and, and_true, implies_true, Decidable.not_not, Nat.le_refl]
        refine ⟨by omega, fun z => val G3 _ (k2.tr k3) w3 (by rw [List.length_append]; omega) (fun _ => ?_) (fun z2 => by omega), fun z => ⟨by omega, by omega, ?_⟩⟩
        · unfold tmS; rw [if_pos z, List.append_assoc]
        · have word : ∀ w : Nat, w < 282429536481 → wl w ≤ 5 → sL G3 71 (4 + a.q.2.1 k - 1) = lN w → tmS (a.q.2.1 k) (nv (a.q.2.2 k)) = wS w ++ (32 :: (if a.q.2.1 k = 1 then wS (nv (a.q.2.2 k)) else nS (nv (a.q.2.2 k)))) → EvV K mX12_saysWord 1 0 [(0, .ref 66), (1, .long (sL G3 71 (4 + a.q.2.1 k - 1)))] [] G3 (fun G5 => EvV K mX12_says 0 0 [(0, .ref 66), (1, .int 32)] [] G5 (fun G6 => EvV K mX12_saysSentence 2 169 [(0, .ref 66), (1, .int (nI q)), (4, .int (nI k))] [] G6 Q)) := by
            intro w hw hw5 hs et
            rw [hs]
            refine s_saysWord l3 w3 hw (by rw [List.length_append]; omega) (fun G4 k4 w4 => s_says (c := 32) (((k2.tr k3).tr k4).lay hL) w4 (by simp only [List.length_append, wS_len]; omega) (fun G5 k5 w5 => val G5 _ (((k2.tr k3).tr k4).tr k5) w5 (by simp only [List.length_append, wS_len, List.length_singleton]; omega) (fun z1 => ?_) (fun z1 => ?_)))
            · have eif : (if a.q.2.1 k = 1 then wS (nv (a.q.2.2 k)) else nS (nv (a.q.2.2 k))) = wS (nv (a.q.2.2 k)) := if_pos (by omega)
              rw [et, eif]
              simp only [List.append_assoc, List.cons_append, List.nil_append]
            · have eif : (if a.q.2.1 k = 1 then wS (nv (a.q.2.2 k)) else nS (nv (a.q.2.2 k))) = nS (nv (a.q.2.2 k)) := if_neg (by omega)
              rw [et, eif]
              simp only [List.append_assoc, List.cons_append, List.nil_append]
          have w1' : wl 279252 ≤ 5 := by decide +kernel
          have w2' : wl 311436 ≤ 5 := by decide +kernel
          have w3' : wl 11438892 ≤ 5 := by decide +kernel
          rcases (show a.q.2.1 k = 1 ∨ a.q.2.1 k = 2 ∨ a.q.2.1 k = 3 by omega) with e | e | e
          · exact word 279252 (by decide) w1' (by rw [e]; exact d3 4 (by decide)) (by unfold tmS; rw [if_neg z, if_pos e, if_pos e])
          · exact word 311436 (by decide) w2' (by rw [e]; exact d3 5 (by decide)) (by unfold tmS; rw [if_neg z, if_neg (by omega), if_pos e, if_neg (by omega)])
          · exact word 11438892 (by decide) w3' (by rw [e]; exact d3 6 (by decide)) (by unfold tmS; rw [if_neg z, if_neg (by omega), if_neg (by omega), if_neg (by omega)])
      refine kX12_saysSentence_101 l1 ?_
      rw [q1.1]
      try simp (disch := omega) only [nLe, nLeR, nLeL, nLt, nLtR, nLtL, nEq, nEqR, nEqL, nClamp, nClampR, nAdd, nAddR, nAddL, nSub, nSubR, nMul, nMulR, nMulL, nDivR, vIn, vInR, iteZ, iteP, lEq, lEqR, forall_eq, forall_const, true_implies, false_implies, not_true_eq_false, not_false_eq_true, true_and, and_true, implies_true, Decidable.not_not, Nat.le_refl]
      refine ⟨fun z => by omega, fun _ => ⟨fun z => rest G1 M k1 w1 (by rw [if_pos (by omega)]), fun z => s_says (c := 32) l1 w1 (by omega) (fun G2 k2 w2 => s_says (c := 44) ((k1.tr k2).lay hL) w2 (by rw [List.length_append, List.length_singleton]; omega) (fun G3 k3 w3 => rest G3 _ ((k1.tr k2).tr k3) w3 (by rw [if_neg (by omega)]; simp only [List.append_assoc, List.cons_append, List.nil_append])))⟩⟩
  -- the tables
  have tabs : ∀ (m u : Nat) (M : List Nat) (G1 : St) (fi : Int32) (x : Nat), u + m = 5 → M.length ≤ 11 * fb_sm (cnS a.w.2.1 s) u → Kq sMw G G1 → MW G1 M → M = tTs (fun t => nv (a.b.2.1 t)) (cnS a.w.2.1 s) u [] → (fi = if M.length = 0 then 1 else 0) → x = yq a q / 6 ^ u → EvV K mX12_saysSentence 2 16 [(0, .ref 66), (1, .int (nI q)), (2, .int fi), (3, .int (nI x)), (4, .int (nI u))] [] G1 Q := by
    intro m
    induction m with
    | zero =>
      intro u M G1 fi x hm hM k1 w1 eM efi exx
      obtain ⟨l1, b1, q1, -, -⟩ := stay G1 k1
      have eu : u = 5 := by omega
      subst eu
      refine kX12_saysSentence_16 l1 ⟨fun _ => s_says (c := 32) l1 w1 (by omega) (fun G2 k2 w2 => s_says (c := 58) ((k1.tr k2).lay hL) w2 (by rw [List.length_append, List.length_singleton]; omega) (fun G3 k3 w3 => ?_)), fun z => absurd (by decide) z⟩
      refine terms a.q.1 0 (M ++ [32, 58]) G3 (by omega) (by rw [List.length_append]; show M.length + 2 ≤ _; omega) ((k1.tr k2).tr k3) ?_ (by rw [tKs, eM, e5])
      simp only [List.append_assoc] at w3
      exact w3
    | succ m ih =>
      intro u M G1 fi x hm hM k1 w1 eM efi exx
      obtain ⟨l1, b1, q1, -, -⟩ := stay G1 k1
      have hu : u < 5 := by omega
      have smu : fb_sm (cnS a.w.2.1 s) (u + 1) ≤ 5 := sm5 (by omega) (Nat.le_trans cnS_sum oj.2.2.1)
      rw [fb_sm] at smu
      have xl : x < 7776 := by rw [exx]; exact Nat.lt_of_le_of_lt (Nat.div_le_self _ _) y7
      have xd : x % 6 = cnS a.w.2.1 s u := by
        rw [exx, ey]
        rcases (show u = 0 ∨ u = 1 ∨ u = 2 ∨ u = 3 ∨ u = 4 by omega) with rfl | rfl | rfl | rfl | rfl
        · show _ / 1 % 6 = _; omega
        · show _ / 6 % 6 = _; omega
        · show _ / 36 % 6 = _; omega
        · show _ / 216 % 6 = _; omega
        · show _ / 1296 % 6 = _; omega
      have m6 : nI x - nI x / 6 * 6 = nI (x % 6) := by
        have e : x % 6 = x - x / 6 * 6 := by omega
        try simp (disch := omega) only [nLe, nLeR, nLeL, nLt, nLtR, nLtL, nEq, nEqR, nEqL, nClamp, nClampR, nAdd, nAddR, nAddL, nSub, nSubR, nMul, nMulR, nMulL, nDivR, vIn, vInR, iteZ, iteP, lEq, lEqR, forall_eq, forall_const, true_implies, false_implies, not_true_eq_false, not_false_eq_true, true_and, and_true, implies_true, Decidable.not_not, Nat.le_refl]
        rw [e]
      have names : ∀ (j v : Nat) (N : List Nat) (G2 : St) (fj : Int32), v + j = cnS a.w.2.1 s u → N.length + 11 * j ≤ 11 * fb_sm (cnS a.w.2.1 s) (u + 1) → Kq sMw G G2 → MW G2 N → tNk (nv (a.b.2.1 u)) j N = tTs (fun t => nv (a.b.2.1 t)) (cnS a.w.2.1 s) (u + 1) [] → (fj = if N.length = 0 then 1 else 0) → EvV K mX12_saysSentence 2 25 [(0, .ref 66), (1, .int (nI q)), (2, .int fj), (3, .int (nI x)), (4, .int (nI u)), (5, .int (nI v))] [] G2 Q := by
        intro j
        induction j with
        | zero =>
          intro v N G2 fj hj hN k2 w2 eN efj
          refine kX12_saysSentence_25 (k2.lay hL) ?_
          rw [m6, xd, show v = cnS a.w.2.1 s u by omega]
          refine ⟨fun _ => ?_, fun z => absurd (Int32.le_refl _) z⟩
          rw [show nI u + 1 = nI (u + 1) from nAdd, nDivR (by omega) (by decide) (by decide)]
          exact ih (u + 1) N G2 fj (x / 6) (by omega) (by omega) k2 w2 eN efj (by rw [exx, Nat.div_div_eq_div_mul, Nat.pow_succ])
        | succ j ihj =>
          intro v N G2 fj hj hN k2 w2 eN efj
          have c5 := cn5 u
          rw [fb_sm] at hN
          have hub : u < a.b.1 := by
            rcases Nat.lt_or_ge u a.b.1 with z | z
            · exact z
            · have := chi u z; omega
          obtain ⟨nm1, nm2⟩ := ho.nm' hub
          have w8 := wl_le (nv (a.b.2.1 u))
          rw [tNk] at eN
          have nm : ∀ (G3 : St), Kq sMw G G3 → MW G3 (N ++ (if N.length = 0 then [] else [32, 44, 32])) → EvV K mX12_saysSentence 2 56 [(0, .ref 66), (1, .int (nI q)), (3, .int (nI x)), (4, .int (nI u)), (5, .int (nI v))] [] G3 Q := by
            intro G3 k3 w3
            obtain ⟨l3, b3, q3, -, -⟩ := stay G3 k3
            have c3'' : (if N.length = 0 then [] else [32, 44, 32] : List Nat).length ≤ 3 := by split <;> simp
            refine kX12_saysSentence_56 l3 ?_
            rw [show sL G3 73 (Int32.toNatClampNeg (nI u)) = lN (nv (a.b.2.1 u)) by
              rw [nI_clamp (by omega)]
              have := (b3.2.2 _ hub).1
              rw [Nat.mul_zero, Nat.zero_add] at this
              rw [this]; exact nm1]
            refine ⟨(vIn (by omega)).mpr (by omega), s_saysWord l3 w3 nm2 (by rw [List.length_append]; omega) (fun G4 k4 w4 => ?_)⟩
            rw [show nI v + 1 = nI (v + 1) from nAdd]
            have wpos : wl (nv (a.b.2.1 u)) ≠ 0 := by
              obtain ⟨n, h1, h2⟩ := ho.nm u hub
              have e : nv (a.b.2.1 u) = n := by rw [h1]; exact nv_l (by have := h2.1; omega)
              rw [e]
              intro z
              have := wl_yes (n := n) (show n < 27 ^ 8 from h2.1)
              rw [z, Nat.pow_zero] at this
              have h3 := h2.2
              have : n = 0 := by omega
              rw [this] at h3
              exact h3 rfl
            refine ihj (v + 1) _ G4 0 (by omega) ?_ (k3.tr k4) (by rw [List.append_assoc] at w4; exact w4) eN ?_
            · rw [List.length_append, List.length_append, wS_len, fb_sm]; omega
            · rw [if_neg]
              rw [List.length_append, List.length_append, wS_len]; omega
          refine kX12_saysSentence_25 (k2.lay hL) ?_
          rw [m6, xd]
          refine ⟨fun z => absurd z (by rw [nLe (by omega) (by omega)]; omega), fun _ => ⟨fun z => nm G2 k2 ?_, fun z => ?_⟩⟩
          · have : N.length = 0 := by
              by_cases y : N.length = 0
              · exact y
              · rw [efj, if_neg y] at z; exact absurd rfl z
            rw [if_pos this, List.append_nil]; exact w2
          · have hN0 : N.length ≠ 0 := fun y => by rw [efj, if_pos y] at z; exact absurd z (by decide)
            refine s_says (c := 32) (k2.lay hL) w2 (by omega) (fun G3 k3 w3 => s_says (c := 44) ((k2.tr k3).lay hL) w3 (by rw [List.length_append, List.length_singleton]; omega) (fun G4 k4 w4 => s_says (c := 32) (((k2.tr k3).tr k4).lay hL) w4 (by simp only [List.length_append, List.length_singleton]; omega) (fun G5 k5 w5 => nm G5 (((k2.tr k3).tr k4).tr k5) ?_)))
            rw [if_neg hN0]
            simp only [List.append_assoc] at w5
            exact w5
      refine kX12_saysSentence_16 l1 ⟨fun z => absurd z (by rw [show (5 : Int32) = nI 5 from rfl, nLe (by decide) (by omega)]; omega), fun _ => ?_⟩
      exact names (cnS a.w.2.1 s u) 0 M G1 fi (by omega) (by rw [fb_sm]; omega) k1 w1 (by rw [tTs, eM]) efi
  have k0 : Kq sMw G (uI G 66 50 0) := kq_I (by unfold sMw; omega)
  refine kX12_saysSentence_0 hL (s_tablesOf (k0.lay hL) (stay _ k0).2.2.2.2 ho hq ?_)
  exact tabs 5 0 [] _ 1 (yq a q) (by omega) (Nat.zero_le _) k0 ⟨by rw [gI, if_pos ⟨rfl, rfl⟩]; rfl, fun i c hc => by cases hc⟩ rfl rfl (by rw [Nat.pow_zero, Nat.div_one])
end MSENT

/-! the model: questions -/
/-- the code of the i-th joining in order -/
def oC (g : Nat → Nat) (O : List Nat) (i : Nat) : Nat := g (O.getD i 0)
def MQn (G : St) (c : Nat → Nat) (k n : Nat) : Prop := QS (sI G 66 43) (sI G 94) (sI G 95) (sI G 96) (sI G 97) (sI G 98) (fun x => x % 4099) 4099 c k n
def sFq : Nat → Nat → Prop := fun i k => i = 94 ∨ i = 95 ∨ i = 96 ∨ i = 97 ∨ i = 98 ∨ i = 66 ∧ k = 43
theorem m4099 {v : Nat} (hv : v < 2147483648) : nI v - nI v / 4099 * 4099 = nI (v % 4099) := by
  have e : v % 4099 = v - v / 4099 * 4099 := by omega
  try simp (disch := omega) only [nLe, nLeR, nLeL, nLt, nLtR, nLtL, nEq, nEqR, nEqL, nClamp, nClampR, nAdd, nAddR, nAddL, nSub, nSubR, nMul, nMulR, nMulL, nDivR, vIn, vInR, iteZ, iteP, lEq, lEqR, forall_eq, forall_const, true_implies, false_implies, not_true_eq_false, not_false_eq_true, true_and, and_true, implies_true, Decidable.not_not, Nat.le_refl]
  rw [e]
section MQUEST
variable {K : KT} {G : St} {b : TBt} {w : RWt} {f P : Nat → Nat → Nat} {t : Nat}
theorem s_questionOf {Q : Int32 → St → Prop} {V : Nat → Nat} {m v : Nat} (hL : Lay G.2.2) (hC : HC (sI G 94) (sI G 95) (fun x => x % 4099) V m 4099) (hm : m ≤ 60000) (hV : ∀ q, q < m → sI G 96 q = nI (V q) ∧ V q < 2147483648) (hv : v < 2147483648) (hQ : Q (lst (fun q => V q == v) m) G) : EvI K mX12_questionOf 0 0 [(0, .ref 66), (1, .int (nI v))] [] G Q := by
  have walk : ∀ (fuel k : Nat), k ≤ fuel → k ≤ m → (∀ q, k ≤ q → q < m → V q ≠ v) → EvI K mX12_questionOf 0 11 [(0, .ref 66), (1, .int (nI v)), (2, .int (lst (fun p => V p % 4099 == v % 4099) k))] [] G Q := by
    intro fuel
    induction fuel with
    | zero =>
      intro k hf hk hno
      have e0 : k = 0 := by omega
      subst e0
      rw [lst_none (fun q hq => by
        have := hno q (Nat.zero_le _) hq
        simp; exact this)] at hQ
      exact kX12_questionOf_11 hL ⟨fun _ => hQ, fun z => absurd (show (-1 : Int32) < 0 by decide) z⟩
    | succ fuel ih =>
      intro k hf hk hno
      rcases lst_cases (p := fun p => V p % 4099 == v % 4099) k with ⟨a, c⟩ | ⟨q, a, e, c, d⟩
      · rw [a]
        rw [lst_none (fun q hq => by
          simp
          rcases Nat.lt_or_ge q k with z | z
          · have := c q z
            simp at this
            intro e; rw [e] at this; exact this rfl
          · exact hno q z hq)] at hQ
        exact kX12_questionOf_11 hL ⟨fun _ => hQ, fun z => absurd (by decide) z⟩
      · rw [e]
        have c' : V q % 4099 = v % 4099 := by simpa using c
        obtain ⟨v1, v2⟩ := hV q (by omega)
        refine kX12_questionOf_11 hL ?_
        try simp (disch := omega) only [nLe, nLeR, nLeL, nLt, nLtR, nLtL, nEq, nEqR, nEqL, nClamp, nClampR, nAdd, nAddR, nAddL, nSub, nSubR, nMul, nMulR, nMulL, nDivR, vIn, vInR, iteZ, iteP, lEq, lEqR, forall_eq, forall_const, true_implies, false_implies, not_true_eq_false, not_false_eq_true, true_and, and_true, implies_true, Decidable.not_not, Nat.le_refl, v1]
        refine ⟨fun z => absurd z (Nat.not_lt_zero _), fun _ => ⟨by omega, fun z => ?_, fun z => ⟨by omega, ?_⟩⟩⟩
        · rw [lst_hit (q := q) (by omega) (by simp [z]) (fun j h1 h2 => by
            simp
            rcases Nat.lt_or_ge j k with y | y
            · have := d j h1 y
              simp at this
              intro e; rw [e] at this; exact this rfl
            · exact hno j y h2)] at hQ
          exact hQ
        · rw [hC.2 q (by omega)]
          have : lst (fun p => V p % 4099 == V q % 4099) q = lst (fun p => V p % 4099 == v % 4099) q := by rw [c']
          show EvI K mX12_questionOf 0 11 [(0, .ref 66), (1, .int (nI v)), (2, .int (lst (fun p => V p % 4099 == V q % 4099) q))] [] G Q
          rw [this]
          refine ih q (by omega) (by omega) (fun j h1 h2 => ?_)
          rcases Nat.lt_or_ge j k with y | y
          · rcases Nat.eq_or_lt_of_le h1 with u | u
            · rw [← u]; exact z
            · have := d j u y
              simp at this
              intro e; rw [e] at this; exact this rfl
          · exact hno j y h2
  refine kX12_questionOf_0 hL ?_
  rw [m4099 hv]
  have hlt := Nat.mod_lt v (show 0 < 4099 by decide)
  try simp (disch := omega) only [nLe, nLeR, nLeL, nLt, nLtR, nLtL, nEq, nEqR, nEqL, nClamp, nClampR, nAdd, nAddR, nAddL, nSub, nSubR, nMul, nMulR, nMulL, nDivR, vIn, vInR, iteZ, iteP, lEq, lEqR, forall_eq, forall_const, true_implies, false_implies, not_true_eq_false, not_false_eq_true, true_and, and_true, implies_true, Decidable.not_not, Nat.le_refl]
  refine ⟨hlt, ?_⟩
  rw [hC.1 _ hlt]
  exact walk m m (Nat.le_refl _) (Nat.le_refl _) (fun q h1 h2 => by omega)
theorem s_findQuestions {Q : St → Prop} {J : List Nat} (hL : Lay G.2.2) (hO : MOr G f P t J) (hJl : J.length ≤ 174436) (hb5 : b.1 ≤ 5) (h4 : ∀ u, u < b.1 → b.2.2.1 u ≤ 4) (hw : MRw G b w) (hH : MHt G P t) (hq : sI G 66 20 = nI t) (ht : t ≤ 4) (hP : ∀ k r, P k r ≤ 4 ∨ P k r = 9) (hPn : ∀ k r, w.1 ≤ r → P k r = 9) (hok : ∀ s, s ∈ J → tpr f P t s < 64 ∧ okJ f P t s ∧ ∀ r, s.testBit r = true → r < w.1) (hQ : ∀ G', Kq sFq G G' → MQn G' (oC (mC w.2.1 P t) (ol J (tpr f P t) 64)) J.length J.length → Q G') : EvV K mX12_findQuestions 2 0 [(0, .ref 66)] [] G Q := by
  have hol : (ol J (tpr f P t) 64).length = J.length := ol_all (fun s hs => (hok s hs).1)
  generalize hOO : ol J (tpr f P t) 64 = O at *
  have hwb : ∀ r, r < w.1 → w.2.1 r < b.1 := fun r hr => (hw.2.2 r hr).1
  have cm : ∀ i, i < J.length → ∃ s, O[i]? = some s ∧ s ∈ J ∧ oC (mC w.2.1 P t) O i = mC w.2.1 P t s ∧ oC (mC w.2.1 P t) O i ∈ cL := fun i hi => by
    have h1 := getD_lt (l := O) (q := i) (by omega)
    obtain ⟨j, -, -, d⟩ := hO.2 i _ (by rw [hOO]; exact h1)
    have hm := getE_mem d
    exact ⟨_, h1, hm, rfl, mC_mem (b := b) hw.2.1 hP hPn hwb hb5 (hok _ hm).2.1⟩
  have cb : ∀ x, x ∈ cL → x < 2147483648 := by
    intro x hx
    unfold cL at hx
    simp only [List.mem_flatMap, List.mem_map, vL, dgt, vN, List.mem_range] at hx
    obtain ⟨a, ⟨a1, h1, a2, h2, a3, h3, a4, h4, a5, h5, rfl⟩, x1, y1, x2, y2, x3, y3, x4, y4, rfl⟩ := hx
    have dl : ∀ u, u ∈ dgt (a1, a2, a3, a4, a5) → u ≤ 4 := by
      intro u hu
      unfold dgt at hu
      simp only [List.mem_cons, List.mem_append] at hu
      rcases hu with rfl | hu | hu | hu | hu
      · decide
      all_goals (split at hu; cases hu; rw [List.mem_singleton] at hu; omega)
    have z1 := dl x1 y1
    have z2 := dl x2 y2
    have z3 := dl x3 y3
    have z4 := dl x4 y4
    dsimp only
    omega
  have loop : ∀ (m i : Nat) (G1 : St), i + m = J.length → Kq sFq G G1 → MQn G1 (oC (mC w.2.1 P t) O) i i → EvV K mX12_findQuestions 2 29 [(0, .ref 66), (1, .int (nI i))] [] G1 Q := by
    intro m
    induction m with
    | zero =>
      intro i G1 hm kq hM
      refine kX12_findQuestions_29 (kq.lay hL) ?_
      rw [kq.I (by unfold sFq; omega), hO.1.1]
      refine ⟨fun _ => ?_, fun z => absurd (by rw [show i = J.length by omega]; exact Int32.le_refl _) z⟩
      have ei : i = J.length := by omega
      rw [ei] at hM
      exact hQ G1 kq hM
    | succ m ih =>
      intro i G1 hm kq hM
      have hi : i < J.length := by omega
      obtain ⟨s, s1, s2, s3, s4⟩ := cm i hi
      obtain ⟨j, j1, j2, j3⟩ := hO.2 i s (by rw [hOO]; exact s1)
      have j4 := (hO.1.2 j s j3).1
      obtain ⟨k1, k2, k3⟩ := hok s s2
      have hL1 := kq.lay hL
      have fl : (fL (oC (mC w.2.1 P t) O) i).length ≤ 30000 := fL_30000 (fun a ha => by
        obtain ⟨_, _, _, _, z⟩ := cm a (by omega)
        exact z)
      have cb31 := cb _ s4
      -- counted
      have cnt : ∀ (G2 : St) (q a : Nat), Kq sFq G G2 → MQn G2 (oC (mC w.2.1 P t) O) (i + 1) i → (fL (oC (mC w.2.1 P t) O) (i + 1))[q]? = some a → oC (mC w.2.1 P t) O a = oC (mC w.2.1 P t) O i → EvV K mX12_findQuestions 2 126 [(0, .ref 66), (1, .int (nI i)), (3, .int (nI q))] [] G2 Q := by
        intro G2 q a kq2 hM2 ha hc
        have fl2 : (fL (oC (mC w.2.1 P t) O) (i + 1)).length ≤ 30000 := fL_30000 (fun a ha => by
          obtain ⟨_, _, _, _, z⟩ := cm a (by omega)
          exact z)
        have hql := getE_lt ha
        have ctl : cQ (oC (mC w.2.1 P t) O) i a ≤ i := fb_ct_le _ _
        obtain ⟨c1, c2, c3⟩ := hM2.2.2 q a ha
        refine kX12_findQuestions_126 (kq2.lay hL) ?_
        try simp (disch := omega) only [nLe, nLeR, nLeL, nLt, nLtR, nLtL, nEq, nEqR, nEqL, nClamp, nClampR, nAdd, nAddR, nAddL, nSub, nSubR, nMul, nMulR, nMulL, nDivR, vIn, vInR, iteZ, iteP, lEq, lEqR, forall_eq, forall_const, true_implies, false_implies, not_true_eq_false, not_false_eq_true, true_and, and_true, implies_true, Decidable.not_not, Nat.le_refl, c3]
        refine ⟨by omega, by omega, ih (i + 1) _ (by omega) (kq2.sI (by unfold sFq; omega)) (QS_cnt hM2 ha hc ?_ (fun k _ => ?_) (fun p _ => ⟨?_, ?_, ?_⟩) (fun p _ => ?_))⟩
        · rw [gI, if_neg (by omega)]
        · rw [gI, if_neg (by omega)]
        · rw [gI, if_neg (by omega)]
        · rw [gI, if_neg (by omega)]
        · rw [gI, if_neg (by omega)]
        · rw [gI]
          by_cases e : p = q
          · rw [if_pos ⟨rfl, e⟩, if_pos e]
          · rw [if_neg (fun z => e z.2), if_neg e]
      refine kX12_findQuestions_29 hL1 ?_
      rw [kq.I (by unfold sFq; omega), hO.1.1, kq.I (i := 92) (by unfold sFq; omega)]
      try simp (disch := omega) only [nLe, nLeR, nLeL, nLt, nLtR, nLtL, nEq, nEqR, nEqL, nClamp, nClampR, nAdd, nAddR, nAddL, nSub, nSubR, nMul, nMulR, nMulL, nDivR, vIn, vInR, iteZ, iteP, lEq, lEqR, forall_eq, forall_const, true_implies, false_implies, not_true_eq_false, not_false_eq_true, true_and, and_true, implies_true, Decidable.not_not, Nat.le_refl, j2]
      rw [kq.I (i := 90) (by unfold sFq; omega), j4]
      have hw1 : MRw G1 b w := hw.kq h4 kq (fun a c z => by unfold sFq at z; omega)
      refine ⟨fun z => by omega, fun _ => ⟨by omega, by omega, s_codeOf hL1 hb5 hw1 (hH.kq kq (fun a c z => by unfold sFq at z; omega)) (by rw [kq.I (by unfold sFq; omega)]; exact hq) ht hP hPn k2 k3 ?_⟩⟩
      rw [← s3]
      refine s_questionOf hL1 hM.2.1 (by omega) (fun q hq' => ?_) cb31 ?_
      · have := getD_lt hq'
        refine ⟨(hM.2.2 q _ this).1, ?_⟩
        obtain ⟨_, _, _, _, z⟩ := cm _ (Nat.lt_trans (fL_lt (getE_mem this)) hi)
        exact cb _ z
      · rcases QS_find (v := oC (mC w.2.1 P t) O i) hM with ⟨e, hno⟩ | ⟨q, a, hqa, hc, e⟩
        · rw [e]
          refine ⟨fun z => absurd z (by decide), fun _ => ?_⟩
          rw [hM.1, m4099 cb31]
          have hlt := Nat.mod_lt (oC (mC w.2.1 P t) O i) (show 0 < 4099 by decide)
          have e43 : sI (uI (uI (uI (uI G1 96 (fL (oC (mC w.2.1 P t) O) i).length (nI (oC (mC w.2.1 P t) O i))) 97 (fL (oC (mC w.2.1 P t) O) i).length (nI i)) 98 (fL (oC (mC w.2.1 P t) O) i).length 0) 95 (fL (oC (mC w.2.1 P t) O) i).length (sI G1 94 (oC (mC w.2.1 P t) O i % 4099))) 66 43 = nI (fL (oC (mC w.2.1 P t) O) i).length := by
            simp only [gI]; simp; exact hM.1
          try simp (disch := omega) only [nLe, nLeR, nLeL, nLt, nLtR, nLtL, nEq, nEqR, nEqL, nClamp, nClampR, nAdd, nAddR, nAddL, nSub, nSubR, nMul, nMulR, nMulL, nDivR, vIn, vInR, iteZ, iteP, lEq, lEqR, forall_eq, forall_const, true_implies, false_implies, not_true_eq_false, not_false_eq_true, true_and, and_true, implies_true, Decidable.not_not, Nat.le_refl]
          refine ⟨by omega, by omega, by omega, hlt, by omega, ?_⟩
          rw [e43]
          try simp (disch := omega) only [nLe, nLeR, nLeL, nLt, nLtR, nLtL, nEq, nEqR, nEqL, nClamp, nClampR, nAdd, nAddR, nAddL, nSub, nSubR, nMul, nMulR, nMulL, nDivR, vIn, vInR, iteZ, iteP, lEq, lEqR, forall_eq, forall_const, true_implies, false_implies, not_true_eq_false, not_false_eq_true, true_and, and_true, implies_true, Decidable.not_not, Nat.le_refl]
          refine ⟨hlt, ?_⟩
          generalize hFL : (fL (oC (mC w.2.1 P t) O) i).length = m0 at *
          generalize hUU : uI (uI (uI (uI (uI (uI G1 96 m0 (nI (oC (mC w.2.1 P t) O i))) 97 m0 (nI i)) 98 m0 0) 95 m0 (sI G1 94 (oC (mC w.2.1 P t) O i % 4099))) 94 (oC (mC w.2.1 P t) O i % 4099) (nI m0)) 66 43 (nI (m0 + 1)) = U at *
          have eU : ∀ a k, sI U a k = if a = 66 ∧ k = 43 then nI (m0 + 1) else if a = 94 ∧ k = oC (mC w.2.1 P t) O i % 4099 then nI m0 else if a = 95 ∧ k = m0 then sI G1 94 (oC (mC w.2.1 P t) O i % 4099) else if a = 98 ∧ k = m0 then 0 else if a = 97 ∧ k = m0 then nI i else if a = 96 ∧ k = m0 then nI (oC (mC w.2.1 P t) O i) else sI G1 a k := fun a k => by rw [← hUU]; simp only [gI]
          have := QS_add (H' := sI U 94) (X' := sI U 95) (C' := sI U 96) (F' := sI U 97) (N' := sI U 98) (sz' := nI (m0 + 1)) hM hno (by rw [hFL]) (fun j hj => by rw [hFL, eU]; simp) (fun q hq' => by
            rw [hFL] at hq'
            have hqm : q ≠ m0 := by omega
            simp [eU, hqm]) (by
            rw [hFL]
            simp [eU]; rfl) hlt
          have kU : Kq sFq G U := by
            rw [← hUU]
            exact (((((kq.sI (by unfold sFq; omega)).sI (by unfold sFq; omega)).sI (by unfold sFq; omega)).sI (by unfold sFq; omega)).sI (by unfold sFq; omega)).sI (by unfold sFq; omega)
          refine cnt U m0 i kU ?_ (by rw [← hFL]; exact this.2) rfl
          unfold MQn
          rw [eU, if_pos ⟨rfl, rfl⟩]
          exact this.1
        · rw [e]
          refine ⟨fun _ => cnt G1 q a kq ?_ ?_ hc, fun z => absurd z (by have := getE_lt hqa; try simp (disch := omega) only [nLe, nLeR, nLeL, nLt, nLtR, nLtL, nEq, nEqR, nEqL, nClamp, nClampR, nAdd, nAddR, nAddL, nSub, nSubR, nMul, nMulR, nMulL, nDivR, vIn, vInR, iteZ, iteP, lEq, lEqR, forall_eq, forall_const, true_implies, false_implies, not_true_eq_false, not_false_eq_true, true_and, and_true, implies_true, Decidable.not_not, Nat.le_refl]; omega)⟩
          · unfold MQn QS
            rw [fL_old hqa hc]
            exact hM
          · rw [fL_old hqa hc]; exact hqa
  have clear : ∀ (m i : Nat) (G1 : St), i + m = 4099 → Kq sFq G G1 → sI G1 66 43 = nI 0 → (∀ j, j < i → sI G1 94 j = -1) → EvV K mX12_findQuestions 2 7 [(0, .ref 66), (1, .int (nI i))] [] G1 Q := by
    intro m
    induction m with
    | zero =>
      intro i G1 hm kq h43 hc
      refine kX12_findQuestions_7 (kq.lay hL) ?_
      have ei : i = 4099 := by omega
      subst ei
      refine ⟨fun _ => loop J.length 0 G1 (by omega) kq ⟨h43, ⟨fun j hj => hc j hj, fun q hq' => absurd hq' (Nat.not_lt_zero _)⟩, fun q j h => by cases h⟩, fun z => absurd (by decide) z⟩
    | succ m ih =>
      intro i G1 hm kq h43 hc
      refine kX12_findQuestions_7 (kq.lay hL) ?_
      try simp (disch := omega) only [nLe, nLeR, nLeL, nLt, nLtR, nLtL, nEq, nEqR, nEqL, nClamp, nClampR, nAdd, nAddR, nAddL, nSub, nSubR, nMul, nMulR, nMulL, nDivR, vIn, vInR, iteZ, iteP, lEq, lEqR, forall_eq, forall_const, true_implies, false_implies, not_true_eq_false, not_false_eq_true, true_and, and_true, implies_true, Decidable.not_not, Nat.le_refl]
      refine ⟨fun z => by omega, fun _ => ⟨by omega, ih (i + 1) _ (by omega) (kq.sI (by unfold sFq; omega)) (by rw [gI, if_neg (by omega)]; exact h43) (fun j hj => ?_)⟩⟩
      rw [gI]
      by_cases e : j = i
      · rw [if_pos ⟨rfl, e⟩]
      · rw [if_neg (fun z => e z.2)]; exact hc j (by omega)
  refine kX12_findQuestions_0 hL ?_
  exact clear 4099 0 _ (by omega) (kq_I (by unfold sFq; omega)) (by rw [gI, if_pos ⟨rfl, rfl⟩]; rfl) (fun j hj => absurd hj (Nat.not_lt_zero _))
end MQUEST

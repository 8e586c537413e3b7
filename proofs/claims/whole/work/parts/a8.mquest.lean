/-! question: the model -/
section MQUESTION
variable {K : KT} {G : St} {a : AS} {e : Nat}
theorem s_findAsked {Q : Int32 → St → Prop} {q : TQt} {cn tn : Nat → Nat} (hL : Lay G.2.2) (h : MI G a) (ho : OkA e a) (hq : MQr G q) (h81 : ∀ t, t < 5 → sI G 81 t = nI (cn t)) (h82 : MQi G q.1 tn) (hc : ∀ k, cn k ≤ 5) (ht : ∀ k, tn k < 5) (hQ0 : ¬ (a.q.1 ≠ 0 ∧ dB (samQ a q) = true) → Q (-1) G) (hQ : ∀ G', Lay G'.2.2 → (a.q.1 ≠ 0 ∧ dB (samQ a q) = true) → MI G' a → KM G G' → Q (lst (fun i => a.mc ((fL a.mc a.J.length).getD i 0) == mdC cn (fun k => if k < a.q.1 then tn k else 0)) (fL a.mc a.J.length).length) G') : EvI K mX12_findAsked 6 0 [(0, .ref 66)] [] G Q := by
  have c := h.c
  have q4 := ho.q4
  have b4 := hq.2.1
  refine kX12_findAsked_0 hL ?_
  rw [c.tq.1, hq.1, show (0 : Int32) = nI 0 from rfl, nEq (by omega) (by decide), nEq (by omega) (by omega)]
  refine ⟨fun z => hQ0 (fun y => y.1 z), fun z => ⟨fun z2 => ?_, fun z2 => hQ0 (fun y => z2 (dB_iff.mp y.2).1.symm)⟩⟩
  have go : samQ a q → EvV K mX12_findAll 5 0 [(0, .ref 66)] [] G (fun G1 => EvI K mX12_findAsked 6 81 [(0, .ref 66), (1, .int 0), (2, .int 4)] [] G1 Q) := by
    intro sm
    refine s_findAll hL h ho (fun G1 l1 h1 f1 k1 => ?_)
    have e81 : ∀ t, t < 5 → sI G1 81 t = nI (cn t) := fun t ht' => by rw [k1.I (by unfold sAl; omega)]; exact h81 t ht'
    have e82 : ∀ k, k < a.q.1 → sI G1 82 k = nI (tn k) := fun k hk => by rw [k1.I (by unfold sAl; omega)]; exact h82 k (by omega)
    have hr := hQ G1 l1 ⟨z, dB_iff.mpr sm⟩ h1 (k1.km (fun i k z => by unfold sAl at z; omega))
    have c0 := hc 0
    have c1 := hc 1
    have c2 := hc 2
    have c3 := hc 3
    have c4 := hc 4
    have tl : ∀ k, (if k < a.q.1 then tn k else 0) < 5 := fun k => by
      split
      · exact ht k
      · decide
    have t0 := tl 0
    have t1 := tl 1
    have t2 := tl 2
    have t3 := tl 3
    have term : ∀ (k x : Nat), k < 4 → x < 5000000 → EvI K mX12_findAsked 6 105 [(0, .ref 66), (1, .int (nI (5 * x + if k < a.q.1 then tn k else 0))), (2, .int (nI (k + 1)))] [] G1 Q → EvI K mX12_findAsked 6 105 [(0, .ref 66), (1, .int (nI x)), (2, .int (nI k))] [] G1 Q := by
      intro k x hk hx hgo
      refine kX12_findAsked_105 l1 ?_
      rw [h1.c.tq.1, nLe (by omega) (by omega), show (5 : Int32) * nI x = nI (5 * x) from nMul, nI_clamp (by omega)]
      refine ⟨fun y => absurd y (by rw [show (4 : Int32) = nI 4 from rfl, nLe (by decide) (by omega)]; omega), fun _ => ⟨fun y => kX12_findAsked_131 l1 ?_, fun y => ⟨(vIn (by omega)).mpr (by omega), kX12_findAsked_131 l1 ?_⟩⟩⟩
      · rw [if_neg (by omega)] at hgo
        rw [show nI k + 1 = nI (k + 1) from nAdd, show nI (5 * x) + 0 = nI (5 * x + 0) from nAdd]
        exact hgo
      · rw [if_pos (by omega)] at hgo
        rw [e82 k (by omega), show nI k + 1 = nI (k + 1) from nAdd, show nI (5 * x) + nI (tn k) = nI (5 * x + tn k) from nAdd]
        exact hgo
    have tab : ∀ (u x : Nat), u < 5 → x < 10000 → (∀ y : Int32, y = nI u + (-1) → EvI K mX12_findAsked 6 81 [(0, .ref 66), (1, .int (nI (6 * x + cn u))), (2, .int y)] [] G1 Q) → EvI K mX12_findAsked 6 81 [(0, .ref 66), (1, .int (nI x)), (2, .int (nI u))] [] G1 Q := by
      intro u x hu hx hgo
      refine kX12_findAsked_81 l1 ⟨fun y => absurd y (nI_pos (by omega)), fun _ => ?_⟩
      rw [nI_clamp (by omega), e81 u hu, show (6 : Int32) * nI x = nI (6 * x) from nMul, show nI (6 * x) + nI (cn u) = nI (6 * x + cn u) from nAdd]
      exact ⟨(vIn (by omega)).mpr hu, hgo _ rfl⟩
    refine tab 4 0 (by decide) (by decide) (fun y hy => ?_)
    rw [hy, nDec (by decide)]
    refine tab 3 _ (by decide) (by omega) (fun y hy => ?_)
    rw [hy, nDec (by decide)]
    refine tab 2 _ (by decide) (by omega) (fun y hy => ?_)
    rw [hy, nDec (by decide)]
    refine tab 1 _ (by decide) (by omega) (fun y hy => ?_)
    rw [hy, nDec (by decide)]
    refine tab 0 _ (by decide) (by omega) (fun y hy => ?_)
    rw [hy]
    refine kX12_findAsked_81 l1 ⟨fun _ => ?_, fun y => absurd (by decide) y⟩
    refine term 0 _ (by decide) (by omega) (term 1 _ (by decide) (by omega) (term 2 _ (by decide) (by omega) (term 3 _ (by decide) (by omega) ?_)))
    refine kX12_findAsked_105 l1 ⟨fun _ => ?_, fun y => absurd (by decide) y⟩
    have ec : 5 * (5 * (5 * (5 * (6 * (6 * (6 * (6 * (6 * 0 + cn 4) + cn 3) + cn 2) + cn 1) + cn 0) + if 0 < a.q.1 then tn 0 else 0) + if 1 < a.q.1 then tn 1 else 0) + if 2 < a.q.1 then tn 2 else 0) + (if 3 < a.q.1 then tn 3 else 0) = mdC cn (fun k => if k < a.q.1 then tn k else 0) := by
      unfold mdC
      dsimp only
      omega
    rw [ec]
    exact s_qOf l1 f1 ho (by rw [← ec]; omega) hr
  have key : ∀ (m k : Nat), k + m = a.q.1 → (∀ j, j < k → a.q.2.1 j = q.2.1 j ∧ a.q.2.2 j = q.2.2 j) → EvI K mX12_findAsked 6 22 [(0, .ref 66), (1, .int (nI k))] [] G Q := by
    intro m
    induction m with
    | zero =>
      intro k hm hall
      refine kX12_findAsked_22 hL ?_
      rw [c.tq.1, show k = a.q.1 by omega]
      exact ⟨fun _ => go ⟨z2.symm, fun j hj => hall j (by omega)⟩, fun y => absurd (Int32.le_refl _) y⟩
    | succ m ih =>
      intro k hm hall
      have hk : k < a.q.1 := by omega
      obtain ⟨c1, c2, c3⟩ := c.tq.2.2 k hk
      obtain ⟨d1, d2, d3⟩ := hq.2.2 k (by omega)
      refine kX12_findAsked_22 hL ?_
      rw [c.tq.1, show (4 : Int32) + nI k = nI (4 + k) from nAdd, nI_clamp (by omega), nI_clamp (by omega), c1, c3, d1, d3, nEq (by omega) (by omega), show nI k + 1 = nI (k + 1) from nAdd]
      refine ⟨fun y => absurd y (by rw [nLe (by omega) (by omega)]; omega), fun _ => ⟨(vIn (by omega)).mpr (by omega), (vIn (by omega)).mpr (by omega), fun y => hQ0 (fun u => y ((dB_iff.mp u.2).2 k hk).1), fun y => ⟨(vIn (by omega)).mpr (by omega), (vIn (by omega)).mpr (by omega), fun u => ih (k + 1) (by omega) (fun j hj => ?_), fun u => hQ0 (fun w => u ((dB_iff.mp w.2).2 k hk).2)⟩⟩⟩
      rcases Nat.lt_succ_iff_lt_or_eq.mp hj with x | x
      · exact hall j x
      · rw [x]; exact ⟨y, u⟩
  exact key a.q.1 0 (by omega) (fun j hj => absurd hj (Nat.not_lt_zero _))
theorem m_question {Q : Int32 → St → Prop} (hL : Lay G.2.2) (h : MI G a) (ho : OkA e a) (hcn : (rdQst a.T a.b).1 = 0 → (∀ k, (rdQst a.T a.b).2.2.1 k ≤ 5) ∧ ∀ k, (rdQst a.T a.b).2.2.2 k < 5) (hQ : ∀ G', Lay G'.2.2 → MI G' (tpA a (0, a.T.2)) → KM G G' → Q (rQst a) G') : EvI K mX12_question 7 0 [(0, .ref 66)] [] G Q := by
  have c := h.c
  have mi : ∀ G1, Kq sQq G G1 → MTp G1 (0, a.T.2) → MI G1 (tpA a (0, a.T.2)) := fun G1 k1 t1 => h.tape ho k1 (fun i k z => by unfold sQq sQ0 ctS at z; unfold mS sAl; omega) t1
  have km : ∀ G1, Kq sQq G G1 → KM G G1 := fun G1 k1 => k1.km (fun i k z => by unfold sQq sQ0 ctS at z; omega)
  refine s_X12_question hL c.tp c.wo c.tb ho.ds (fun z G1 k1 t1 => ?_) (fun z G1 k1 t1 q1 o1 i1 => ?_)
  · have hr := hQ G1 (k1.lay hL) (mi G1 k1 t1) (km G1 k1)
    unfold rQst at hr
    rw [if_pos z] at hr
    exact hr
  · obtain ⟨hc, ht⟩ := hcn z
    have ho2 : OkA e (tpA a (0, a.T.2)) := ho.ta (Nat.zero_le _)
    refine s_findAsked (a := tpA a (0, a.T.2)) (k1.lay hL) (mi G1 k1 t1) ho2 q1 o1 i1 hc ht (fun y => ?_) (fun G2 l2 y m2 k2 => ?_)
    · have hr := hQ G1 (k1.lay hL) (mi G1 k1 t1) (km G1 k1)
      unfold rQst at hr
      have y' : ¬ (a.q.1 ≠ 0 ∧ dB (samQ a (rdQst a.T a.b).2.1) = true) := y
      rw [if_neg (fun u => u z), if_neg y'] at hr
      exact hr
    · have hr := hQ G2 l2 m2 ((km G1 k1).tr k2)
      unfold rQst at hr
      have y' : a.q.1 ≠ 0 ∧ dB (samQ a (rdQst a.T a.b).2.1) = true := y
      rw [if_neg (fun u => u z), if_pos y'] at hr
      exact hr
end MQUESTION

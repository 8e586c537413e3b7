/-! question: the class -/
def samQ (a : AS) (q : TQt) : Prop := q.1 = a.q.1 ∧ ∀ k, k < a.q.1 → a.q.2.1 k = q.2.1 k ∧ a.q.2.2 k = q.2.2 k
noncomputable def rQst (a : AS) : Int32 := if (rdQst a.T a.b).1 ≠ 0 then nI ((rdQst a.T a.b).1 + 100000) else if a.q.1 ≠ 0 ∧ dB (samQ a (rdQst a.T a.b).2.1) = true then lst (fun q => a.mc ((fL a.mc a.J.length).getD q 0) == mdC (rdQst a.T a.b).2.2.1 (fun k => if k < a.q.1 then (rdQst a.T a.b).2.2.2 k else 0)) (fL a.mc a.J.length).length else -1
section QUEST
variable {K : KT} {G : St} {a : AS} {e : Nat}
/-- the class' code and the model's are found at the same place -/
theorem OkA.find2 (ho : OkA e a) {cn tn : Nat → Nat} (hc : ∀ k, cn k ≤ 5) (ht : ∀ k, tn k < 5) : lst (fun q => a.xc ((fL a.xc a.J.length).getD q 0) == shC cn + shT tn a.q.1) (fL a.xc a.J.length).length = lst (fun q => a.mc ((fL a.mc a.J.length).getD q 0) == mdC cn (fun k => if k < a.q.1 then tn k else 0)) (fL a.mc a.J.length).length := by
  rw [ho.fl (Nat.le_refl _)]
  refine lst_cong (fun q hq => ?_)
  have hg := getD_lt hq
  have hj := fL_lt (getE_mem hg)
  generalize (fL a.mc a.J.length).getD q 0 = j at *
  have oj := (ho.J1 (ho.Om (getD_lt (l := a.O) (q := j) (by rw [ho.Ol]; exact hj)))).1
  have cn5 : ∀ u, cnS a.w.2.1 (a.O.getD j 0) u ≤ 5 := fun u => Nat.le_trans cnS_le oj.2.2.1
  have tn5 : ∀ k, k < a.q.1 → tnS a.w.2.1 a.P (a.O.getD j 0) k < 5 := fun k hk => (okJ_tn (b := a.b) ho.P1 ho.P2 ho.wb ho.b5 oj hk).1
  have key : a.xc j = shC cn + shT tn a.q.1 ↔ a.mc j = mdC cn (fun k => if k < a.q.1 then tn k else 0) := by
    show xC _ _ _ _ = _ ↔ mC _ _ _ _ = _
    unfold xC mC
    rw [sh_x ho.q4 cn5 hc tn5 (fun k _ => ht k), sh_m ho.q4 cn5 hc tn5 (fun k _ => ht k)]
  by_cases z : a.xc j = shC cn + shT tn a.q.1
  · rw [beq_iff_eq.mpr z, beq_iff_eq.mpr (key.mp z)]
  · rw [beq_eq_false_iff_ne.mpr z, beq_eq_false_iff_ne.mpr (fun y => z (key.mpr y))]
theorem s_same {Q : Int32 → St → Prop} {t t' : Nat} {q : TQt} (hL : Lay G.2.2) (ht : t = 59 ∨ t = 62) (ht' : t' = 59 ∨ t' = 62) (h1 : XTq G t a.q) (h2 : XTq G t' q) (hQ : Q (if dB (samQ a q) = true then 1 else 0) G) : EvI K mX8_same 0 0 [(0, .ref t'), (1, .ref t)] [] G Q := by
  have a4 := h1.2.1
  have b4 := h2.2.1
  have no : ¬ samQ a q → Q 0 G := fun z => by rw [if_neg (fun y => z (dB_iff.mp y))] at hQ; exact hQ
  refine kX8_same_0 hL ht' ht ?_
  rw [h1.1, h2.1, nEq (by omega) (by omega)]
  refine ⟨fun z => ?_, fun z => no (fun y => z y.1.symm)⟩
  have key : ∀ (m k : Nat), k + m = a.q.1 → (∀ j, j < k → a.q.2.1 j = q.2.1 j ∧ a.q.2.2 j = q.2.2 j) → EvI K mX8_same 0 19 [(0, .ref t'), (1, .ref t), (2, .int (nI k))] [] G Q := by
    intro m
    induction m with
    | zero =>
      intro k hm hall
      refine kX8_same_19 hL ht' ht ?_
      rw [h2.1, show k = q.1 by omega]
      refine ⟨fun _ => ?_, fun y => absurd (Int32.le_refl _) y⟩
      have : samQ a q := ⟨z.symm, fun j hj => hall j (by omega)⟩
      rw [if_pos (dB_iff.mpr this)] at hQ
      exact hQ
    | succ m ih =>
      intro k hm hall
      obtain ⟨c1, c2, c3⟩ := h1.2.2 k (by omega)
      obtain ⟨d1, d2, d3⟩ := h2.2.2 k (by omega)
      refine kX8_same_19 hL ht' ht ?_
      rw [h2.1, nI_clamp (by omega), c1, c3, d1, d3, nEq (by omega) (by omega), show nI k + 1 = nI (k + 1) from nAdd]
      refine ⟨fun y => absurd y (by rw [nLe (by omega) (by omega)]; omega), fun _ => ⟨(vIn (by omega)).mpr (by omega), (vIn (by omega)).mpr (by omega), fun y => no (fun u => y (u.2 k (by omega)).1), fun y => ⟨(vIn (by omega)).mpr (by omega), (vIn (by omega)).mpr (by omega), fun u => ih (k + 1) (by omega) (fun j hj => ?_), fun u => no (fun w => u (w.2 k (by omega)).2)⟩⟩⟩
      rcases Nat.lt_succ_iff_lt_or_eq.mp hj with x | x
      · exact hall j x
      · rw [x]; exact ⟨y, u⟩
  exact key a.q.1 0 (by omega) (fun j hj => absurd hj (Nat.not_lt_zero _))
theorem x_question {Q : Int32 → St → Prop} (h : XI e sen G a) (ho : OkA e a) (hlt : (rdQst a.T a.b).1 < 2147483648) (hQ : ∀ G', XI e sen G' (tpA a (0, a.T.2)) → KX G G' → Q (rQst a) G') : EvIa K mX11_question 11 0 [(0, .ref 1)] [] G Q := by
  have hL := h.lay
  have hh := lay_h hL
  have ht := lay_t hL
  refine kX11_question_0 hL (s_X5_readQuestion hL (by omega) (by omega) h.c.tb h.c.tp (fun G1 k1 t1 q1 => s_X7_empty (T := a.T) (k1.lay hL) (fun G2 k2 t2 => ?_)))
  have kk : Kq (sSt (sR G 1 11)) G G2 := k1.tr (k2.q.mono (fun i k z => Or.inl z))
  have x2 : XI e sen G2 (tpA a (0, a.T.2)) := h.tape kk (fun i k z => by unfold sSt at z; omega) t2
  have kx2 : KX G G2 := kk.kx (fun i k z => by unfold sSt at z; omega)
  have ho2 : OkA e (tpA a (0, a.T.2)) := ho.ta (Nat.zero_le _)
  rw [show (0 : Int32) = nI 0 from rfl, nEq hlt (by decide)]
  refine ⟨fun z => ?_, fun z => ?_⟩
  · obtain ⟨q1a, q1b, q1c, q1d⟩ := q1 z
    refine s_searched x2 ho2 (fun q0 => ⟨x2.lay, fun _ => ?_, fun y => absurd rfl y⟩) (fun G3 q0 x3 k3 f3 => ⟨x3.lay, fun y => absurd y (by decide), fun _ => ?_⟩)
    · have hr := hQ G2 x2 kx2
      unfold rQst at hr
      rw [if_neg (fun y => y z), if_neg (fun y => y.1 q0)] at hr
      exact hr
    · have hL3 := x3.lay
      have ht3 := lay_t hL3
      have h104 : 104 ≤ nx G2 := x2.lay.2.2.2.1
      have e11 : sR G3 1 11 = sR G 1 11 := by rw [k3.R (by omega) (by unfold frT; omega), kk.R]
      have q3 : XTq G3 (sR G 1 11) (rdQst a.T a.b).2.1 := by
        have q2 : XTq G2 (sR G 1 11) (rdQst a.T a.b).2.1 := q1a.kq k2.q (fun i k z => by omega)
        exact XTq.kq (G1 := mixS G2 G3) q2 k3.toq (fun i k z => by unfold frS at z; omega)
      have s4 : sI G3 4 1 = nI (shC (rdQst a.T a.b).2.2.1 + shT (rdQst a.T a.b).2.2.2 (rdQst a.T a.b).2.1.1) := by
        rw [k3.I (by omega) (by unfold frS; omega), k2.q.I (by omega)]; exact q1d
      have hr := hQ G3 x3 (kx2.tr k3.kx)
      unfold rQst at hr
      rw [if_neg (fun y => y z)] at hr
      rw [e11]
      refine s_same (a := a) hL3 (by omega) (by omega) x3.c.tq q3 ?_
      by_cases sm : dB (samQ a (rdQst a.T a.b).2.1) = true
      · rw [if_pos sm]
        rw [if_pos ⟨q0, sm⟩] at hr
        refine ⟨fun _ => ?_, fun y => absurd y (by decide)⟩
        obtain ⟨-, -, -, sd⟩ := x3.fs f3
        have eq1 : (rdQst a.T a.b).2.1.1 = a.q.1 := (dB_iff.mp sm).1
        rw [s4, eq1]
        have jl := ho.Jl
        have fl := fL_len (c := a.xc) a.J.length
        have r10 := x3.rm.2.2.2.2.2.2.2.2.2.1
        have sz : sI G3 28 12 = nI (fL a.xc a.J.length).length := sd.qs.1
        have n2 : (fL a.xc a.J.length).length ≤ sN G3 (sR G3 28 2) := sd.n2
        have hsc := shC_lt q1b
        have p : 2 ^ (15 + 3 * a.q.1) ≤ 2 ^ 27 := Nat.pow_le_pow_right (by decide) (by have := ho.q4; omega)
        have hst := (shT_lt (tn := (rdQst a.T a.b).2.2.2) (fun k => by have := q1c k; omega) a.q.1).1
        refine s_X4_find (V := fun q => a.xc ((fL a.xc a.J.length).getD q 0)) (m := (fL a.xc a.J.length).length) hL3 sd.qs.2.1 sz (by omega) ⟨by omega, n2⟩ (fun q hq => ?_) (by omega) ?_
        · have hg := getD_lt hq
          have hj := fL_lt (getE_mem hg)
          exact ⟨(sd.qs.2.2 q _ hg).1, ho.x31 (ho.Om (getD_lt (l := a.O) (by rw [ho.Ol]; exact hj)))⟩
        · have e2 := ho.find2 q1b q1c
          rw [← e2] at hr
          exact hr
      · rw [if_neg sm]
        rw [if_neg (fun y => sm y.2)] at hr
        exact ⟨fun y => absurd rfl y, fun _ => hr⟩
  · have hr := hQ G2 x2 kx2
    unfold rQst at hr
    rw [if_pos z] at hr
    rw [show (100000 : Int32) + nI (rdQst a.T a.b).1 = nI ((rdQst a.T a.b).1 + 100000) by rw [show (100000 : Int32) + nI (rdQst a.T a.b).1 = nI (100000 + (rdQst a.T a.b).1) from nAdd, Nat.add_comm]]
    exact hr
end QUEST

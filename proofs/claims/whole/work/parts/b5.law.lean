/-! the law: every run of calls -/
def QL (x : Int32) (G' : St) : Prop := x = 1 ∧ nx G' ≤ 600000 ∧ su G' ≤ 7000000
section LAW
variable {K : KT} {G : St} {a : AS} {e : Nat}
theorem Rm.end (h : Rm e G) (he : e ≤ 512) : nx G ≤ 600000 ∧ su G ≤ 7000000 := by
  obtain ⟨h1, h2, h3, h4, h5, h6, h7, h8, h9, -⟩ := h
  rcases h5 with h5 | h5
  · constructor <;> omega
  · constructor <;> omega
theorem OkA.cho (ho : OkA e a) (y : Nat) : OkA (e + 1) (chA a y) := ⟨ho.b5, ho.c4, ho.tb, ho.ds, ho.nm, ho.w30, ho.wb, ho.ro, ho.cl, ho.q4, ho.q3, ho.qu, ho.p4, ho.W1, ho.W5, ho.dn, ho.lt, ho.l20, (fun x => by
  show (if x = y then a.ch x + 1 else a.ch x) ≤ e + 1
  have := ho.ch x
  split <;> omega), ho.m40, ho.tp⟩
theorem sen_ch (a : AS) (y : Nat) : sen (chA a y) = sen a := by
  have ef : (chA a y).f = a.f := rfl
  have eP : (chA a y).P = a.P := rfl
  have eJ : (chA a y).J = a.J := rfl
  have eO : (chA a y).O = a.O := rfl
  have emc : (chA a y).mc = a.mc := rfl
  funext q
  have efq : fq (chA a y) q = fq a q := by unfold fq; rw [emc, eJ]
  unfold sen seS
  rw [efq, eO, eP]
  rfl
theorem nI_inj {m n : Nat} {x : Int32} (h1 : x = nI m) (h2 : x = nI n) (hm : m < 2147483648) (hn : n < 2147483648) : m = n := (nEq hm hn).mp (h1.symm.trans h2)
theorem KM.s {G1 : St} : ∀ i k : Nat, (66 ≤ i ∧ i ≤ 102) → 66 ≤ i ∧ i ≤ 103 := fun i k z => ⟨z.1, by omega⟩
set_option maxHeartbeats 4000000 in
theorem law_step {x4 : Int32} (hst : K.1.stackTraces = false) (h : XI e sen G a) (hm : MI G a) (ho : OkA e a) (he : e ≤ 511) (hx : x4 = nI (7 * e)) (hk : 7 * e + 7 ≤ kl K) (hkl : kl K ≤ 3584)
    (nxt : ∀ (G2 : St) (a2 : AS), XI (e + 1) sen G2 a2 → MI G2 a2 → OkA (e + 1) a2 → EvIa K mL_law 12 1095 [(0, .float 1), (1, .ref 1), (2, .ref 66), (3, .ref 103), (4, .int x4)] [] G2 QL) : EvIa K mL_law 12 23 [(0, .float 1), (1, .ref 1), (2, .ref 66), (3, .ref 103), (4, .int x4)] [] G QL := by
  have hA : ∀ j, j < a.T.1 → okS (a.T.2 j) := fun j hj => (h.c.tp.2.2 j hj).2
  have hl := h.lay
  have vv : ∀ j : Nat, j ≤ 6 → vp_in (nI (7 * e) + nI j) (kl K) := fun j hj => by
    rw [show nI (7 * e) + nI j = nI (7 * e + j) by try simp (disch := omega) only [nLe, nLeR, nLeL, nLt, nLtR, nLtL, nEq, nEqR, nEqL, nClamp, nClampR, nAdd, nAddR, nAddL, nSub, nSubR, nMul, nMulR, nMulL, nDivR, vIn, vInR, iteZ, iteP, lEq, lEqR, forall_eq, forall_const, true_implies, false_implies, not_true_eq_false, not_false_eq_true, true_and, and_true, implies_true, Decidable.not_not, Nat.le_refl]]
    exact (vIn (by omega)).mpr (by omega)
  have v0 : vp_in x4 (kl K) := by rw [hx]; exact (vIn (by omega)).mpr (by omega)
  have v1 : vp_in (x4 + 1) (kl K) := by rw [hx]; exact vv 1 (by decide)
  have v2 : vp_in (x4 + 2) (kl K) := by rw [hx]; exact vv 2 (by decide)
  have v3 : vp_in (x4 + 3) (kl K) := by rw [hx]; exact vv 3 (by decide)
  have v4 : vp_in (x4 + 4) (kl K) := by rw [hx]; exact vv 4 (by decide)
  have v5 : vp_in (x4 + 5) (kl K) := by rw [hx]; exact vv 5 (by decide)
  have v6 : vp_in (x4 + 6) (kl K) := by rw [hx]; exact vv 6 (by decide)
  have n30 : nQ a ≤ 30000 := ho.fl30
  have o320 := ho.ofl
  have pu : ∀ G1 G2 : St, XI e sen G1 a → KM G1 G2 → MI G2 a → EvIa K mL_law 12 1095 [(0, .float 1), (1, .ref 1), (2, .ref 66), (3, .ref 103), (4, .int x4)] [] G2 QL := fun G1 G2 x1 k2 m2 => nxt G2 a (x1.mo k2 (KM.s (G1 := G1))).up m2 ho.up
  have st : ∀ (a2 : AS) (G1 G2 : St), XI e sen G1 a2 → KM G1 G2 → MI G2 a2 → OkA (e + 1) a2 → EvIa K mL_law 12 1095 [(0, .float 1), (1, .ref 1), (2, .ref 66), (3, .ref 103), (4, .int x4)] [] G2 QL := fun a2 G1 G2 x1 k2 m2 o2 => nxt G2 a2 (x1.mo k2 (KM.s (G1 := G1))).up m2 o2
  have mk : ∀ G1 : St, KX G G1 → MI G1 a := fun G1 k1 => hm.kx ho hl k1
  refine kL_law_23 hl ⟨fun z => ?_, fun _ => ⟨v0, fun _ => ?_, fun _ => ?_, fun _ => ?_, fun _ => ?_, fun _ => ?_, fun _ => ?_, fun _ => ?_, fun _ => ?_, fun _ => ?_, fun _ => ?_, fun _ => ?_, fun _ => ?_, fun _ => ?_, fun _ => ?_, fun _ => ?_, fun _ => ?_, fun _ => ?_, fun _ => ?_, fun _ => ?_, fun _ => ?_, fun _ => ?_, fun _ => ?_, fun _ => ?_, fun _ => ?_, fun _ => ?_, fun _ => ?_, fun _ => ?_, fun _ _ _ _ _ _ _ _ _ _ _ _ _ _ _ _ _ _ _ _ _ _ _ _ _ _ _ => ?_⟩⟩
  · exfalso
    rw [hx, show nI (kl K) - 7 = nI (kl K - 7) by try simp (disch := omega) only [nLe, nLeR, nLeL, nLt, nLtR, nLtL, nEq, nEqR, nEqL, nClamp, nClampR, nAdd, nAddR, nAddL, nSub, nSubR, nMul, nMulR, nMulL, nDivR, vIn, vInR, iteZ, iteP, lEq, lEqR, forall_eq, forall_const, true_implies, false_implies, not_true_eq_false, not_false_eq_true, true_and, and_true, implies_true, Decidable.not_not, Nat.le_refl], nLt (by omega) (by omega)] at z
    omega
  · refine ⟨v1, v2, fun w4 e4 => ⟨v3, v4, fun w7 e7 => ⟨v5, v6, fun w10 e10 => x_feed h (fun G1 x1 hT k1 => ⟨v1, v2, fun u4 f4 => ⟨v3, v4, fun u7 f7 => ⟨v5, v6, fun u10 f10 => ?_⟩⟩⟩)⟩⟩⟩
    rw [f4, ← e4, f7, ← e7, f10, ← e10]
    exact m_feed x1.lay (mk G1 k1) ho (fun G2 l2 m2 k2 => ⟨fun _ => st _ G1 G2 x1 k2 m2 (ho.ta hT).up, fun z => absurd rfl z⟩)
  · exact x_tables h ho (fun G1 z x1 k1 => ⟨x1.lay, m_tables x1.lay (mk G1 k1) ho (fun G2 l2 _ m2 k2 => ⟨fun _ => st _ G1 G2 x1 k2 m2 (ho.ta (Nat.zero_le _)).up, fun z => absurd rfl z⟩) (fun G2 l2 z2 _ _ => absurd z2 z)⟩) (fun G1 z x1 k1 => ⟨x1.lay, m_tables x1.lay (mk G1 k1) ho (fun G2 l2 z2 _ _ => absurd z z2) (fun G2 l2 _ m2 k2 => ⟨fun _ => st _ G1 G2 x1 k2 m2 (ho.tbs (Nat.zero_le _) (rdTabs_t hA _ _ _ eT_ok z)).up, fun z => absurd rfl z⟩)⟩)
  · exact x_rows h ho (fun G1 z x1 k1 => m_rows x1.lay (mk G1 k1) ho hA (fun G2 l2 _ m2 k2 => ⟨fun _ => st _ G1 G2 x1 k2 m2 (ho.ta (Nat.zero_le _)).up, fun z => absurd rfl z⟩) (fun G2 l2 z2 _ _ => absurd z2 z)) (fun G1 z x1 k1 => m_rows x1.lay (mk G1 k1) ho hA (fun G2 l2 z2 _ _ => absurd z z2) (fun G2 l2 _ m2 k2 => ⟨fun _ => st _ G1 G2 x1 k2 m2 (ho.rw (Nat.zero_le _) (rdRows_w hA ho.wk z).1 (rdRows_w hA ho.wk z).2.1).up, fun z => absurd rfl z⟩))
  · exact x_ask h ho (fun G1 z x1 k1 => ⟨x1.lay, m_ask x1.lay (mk G1 k1) ho (fun G2 l2 _ m2 k2 => ⟨fun _ => st _ G1 G2 x1 k2 m2 (ho.ta (Nat.zero_le _)).up, fun z => absurd rfl z⟩) (fun G2 l2 z2 _ _ => absurd z2 z)⟩) (fun G1 z x1 k1 => ⟨x1.lay, m_ask x1.lay (mk G1 k1) ho (fun G2 l2 z2 _ _ => absurd z z2) (fun G2 l2 _ m2 k2 => ⟨fun _ => st _ G1 G2 x1 k2 m2 (ho.as (Nat.zero_le _) (rdAsk_q hA ⟨Nat.zero_le _, fun k hk => absurd hk (Nat.not_lt_zero _), fun k hk => absurd hk (Nat.not_lt_zero _)⟩)).up, fun z => absurd rfl z⟩)⟩)
  · exact x_question h ho (Nat.lt_trans (rdQst_lt ho.tp) (by decide)) (fun G1 x1 k1 => ⟨x1.lay, m_question x1.lay (mk G1 k1) ho (fun _ => rdQst_cn ho.b5) (fun G2 l2 m2 k2 => ⟨fun _ => st _ G1 G2 x1 k2 m2 (ho.ta (Nat.zero_le _)).up, fun z => absurd rfl z⟩)⟩)
  · refine ⟨v1, x_width h ho (fun G1 x1 k1 z => ⟨v1, m_width x1.lay (mk G1 k1) ho (fun G2 l2 m2 k2 _ => ⟨fun _ => pu G1 G2 x1 k2 m2, fun z => absurd rfl z⟩) (fun G2 n l2 n1 n5 en m2 k2 => absurd (by rw [en, nI_toInt (by omega)]; omega) z)⟩) (fun G1 n n1 n5 en x1 k1 => ⟨v1, m_width x1.lay (mk G1 k1) ho (fun G2 l2 m2 k2 z => absurd (by rw [en, nI_toInt (by omega)]; omega) z) (fun G2 n' l2 n1' n5' en' m2 k2 => ⟨fun _ => ?_, fun z => absurd rfl z⟩)⟩)⟩
    obtain rfl := nI_inj en en' (by omega) (by omega)
    exact st _ G1 G2 x1 k2 m2 (ho.wd n1 n5).up
  · refine ⟨v1, v2, x_row hst h hm ho (fun G1 x1 m1 z => ⟨x1.lay, v1, v2, m_row x1.lay m1 ho (fun G2 l2 m2 k2 _ t2 => kX12_thrown_0 l2 ?_) (fun G2 r k l2 hr hk er ek m2 k2 t2 => absurd ?_ z)⟩) (fun G1 r k hr hk er ek x1 m1 s1 => ⟨x1.lay, v1, v2, m_row x1.lay m1 ho (fun G2 l2 m2 k2 z t2 => absurd ?_ z) (fun G2 r' k' l2 hr' hk' er' ek' m2 k2 t2 => kX12_thrown_0 l2 ?_)⟩)⟩
    · rw [t2]
      exact ⟨fun _ => ⟨fun _ => kL_law_453 l2 (nxt G2 a (x1.mo k2 (KM.s (G1 := G1))) m2 ho.up), fun z => absurd z (by decide)⟩, fun z => absurd rfl z⟩
    · have w30 := ho.w30
      unfold rwI
      rw [er, ek, nI_toInt (by omega), nI_toInt (by omega)]
      omega
    · have w30 := ho.w30
      unfold rwI
      rw [er, ek, nI_toInt (by omega), nI_toInt (by omega)]
      omega
    · have w30 := ho.w30
      obtain rfl := nI_inj er er' (by omega) (by omega)
      obtain rfl := nI_inj ek ek' (by omega) (by omega)
      rw [t2]
      refine ⟨fun _ => ⟨fun z => absurd rfl z, fun _ => ⟨fun _ => kL_law_453 l2 (pu G1 G2 x1 k2 m2), fun z => absurd ?_ z⟩⟩, fun z => absurd rfl z⟩
      rw [k2.L (by omega)]; exact s1
  · exact ⟨v1, v2, x_cell h ho (fun G1 x1 k1 => ⟨v1, v2, m_cell x1.lay (mk G1 k1) ho (fun G2 l2 m2 k2 => ⟨fun _ => pu G1 G2 x1 k2 m2, fun z => absurd rfl z⟩)⟩)⟩
  · exact ⟨v1, v2, x_holds h ho (fun G1 x1 k1 => ⟨v1, v2, m_holds x1.lay (mk G1 k1) ho (fun G2 l2 m2 k2 => ⟨fun _ => pu G1 G2 x1 k2 m2, fun z => absurd rfl z⟩)⟩)⟩
  · exact ⟨v1, x_found h ho (fun G1 x1 k1 => ⟨v1, m_found x1.lay (mk G1 k1) ho (fun G2 l2 m2 k2 => ⟨fun _ => pu G1 G2 x1 k2 m2, fun z => absurd rfl z⟩)⟩)⟩
  · exact ⟨v1, v2, x_tie h ho (fun G1 x1 k1 => ⟨v1, v2, m_tie x1.lay (mk G1 k1) ho (fun G2 l2 m2 k2 => ⟨fun _ => pu G1 G2 x1 k2 m2, fun z => absurd rfl z⟩)⟩)⟩
  · exact ⟨v1, v2, x_joining h ho (fun G1 x1 k1 => ⟨x1.lay, v1, v2, m_joining x1.lay (mk G1 k1) ho (fun G2 l2 m2 k2 => ⟨fun _ => pu G1 G2 x1 k2 m2, fun z => absurd rfl z⟩)⟩)⟩
  · exact ⟨v1, v2, x_place h ho (fun G1 x1 k1 => ⟨x1.lay, v1, v2, m_place x1.lay (mk G1 k1) ho (fun G2 l2 m2 k2 => ⟨fun _ => pu G1 G2 x1 k2 m2, fun z => absurd rfl z⟩)⟩)⟩
  · exact ⟨v1, v2, x_looks h ho (fun G1 x1 k1 => ⟨x1.lay, v1, v2, m_looks x1.lay (mk G1 k1) ho (fun G2 l2 m2 k2 => ⟨fun _ => pu G1 G2 x1 k2 m2, fun z => absurd rfl z⟩)⟩)⟩
  · exact ⟨v1, v2, x_asked h ho (by omega) (fun G1 x1 k1 => ⟨x1.lay, v1, v2, m_asked x1.lay (mk G1 k1) ho (by omega) (fun G2 l2 m2 k2 => ⟨fun _ => pu G1 G2 x1 k2 m2, fun z => absurd rfl z⟩)⟩)⟩
  · exact ⟨v1, v2, x_said h ho (fun G1 x1 k1 => ⟨x1.lay, v1, v2, m_said x1.lay (mk G1 k1) ho (fun G2 l2 m2 k2 => ⟨fun _ => pu G1 G2 x1 k2 m2, fun z => absurd rfl z⟩)⟩)⟩
  · refine ⟨v1, x_choose h ho (by omega) (sen_ch a) (fun G1 x1 k1 z => ⟨x1.lay, v1, m_choose x1.lay (mk G1 k1) ho (by omega) (fun G2 l2 m2 k2 _ => ⟨fun _ => pu G1 G2 x1 k2 m2, fun z => absurd rfl z⟩) (fun G2 q l2 hq eq m2 k2 => absurd ?_ z)⟩) (fun G1 q hq eq x1 k1 => ⟨x1.lay, v1, m_choose x1.lay (mk G1 k1) ho (by omega) (fun G2 l2 m2 k2 z => absurd ?_ z) (fun G2 q' l2 hq' eq' m2 k2 => ?_)⟩)⟩
    · rw [eq, inR_n (by omega)]; exact hq
    · rw [eq, inR_n (by omega)]; exact hq
    · obtain rfl := nI_inj eq eq' (by omega) (by omega)
      exact ⟨fun _ => st _ G1 G2 x1 k2 m2 (ho.cho _), fun z => absurd rfl z⟩
  · exact ⟨v1, x_parts h ho (fun G1 x1 k1 => ⟨x1.lay, v1, m_parts x1.lay (mk G1 k1) ho (fun G2 l2 m2 k2 => ⟨fun _ => pu G1 G2 x1 k2 m2, fun z => absurd rfl z⟩)⟩)⟩
  · exact x_left h ho (fun G1 x1 k1 => ⟨x1.lay, m_left x1.lay (mk G1 k1) ho (fun G2 l2 m2 k2 => ⟨fun _ => pu G1 G2 x1 k2 m2, fun z => absurd rfl z⟩)⟩)
  · exact ⟨v1, v2, x_near h ho (fun G1 x1 k1 => ⟨v1, v2, m_near x1.lay (mk G1 k1) ho (fun G2 l2 m2 k2 => ⟨fun _ => pu G1 G2 x1 k2 m2, fun z => absurd rfl z⟩)⟩)⟩
  · refine ⟨v1, x_meant h ho (fun G1 x1 k1 z => ⟨x1.lay, v1, m_meant x1.lay (mk G1 k1) ho (fun G2 l2 m2 k2 _ => ⟨fun _ => pu G1 G2 x1 k2 m2, fun z => absurd rfl z⟩) (fun G2 s l2 hb es hs m2 k2 => absurd hb z)⟩) (fun G1 s hb es hs x1 k1 => ⟨x1.lay, v1, m_meant x1.lay (mk G1 k1) ho (fun G2 l2 m2 k2 z => absurd hb z) (fun G2 s' l2 hb' es' hs' m2 k2 => ?_)⟩)⟩
    obtain rfl := nI_inj es es' (by omega) (by omega)
    exact ⟨fun _ => st _ G1 G2 x1 k2 m2 (ho.me hb.2.1).up, fun z => absurd rfl z⟩
  · exact ⟨v1, x_judged h (fun G1 x1 k1 => ⟨v1, m_judged x1.lay (mk G1 k1) ho (fun G2 l2 m2 k2 => ⟨fun _ => pu G1 G2 x1 k2 m2, fun z => absurd rfl z⟩)⟩)⟩
  · refine ⟨v1, x_person h ho (fun G1 x1 k1 z => ⟨v1, m_person x1.lay (mk G1 k1) ho (fun G2 l2 m2 k2 _ => ⟨fun _ => pu G1 G2 x1 k2 m2, fun z => absurd rfl z⟩) (fun G2 n l2 n4 en m2 k2 => absurd (by rw [en, nI_toInt (by omega)]; omega) z)⟩) (fun G1 n n4 en x1 k1 => ⟨v1, m_person x1.lay (mk G1 k1) ho (fun G2 l2 m2 k2 z => absurd (by rw [en, nI_toInt (by omega)]; omega) z) (fun G2 n' l2 n4' en' m2 k2 => ⟨fun _ => ?_, fun z => absurd rfl z⟩)⟩)⟩
    obtain rfl := nI_inj en en' (by omega) (by omega)
    exact st _ G1 G2 x1 k2 m2 (ho.pe n4).up
  · have w30 := ho.w30
    have key : ∀ v : Int32, (v = 0 ∨ v = 1) → ((kx K (Int32.toNatClampNeg (x4 + 3)) = 0 → v = 0) ∧ (¬ kx K (Int32.toNatClampNeg (x4 + 3)) = 0 → v = 1)) → EvIa K mL_law 12 982 [(0, .float 1), (1, .ref 1), (2, .ref 66), (3, .ref 103), (4, .int x4)] [.int v, .int (kx K (Int32.toNatClampNeg (x4 + 2))), .int (kx K (Int32.toNatClampNeg (x4 + 1))), .ref 1] G QL := by
      intro v hv hvv
      have go : ∀ (r : Int32) (G1 : St), Lay G1.2.2 → EvI K mX12_hide 1 0 [(0, .ref 66), (1, .int (kx K (Int32.toNatClampNeg (x4 + 1)))), (2, .int (kx K (Int32.toNatClampNeg (x4 + 2)))), (3, .int v)] [] G1 (fun r1 G2 => ((r = r1 → EvIa K mL_law 12 1095 [(0, .float 1), (1, .ref 1), (2, .ref 66), (3, .ref 103), (4, .int x4)] [] G2 QL) ∧ (¬ r = r1 → QL 0 G2))) → vp_in (x4 + 1) (kl K) ∧ vp_in (x4 + 2) (kl K) ∧ vp_in (x4 + 3) (kl K) ∧ (((kx K (Int32.toNatClampNeg (x4 + 3))) = 0 → EvIa K mL_law 12 1012 [(0, .float 1), (1, .ref 1), (2, .ref 66), (3, .ref 103), (4, .int x4)] [.int 0, .int (kx K (Int32.toNatClampNeg (x4 + 2))), .int (kx K (Int32.toNatClampNeg (x4 + 1))), .ref 66, .int r] G1 QL) ∧ (¬ (kx K (Int32.toNatClampNeg (x4 + 3))) = 0 → EvIa K mL_law 12 1012 [(0, .float 1), (1, .ref 1), (2, .ref 66), (3, .ref 103), (4, .int x4)] [.int 1, .int (kx K (Int32.toNatClampNeg (x4 + 2))), .int (kx K (Int32.toNatClampNeg (x4 + 1))), .ref 66, .int r] G1 QL)) := by
        intro r G1 l1 hE
        refine ⟨v1, v2, v3, fun z => ?_, fun z => ?_⟩
        · have := hvv.1 z
          subst this
          exact kL_law_1012 l1 hE
        · have := hvv.2 z
          subst this
          exact kL_law_1012 l1 hE
      refine kL_law_982 hl (x_hide h ho hv (fun G1 x1 k1 z => go 0 G1 x1.lay (m_hide x1.lay (mk G1 k1) ho hv (fun G2 l2 m2 k2 _ => ⟨fun _ => pu G1 G2 x1 k2 m2, fun z => absurd rfl z⟩) (fun G2 n r l2 hn en hr er m2 k2 => absurd ?_ z))) (fun G1 n r hn en hr er x1 k1 => go 1 G1 x1.lay (m_hide x1.lay (mk G1 k1) ho hv (fun G2 l2 m2 k2 z => absurd ?_ z) (fun G2 n' r' l2 hn' en' hr' er' m2 k2 => ?_))))
      · rw [en, er, inR_n (by omega), nI_toInt (by omega)]
        omega
      · rw [en, er, inR_n (by omega), nI_toInt (by omega)]
        omega
      · obtain rfl := nI_inj en en' (by omega) (by omega)
        obtain rfl := nI_inj er er' (by omega) (by omega)
        exact ⟨fun _ => st _ G1 G2 x1 k2 m2 (ho.hi hr).up, fun z => absurd rfl z⟩
    exact ⟨v1, v2, v3, fun z => key 0 (Or.inl rfl) ⟨fun _ => rfl, fun y => absurd z y⟩, fun z => key 1 (Or.inr rfl) ⟨fun y => absurd y z, fun _ => rfl⟩⟩
  · exact ⟨v1, x_offered h ho (fun G1 x1 k1 => ⟨v1, m_offered x1.lay (mk G1 k1) ho (fun G2 l2 m2 k2 => ⟨fun _ => pu G1 G2 x1 k2 m2, fun z => absurd rfl z⟩)⟩)⟩
  · refine ⟨v1, x_lets h ho (fun G1 x1 k1 z => ⟨v1, m_lets x1.lay (mk G1 k1) ho (fun G2 l2 m2 k2 _ => ⟨fun _ => pu G1 G2 x1 k2 m2, fun z => absurd rfl z⟩) (fun G2 i l2 hi ei hb m2 k2 => absurd ?_ z)⟩) (fun G1 i hi ei hb x1 k1 => ⟨v1, m_lets x1.lay (mk G1 k1) ho (fun G2 l2 m2 k2 z => absurd ?_ z) (fun G2 i' l2 hi' ei' hb' m2 k2 => ?_)⟩)⟩
    · rw [ei, inR_n (by omega), nI_nat (by omega)]; exact ⟨hi, hb⟩
    · rw [ei, inR_n (by omega), nI_nat (by omega)]; exact ⟨hi, hb⟩
    · obtain rfl := nI_inj ei ei' (by omega) (by omega)
      exact ⟨fun _ => st _ G1 G2 x1 k2 m2 (ho.le (getE_mem (getD_lt hi)) hb.1).up, fun z => absurd rfl z⟩
  · exact ⟨v1, x_count h ho (fun G1 x1 k1 => ⟨x1.lay, v1, m_count x1.lay (mk G1 k1) ho (fun G2 l2 m2 k2 => ⟨fun _ => pu G1 G2 x1 k2 m2, fun z => absurd rfl z⟩)⟩)⟩
  · exact nxt G a h.up hm ho.up
theorem law_end {x4 : Int32} (h : XI e sen G a) (he : e ≤ 512) (hx : x4 = nI (7 * e)) (hk : 7 * e ≤ kl K) (hk2 : ¬ 7 * e + 7 ≤ kl K) : EvIa K mL_law 12 23 [(0, .float 1), (1, .ref 1), (2, .ref 66), (3, .ref 103), (4, .int x4)] [] G QL := by
  have hr := h.rm.end he
  refine kL_law_23 h.lay ⟨fun _ => ⟨rfl, hr.1, hr.2⟩, fun z => absurd ?_ z⟩
  rw [hx]
  by_cases h7 : 7 ≤ kl K
  · rw [show nI (kl K) - 7 = nI (kl K - 7) by try simp (disch := omega) only [nLe, nLeR, nLeL, nLt, nLtR, nLtL, nEq, nEqR, nEqL, nClamp, nClampR, nAdd, nAddR, nAddL, nSub, nSubR, nMul, nMulR, nMulL, nDivR, vIn, vInR, iteZ, iteP, lEq, lEqR, forall_eq, forall_const, true_implies, false_implies, not_true_eq_false, not_false_eq_true, true_and, and_true, implies_true, Decidable.not_not, Nat.le_refl], nLt (by omega) (by omega)]
    omega
  · have e0 : e = 0 := by omega
    subst e0
    have : kl K = 0 ∨ kl K = 1 ∨ kl K = 2 ∨ kl K = 3 ∨ kl K = 4 ∨ kl K = 5 ∨ kl K = 6 := by omega
    rcases this with q | q | q | q | q | q | q <;> rw [q] <;> decide
theorem law_all (hst : K.1.stackTraces = false) (hkl : kl K ≤ 3584) : ∀ (m e : Nat) (G : St) (a : AS), e + m = 512 → 7 * e ≤ kl K → XI e sen G a → MI G a → OkA e a → EvIa K mL_law 12 23 [(0, .float 1), (1, .ref 1), (2, .ref 66), (3, .ref 103), (4, .int (nI (7 * e)))] [] G QL := by
  intro m
  induction m with
  | zero =>
    intro e G a hm hk h _ _
    exact law_end h (by omega) rfl hk (by omega)
  | succ m ih =>
    intro e G a hm hk h hM ho
    by_cases h7 : 7 * e + 7 ≤ kl K
    · refine law_step hst h hM ho (by omega) rfl h7 hkl (fun G2 a2 x2 m2 o2 => kL_law_1095 x2.lay ?_)
      rw [show nI (7 * e) + 7 = nI (7 * (e + 1)) by rw [show nI (7 * e) + 7 = nI (7 * e + 7) by try simp (disch := omega) only [nLe, nLeR, nLeL, nLt, nLtR, nLtL, nEq, nEqR, nEqL, nClamp, nClampR, nAdd, nAddR, nAddL, nSub, nSubR, nMul, nMulR, nMulL, nDivR, vIn, vInR, iteZ, iteP, lEq, lEqR, forall_eq, forall_const, true_implies, false_implies, not_true_eq_false, not_false_eq_true, true_and, and_true, implies_true, Decidable.not_not, Nat.le_refl], Nat.mul_succ]]
      exact ih (e + 1) G2 a2 (by omega) (by omega) x2 m2 o2
    · exact law_end h (by omega) rfl hk h7
end LAW

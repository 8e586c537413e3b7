/-! offered, lets: both -/
theorem ofI_mono (b : TBt) (w : RWt) (S x n : Nat) : ∀ d, (ofI b w S x n).length ≤ (ofI b w S x (n + d)).length
  | 0 => Nat.le_refl _
  | d + 1 => by
    have ih := ofI_mono b w S x n d
    have e : ofI b w S x (n + (d + 1)) = if ofA b w S x (n + d) = true then ofI b w S x (n + d) ++ [20 * x + (n + d)] else ofI b w S x (n + d) := rfl
    rw [e]
    split
    · rw [List.length_append]; omega
    · exact ih
theorem ofL_320 (b : TBt) (w : RWt) (S : Nat) : ∀ x, x ≤ 20 → (ofL b w S x).length ≤ 16 * x
  | 0, _ => Nat.le_refl _
  | x + 1, h => by
    have h1 := ofL_320 b w S x (by omega)
    have h2 := ofI_len4 b w S x (by omega)
    rw [ofL, List.length_append]; omega
def leA (a : AS) (c : Nat) : AS := (a.T, a.b, a.w, a.q, a.d, a.p, a.W, (a.l.1 + 1, fun k => if k = a.l.1 then c else a.l.2 k), a.ch, a.m)
def rOff (a : AS) (x : Int32) : Int32 := if inR x (ofL a.b a.w a.S 20).length then nI ((ofL a.b a.w a.S 20).getD x.toInt.toNat 0) else -1
/-- it may be let -/
def letB (a : AS) (c : Nat) : Prop := a.l.1 ≠ 20 ∧ ∀ k, k < a.l.1 → a.l.2 k ≠ c
section LETS
variable {K : KT} {G : St} {a : AS} {e : Nat}
theorem OkA.ofl (_ : OkA e a) : (ofL a.b a.w a.S 20).length ≤ 320 := ofL_320 _ _ _ 20 (Nat.le_refl _)
theorem OkA.le (ho : OkA e a) {c : Nat} (hc : c ∈ ofL a.b a.w a.S 20) (h20 : a.l.1 ≠ 20) : OkA e (leA a c) := by
  have l20 := ho.l20
  refine ⟨ho.b5, ho.c4, ho.tb, ho.ds, ho.nm, ho.w30, ho.wb, ho.ro, ho.cl, ho.q4, ho.q3, ho.qu, ho.p4, ho.W1, ho.W5, ho.dn, ?_, ?_, ho.ch, ho.m40, ho.tp⟩
  · obtain ⟨x, y, h1, h2, h3, h4⟩ := ofL_mem.mp hc
    intro k hk
    have hk : k < a.l.1 + 1 := hk
    by_cases ek : k = a.l.1
    · show (if k = a.l.1 then c else a.l.2 k) < 400 ∧ (if k = a.l.1 then c else a.l.2 k) / 20 / 4 ≠ (if k = a.l.1 then c else a.l.2 k) % 20 / 4 ∧ (if k = a.l.1 then c else a.l.2 k) / 20 / 4 < a.b.1 ∧ (if k = a.l.1 then c else a.l.2 k) / 20 % 4 < a.b.2.2.1 ((if k = a.l.1 then c else a.l.2 k) / 20 / 4) ∧ a.b.2.2.2.2 ((if k = a.l.1 then c else a.l.2 k) / 20 / 4) ((if k = a.l.1 then c else a.l.2 k) / 20 % 4) = 5 ∧ (if k = a.l.1 then c else a.l.2 k) % 20 / 4 < a.b.1 ∧ (if k = a.l.1 then c else a.l.2 k) % 20 % 4 < a.b.2.2.1 ((if k = a.l.1 then c else a.l.2 k) % 20 / 4) ∧ a.b.2.2.2.2 ((if k = a.l.1 then c else a.l.2 k) % 20 / 4) ((if k = a.l.1 then c else a.l.2 k) % 20 % 4) = 5
      rw [if_pos ek]
      have e1 : c / 20 = x := by omega
      have e2 : c % 20 = y := by omega
      rw [e1, e2]
      unfold ofA at h4
      simp only [Bool.and_eq_true] at h4
      obtain ⟨⟨⟨⟨o1, o2⟩, o3⟩, -⟩, -⟩ := h4
      unfold isTx at o1 o3
      have p1 := of_decide_eq_true o1
      have p3 := of_decide_eq_true o3
      refine ⟨by omega, ?_, p1.1, p1.2.1, p1.2.2, p3.1, p3.2.1, p3.2.2⟩
      simpa using o2
    · have := ho.lt k (by omega)
      show (if k = a.l.1 then c else a.l.2 k) < 400 ∧ (if k = a.l.1 then c else a.l.2 k) / 20 / 4 ≠ (if k = a.l.1 then c else a.l.2 k) % 20 / 4 ∧ (if k = a.l.1 then c else a.l.2 k) / 20 / 4 < a.b.1 ∧ (if k = a.l.1 then c else a.l.2 k) / 20 % 4 < a.b.2.2.1 ((if k = a.l.1 then c else a.l.2 k) / 20 / 4) ∧ a.b.2.2.2.2 ((if k = a.l.1 then c else a.l.2 k) / 20 / 4) ((if k = a.l.1 then c else a.l.2 k) / 20 % 4) = 5 ∧ (if k = a.l.1 then c else a.l.2 k) % 20 / 4 < a.b.1 ∧ (if k = a.l.1 then c else a.l.2 k) % 20 % 4 < a.b.2.2.1 ((if k = a.l.1 then c else a.l.2 k) % 20 / 4) ∧ a.b.2.2.2.2 ((if k = a.l.1 then c else a.l.2 k) % 20 / 4) ((if k = a.l.1 then c else a.l.2 k) % 20 % 4) = 5
      rw [if_neg ek]; exact this
  · show a.l.1 + 1 ≤ 20; omega
theorem OkA.o400 (_ : OkA e a) {c : Nat} (hc : c ∈ ofL a.b a.w a.S 20) : c < 400 := by
  obtain ⟨x, y, h1, h2, h3, -⟩ := ofL_mem.mp hc
  omega
theorem s_codeAt {Q : Int32 → St → Prop} {x : Int32} (hL : Lay G.2.2) (hX : XOf G (ofL a.b a.w a.S 20)) (ho : OkA e a) (hQ : Q (rOff a x) G) : EvI K mX2_codeAt 0 0 [(0, .ref 14), (1, .int x)] [] G Q := by
  have ol := ho.ofl
  refine kX2_codeAt_0 hL ?_
  unfold rOff at hQ
  rw [hX.1]
  rcases num_cases x (n := (ofL a.b a.w a.S 20).length) (by omega) with ⟨k, hk, ek⟩ | hno
  · have hx : inR x (ofL a.b a.w a.S 20).length := by rw [ek, inR_n (by omega)]; exact hk
    rw [if_pos hx, ek, nI_nat (by omega)] at hQ
    rw [ek]
    have := hX.2 k _ (getD_lt hk)
    try simp (disch := omega) only [nLe, nLeR, nLeL, nLt, nLtR, nLtL, nEq, nEqR, nEqL, nClamp, nClampR, nAdd, nAddR, nAddL, nSub, nSubR, nMul, nMulR, nMulL, nDivR, vIn, vInR, iteZ, iteP, lEq, lEqR, forall_eq, forall_const, true_implies, false_implies, not_true_eq_false, not_false_eq_true, true_and, and_true, implies_true, Decidable.not_not, Nat.le_refl, this]
    exact ⟨fun z => by omega, fun _ => ⟨fun z => by omega, fun _ => ⟨by omega, hQ⟩⟩⟩
  · rw [if_neg hno] at hQ
    rw [fa_lt, fa_le, nI_toInt (by omega), show (0 : Int32).toInt = 0 from rfl]
    exact ⟨fun _ => hQ, fun z => ⟨fun _ => hQ, fun z2 => absurd ⟨by omega, by omega⟩ hno⟩⟩
theorem x_offered {Q : Int32 → St → Prop} {x : Int32} (h : XI e sen G a) (ho : OkA e a) (hQ : ∀ G', XI e sen G' a → KX G G' → Q (rOff a x) G') : EvI K mX11_offered 7 0 [(0, .ref 1), (1, .int x)] [] G Q :=
  kX11_offered_0 h.lay (s_freshenOffers h ho (fun G1 h1 k1 x1 => s_codeAt h1.lay x1 ho (hQ G1 h1 (k1.kx (fun i k z => by unfold sOf at z; omega)))))
theorem x_lets {Q : Int32 → St → Prop} {x : Int32} (h : XI e sen G a) (ho : OkA e a) (hQ0 : ∀ G', XI e sen G' a → KX G G' → ¬ (inR x (ofL a.b a.w a.S 20).length ∧ letB a ((ofL a.b a.w a.S 20).getD x.toInt.toNat 0)) → Q 0 G') (hQ : ∀ G' i, i < (ofL a.b a.w a.S 20).length → x = nI i → letB a ((ofL a.b a.w a.S 20).getD i 0) → XI e sen G' (leA a ((ofL a.b a.w a.S 20).getD i 0)) → KX G G' → Q 1 G') : EvI K mX11_lets 7 0 [(0, .ref 1), (1, .int x)] [] G Q := by
  have ol := ho.ofl
  refine kX11_lets_0 h.lay (s_freshenOffers h ho (fun G1 h1 k1 x1 => ?_))
  have kx1 : KX G G1 := k1.kx (fun i k z => by unfold sOf at z; omega)
  have hL := h1.lay
  have hh := lay_h hL
  have ht := lay_t hL
  have l20 := ho.l20
  have c := h1.c
  refine kX2_letOne_0 hL (s_codeAt hL x1 ho ?_)
  unfold rOff
  rcases num_cases x (n := (ofL a.b a.w a.S 20).length) (by omega) with ⟨i, hi', ei⟩ | hno
  · have hx : inR x (ofL a.b a.w a.S 20).length := by rw [ei, inR_n (by omega)]; exact hi'
    have cm : (ofL a.b a.w a.S 20).getD i 0 ∈ ofL a.b a.w a.S 20 := getE_mem (getD_lt hi')
    have c400 := ho.o400 cm
    rw [if_pos hx, ei, nI_nat (by omega)]
    have no : ¬ letB a ((ofL a.b a.w a.S 20).getD i 0) → Q 0 G1 := fun z => hQ0 G1 h1 kx1 (fun y => z (by have := y.2; rw [ei, nI_nat (by omega)] at this; exact this))
    generalize hcc : (ofL a.b a.w a.S 20).getD i 0 = cd at *
    have nm : ¬ nI cd = -1 := fun z => by
      have := congrArg Int32.toInt z
      rw [nI_toInt (by omega)] at this
      have e1 : (-1 : Int32).toInt = -1 := by decide
      omega
    rw [c.lt.1]
    refine ⟨fun z => absurd z nm, fun _ => ?_⟩
    try simp (disch := omega) only [nLe, nLeR, nLeL, nLt, nLtR, nLtL, nEq, nEqR, nEqL, nClamp, nClampR, nAdd, nAddR, nAddL, nSub, nSubR, nMul, nMulR, nMulL, nDivR, vIn, vInR, iteZ, iteP, lEq, lEqR, forall_eq, forall_const, true_implies, false_implies, not_true_eq_false, not_false_eq_true, true_and, and_true, implies_true, Decidable.not_not, Nat.le_refl]
    refine ⟨fun z => ?_, fun z => no (fun y => y.1 (by omega))⟩
    have key : ∀ (m k : Nat), k + m = a.l.1 → (∀ j, j < k → a.l.2 j ≠ cd) → EvI K mX2_letOne 1 24 [(0, .ref 14), (2, .int (nI cd)), (3, .int (nI k))] [] G1 (fun r2 G2 => (¬ r2 = 0 → Q 1 (uI (uI G2 1 15 0) 1 18 0)) ∧ (r2 = 0 → Q 0 G2)) := by
      intro m
      induction m with
      | zero =>
        intro k hm hno
        have ek : k = a.l.1 := by omega
        subst ek
        refine kX2_letOne_24 hL ?_
        rw [c.lt.1]
        refine ⟨fun _ => ?_, fun z => absurd (Int32.le_refl _) z⟩
        try simp (disch := omega) only [nLe, nLeR, nLeL, nLt, nLtR, nLtL, nEq, nEqR, nEqL, nClamp, nClampR, nAdd, nAddR, nAddL, nSub, nSubR, nMul, nMulR, nMulL, nDivR, vIn, vInR, iteZ, iteP, lEq, lEqR, forall_eq, forall_const, true_implies, false_implies, not_true_eq_false, not_false_eq_true, true_and, and_true, implies_true, Decidable.not_not, Nat.le_refl]
        refine ⟨by omega, fun _ => ?_, fun y => absurd y (by decide)⟩
        have hlet : letB a cd := ⟨by omega, hno⟩
        have k2 : Kq (fun i k => i = 14 ∧ k = 4 ∨ i = 16 ∨ i = 1 ∧ (k = 15 ∨ k = 18)) G1 (uI (uI (uI (uI G1 14 4 (nI (a.l.1 + 1))) 16 a.l.1 (nI cd)) 1 15 0) 1 18 0) := (((kq_I (Or.inl ⟨rfl, rfl⟩)).sI (Or.inr (Or.inl rfl))).sI (Or.inr (Or.inr ⟨rfl, Or.inl rfl⟩))).sI (Or.inr (Or.inr ⟨rfl, Or.inr rfl⟩))
        generalize hUU : uI (uI (uI (uI G1 14 4 (nI (a.l.1 + 1))) 16 a.l.1 (nI cd)) 1 15 0) 1 18 0 = U at *
        have eU : ∀ x k, sI U x k = if x = 1 ∧ k = 18 then 0 else if x = 1 ∧ k = 15 then 0 else if x = 16 ∧ k = a.l.1 then nI cd else if x = 14 ∧ k = 4 then nI (a.l.1 + 1) else sI G1 x k := fun x k => by rw [← hUU]; simp only [gI]
        have fk : ∀ k, k ≠ 15 → k ≠ 18 → sI U 1 k = sI G1 1 k := fun k h1 h2 => k2.I (by omega)
        refine hQ U i hi' ei (hcc.symm ▸ hlet) ?_ (kx1.tr (k2.kx (fun i k z => by omega)))
        rw [hcc]
        refine ⟨k2.lay hL, h1.rm.kq k2, ⟨c.tp.kq k2 (fun i k z => by omega), ?_, ?_, ?_, ?_, (k2.I (by omega)).trans c.pe, (k2.I (by omega)).trans c.wi, ⟨?_, ?_, fun k hk => ?_⟩, c.ch.kq k2 (fun i k z => by omega), (k2.I (by omega)).trans c.m0, (k2.I (by omega)).trans c.m1, (k2.I (by omega)).trans c.m2⟩, fun z => ?_, fun z => ?_, fun z => ?_, fun z => ?_⟩
        · rw [k2.R]; exact c.tb.kq k2 (fun i k z => by omega)
        · rw [k2.R]; exact c.ro.kq k2 (fun i k z => by omega)
        · rw [k2.R]; exact c.hd.kq k2 (fun i k z => by omega)
        · rw [k2.R]; exact c.tq.kq k2 (fun i k z => by omega)
        · rw [eU]; simp; rfl
        · show a.l.1 + 1 ≤ 20; omega
        · have hk : k < a.l.1 + 1 := hk
          show sI U 16 k = nI (if k = a.l.1 then cd else a.l.2 k) ∧ (if k = a.l.1 then cd else a.l.2 k) < 400
          rw [eU]
          by_cases ek : k = a.l.1
          · rw [if_pos ek]; simp [ek]; omega
          · rw [if_neg ek]; simp [ek]; exact c.lt.2.2 k (by omega)
        · rw [fk _ (by decide) (by decide)] at z; exact (h1.fh z).kq k2 (fun i k z => by unfold sHt; omega)
        · exact absurd (show sI U 1 15 = 0 by rw [eU]; simp) z
        · rw [fk _ (by decide) (by decide)] at z; exact (h1.fo z).kq k2 (fun i k z => by unfold sOf; omega)
        · exact absurd (show sI U 1 18 = 0 by rw [eU]; simp) z
      | succ m ih =>
        intro k hm hno
        obtain ⟨c1, c2⟩ := c.lt.2.2 k (by omega)
        refine kX2_letOne_24 hL ?_
        rw [c.lt.1]
        try simp (disch := omega) only [nLe, nLeR, nLeL, nLt, nLtR, nLtL, nEq, nEqR, nEqL, nClamp, nClampR, nAdd, nAddR, nAddL, nSub, nSubR, nMul, nMulR, nMulL, nDivR, vIn, vInR, iteZ, iteP, lEq, lEqR, forall_eq, forall_const, true_implies, false_implies, not_true_eq_false, not_false_eq_true, true_and, and_true, implies_true, Decidable.not_not, Nat.le_refl, c1]
        refine ⟨fun z => by omega, fun _ => ⟨by omega, fun z => ?_, fun z => no (fun y => y.2 k (by omega) z)⟩⟩
        refine ih (k + 1) (by omega) (fun j hj => ?_)
        rcases Nat.lt_succ_iff_lt_or_eq.mp hj with y | y
        · exact hno j y
        · rw [y]; exact z
    exact key a.l.1 0 (by omega) (fun j hj => absurd hj (Nat.not_lt_zero _))
  · rw [if_neg hno]
    exact ⟨fun _ => ⟨fun y => absurd rfl y, fun _ => hQ0 G1 h1 kx1 (fun y => hno y.1)⟩, fun z => absurd rfl z⟩
theorem s_findOffers {Q : St → Prop} (hL : Lay G.2.2) (h : MI G a) (ho : OkA e a) (hQ : ∀ G', Lay G'.2.2 → MI G' a → Kq sMo G G' → MOf G' (ofL a.b a.w a.S 20) → Q G') : EvV K mX12_findOffers 3 0 [(0, .ref 66)] [] G Q := by
  have stay : ∀ G1, Kq sMo G G1 → Lay G1.2.2 ∧ MI G1 a := fun G1 k1 => ⟨k1.lay hL, h.kq ho.c4 k1 (fun i k z => by unfold sMo at z; unfold mS sAl; omega)⟩
  have inner : ∀ (m x y : Nat) (G1 : St), y + m = 20 → x < 20 → Kq sMo G G1 → MOf G1 (ofL a.b a.w a.S x ++ ofI a.b a.w a.S x y) → (∀ G2, Kq sMo G G2 → MOf G2 (ofL a.b a.w a.S (x + 1)) → EvV K mX12_findOffers 3 7 [(0, .ref 66), (1, .int (nI (x + 1)))] [] G2 Q) → EvV K mX12_findOffers 3 15 [(0, .ref 66), (1, .int (nI x)), (2, .int (nI y))] [] G1 Q := by
    intro m
    induction m with
    | zero =>
      intro x y G1 hm hx k1 o1 hgo
      have ey : y = 20 := by omega
      subst ey
      refine kX12_findOffers_15 (k1.lay hL) ⟨fun _ => ?_, fun z => absurd (by decide) z⟩
      rw [show nI x + 1 = nI (x + 1) from nAdd]
      exact hgo G1 k1 (by rw [ofL]; exact o1)
    | succ m ih =>
      intro x y G1 hm hx k1 o1 hgo
      obtain ⟨l1, h1⟩ := stay G1 k1
      have hy : y < 20 := by omega
      have no : ofA a.b a.w a.S x y = false → EvV K mX12_findOffers 3 125 [(0, .ref 66), (1, .int (nI x)), (2, .int (nI y))] [] G1 Q := by
        intro z
        refine kX12_findOffers_125 l1 ?_
        rw [show nI y + 1 = nI (y + 1) from nAdd]
        refine ih x (y + 1) G1 (by omega) hx k1 ?_ hgo
        rw [ofI, if_neg (by rw [z]; decide)]; exact o1
      have no62 : ofA a.b a.w a.S x y = false → EvV K mX12_findOffers 3 62 [(0, .ref 66), (1, .int (nI x)), (2, .int (nI y))] [] G1 Q := fun z => kX12_findOffers_62 l1 (kX12_findOffers_63 l1 ⟨fun _ => no z, fun y => absurd rfl y⟩)
      have ub := ofL_320 a.b a.w a.S x (by omega)
      have ub2 := ofI_len4 a.b a.w a.S x hx
      refine kX12_findOffers_15 l1 ⟨fun z => absurd z (by rw [show (20 : Int32) = nI 20 from rfl, nLe (by decide) (by omega)]; omega), fun _ => s_isColumn l1 h1.c.tb ho hx ?_⟩
      by_cases tx : isTx a.b x = true
      · rw [if_pos tx]
        refine ⟨fun z => absurd z (by decide), fun _ => s_isColumn l1 h1.c.tb ho hy ?_⟩
        by_cases ty : isTx a.b y = true
        · rw [if_pos ty, nDivR (by omega) (by decide) (by decide), nDivR (by omega) (by decide) (by decide), nEq (show x / OfNat.ofNat 4 < 2147483648 by show x / 4 < _; omega) (show y / OfNat.ofNat 4 < 2147483648 by show y / 4 < _; omega)]
          refine ⟨fun z => absurd z (by decide), fun _ => ⟨fun z => no62 ?_, fun z => kX12_findOffers_63 l1 ⟨fun y => absurd y (by decide), fun _ => s_isEach l1 h1.c ho hy ty ?_⟩⟩⟩
          · have z : x / 4 = y / 4 := z
            unfold ofA; simp [z]
          · have z : ¬ x / 4 = y / 4 := z
            have hany : amA a.b a.w a.S x y = true → anyB (fun r => wdI a.b a.w a.S r y != 0) a.w.1 = true := by
              intro hm
              unfold amA at hm
              simp only [Bool.and_eq_true, Bool.not_eq_true'] at hm
              obtain ⟨m1, m2⟩ := hm
              obtain ⟨r, hr, hr2⟩ := anyB_iff.mp m2
              have hr2' : wdI a.b a.w a.S r x ≠ 0 := by simpa using hr2
              cases hq : hsW a.b a.w a.S y (wdI a.b a.w a.S r x) a.w.1
              · have : anyB (fun r => wdI a.b a.w a.S r x != 0 && !hsW a.b a.w a.S y (wdI a.b a.w a.S r x) a.w.1) a.w.1 = true := anyB_iff.mpr ⟨r, hr, by simp [hr2', hq]⟩
                rw [this] at m1; cases m1
              · unfold hsW at hq
                obtain ⟨j, hj, hj2⟩ := anyB_iff.mp hq
                have hj2' : wdI a.b a.w a.S j y = wdI a.b a.w a.S r x := by simpa using hj2
                exact anyB_iff.mpr ⟨j, hj, by simp [hj2', hr2']⟩
            by_cases ea : (dfA a.b a.w a.S y && anyB (fun r => wdI a.b a.w a.S r y != 0) a.w.1) = true
            · rw [if_pos ea]
              refine ⟨fun y => absurd y (by decide), fun _ => s_areAmong l1 h1.c ho hx hy tx ty ?_⟩
              simp only [Bool.and_eq_true] at ea
              by_cases am : amA a.b a.w a.S x y = true
              · rw [if_pos am]
                have hof : ofA a.b a.w a.S x y = true := by unfold ofA; simp [tx, ty, z, ea.1, am]
                refine ⟨fun y => absurd y (by decide), fun _ => ?_⟩
                have ll : (ofL a.b a.w a.S x ++ ofI a.b a.w a.S x y).length < 320 := by
                  have h1' : (ofI a.b a.w a.S x (y + 1)).length ≤ (ofI a.b a.w a.S x 20).length := by
                    have this := ofI_mono a.b a.w a.S x (y + 1)
                    have := this (20 - (y + 1))
                    rw [show y + 1 + (20 - (y + 1)) = 20 by omega] at this
                    exact this
                  rw [ofI, if_pos hof, List.length_append, List.length_singleton] at h1'
                  rw [List.length_append]; omega
                rw [o1.1, show (20 : Int32) * nI x = nI (20 * x) from nMul, show nI (20 * x) + nI y = nI (20 * x + y) from nAdd]
                try simp (disch := omega) only [nLe, nLeR, nLeL, nLt, nLtR, nLtL, nEq, nEqR, nEqL, nClamp, nClampR, nAdd, nAddR, nAddL, nSub, nSubR, nMul, nMulR, nMulL, nDivR, vIn, vInR, iteZ, iteP, lEq, lEqR, forall_eq, forall_const, true_implies, false_implies, not_true_eq_false, not_false_eq_true, true_and, and_true, implies_true, Decidable.not_not, Nat.le_refl]
                refine ⟨by omega, kX12_findOffers_125 l1 ?_⟩
                rw [show nI y + 1 = nI (y + 1) from nAdd]
                refine ih x (y + 1) _ (by omega) hx ((k1.sI (by unfold sMo; omega)).sI (by unfold sMo; omega)) ?_ hgo
                rw [ofI, if_pos hof, ← List.append_assoc]
                refine ⟨by rw [gI, if_pos ⟨rfl, rfl⟩, List.length_append (bs := [20 * x + y])]; rfl, fun i c hc => ?_⟩
                rcases app1 hc with ⟨q, q'⟩ | ⟨q, q'⟩
                · rw [gI, if_neg (by omega), gI, if_neg (by omega)]; exact o1.2 i c q'
                · rw [q, q', gI, if_neg (by omega), gI, if_pos ⟨rfl, rfl⟩]
              · rw [if_neg am]
                exact ⟨fun _ => no (by unfold ofA; simp [am]), fun y => absurd rfl y⟩
            · rw [if_neg ea]
              refine ⟨fun _ => no ?_, fun y => absurd rfl y⟩
              cases hof : ofA a.b a.w a.S x y
              · rfl
              · unfold ofA at hof
                simp only [Bool.and_eq_true] at hof
                exact absurd (by simp only [Bool.and_eq_true]; exact ⟨hof.1.2, hany hof.2⟩) ea
        · rw [if_neg ty]
          exact ⟨fun _ => no62 (by unfold ofA; simp [ty]), fun z => absurd rfl z⟩
      · rw [if_neg tx]
        exact ⟨fun _ => no62 (by unfold ofA; simp [tx]), fun z => absurd rfl z⟩
  have outer : ∀ (m x : Nat) (G1 : St), x + m = 20 → Kq sMo G G1 → MOf G1 (ofL a.b a.w a.S x) → EvV K mX12_findOffers 3 7 [(0, .ref 66), (1, .int (nI x))] [] G1 Q := by
    intro m
    induction m with
    | zero =>
      intro x G1 hm k1 o1
      have ex : x = 20 := by omega
      subst ex
      exact kX12_findOffers_7 (k1.lay hL) ⟨fun _ => hQ G1 (k1.lay hL) (stay G1 k1).2 k1 o1, fun z => absurd (by decide) z⟩
    | succ m ih =>
      intro x G1 hm k1 o1
      refine kX12_findOffers_7 (k1.lay hL) ⟨fun z => absurd z (by rw [show (20 : Int32) = nI 20 from rfl, nLe (by decide) (by omega)]; omega), fun _ => ?_⟩
      exact inner 20 x 0 G1 (by omega) (by omega) k1 (by rw [ofI, List.append_nil]; exact o1) (fun G2 k2 o2 => ih (x + 1) G2 (by omega) k2 o2)
  exact kX12_findOffers_0 hL (outer 20 0 _ (by omega) (kq_I (by unfold sMo; omega)) ⟨by rw [gI, if_pos ⟨rfl, rfl⟩]; rfl, fun i c hc => by cases hc⟩)
theorem km_mo {G G1 : St} (h : Kq sMo G G1) : KM G G1 := h.km (fun i k z => by unfold sMo at z; omega)
theorem m_offered {Q : Int32 → St → Prop} {x : Int32} (hL : Lay G.2.2) (h : MI G a) (ho : OkA e a) (hQ : ∀ G', Lay G'.2.2 → MI G' a → KM G G' → Q (rOff a x) G') : EvI K mX12_offered 4 0 [(0, .ref 66), (1, .int x)] [] G Q := by
  have ol := ho.ofl
  refine kX12_offered_0 hL (s_findOffers (ly_th hL) (h.th ho) ho (fun G1 l1 h1 k1 o1 => s_X12_within l1 ?_))
  have hr := hQ G1 l1 h1 (km_th.tr (km_mo k1))
  unfold rOff at hr
  rw [o1.1, nI_dec (by omega)]
  rcases num_cases x (n := (ofL a.b a.w a.S 20).length) (by omega) with ⟨k, hk, ek⟩ | hno
  · have hx : inR x (ofL a.b a.w a.S 20).length := by rw [ek, inR_n (by omega)]; exact hk
    rw [if_pos (inR_w.mpr hx)]
    rw [if_pos hx, ek, nI_nat (by omega)] at hr
    rw [ek]
    have := o1.2 k _ (getD_lt hk)
    refine ⟨fun z => absurd z (by decide), fun _ => ?_⟩
    try simp (disch := omega) only [nLe, nLeR, nLeL, nLt, nLtR, nLtL, nEq, nEqR, nEqL, nClamp, nClampR, nAdd, nAddR, nAddL, nSub, nSubR, nMul, nMulR, nMulL, nDivR, vIn, vInR, iteZ, iteP, lEq, lEqR, forall_eq, forall_const, true_implies, false_implies, not_true_eq_false, not_false_eq_true, true_and, and_true, implies_true, Decidable.not_not, Nat.le_refl, this]
    exact ⟨by omega, hr⟩
  · rw [if_neg (fun z => hno (inR_w.mp z))]
    rw [if_neg hno] at hr
    exact ⟨fun _ => hr, fun z => absurd rfl z⟩
theorem m_lets {Q : Int32 → St → Prop} {x : Int32} (hL : Lay G.2.2) (h : MI G a) (ho : OkA e a) (hQ0 : ∀ G', Lay G'.2.2 → MI G' a → KM G G' → ¬ (inR x (ofL a.b a.w a.S 20).length ∧ letB a ((ofL a.b a.w a.S 20).getD x.toInt.toNat 0)) → Q 0 G') (hQ : ∀ G' i, Lay G'.2.2 → i < (ofL a.b a.w a.S 20).length → x = nI i → letB a ((ofL a.b a.w a.S 20).getD i 0) → MI G' (leA a ((ofL a.b a.w a.S 20).getD i 0)) → KM G G' → Q 1 G') : EvI K mX12_lets 4 0 [(0, .ref 66), (1, .int x)] [] G Q := by
  have ol := ho.ofl
  have l20 := ho.l20
  refine kX12_lets_0 hL (s_findOffers (ly_th hL) (h.th ho) ho (fun G1 l1 h1 k1 o1 => s_X12_within l1 ?_))
  have km1 : KM G G1 := km_th.tr (km_mo k1)
  have c := h1.c
  rw [o1.1, nI_dec (by omega)]
  rcases num_cases x (n := (ofL a.b a.w a.S 20).length) (by omega) with ⟨i, hi', ei⟩ | hno
  · have hx : inR x (ofL a.b a.w a.S 20).length := by rw [ei, inR_n (by omega)]; exact hi'
    rw [if_pos (inR_w.mpr hx)]
    have cm : (ofL a.b a.w a.S 20).getD i 0 ∈ ofL a.b a.w a.S 20 := getE_mem (getD_lt hi')
    have c400 := ho.o400 cm
    have no : ¬ letB a ((ofL a.b a.w a.S 20).getD i 0) → Q 0 G1 := fun z => hQ0 G1 l1 h1 km1 (fun y => z (by have := y.2; rw [ei, nI_nat (by omega)] at this; exact this))
    have h85 := o1.2 i _ (getD_lt hi')
    rw [ei]
    refine ⟨fun z => absurd z (by decide), fun _ => ?_⟩
    generalize hcc : (ofL a.b a.w a.S 20).getD i 0 = cd at *
    rw [c.lt.1]
    try simp (disch := omega) only [nLe, nLeR, nLeL, nLt, nLtR, nLtL, nEq, nEqR, nEqL, nClamp, nClampR, nAdd, nAddR, nAddL, nSub, nSubR, nMul, nMulR, nMulL, nDivR, vIn, vInR, iteZ, iteP, lEq, lEqR, forall_eq, forall_const, true_implies, false_implies, not_true_eq_false, not_false_eq_true, true_and, and_true, implies_true, Decidable.not_not, Nat.le_refl]
    refine ⟨fun z => ?_, fun z => no (fun y => y.1 z)⟩
    have key : ∀ (m k : Nat), k + m = a.l.1 → (∀ j, j < k → a.l.2 j ≠ cd) → EvI K mX12_lets 4 36 [(0, .ref 66), (1, .int (nI i)), (2, .int (nI k))] [] G1 Q := by
      intro m
      induction m with
      | zero =>
        intro k hm hno
        have ek : k = a.l.1 := by omega
        subst ek
        refine kX12_lets_36 l1 ?_
        rw [c.lt.1]
        refine ⟨fun _ => ?_, fun z => absurd (Int32.le_refl _) z⟩
        try simp (disch := omega) only [nLe, nLeR, nLeL, nLt, nLtR, nLtL, nEq, nEqR, nEqL, nClamp, nClampR, nAdd, nAddR, nAddL, nSub, nSubR, nMul, nMulR, nMulL, nDivR, vIn, vInR, iteZ, iteP, lEq, lEqR, forall_eq, forall_const, true_implies, false_implies, not_true_eq_false, not_false_eq_true, true_and, and_true, implies_true, Decidable.not_not, Nat.le_refl, h85]
        refine ⟨by omega, by omega, ?_⟩
        have hlet : letB a cd := ⟨by omega, hno⟩
        have e29 : sI (uI G1 84 a.l.1 (nI cd)) 66 29 = nI a.l.1 := by rw [gI, if_neg (by omega)]; exact c.lt.1
        refine hQ _ i l1 hi' ei (hcc.symm ▸ hlet) ?_ (((km1.sI ⟨by decide, by decide⟩).sI ⟨by decide, by decide⟩).sI ⟨by decide, by decide⟩)
        rw [hcc]
        refine ⟨⟨c.tp, c.wo, c.tb, c.ro, c.hd, c.tq, c.pe, c.wi, ⟨?_, ?_, fun k hk => ?_⟩, c.ch, c.m0, c.mm⟩, fun z => absurd z (by rw [gI, if_pos ⟨rfl, rfl⟩]; decide)⟩
        · rw [gI, if_neg (by omega), gI, if_pos ⟨rfl, rfl⟩]; rfl
        · show a.l.1 + 1 ≤ 20; omega
        · have hk : k < a.l.1 + 1 := hk
          show _ = nI (if k = a.l.1 then cd else a.l.2 k) ∧ (if k = a.l.1 then cd else a.l.2 k) < 400
          rw [gI, if_neg (by omega), gI, if_neg (by omega), gI]
          by_cases ek : k = a.l.1
          · rw [if_pos ek, if_pos ⟨rfl, ek⟩]; exact ⟨rfl, c400⟩
          · rw [if_neg ek, if_neg (fun z => ek z.2)]; exact c.lt.2.2 k (by omega)
      | succ m ih =>
        intro k hm hno
        obtain ⟨c1, c2⟩ := c.lt.2.2 k (by omega)
        refine kX12_lets_36 l1 ?_
        rw [c.lt.1]
        try simp (disch := omega) only [nLe, nLeR, nLeL, nLt, nLtR, nLtL, nEq, nEqR, nEqL, nClamp, nClampR, nAdd, nAddR, nAddL, nSub, nSubR, nMul, nMulR, nMulL, nDivR, vIn, vInR, iteZ, iteP, lEq, lEqR, forall_eq, forall_const, true_implies, false_implies, not_true_eq_false, not_false_eq_true, true_and, and_true, implies_true, Decidable.not_not, Nat.le_refl, c1, h85]
        refine ⟨fun z => by omega, fun _ => ⟨by omega, by omega, fun z => ?_, fun z => no (fun y => y.2 k (by omega) z)⟩⟩
        refine ih (k + 1) (by omega) (fun j hj => ?_)
        rcases Nat.lt_succ_iff_lt_or_eq.mp hj with y | y
        · exact hno j y
        · rw [y]; exact z
    exact key a.l.1 0 (by omega) (fun j hj => absurd hj (Nat.not_lt_zero _))
  · rw [if_neg (fun z => hno (inR_w.mp z))]
    exact ⟨fun _ => hQ0 G1 l1 h1 km1 (fun y => hno y.1), fun z => absurd rfl z⟩
end LETS

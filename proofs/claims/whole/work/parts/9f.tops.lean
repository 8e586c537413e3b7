/-! calls of both: rows, terms, joinings -/
def KX (G G' : St) : Prop := Kg (fun i _ => i ≤ 65 ∨ 104 ≤ i) (fun i _ => i ≤ 65) G G'
def KM (G G' : St) : Prop := Kq (fun i _ => 66 ≤ i ∧ i ≤ 102) G G'
theorem Kq.kx {S : Nat → Nat → Prop} {G G1 : St} (h : Kq S G G1) (hs : ∀ i k, S i k → i ≤ 65 ∨ 104 ≤ i) : KX G G1 := h.g.mono (fun i k _ z => hs i k z) (fun i k _ z => z)
theorem Kg.kx {G G1 : St} (h : Kg frS frT G G1) : KX G G1 := h.mono (fun i k _ z => by unfold frS at z; omega) (fun i k _ z => by unfold frT at z; omega)
theorem Kq.km {S : Nat → Nat → Prop} {G G1 : St} (h : Kq S G G1) (hs : ∀ i k, S i k → 66 ≤ i ∧ i ≤ 102) : KM G G1 := h.mono hs
abbrev inR (x : Int32) (n : Nat) : Prop := 0 ≤ x.toInt ∧ x.toInt < n
abbrev snR (a : AS) (x : Int32) : Prop := 0 ≤ x.toInt ∧ a.S.testBit x.toInt.toNat = true
theorem nI_nat {k : Nat} (h : k < 2147483648) : (nI k).toInt.toNat = k := by rw [nI_toInt h]; exact Int.toNat_natCast k
theorem inR_n {k n : Nat} (h : k < 2147483648) : inR (nI k) n ↔ k < n := by show 0 ≤ _ ∧ _ ↔ _; rw [nI_toInt h]; omega
theorem pc_msk {f : Nat → Bool} {n : Nat} (hn : n ≤ 32) : pc (msk f n) = fb_ct f n := by
  rw [pc_def]
  have e : 32 = n + (32 - n) := by omega
  rw [e, fb_ct_split]
  have h0 : fb_ct (fun k => (msk f n).testBit (n + k)) (32 - n) = 0 := fb_ct_zero.mpr (fun k _ => by rw [msk_bit, decide_eq_false (by omega), Bool.false_and])
  rw [h0, Nat.add_zero]
  exact fb_ct_cong (fun k hk => by rw [msk_bit]; simp [hk])
def rHolds (a : AS) (x y : Int32) : Int32 := if inR y a.q.1 ∧ snR a x then hx (a.P y.toInt.toNat x.toInt.toNat) else -1
def rFound (a : AS) (x : Int32) : Int32 := if inR x a.q.1 then nI (fb_ct (fun r => a.P x.toInt.toNat r != 9) a.w.1) else -1
def rTie (a : AS) (x y : Int32) : Int32 := if snR a x ∧ snR a y then tx (a.f x.toInt.toNat y.toInt.toNat) else -1
noncomputable def rPlace (a : AS) (x y : Int32) : Int32 := if inR y a.q.1 ∧ inR x a.J.length then nI (hi a.P (a.O.getD x.toInt.toNat 0) y.toInt.toNat) else -1
/-- the question of a joining -/
noncomputable def qn (a : AS) (k : Nat) : Int32 := lst (fun q => a.mc ((fL a.mc a.J.length).getD q 0) == a.mc k) (fL a.mc a.J.length).length
noncomputable def rJoin (a : AS) (x y : Int32) : Int32 := if inR x a.J.length then (if y = 0 then nI (a.O.getD x.toInt.toNat 0) else if y = 1 then nI (tpr a.f a.P a.q.1 (a.O.getD x.toInt.toNat 0)) else if y = 2 then qn a x.toInt.toNat else if y = 3 then nI (ts a.f (a.O.getD x.toInt.toNat 0)) else -1) else -1
section TOPS
variable {K : KT} {G : St} {a : AS} {e : Nat} {sen : AS → Nat → List Nat}
theorem OkA.sn (ho : OkA e a) {x : Int32} (h : snR a x) : ∃ r, r < a.w.1 ∧ x = nI r ∧ a.S.testBit r = true := by
  have h1 := ho.Sn _ h.2
  have h2 := ho.w30
  refine ⟨x.toInt.toNat, h1, ?_, h.2⟩
  rw [fa_eq, nI_toInt (by omega)]
  have := h.1
  omega
theorem s_isSeen {Q : Int32 → St → Prop} {x : Int32} (hL : Lay G.2.2) (c : XC G a) (ho : OkA e a) (hQ : Q (if snR a x then 1 else 0) G) : EvI K mX11_isSeen 3 0 [(0, .ref 1), (1, .int x)] [] G Q := by
  have hh := lay_h hL
  have w30 := ho.w30
  refine kX11_isSeen_0 hL (s_X1_isTold hL (by omega) c.ro ?_)
  rcases num_cases x (n := a.w.1) (by omega) with ⟨r, hr, rfl⟩ | hno
  · rw [if_pos (by rw [nI_toInt (by omega)]; omega)]
    refine ⟨fun z => absurd z (by decide), fun _ => s_seen hL c ho ?_⟩
    rw [bit_at (by have := ho.S30; omega) (by omega)]
    have e1 : snR a (nI r) ↔ a.S.testBit r = true := by
      show 0 ≤ _ ∧ _ ↔ _
      rw [nI_nat (by omega), nI_toInt (by omega)]
      exact ⟨fun z => z.2, fun z => ⟨by omega, z⟩⟩
    by_cases z : a.S.testBit r = true
    · rw [if_pos (e1.mpr z)] at hQ
      rw [if_pos z]
      exact ⟨fun y => absurd y (by decide), fun _ => hQ⟩
    · rw [if_neg (fun y => z (e1.mp y))] at hQ
      rw [if_neg z]
      exact ⟨fun _ => hQ, fun y => absurd rfl y⟩
  · rw [if_neg hno]
    rw [if_neg (fun y => by
      have := ho.Sn _ y.2
      have := y.1
      omega)] at hQ
    exact ⟨fun _ => hQ, fun y => absurd rfl y⟩
theorem s_isTerm {Q : Int32 → St → Prop} {x : Int32} (hL : Lay G.2.2) (c : XC G a) (hQ : Q (if inR x a.q.1 then 1 else 0) G) : EvI K mX11_isTerm 0 0 [(0, .ref 1), (1, .int x)] [] G Q := by
  refine kX11_isTerm_0 hL ?_
  have q4 := c.tq.2.1
  rw [c.tq.1, fa_lt, fa_le, nI_toInt (by omega), show (0 : Int32).toInt = 0 from rfl]
  refine ⟨fun z => ?_, fun z => ⟨fun z2 => ?_, fun z2 => ?_⟩⟩
  · rw [if_neg (by omega)] at hQ; exact hQ
  · rw [if_neg (by omega)] at hQ; exact hQ
  · rw [if_pos (by omega)] at hQ; exact hQ
theorem x_holds {Q : Int32 → St → Prop} {x y : Int32} (h : XI e sen G a) (ho : OkA e a) (hQ : ∀ G', XI e sen G' a → KX G G' → Q (rHolds a x y) G') : EvI K mX11_holds 6 0 [(0, .ref 1), (1, .int x), (2, .int y)] [] G Q := by
  refine kX11_holds_0 h.lay (s_isTerm h.lay h.c ?_)
  by_cases hy : inR y a.q.1
  · rw [if_pos hy]
    refine ⟨fun z => absurd z (by decide), fun _ => s_isSeen h.lay h.c ho ?_⟩
    by_cases hx : snR a x
    · rw [if_pos hx]
      refine ⟨fun _ => s_freshenHits h ho (fun G1 h1 k1 f1 => ?_), fun z => absurd z (by decide)⟩
      obtain ⟨r, hr, er, -⟩ := ho.sn hx
      have q4 := ho.q4
      have w30 := ho.w30
      rcases num_cases y (n := a.q.1) (by omega) with ⟨k, hk, ek⟩ | hno
      · have := hQ G1 h1 (k1.kx (fun i k z => by unfold sHt at z; omega))
        unfold rHolds at this
        rw [if_pos ⟨hy, hx⟩, er, ek, nI_nat (by omega), nI_nat (by omega)] at this
        rw [er, ek]
        exact s_X0_priceAt h1.lay (h1.fh f1) w30 q4 hr hk this
      · exact absurd hy hno
    · rw [if_neg hx]
      have := hQ G h Kg.rf
      unfold rHolds at this
      rw [if_neg (fun z => hx z.2)] at this
      exact ⟨fun z => absurd rfl z, fun _ => this⟩
  · rw [if_neg hy]
    have := hQ G h Kg.rf
    unfold rHolds at this
    rw [if_neg (fun z => hy z.1)] at this
    exact ⟨fun _ => this, fun z => absurd rfl z⟩
theorem x_found {Q : Int32 → St → Prop} {x : Int32} (h : XI e sen G a) (ho : OkA e a) (hQ : ∀ G', XI e sen G' a → KX G G' → Q (rFound a x) G') : EvI K mX11_found 6 0 [(0, .ref 1), (1, .int x)] [] G Q := by
  refine kX11_found_0 h.lay (s_isTerm h.lay h.c ?_)
  have q4 := ho.q4
  have w30 := ho.w30
  rcases num_cases x (n := a.q.1) (by omega) with ⟨k, hk, ek⟩ | hno
  · have hx : inR x a.q.1 := by rw [ek, inR_n (by omega)]; exact hk
    rw [if_pos hx]
    refine ⟨fun _ => s_freshenHits h ho (fun G1 h1 k1 f1 => ?_), fun z => absurd z (by decide)⟩
    have := hQ G1 h1 (k1.kx (fun i k z => by unfold sHt at z; omega))
    unfold rFound at this
    rw [if_pos hx, ek, nI_nat (by omega), ← pc_msk (by omega)] at this
    have hH := ((h1.fh f1).1 k hk).2.1
    rw [ek]
    try simp (disch := omega) only [nLe, nLeR, nLeL, nLt, nLtR, nLtL, nEq, nEqR, nEqL, nClamp, nClampR, nAdd, nAddR, nAddL, nSub, nSubR, nMul, nMulR, nMulL, nDivR, vIn, vInR, iteZ, iteP, lEq, lEqR, forall_eq, forall_const, true_implies, false_implies, not_true_eq_false, not_false_eq_true, true_and, and_true, implies_true, Decidable.not_not, Nat.le_refl]
    rw [hH]
    have ml := msk_lt (fun x => a.P k x != 9) a.w.1
    have mp : 2 ^ a.w.1 ≤ 2 ^ 30 := Nat.pow_le_pow_right (by decide) w30
    exact ⟨by omega, s_bitCount (by omega) h1.lay this⟩
  · rw [if_neg hno]
    have := hQ G h Kg.rf
    unfold rFound at this
    rw [if_neg hno] at this
    exact ⟨fun z => absurd rfl z, fun _ => this⟩
theorem x_tie {Q : Int32 → St → Prop} {x y : Int32} (h : XI e sen G a) (ho : OkA e a) (hQ : ∀ G', XI e sen G' a → KX G G' → Q (rTie a x y) G') : EvI K mX11_tie 6 0 [(0, .ref 1), (1, .int x), (2, .int y)] [] G Q := by
  have w30 := ho.w30
  refine kX11_tie_0 h.lay (s_isSeen h.lay h.c ho ?_)
  by_cases hx : snR a x
  · rw [if_pos hx]
    refine ⟨fun z => absurd z (by decide), fun _ => s_isSeen h.lay h.c ho ?_⟩
    by_cases hy : snR a y
    · rw [if_pos hy]
      refine ⟨fun _ => s_freshenTies h ho (fun G1 h1 k1 f1 => ?_), fun z => absurd z (by decide)⟩
      obtain ⟨r, hr, er, -⟩ := ho.sn hx
      obtain ⟨s, hs, es, -⟩ := ho.sn hy
      have := hQ G1 h1 (k1.kx (fun i k z => by unfold sTi at z; omega))
      unfold rTie at this
      rw [if_pos ⟨hx, hy⟩, er, es, nI_nat (by omega), nI_nat (by omega)] at this
      have hX := (h1.ft f1).1.1 r s (by omega) (by omega)
      have hl := ho.f'.2.1 r s
      rw [er, es]
      refine s_X9_priceOf h1.lay (h1.ft f1).1 (by omega) (by omega) ⟨fun z => ?_, fun z => ?_⟩
      · have e : tx (a.f r s) = nI (a.f r s) := by
          unfold tx
          rw [if_neg (fun y => z (by rw [y]; rfl))]
        rw [e] at this
        exact this
      · have z' : a.f r s = 0 := by rw [show (0 : Int32) = nI 0 from rfl, nEq (by omega) (by decide)] at z; exact z
        rw [z'] at this
        exact this
    · rw [if_neg hy]
      have := hQ G h Kg.rf
      unfold rTie at this
      rw [if_neg (fun z => hy z.2)] at this
      exact ⟨fun z => absurd rfl z, fun _ => this⟩
  · rw [if_neg hx]
    have := hQ G h Kg.rf
    unfold rTie at this
    rw [if_neg (fun z => hx z.1)] at this
    exact ⟨fun _ => this, fun z => absurd rfl z⟩
theorem x_place {Q : Int32 → St → Prop} {x y : Int32} (h : XI e sen G a) (ho : OkA e a) (hQ : ∀ G', XI e sen G' a → KX G G' → Q (rPlace a x y) G') : EvIa K mX11_place 11 0 [(0, .ref 1), (1, .int x), (2, .int y)] [] G Q := by
  have q4 := ho.q4
  have jl := ho.Jl
  refine kX11_place_0 h.lay (s_isTerm h.lay h.c ?_)
  have no : ∀ G', XI e sen G' a → KX G G' → ¬ (inR y a.q.1 ∧ inR x a.J.length) → Q (-1) G' := fun G' h' k' hn => by
    have := hQ G' h' k'
    unfold rPlace at this
    rw [if_neg hn] at this; exact this
  rcases num_cases y (n := a.q.1) (by omega) with ⟨k, hk, ek⟩ | hno
  · have hy : inR y a.q.1 := by rw [ek, inR_n (by omega)]; exact hk
    rw [if_pos hy]
    refine ⟨fun z => absurd z (by decide), fun _ => s_searched h ho (fun q0 => by omega) (fun G1 q0 h1 k1 f1 => ⟨h1.lay, fun z => absurd z (by decide), fun _ => ?_⟩)⟩
    obtain ⟨-, f16, f15, sd⟩ := h1.fs f1
    have eJ := jl_t q0
    have hXo : XOr G1 a.f a.P a.q.1 a.J := by rw [eJ]; exact sd.sr.2.2.2.2.2.2
    refine s_X6_has (n := a.J.length) h1.lay (by omega) hXo.1 ?_
    rcases num_cases x (n := a.J.length) (by omega) with ⟨i, hi', ei⟩ | hnx
    · have hx : inR x a.J.length := by rw [ei, inR_n (by omega)]; exact hi'
      rw [if_pos hx]
      have hs := getD_lt (l := a.O) (q := i) (by rw [ho.Ol]; exact hi')
      have hm := ho.Om hs
      have oj := (ho.oJ.2 _ hm).2.2.2.1
      have := hQ G1 h1 k1.kx
      unfold rPlace at this
      rw [if_pos ⟨hy, hx⟩, ei, ek, nI_nat (by omega), nI_nat (by omega)] at this
      rw [ei, ek]
      refine ⟨fun _ => s_X6_setOf h1.lay hXo ho.oJ hs hm (s_holderIn h1.lay (h1.fh f16) ho.w30 ho.q4 hk ho.P1 ho.P2 oj.1 (oj.2.2.2.2 k hk) (fun _ => this)), fun z => absurd z (by decide)⟩
    · rw [if_neg hnx]
      exact ⟨fun z => absurd rfl z, fun _ => no G1 h1 k1.kx (fun z => hnx z.2)⟩
  · rw [if_neg hno]
    exact ⟨fun _ => no G h Kg.rf (fun z => hno z.1), fun z => absurd rfl z⟩
theorem OkA.qnE (ho : OkA e a) {k q j : Nat} (hk : k < a.J.length) (h1 : (fL a.xc a.J.length)[q]? = some j) (h2 : a.xc j = a.xc k) : nI q = qn a k := by
  have hj := fL_lt (getE_mem h1)
  have e := ho.fl (Nat.le_refl _)
  rw [e] at h1
  have hq := getE_lt h1
  have h2' := (ho.cc hj hk).mp h2
  unfold qn
  rw [lst_hit (q := q) hq (by rw [getD_some h1]; simp [h2']) (fun p hp hp2 => by
    have hg := getD_lt hp2
    have ne : a.mc ((fL a.mc a.J.length).getD p 0) ≠ a.mc k := fun z => by
      have := fL_inj hg h1 (by rw [z, h2'])
      omega
    exact beq_eq_false_iff_ne.mpr ne)]
theorem x_joining {Q : Int32 → St → Prop} {x y : Int32} (h : XI e sen G a) (ho : OkA e a) (hQ : ∀ G', XI e sen G' a → KX G G' → Q (rJoin a x y) G') : EvIa K mX11_joining 11 0 [(0, .ref 1), (1, .int x), (2, .int y)] [] G Q := by
  have jl := ho.Jl
  have no : ∀ G', XI e sen G' a → KX G G' → ¬ inR x a.J.length → Q (-1) G' := fun G' h' k' hn => by
    have := hQ G' h' k'
    unfold rJoin at this
    rw [if_neg hn] at this; exact this
  refine kX11_joining_0 h.lay (s_searched h ho (fun q0 => ⟨h.lay, fun _ => no G h Kg.rf ?_, fun z => absurd rfl z⟩) (fun G1 q0 h1 k1 f1 => ⟨h1.lay, fun z => absurd z (by decide), fun _ => ?_⟩))
  · unfold AS.J
    rw [if_pos q0]
    intro z
    have := z.1
    have := z.2
    simp at this
    omega
  obtain ⟨-, f16, f15, sd⟩ := h1.fs f1
  have eJ := jl_t q0
  have hXo : XOr G1 a.f a.P a.q.1 a.J := by rw [eJ]; exact sd.sr.2.2.2.2.2.2
  refine s_X6_has (n := a.J.length) h1.lay (by omega) hXo.1 ?_
  rcases num_cases x (n := a.J.length) (by omega) with ⟨i, hi', ei⟩ | hnx
  · have hx : inR x a.J.length := by rw [ei, inR_n (by omega)]; exact hi'
    rw [if_pos hx]
    have hs := getD_lt (l := a.O) (q := i) (by rw [ho.Ol]; exact hi')
    have hm := ho.Om hs
    have := hQ G1 h1 k1.kx
    unfold rJoin at this
    rw [if_pos hx, ei, nI_nat (by omega)] at this
    rw [ei]
    refine ⟨fun _ => ⟨fun z => ?_, fun z => ?_, fun z => ?_, fun z => ?_, fun z1 z2 z3 z4 => ?_⟩, fun z => absurd z (by decide)⟩
    · rw [if_pos z] at this
      exact s_X6_setOf h1.lay hXo ho.oJ hs hm this
    · rw [if_neg (by rw [z]; decide), if_pos z] at this
      exact s_X6_priceOf h1.lay hXo ho.oJ hs hm this
    · rw [if_neg (by rw [z]; decide), if_neg (by rw [z]; decide), if_pos z] at this
      obtain ⟨q, j, a1, a2, a3⟩ := sd.nm i hi'
      rw [← ho.qnE hi' a1 a2] at this
      refine kX4_ofJoining_0 h1.lay ?_
      have n5 := sd.n5
      have n5' : sN G1 (sR G1 28 5) ≤ 348872 := h1.rm.2.2.2.2.2.2.1
      try simp (disch := omega) only [nLe, nLeR, nLeL, nLt, nLtR, nLtL, nEq, nEqR, nEqL, nClamp, nClampR, nAdd, nAddR, nAddL, nSub, nSubR, nMul, nMulR, nMulL, nDivR, vIn, vInR, iteZ, iteP, lEq, lEqR, forall_eq, forall_const, true_implies, false_implies, not_true_eq_false, not_false_eq_true, true_and, and_true, implies_true, Decidable.not_not, Nat.le_refl, a3]
      exact ⟨fun z => by omega, fun _ => ⟨fun z => by omega, fun _ => ⟨by omega, this⟩⟩⟩
    · rw [if_neg (by rw [z]; decide), if_neg (by rw [z]; decide), if_neg (by rw [z]; decide), if_pos z] at this
      exact s_X6_tiesOf h1.lay hXo ho.oJ hs hm this
    · rw [if_neg z1, if_neg z2, if_neg z3, if_neg z4] at this
      exact this
  · rw [if_neg hnx]
    exact ⟨fun z => absurd rfl z, fun _ => no G1 h1 k1.kx hnx⟩
end TOPS

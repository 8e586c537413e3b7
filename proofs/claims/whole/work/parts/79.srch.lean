/-! the class' search: what a set holds, whether it hangs together, whether it is least -/
/-- for each row those tied to it -/
noncomputable def w30 : Nat := Classical.epsilon (fun n => n = 30)
theorem w30_eq : w30 = 30 := Classical.epsilon_spec (p := fun n => n = 30) ⟨30, rfl⟩
noncomputable def tdF (f : Nat → Nat → Nat) (a : Nat) : Nat := msk (fun b => f a b != 0) w30
theorem tdF_def (f : Nat → Nat → Nat) (a : Nat) : tdF f a = msk (fun b => f a b != 0) 30 := by unfold tdF; rw [w30_eq]
def okF (f : Nat → Nat → Nat) : Prop := (∀ a b, f a b = f b a) ∧ (∀ a b, f a b ≤ 11) ∧ (∀ a b, 30 ≤ a → f a b = 0) ∧ ∀ a, f a a = 0
theorem tdF_lt (f : Nat → Nat → Nat) (a : Nat) : tdF f a < 2 ^ 30 := by rw [tdF_def]; exact msk_lt _ _
theorem tdF_bit {f : Nat → Nat → Nat} (hf : okF f) (a b : Nat) : (tdF f a).testBit b = true ↔ f a b ≠ 0 := by
  rw [tdF_def, msk_bit]
  simp only [Bool.and_eq_true, decide_eq_true_eq, bne_iff_ne]
  refine ⟨fun h => h.2, fun h => ⟨?_, h⟩⟩
  rcases Nat.lt_or_ge b 30 with q | q
  · exact q
  · rw [hf.1, hf.2.2.1 b a q] at h; exact absurd rfl h
theorem tdF_sy {f : Nat → Nat → Nat} (hf : okF f) : sy (tdF f) := by
  intro i j
  rw [Bool.eq_iff_iff, tdF_bit hf, tdF_bit hf, hf.1]
/-- the ties in the class -/
def XTi (G : St) (f : Nat → Nat → Nat) : Prop := (∀ a b, a < 30 → b < 30 → sI G 12 (30 * a + b) = nI (f a b)) ∧ ∀ a, a < 30 → sI G 13 a = nI (tdF f a)
/-- for each row the terms that it holds -/
def hdF (P : Nat → Nat → Nat) (t r : Nat) : Nat := msk (fun k => P k r != 9) t
theorem hdF_bit {P : Nat → Nat → Nat} {t r k : Nat} : (hdF P t r).testBit k = true ↔ k < t ∧ P k r ≠ 9 := by
  unfold hdF
  rw [msk_bit]
  simp
theorem hdF_lt (P : Nat → Nat → Nat) (t r : Nat) : hdF P t r < 2 ^ t := msk_lt _ _
theorem all_iff {P : Nat → Nat → Nat} {t s : Nat} (hs : s < 2 ^ 32) : ru (hdF P t) s = 2 ^ t - 1 ↔ ∀ k, k < t → ∃ r, s.testBit r = true ∧ P k r ≠ 9 := by
  constructor
  · intro h k hk
    have : (ru (hdF P t) s).testBit k = true := by rw [h, Nat.testBit_two_pow_sub_one]; simp [hk]
    obtain ⟨r, a, b⟩ := (ru_bit hs).mp this
    exact ⟨r, a, (hdF_bit.mp b).2⟩
  · intro h
    refine sb_ext (fun k z => ?_) (fun k z => ?_)
    · obtain ⟨r, a, b⟩ := (ru_bit hs).mp z
      rw [Nat.testBit_two_pow_sub_one]
      simp [(hdF_bit.mp b).1]
    · rw [Nat.testBit_two_pow_sub_one, decide_eq_true_iff] at z
      obtain ⟨r, a, b⟩ := h k z
      exact (ru_bit hs).mpr ⟨r, a, hdF_bit.mpr ⟨z, b⟩⟩
theorem XTi.kq {S : Nat → Nat → Prop} {G G1 : St} {f : Nat → Nat → Nat} (h : XTi G f) (hk : Kq S G G1) (hs : ∀ i k, S i k → ¬ (i = 12 ∨ i = 13)) : XTi G1 f :=
  ⟨fun a b ha hb => by rw [hk.I (fun z => hs _ _ z (Or.inl rfl))]; exact h.1 a b ha hb, fun a ha => by rw [hk.I (fun z => hs _ _ z (Or.inr rfl))]; exact h.2 a ha⟩
theorem nI_and0 {a b : Nat} (ha : a < 2147483648) : nI a &&& nI b = 0 ↔ a &&& b = 0 := by
  rw [fa_and]
  exact nEq (b := 0) (Nat.lt_of_le_of_lt Nat.and_le_left ha) (by decide)
theorem msk30_lt {f : Nat → Bool} {n : Nat} (hn : n ≤ 30) : msk f n < 2 ^ 30 := Nat.lt_of_lt_of_le (msk_lt _ _) (Nat.pow_le_pow_right (by decide) hn)
section SRCH
variable {K : KT} {G : St} {f P : Nat → Nat → Nat} {n t : Nat}
theorem s_X6_holdsAll {Q : Int32 → St → Prop} {x : Nat} (hL : Lay G.2.2) (hH : XHt G P n t) (hn : n ≤ 30) (ht : t ≤ 4) (hPn : ∀ k r, n ≤ r → P k r = 9) (h13 : sI G 18 13 = nI t) (hx : x < 1073741824) (hQ : Q (if ru (hdF P t) x = 2 ^ t - 1 then 1 else 0) G) : EvI K mX6_holdsAll 0 0 [(0, .ref 18), (1, .int (nI x))] [] G Q := by
  have key : ∀ (m k : Nat), k + m = t → (∀ j, j < k → ∃ r, x.testBit r = true ∧ P j r ≠ 9) → EvI K mX6_holdsAll 0 2 [(0, .ref 18), (1, .int (nI x)), (2, .int (nI k))] [] G Q := by
    intro m
    induction m with
    | zero =>
      intro k hm hk
      have e : k = t := by omega
      subst e
      refine kX6_holdsAll_2 hL ?_
      rw [h13]
      try simp (disch := omega) only [nLe, nLeR, nLeL, nLt, nLtR, nLtL, nEq, nEqR, nEqL, nClamp, nClampR, nAdd, nAddR, nAddL, nSub, nSubR, nMul, nMulR, nMulL, nDivR, vIn, vInR, iteZ, iteP, lEq, lEqR, forall_eq, forall_const, true_implies, false_implies, not_true_eq_false, not_false_eq_true, true_and, and_true, implies_true, Decidable.not_not, Nat.le_refl]
      rw [if_pos ((all_iff (by omega)).mpr hk)] at hQ
      exact hQ
    | succ m ih =>
      intro k hm hk
      refine kX6_holdsAll_2 hL ?_
      have ml : msk (fun x => P k x != 9) n < 2 ^ 30 := msk30_lt hn
      rw [h13]
      try simp (disch := omega) only [nLe, nLeR, nLeL, nLt, nLtR, nLtL, nEq, nEqR, nEqL, nClamp, nClampR, nAdd, nAddR, nAddL, nSub, nSubR, nMul, nMulR, nMulL, nDivR, vIn, vInR, iteZ, iteP, lEq, lEqR, forall_eq, forall_const, true_implies, false_implies, not_true_eq_false, not_false_eq_true, true_and, and_true, implies_true, Decidable.not_not, Nat.le_refl]
      rw [(hH.1 k (by omega)).2.1, nI_and0 (by omega)]
      refine ⟨fun z => by omega, fun _ => ⟨by omega, fun z => ih (k + 1) (by omega) (fun j hj => ?_), fun z => ?_⟩⟩
      · by_cases e : j = k
        · subst e
          obtain ⟨r, hr⟩ := ne0 z
          rw [and_bit, msk_bit] at hr
          refine ⟨r, hr.2, ?_⟩
          have := hr.1
          simp at this
          exact this.2
        · exact hk j (by omega)
      · rw [if_neg (fun y => ?_)] at hQ
        · exact hQ
        · obtain ⟨r, a, b⟩ := (all_iff (by omega)).mp y k (by omega)
          have hr : r < n := by
            rcases Nat.lt_or_ge r n with q | q
            · exact q
            · exact absurd (hPn k r q) b
          have : (msk (fun x => P k x != 9) n &&& x).testBit r = true := (and_bit _ _ _).mpr ⟨by rw [msk_bit]; simp [hr, b], a⟩
          rw [z, Nat.zero_testBit] at this; cases this
  exact kX6_holdsAll_0 hL (key t 0 (by omega) (fun j hj => absurd hj (Nat.not_lt_zero j)))
/-- what is reached: closed, and nothing that need not be -/
theorem Cn_reach {td : Nat → Nat} (hsy : sy td) {s R l : Nat} (hs : s < 2 ^ 32) (hRs : sb R s) (hl : R.testBit l = true) (hcl : ∀ i j, R.testBit i = true → s.testBit j = true → (td i).testBit j = true → R.testBit j = true) (hmin : ∀ A, A.testBit l = true → (∀ i j, A.testBit i = true → s.testBit j = true → (td i).testBit j = true → A.testBit j = true) → sb R A) : R = s ↔ Cn td s := by
  constructor
  · intro e A hA h0 hne
    rcases Classical.em (∃ i j, A.testBit i = true ∧ s.testBit j = true ∧ A.testBit j = false ∧ (td i).testBit j = true) with q | q
    · exact q
    · exfalso
      have hc : ∀ i j, A.testBit i = true → s.testBit j = true → (td i).testBit j = true → A.testBit j = true := fun i j a b c => by
        cases z : A.testBit j
        · exact absurd ⟨i, j, a, b, z, c⟩ q
        · rfl
      cases z : A.testBit l
      · have bB : ∀ i, (msk (fun i => s.testBit i && !A.testBit i) 32).testBit i = true ↔ s.testBit i = true ∧ A.testBit i = false := by
          intro i
          rw [msk_bit]
          simp only [Bool.and_eq_true, decide_eq_true_eq, Bool.not_eq_true']
          exact ⟨fun h => h.2, fun h => ⟨bt_lt hs h.1, h⟩⟩
        have := hmin (msk (fun i => s.testBit i && !A.testBit i) 32) ((bB l).mpr ⟨hRs l hl, z⟩) (fun i j a b c => (bB j).mpr ⟨b, by
          cases y : A.testBit j
          · rfl
          · have := hc j i y ((bB i).mp a).1 (by rw [hsy]; exact c)
            rw [((bB i).mp a).2] at this; cases this⟩)
        obtain ⟨i, hi⟩ := ne0 h0
        have h2 := ((bB i).mp (this i (by rw [e]; exact hA i hi))).2
        rw [hi] at h2; cases h2
      · exact hne (sb_ext hA (by have := hmin A z hc; rw [e] at this; exact this))
  · intro hc
    rcases Classical.em (R = s) with q | q
    · exact q
    · obtain ⟨i, j, a, b, c, d⟩ := hc R hRs (ne0' hl) q
      rw [hcl i j a b d] at c; cases c
theorem lo_bit {s : Nat} (h0 : s ≠ 0) (hs : s < 2 ^ 32) : s.testBit (lo s) = true := (lo_yes h0 hs).2.1
/-- one round of reaching: the ties of all that is fresh -/
theorem s_X6_hang_in {Q : Int32 → St → Prop} {x R : Nat} (hL : Lay G.2.2) (hX : XTi G f) {i : Nat} : ∀ (m fr a : Nat), pc fr = m → fr < 1073741824 → a < 1073741824 → (∀ b, b < 1073741824 → (∀ j, b.testBit j = true ↔ a.testBit j = true ∨ (ru (tdF f) fr).testBit j = true) → EvI K mX6_hangsTogether 1 29 [(0, .ref 18), (1, .int (nI x)), (2, .int (nI R)), (3, .int 0), (4, .int (nI i)), (5, .int (nI b)), (6, .int 0)] [] G Q) → EvI K mX6_hangsTogether 1 29 [(0, .ref 18), (1, .int (nI x)), (2, .int (nI R)), (3, .int (nI fr)), (4, .int (nI i)), (5, .int (nI a)), (6, .int (nI m))] [] G Q := by
  intro m
  induction m with
  | zero =>
    intro fr a hm hfr ha hgo
    have e : fr = 0 := (pc_pos (by omega)).mp hm
    subst e
    refine hgo a ha (fun j => ?_)
    constructor
    · exact Or.inl
    · rintro (h | h)
      · exact h
      · obtain ⟨i, h1, h2⟩ := (ru_bit (by decide)).mp h
        rw [Nat.zero_testBit] at h1; cases h1
  | succ m ih =>
    intro fr a hm hfr ha hgo
    have h0 : fr ≠ 0 := fun e => by rw [e, pc_0] at hm; cases hm
    have hfr32 : fr < 2 ^ 32 := by omega
    have hlo : lo fr < 30 := bt_lt (n := 30) (by omega) (lo_bit h0 hfr32)
    refine kX6_hangsTogether_29 hL ?_
    refine ⟨fun z => absurd z (by rw [nLeR (by have := pc_le fr; omega) (by decide)]; simp), fun _ => s_ntz h0 (by omega) hL ?_⟩
    have htd := tdF_lt f (lo fr)
    have hcl : clr fr < 1073741824 := Nat.lt_of_le_of_lt clr_lt hfr
    have hcp := pc_clr h0 hfr32
    rw [clr_and h0 hfr32, nDec (by omega)]
    try simp (disch := omega) only [nLe, nLeR, nLeL, nLt, nLtR, nLtL, nEq, nEqR, nEqL, nClamp, nClampR, nAdd, nAddR, nAddL, nSub, nSubR, nMul, nMulR, nMulL, nDivR, vIn, vInR, iteZ, iteP, lEq, lEqR, forall_eq, forall_const, true_implies, false_implies, not_true_eq_false, not_false_eq_true, true_and, and_true, implies_true, Decidable.not_not, Nat.le_refl]
    refine ⟨hlo, ?_⟩
    rw [hX.2 _ hlo, fa_or]
    refine ih (clr fr) (a ||| tdF f (lo fr)) (by omega) hcl (Nat.or_lt_two_pow (n := 30) ha htd) (fun b hb hbb => hgo b hb (fun j => ?_))
    rw [hbb j, or_bit, ru_bit (by omega), ru_bit hfr32, or_assoc]
    constructor
    · rintro (h | h | ⟨i, h1, h2⟩)
      · exact Or.inl h
      · exact Or.inr ⟨lo fr, lo_bit h0 hfr32, h⟩
      · rw [clr_bit h0 hfr32] at h1
        simp at h1
        exact Or.inr ⟨i, h1.1, h2⟩
    · rintro (h | ⟨i, h1, h2⟩)
      · exact Or.inl h
      · by_cases e : i = lo fr
        · subst e; exact Or.inr (Or.inl h2)
        · exact Or.inr (Or.inr ⟨i, by rw [clr_bit h0 hfr32]; simp [h1, e], h2⟩)
theorem s_X6_hangsTogether {Q : Int32 → St → Prop} {x : Nat} (hL : Lay G.2.2) (hX : XTi G f) (hf : okF f) (hx : x < 1073741824) (h5 : pc x ≤ 5) (hQ : Q (if dB (Cn (tdF f) x) = true then 1 else 0) G) : EvI K mX6_hangsTogether 1 0 [(0, .ref 18), (1, .int (nI x))] [] G Q := by
  have hx32 : x < 2 ^ 32 := by omega
  have fin : ∀ R, R < 1073741824 → (R = x ↔ Cn (tdF f) x) → EvI K mX6_hangsTogether 1 82 [(1, .int (nI x)), (2, .int (nI R))] [] G Q := by
    intro R hR hiff
    refine kX6_hangsTogether_82 hL ?_
    try simp (disch := omega) only [nLe, nLeR, nLeL, nLt, nLtR, nLtL, nEq, nEqR, nEqL, nClamp, nClampR, nAdd, nAddR, nAddL, nSub, nSubR, nMul, nMulR, nMulL, nDivR, vIn, vInR, iteZ, iteP, lEq, lEqR, forall_eq, forall_const, true_implies, false_implies, not_true_eq_false, not_false_eq_true, true_and, and_true, implies_true, Decidable.not_not, Nat.le_refl]
    refine ⟨fun z => ?_, fun z => ?_⟩
    · rw [if_neg (fun y => z (hiff.mpr (dB_iff.mp y)))] at hQ; exact hQ
    · rw [if_pos (dB_iff.mpr (hiff.mp z))] at hQ; exact hQ
  refine kX6_hangsTogether_0 hL ?_
  by_cases h0 : x = 0
  · subst h0
    rw [show (nI 0 &&& -nI 0) = nI 0 from rfl]
    refine kX6_hangsTogether_10 hL ?_
    try simp (disch := omega) only [nLe, nLeR, nLeL, nLt, nLtR, nLtL, nEq, nEqR, nEqL, nClamp, nClampR, nAdd, nAddR, nAddL, nSub, nSubR, nMul, nMulR, nMulL, nDivR, vIn, vInR, iteZ, iteP, lEq, lEqR, forall_eq, forall_const, true_implies, false_implies, not_true_eq_false, not_false_eq_true, true_and, and_true, implies_true, Decidable.not_not, Nat.le_refl]
    refine ⟨fun z => absurd z (by decide), fun _ => fin 0 (by decide) ⟨fun _ A hA hn _ => ?_, fun _ => rfl⟩⟩
    obtain ⟨i, hi⟩ := ne0 hn
    have := hA i hi
    rw [Nat.zero_testBit] at this; cases this
  · rw [low_and h0 (by omega)]
    have hl := lo_bit h0 hx32
    have hlo : lo x < 30 := bt_lt (n := 30) hx hl
    have p2r : ∀ j, (2 ^ lo x).testBit j = true ↔ j = lo x := fun j => by rw [p2_bit, decide_eq_true_iff]; exact ⟨Eq.symm, Eq.symm⟩
    -- rounds: R reached, fr of it not looked at yet
    have key : ∀ (m i R fr : Nat), i + m = 5 → sb R x → sb fr R → R.testBit (lo x) = true → (fr ≠ 0 → i + 1 ≤ pc R) → (∀ a b, R.testBit a = true → fr.testBit a = false → x.testBit b = true → (tdF f a).testBit b = true → R.testBit b = true) → (∀ A, A.testBit (lo x) = true → (∀ i j, A.testBit i = true → x.testBit j = true → (tdF f i).testBit j = true → A.testBit j = true) → sb R A) → EvI K mX6_hangsTogether 1 10 [(0, .ref 18), (1, .int (nI x)), (2, .int (nI R)), (3, .int (nI fr)), (4, .int (nI i))] [] G Q := by
      intro m
      induction m with
      | zero =>
        intro i R fr hm hRx hfR hlR hpc hcl hmin
        have ei : i = 5 := by omega
        subst ei
        have hf0 : fr = 0 := by
          rcases Classical.em (fr = 0) with q | q
          · exact q
          · have := hpc q
            have := pc_sb hRx
            omega
        subst hf0
        have hR : R < 2 ^ 30 := sb_lt hRx hx
        refine kX6_hangsTogether_10 hL ?_
        try simp (disch := omega) only [nLe, nLeR, nLeL, nLt, nLtR, nLtL, nEq, nEqR, nEqL, nClamp, nClampR, nAdd, nAddR, nAddL, nSub, nSubR, nMul, nMulR, nMulL, nDivR, vIn, vInR, iteZ, iteP, lEq, lEqR, forall_eq, forall_const, true_implies, false_implies, not_true_eq_false, not_false_eq_true, true_and, and_true, implies_true, Decidable.not_not, Nat.le_refl]
        exact fin R hR (Cn_reach (tdF_sy hf) hx32 hRx hlR (fun a b ha hb hab => hcl a b ha (Nat.zero_testBit a) hb hab) hmin)
      | succ m ih =>
        intro i R fr hm hRx hfR hlR hpc hcl hmin
        have hR : R < 2 ^ 30 := sb_lt hRx hx
        have hfr : fr < 2 ^ 30 := sb_lt hfR hR
        refine kX6_hangsTogether_10 hL ?_
        try simp (disch := omega) only [nLe, nLeR, nLeL, nLt, nLtR, nLtL, nEq, nEqR, nEqL, nClamp, nClampR, nAdd, nAddR, nAddL, nSub, nSubR, nMul, nMulR, nMulL, nDivR, vIn, vInR, iteZ, iteP, lEq, lEqR, forall_eq, forall_const, true_implies, false_implies, not_true_eq_false, not_false_eq_true, true_and, and_true, implies_true, Decidable.not_not, Nat.le_refl]
        refine ⟨fun z => by omega, fun _ => ⟨fun z => ?_, fun z => s_bitCount (by omega) hL (s_X6_hang_in hL hX (pc fr) fr 0 rfl hfr (by decide) (fun b hb hbb => ?_))⟩⟩
        · subst z
          exact fin R hR (Cn_reach (tdF_sy hf) hx32 hRx hlR (fun a b ha hb hab => hcl a b ha (Nat.zero_testBit a) hb hab) hmin)
        · refine kX6_hangsTogether_29 hL ⟨fun _ => ?_, fun y => absurd (by decide) y⟩
          have hbx : b &&& x < 2 ^ 30 := Nat.lt_of_le_of_lt Nat.and_le_left hb
          have nb : ∀ j, (msk (fun j => (b &&& x).testBit j && !R.testBit j) 30).testBit j = true ↔ b.testBit j = true ∧ x.testBit j = true ∧ R.testBit j = false := by
            intro j
            rw [msk_bit]
            simp only [Bool.and_eq_true, decide_eq_true_eq, Bool.not_eq_true', Nat.testBit_and]
            constructor
            · rintro ⟨-, ⟨a, b⟩, c⟩; exact ⟨a, b, c⟩
            · rintro ⟨a, b, c⟩; exact ⟨bt_lt (n := 30) hb a, ⟨a, b⟩, c⟩
          have en : (nI b &&& nI x) &&& (nI R ^^^ (-1)) = nI (msk (fun j => (b &&& x).testBit j && !R.testBit j) 30) := by
            rw [fa_and]
            refine and_not (by omega) (by omega) (Nat.lt_of_lt_of_le (msk_lt _ 30) (by decide)) (fun j => ?_)
            rw [msk_bit]
            by_cases q : j < 30
            · simp [q]
            · have : (b &&& x).testBit j = false := Nat.testBit_lt_two_pow (Nat.lt_of_lt_of_le hbx (Nat.pow_le_pow_right (by decide) (by omega)))
              simp [q, this]
          have nf : ∀ j, b.testBit j = true ↔ (ru (tdF f) fr).testBit j = true := fun j => by
            rw [hbb j]
            exact ⟨fun h => h.elim (fun q => by rw [Nat.zero_testBit] at q; cases q) id, Or.inr⟩
          rw [en, fa_or]
          generalize hN : msk (fun j => (b &&& x).testBit j && !R.testBit j) 30 = N at nb
          try simp (disch := omega) only [nLe, nLeR, nLeL, nLt, nLtR, nLtL, nEq, nEqR, nEqL, nClamp, nClampR, nAdd, nAddR, nAddL, nSub, nSubR, nMul, nMulR, nMulL, nDivR, vIn, vInR, iteZ, iteP, lEq, lEqR, forall_eq, forall_const, true_implies, false_implies, not_true_eq_false, not_false_eq_true, true_and, and_true, implies_true, Decidable.not_not, Nat.le_refl]
          refine ih (i + 1) (R ||| N) N (by omega) (fun j hj => ?_) (fun j hj => (or_bit _ _ _).mpr (Or.inr hj)) ((or_bit _ _ _).mpr (Or.inl hlR)) (fun hN0 => ?_) (fun a b' ha hna hb' hab => ?_) (fun A hA hAc j hj => ?_)
          · rcases (or_bit _ _ _).mp hj with q | q
            · exact hRx j q
            · exact ((nb j).mp q).2.1
          · obtain ⟨j, hj⟩ := ne0 hN0
            obtain ⟨j1, j2, j3⟩ := (nb j).mp hj
            have := pc_lt (a := R) (s := R ||| N) (by
              have : N < 2 ^ 30 := by rw [← hN]; exact msk_lt _ _
              have := Nat.or_lt_two_pow hR this
              omega) (fun k hk => (or_bit _ _ _).mpr (Or.inl hk)) ((or_bit _ _ _).mpr (Or.inr hj)) j3
            have := hpc z
            omega
          · have haR : R.testBit a = true := by
              rcases (or_bit _ _ _).mp ha with q | q
              · exact q
              · rw [hna] at q; cases q
            cases hfa : fr.testBit a
            · exact (or_bit _ _ _).mpr (Or.inl (hcl a b' haR hfa hb' hab))
            · cases hRb : R.testBit b'
              · exact (or_bit _ _ _).mpr (Or.inr ((nb b').mpr ⟨(nf b').mpr ((ru_bit (by omega)).mpr ⟨a, hfa, hab⟩), hb', hRb⟩))
              · exact (or_bit _ _ _).mpr (Or.inl hRb)
          · rcases (or_bit _ _ _).mp hj with q | q
            · exact hmin A hA hAc j q
            · obtain ⟨j1, j2, j3⟩ := (nb j).mp q
              obtain ⟨a, a1, a2⟩ := (ru_bit (by omega)).mp ((nf j).mp j1)
              exact hAc a j (hmin A hA hAc a (hfR a a1)) j2 a2
    refine key 5 0 (2 ^ lo x) (2 ^ lo x) rfl (fun j hj => ?_) (sb_rf _) ((p2r _).mpr rfl) (fun _ => by rw [pc_one _ (by omega)]; exact Nat.le_refl 1) (fun a b ha hna => by rw [ha] at hna; cases hna) (fun A hA _ j hj => ?_)
    · rw [(p2r j).mp hj]; exact hl
    · rw [(p2r j).mp hj]; exact hA
/-- no row can be left out -/
def jm (td hd : Nat → Nat) (t x : Nat) : Prop := ∀ r, x.testBit r = true → ¬ (ru hd (wt x r) = 2 ^ t - 1 ∧ Cn td (wt x r))
theorem wt_lo {x y : Nat} (hx : x < 1073741824) (h0 : y ≠ 0) (hy : sb y x) : nI x &&& ((nI y &&& -nI y) ^^^ (-1)) = nI (wt x (lo y)) := by
  have hy30 : y < 2 ^ 30 := sb_lt hy hx
  have hl : lo y < 30 := bt_lt hy30 (lo_bit h0 (by omega))
  have hp : 2 ^ lo y < 2 ^ 30 := Nat.pow_lt_pow_right (by decide) hl
  rw [low_and h0 (by omega)]
  refine and_not (by omega) (by omega) (by have := sb_lt (n := 30) (wt_sb (s := x) (r := lo y) (by omega)) hx; omega) (fun i => ?_)
  rw [Bool.eq_iff_iff, wt_bit (by omega)]
  simp [p2_bit]
  exact fun _ => ⟨fun h e => h e.symm, fun h e => h e.symm⟩
theorem s_X6_isLeast {Q : Int32 → St → Prop} {x : Nat} (hL : Lay G.2.2) (hX : XTi G f) (hf : okF f) (hH : XHt G P n t) (hn : n ≤ 30) (ht : t ≤ 4) (hPn : ∀ k r, n ≤ r → P k r = 9) (h13 : sI G 18 13 = nI t) (hx : x < 1073741824) (h5 : pc x ≤ 5) (hQ : Q (if dB (jm (tdF f) (hdF P t) t x) = true then 1 else 0) G) : EvI K mX6_isLeast 2 0 [(0, .ref 18), (1, .int (nI x))] [] G Q := by
  have hx32 : x < 2 ^ 32 := by omega
  have key : ∀ (m y : Nat), pc y = m → sb y x → (∀ r, x.testBit r = true → y.testBit r = false → ¬ (ru (hdF P t) (wt x r) = 2 ^ t - 1 ∧ Cn (tdF f) (wt x r))) → EvI K mX6_isLeast 2 7 [(0, .ref 18), (1, .int (nI x)), (2, .int (nI y)), (3, .int (nI m))] [] G Q := by
    intro m
    induction m with
    | zero =>
      intro y hm hy hd
      have e : y = 0 := (pc_pos (by have := sb_lt hy hx32; exact this)).mp hm
      refine kX6_isLeast_7 hL ⟨fun _ => ?_, fun z => absurd (by decide) z⟩
      have hj : jm (tdF f) (hdF P t) t x := fun r hr => hd r hr (by rw [e]; exact Nat.zero_testBit r)
      rw [if_pos (dB_iff.mpr hj)] at hQ
      exact hQ
    | succ m ih =>
      intro y hm hy hd
      have h0 : y ≠ 0 := fun e => by rw [e, pc_0] at hm; cases hm
      have hy30 : y < 2 ^ 30 := sb_lt hy hx
      have hy32 : y < 2 ^ 32 := by omega
      have hl := lo_bit h0 hy32
      have hw30 : wt x (lo y) < 2 ^ 30 := sb_lt (wt_sb hx32) hx
      have hcp := pc_clr h0 hy32
      have next : ¬ (ru (hdF P t) (wt x (lo y)) = 2 ^ t - 1 ∧ Cn (tdF f) (wt x (lo y))) → EvI K mX6_isLeast 2 47 [(0, .ref 18), (1, .int (nI x)), (2, .int (nI (clr y))), (3, .int (nI (m + 1)))] [] G Q := by
        intro hno
        refine kX6_isLeast_47 hL ?_
        rw [nDec (by omega)]
        refine ih (clr y) (by omega) (fun i hi => ?_) (fun r hr hyr => ?_)
        · rw [clr_bit h0 hy32] at hi; simp at hi; exact hy i hi.1
        · rw [clr_bit h0 hy32] at hyr
          by_cases e : r = lo y
          · subst e; exact hno
          · simp [e] at hyr; exact hd r hr hyr
      refine kX6_isLeast_7 hL ⟨fun z => absurd z (by rw [nLeR (by have := pc_le y; omega) (by decide)]; simp), fun _ => ?_⟩
      rw [wt_lo hx h0 hy, clr_and h0 hy32]
      refine s_X6_holdsAll hL hH hn ht hPn h13 hw30 ?_
      try simp (disch := omega) only [nLe, nLeR, nLeL, nLt, nLtR, nLtL, nEq, nEqR, nEqL, nClamp, nClampR, nAdd, nAddR, nAddL, nSub, nSubR, nMul, nMulR, nMulL, nDivR, vIn, vInR, iteZ, iteP, lEq, lEqR, forall_eq, forall_const, true_implies, false_implies, not_true_eq_false, not_false_eq_true, true_and, and_true, implies_true, Decidable.not_not, Nat.le_refl]
      refine ⟨fun z => next (fun y => z y.1), fun z => s_X6_hangsTogether hL hX hf hw30 (Nat.le_trans (pc_sb (wt_sb hx32)) h5) ?_⟩
      try simp (disch := omega) only [nLe, nLeR, nLeL, nLt, nLtR, nLtL, nEq, nEqR, nEqL, nClamp, nClampR, nAdd, nAddR, nAddL, nSub, nSubR, nMul, nMulR, nMulL, nDivR, vIn, vInR, iteZ, iteP, lEq, lEqR, forall_eq, forall_const, true_implies, false_implies, not_true_eq_false, not_false_eq_true, true_and, and_true, implies_true, Decidable.not_not, Nat.le_refl]
      refine ⟨fun z2 => next (fun y => z2 (dB_iff.mpr y.2)), fun z2 => ?_⟩
      have hj : ¬ jm (tdF f) (hdF P t) t x := fun u => u (lo y) (hy _ hl) ⟨z, dB_iff.mp z2⟩
      rw [if_neg (fun u => hj (dB_iff.mp u))] at hQ
      exact hQ
  refine kX6_isLeast_0 hL (s_bitCount (by omega) hL ?_)
  exact key (pc x) x rfl (sb_rf x) (fun r h1 h2 => by rw [h1] at h2; cases h2)
end SRCH

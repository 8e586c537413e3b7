/-! digits of words -/
def dg (n k : Nat) : Nat := n / 27 ^ k % 27
theorem pw_le {a b : Nat} (h : a ≤ b) : 27 ^ a ≤ 27 ^ b := Nat.pow_le_pow_right (by decide) h
theorem div27 (n k : Nat) : n / 27 ^ k / 27 = n / 27 ^ (k + 1) := by rw [Nat.div_div_eq_div_mul, ← Nat.pow_succ]
theorem dig_ext : ∀ (L n m : Nat), n < 27 ^ L → m < 27 ^ L → (∀ k, k < L → dg n k = dg m k) → n = m
  | 0, n, m, h1, h2, _ => by simp at h1 h2; omega
  | L + 1, n, m, h1, h2, h => by
    have e : ∀ x k, dg (x / 27) k = dg x (k + 1) := by
      intro x k
      unfold dg
      rw [Nat.div_div_eq_div_mul, Nat.pow_succ, Nat.mul_comm]
    have hd := dig_ext L (n / 27) (m / 27) (by rw [Nat.pow_succ] at h1; omega) (by rw [Nat.pow_succ] at h2; omega) (fun k hk => by rw [e, e]; exact h (k + 1) (by omega))
    have h0 := h 0 (by omega)
    unfold dg at h0
    simp at h0
    omega
theorem dg_div (n i k : Nat) : dg (n / 27 ^ i) k = dg n (i + k) := by
  unfold dg
  rw [Nat.div_div_eq_div_mul, ← Nat.pow_add]
theorem dg_mod {n i k : Nat} (h : k < i) : dg (n % 27 ^ i) k = dg n k := by
  unfold dg
  have e1 : 27 ^ i = 27 ^ k * (27 * 27 ^ (i - k - 1)) := by
    rw [← Nat.pow_succ', ← Nat.pow_add]; congr 1; omega
  have e2 : n / 27 ^ k = 27 * (27 ^ (i - k - 1) * (n / 27 ^ i)) + n % 27 ^ i / 27 ^ k := by
    conv => lhs; rw [← Nat.div_add_mod n (27 ^ i)]
    rw [show 27 ^ i * (n / 27 ^ i) = 27 ^ k * (27 * (27 ^ (i - k - 1) * (n / 27 ^ i))) by rw [e1]; simp [Nat.mul_assoc], Nat.mul_add_div (pw_pos k)]
  rw [e2, Nat.mul_add_mod]
theorem dg_mod0 {n i k : Nat} (h : i ≤ k) : dg (n % 27 ^ i) k = 0 := by
  unfold dg
  rw [Nat.div_eq_of_lt (Nat.lt_of_lt_of_le (Nat.mod_lt _ (pw_pos i)) (pw_le h))]
theorem wo_eq {n m i : Nat} : wo n i = wo m i ↔ n / 27 ^ (i + 1) = m / 27 ^ (i + 1) ∧ n % 27 ^ i = m % 27 ^ i := by
  unfold wo
  constructor
  · intro h
    have hn := Nat.mod_lt n (pw_pos i)
    have hm := Nat.mod_lt m (pw_pos i)
    have e1 : ∀ a b, b < 27 ^ i → (a * 27 ^ i + b) % 27 ^ i = b := fun a b hb => by rw [Nat.mul_comm, Nat.mul_add_mod, Nat.mod_eq_of_lt hb]
    have e2 : ∀ a b, b < 27 ^ i → (a * 27 ^ i + b) / 27 ^ i = a := fun a b hb => by rw [Nat.mul_comm, Nat.mul_add_div (pw_pos i), Nat.div_eq_of_lt hb, Nat.add_zero]
    have h1 := congrArg (fun x => x % 27 ^ i) h
    have h2 := congrArg (fun x => x / 27 ^ i) h
    simp only [e1 _ _ hn, e1 _ _ hm, e2 _ _ hn, e2 _ _ hm] at h1 h2
    exact ⟨h2, h1⟩
  · rintro ⟨h1, h2⟩
    rw [h1, h2]
theorem wo_dg {n m i L : Nat} (hn : n < 27 ^ L) (hm : m < 27 ^ L) : wo n i = wo m i ↔ ∀ k, k < L → k ≠ i → dg n k = dg m k := by
  rw [wo_eq]
  constructor
  · rintro ⟨h1, h2⟩ k hk hne
    rcases Nat.lt_or_gt_of_ne hne with q | q
    · rw [← dg_mod q, h2, dg_mod q]
    · have e : k = (i + 1) + (k - i - 1) := by omega
      rw [e, ← dg_div, h1, dg_div]
  · intro h
    refine ⟨dig_ext L _ _ (Nat.lt_of_le_of_lt (Nat.div_le_self _ _) hn) (Nat.lt_of_le_of_lt (Nat.div_le_self _ _) hm) (fun k hk => ?_), dig_ext i _ _ (Nat.mod_lt _ (pw_pos i)) (Nat.mod_lt _ (pw_pos i)) (fun k hk => ?_)⟩
    · rw [dg_div, dg_div]
      rcases Nat.lt_or_ge (i + 1 + k) L with q | q
      · exact h _ q (by omega)
      · unfold dg
        rw [Nat.div_eq_of_lt (Nat.lt_of_lt_of_le hn (pw_le q)), Nat.div_eq_of_lt (Nat.lt_of_lt_of_le hm (pw_le q))]
    · rw [dg_mod hk, dg_mod hk]
      rcases Nat.lt_or_ge k L with q | q
      · exact h _ q (by omega)
      · unfold dg
        rw [Nat.div_eq_of_lt (Nat.lt_of_lt_of_le hn (pw_le q)), Nat.div_eq_of_lt (Nat.lt_of_lt_of_le hm (pw_le q))]
/-- how many digits differ -/
def dfc (n m : Nat) (L : Nat) : Nat := fb_ct (fun k => !(dg n k == dg m k)) L
theorem dfc_one {n m L : Nat} (hn : n < 27 ^ L) (hm : m < 27 ^ L) : dfc n m L = 1 ↔ n ≠ m ∧ ∃ i, i < L ∧ wo n i = wo m i := by
  unfold dfc
  constructor
  · intro h
    obtain ⟨i, hi, hp⟩ := fb_ct_pos.mp (show 0 < fb_ct (fun k => !(dg n k == dg m k)) L by omega)
    have hu := fb_ct_upd (fun k => !(dg n k == dg m k)) false hi
    rw [h, hp] at hu
    have hz : fb_ct (fun k => if k = i then false else !(dg n k == dg m k)) L = 0 := by
      simp only [if_true, Bool.false_eq_true, if_false] at hu
      omega
    have hz2 := fb_ct_zero.mp hz
    refine ⟨fun e => by rw [e] at hp; simp at hp, i, hi, (wo_dg hn hm).mpr (fun k hk hne => ?_)⟩
    have := hz2 k hk
    rw [if_neg hne] at this
    simpa using this
  · rintro ⟨hne, i, hi, hw⟩
    have hd := (wo_dg hn hm).mp hw
    have hdi : dg n i ≠ dg m i := by
      intro e
      refine hne (dig_ext L n m hn hm (fun k hk => ?_))
      by_cases q : k = i
      · rw [q]; exact e
      · exact hd k hk q
    have hu := fb_ct_upd (fun k => !(dg n k == dg m k)) false hi
    have hz : fb_ct (fun k => if k = i then false else !(dg n k == dg m k)) L = 0 := fb_ct_zero.mpr (fun k hk => by
      by_cases q : k = i
      · simp [q]
      · simp [q, hd k hk q])
    rw [hz] at hu
    simp [hdi] at hu
    omega
theorem wl_pos {n k : Nat} (hn : n < 27 ^ 8) : 0 < n / 27 ^ k ↔ k < wl n := by
  constructor
  · intro h
    rcases Nat.lt_or_ge k (wl n) with q | q
    · exact q
    · have := wl_yes hn
      rw [Nat.div_eq_of_lt (Nat.lt_of_lt_of_le this (pw_le q))] at h
      omega
  · intro h
    exact Nat.div_pos (wl_no h) (pw_pos k)
section MWORD
variable {K : KT} {G : St}
theorem lPos {a : Nat} (ha : a < 2 ^ 63) : (0 : Int64) < lN a ↔ 0 < a := pk_lLT (a := 0) (by decide) ha
theorem s_X12_lettersOf {Q : Int32 → St → Prop} {n : Nat} (hn : n < 27 ^ 8) (hL : Lay G.2.2) (hQ : Q (nI (wl n)) G) : EvI K mX12_lettersOf 0 0 [(0, .long (lN n))] [] G Q := by
  have h8 : (27 : Nat) ^ 8 = 282429536481 := by decide
  have hl := wl_le n
  refine kX12_lettersOf_0 hL ?_
  have key : ∀ m k, k + m = wl n → EvI K mX12_lettersOf 0 4 [(2, .int (nI k)), (3, .long (lN (n / 27 ^ k)))] [] G Q := by
    intro m
    induction m with
    | zero =>
      intro k hk
      have hd := Nat.div_le_self n (27 ^ k)
      refine kX12_lettersOf_4 hL ?_
      rw [lPos (by omega), wl_pos hn]
      exact ⟨fun _ => by rw [show k = wl n by omega]; exact hQ, fun z => by omega⟩
    | succ m ih =>
      intro k hk
      have hd := Nat.div_le_self n (27 ^ k)
      refine kX12_lettersOf_4 hL ?_
      rw [lPos (by omega), wl_pos hn]
      refine ⟨fun z => absurd (show k < wl n by omega) z, fun _ => ?_⟩
      try simp (disch := omega) only [nLe, nLeR, nLeL, nLt, nLtR, nLtL, nEq, nEqR, nEqL, nClamp, nClampR, nAdd, nAddR, nAddL, nSub, nSubR, nMul, nMulR, nMulL, nDivR, vIn, vInR, iteZ, iteP, lEq, lEqR, forall_eq, forall_const, true_implies, false_implies, not_true_eq_false, not_false_eq_true, true_and, and_true, implies_true, Decidable.not_not, Nat.le_refl]
      rw [show (27 : Int64) = lN 27 from rfl, pk_lDiv (by omega) (by decide) (by decide), div27]
      exact ih (k + 1) (by omega)
  have := key (wl n) 0 (by omega)
  rw [Nat.pow_zero, Nat.div_one] at this
  exact this
theorem s_X12_letter {Q : Int64 → St → Prop} {n k : Nat} (hn : n < 27 ^ 8) (hk : k < 1000) (hL : Lay G.2.2) (hQ : Q (lN (dg n k)) G) : EvL K mX12_letter 0 0 [(0, .long (lN n)), (2, .int (nI k))] [] G Q := by
  have h8 : (27 : Nat) ^ 8 = 282429536481 := by decide
  refine kX12_letter_0 hL ?_
  have key : ∀ m i, i + m = k → EvL K mX12_letter 0 5 [(2, .int (nI k)), (3, .long (lN (n / 27 ^ i))), (5, .int (nI i))] [] G Q := by
    intro m
    induction m with
    | zero =>
      intro i hi
      have hd := Nat.div_le_self n (27 ^ i)
      refine kX12_letter_5 hL ?_
      try simp (disch := omega) only [nLe, nLeR, nLeL, nLt, nLtR, nLtL, nEq, nEqR, nEqL, nClamp, nClampR, nAdd, nAddR, nAddL, nSub, nSubR, nMul, nMulR, nMulL, nDivR, vIn, vInR, iteZ, iteP, lEq, lEqR, forall_eq, forall_const, true_implies, false_implies, not_true_eq_false, not_false_eq_true, true_and, and_true, implies_true, Decidable.not_not, Nat.le_refl]
      refine ⟨fun _ => ?_, fun z => by omega⟩
      rw [show (27 : Int64) = lN 27 from rfl, pk_lRem (by omega) (by decide) (by decide), show i = k by omega]
      exact hQ
    | succ m ih =>
      intro i hi
      have hd := Nat.div_le_self n (27 ^ i)
      refine kX12_letter_5 hL ?_
      try simp (disch := omega) only [nLe, nLeR, nLeL, nLt, nLtR, nLtL, nEq, nEqR, nEqL, nClamp, nClampR, nAdd, nAddR, nAddL, nSub, nSubR, nMul, nMulR, nMulL, nDivR, vIn, vInR, iteZ, iteP, lEq, lEqR, forall_eq, forall_const, true_implies, false_implies, not_true_eq_false, not_false_eq_true, true_and, and_true, implies_true, Decidable.not_not, Nat.le_refl]
      refine ⟨fun z => by omega, fun _ => ?_⟩
      rw [show (27 : Int64) = lN 27 from rfl, pk_lDiv (by omega) (by decide) (by decide), div27]
      exact ih (i + 1) (by omega)
  have := key k 0 (by omega)
  rw [Nat.pow_zero, Nat.div_one] at this
  exact this
theorem s_X12_power {Q : Int64 → St → Prop} {k : Nat} (hk : k < 1000) (hL : Lay G.2.2) (hQ : Q (lN (27 ^ k)) G) : EvL K mX12_power 0 0 [(0, .int (nI k))] [] G Q := by
  refine kX12_power_0 hL ?_
  have key : ∀ m i, i + m = k → EvL K mX12_power 0 4 [(0, .int (nI k)), (1, .long (lN (27 ^ i))), (3, .int (nI i))] [] G Q := by
    intro m
    induction m with
    | zero =>
      intro i hi
      refine kX12_power_4 hL ?_
      try simp (disch := omega) only [nLe, nLeR, nLeL, nLt, nLtR, nLtL, nEq, nEqR, nEqL, nClamp, nClampR, nAdd, nAddR, nAddL, nSub, nSubR, nMul, nMulR, nMulL, nDivR, vIn, vInR, iteZ, iteP, lEq, lEqR, forall_eq, forall_const, true_implies, false_implies, not_true_eq_false, not_false_eq_true, true_and, and_true, implies_true, Decidable.not_not, Nat.le_refl]
      exact ⟨fun _ => by rw [show i = k by omega]; exact hQ, fun z => by omega⟩
    | succ m ih =>
      intro i hi
      refine kX12_power_4 hL ?_
      try simp (disch := omega) only [nLe, nLeR, nLeL, nLt, nLtR, nLtL, nEq, nEqR, nEqL, nClamp, nClampR, nAdd, nAddR, nAddL, nSub, nSubR, nMul, nMulR, nMulL, nDivR, vIn, vInR, iteZ, iteP, lEq, lEqR, forall_eq, forall_const, true_implies, false_implies, not_true_eq_false, not_false_eq_true, true_and, and_true, implies_true, Decidable.not_not, Nat.le_refl]
      refine ⟨fun z => by omega, fun _ => ?_⟩
      rw [show (27 : Int64) = lN 27 from rfl, lN_mul, ← Nat.pow_succ]
      exact ih (i + 1) (by omega)
  exact key k 0 (by omega)
theorem s_X12_without {Q : Int64 → St → Prop} {n k : Nat} (hn : n < 27 ^ 8) (hk : k < 8) (hL : Lay G.2.2) (hQ : Q (lN (wo n k)) G) : EvL K mX12_without 1 0 [(0, .long (lN n)), (2, .int (nI k))] [] G Q := by
  have h8 : (27 : Nat) ^ 8 = 282429536481 := by decide
  have p1 := pw_pos k
  have p2 := pw_lt (j := k) (by omega)
  refine kX12_without_0 hL (s_X12_power (by omega) hL ?_)
  rw [show (27 : Int64) = lN 27 from rfl, lN_mul]
  refine ⟨?_, ?_, ?_⟩
  · intro z
    have := (pk_lEQ (a := 27 * 27 ^ k) (b := 0) (by omega) (by decide)).mp z
    omega
  · intro z
    have := (pk_lEQ (a := 27 ^ k) (b := 0) (by omega) (by decide)).mp z
    omega
  · rw [pk_lDiv (by omega) (by omega) (by omega), pk_lRem (by omega) (by omega) (by omega), lN_mul, lN_add]
    unfold wo at hQ
    rw [Nat.pow_succ', ] at hQ
    exact hQ
theorem apX_eq {n m : Nat} (hn : n < 27 ^ 8) (hm : m < 27 ^ 8) (h : wl n = wl m) : apX n m = decide (dfc n m (wl n) = 1) := by
  have hn' := wl_yes hn
  have hm' := wl_yes hm
  rw [← h] at hm'
  have e := dfc_one hn' hm'
  have hx : apX n m = true ↔ dfc n m (wl n) = 1 := by
    rw [e]
    unfold apX
    rw [← h]
    simp
    intro _
    constructor
    · intro hf
      have := fa_first_yes (fun i => wo n i == wo m i) (wl n) hf
      exact ⟨_, hf, by simpa using this⟩
    · rintro ⟨i, hi, hw⟩
      rcases Nat.lt_or_ge (fa_first (fun i => wo n i == wo m i) (wl n)) (wl n) with q | q
      · exact q
      · have := fa_first_no (fun i => wo n i == wo m i) (wl n) i (by omega)
        simp at this
        exact absurd hw this
  by_cases q : apX n m = true
  · rw [q]; simp [hx.mp q]
  · have q' : apX n m = false := by simpa using q
    rw [q']
    have : ¬ dfc n m (wl n) = 1 := fun z => q (hx.mpr z)
    simp [this]
theorem first_ex {p : Nat → Bool} {n : Nat} : fa_first p n < n ↔ ∃ i, i < n ∧ p i = true := by
  constructor
  · intro h; exact ⟨_, h, fa_first_yes p n h⟩
  · rintro ⟨i, hi, hp⟩
    rcases Nat.lt_or_ge (fa_first p n) n with q | q
    · exact q
    · have := fa_first_no p n i (by omega)
      rw [hp] at this; cases this
theorem apX_long {n m : Nat} (h : wl n = wl m + 1) : apX n m = true ↔ ∃ i, i < wl n ∧ wo n i = m := by
  have hne : ¬ n = m := fun e => by rw [e] at h; omega
  have hmax : max (wl n) (wl m) = wl n := by omega
  have hm2 : ¬ wl m = wl n := by omega
  unfold apX
  rw [hmax]
  simp only [hm2, if_true, if_false]
  have hd : wl n ≤ wl m + 1 ∧ wl m ≤ wl n + 1 := by omega
  simp [hne, hd]
  rw [first_ex]
  simp
theorem apX_sw {n m : Nat} (h : apX n m = true) : apX m n = true := by
  unfold apX at h ⊢
  simp only [Bool.and_eq_true, decide_eq_true_eq, first_ex] at h ⊢
  obtain ⟨⟨h1, h2⟩, i, hi, h3⟩ := h
  refine ⟨⟨?_, h2.2, h2.1⟩, i, by omega, ?_⟩
  · simp at h1 ⊢
    exact fun e => h1 e.symm
  · rw [Nat.max_comm]
    have h3 := eq_of_beq h3
    rw [h3]
    simp
theorem apX_sym (n m : Nat) : apX n m = apX m n := by
  cases h : apX n m with
  | true => exact (apX_sw h).symm
  | false =>
    cases h2 : apX m n with
    | true => rw [apX_sw h2] at h; cases h
    | false => rfl
theorem s_X12_isNear {Q : Int32 → St → Prop} {n m : Nat} (hn : n < 27 ^ 8) (hm : m < 27 ^ 8) (hL : Lay G.2.2) (hQ : Q (if apX n m then 1 else 0) G) : EvI K mX12_isNear 2 0 [(0, .long (lN n)), (2, .long (lN m))] [] G Q := by
  have h8 : (27 : Nat) ^ 8 = 282429536481 := by decide
  have ln := wl_le n
  have lm := wl_le m
  -- the third loop
  have l3 : ∀ (r k : Nat) (p : Prop) [Decidable p], (wl m = wl n + 1 → k + r = wl m) → (¬ wl m = wl n + 1 → (p ↔ apX n m = true)) → (wl m = wl n + 1 → (p ↔ ∃ i, i < k ∧ wo m i = n)) → EvI K mX12_isNear 2 131 [(0, .long (lN n)), (2, .long (lN m)), (4, .int (nI (wl n))), (5, .int (nI (wl m))), (6, .int (if p then 1 else 0)), (7, .int (nI k))] [] G Q := by
    intro r
    induction r with
    | zero =>
      intro k p _ hk h1 h2
      have hp : p ↔ apX n m = true := by
        by_cases q : wl m = wl n + 1
        · rw [h2 q, apX_sym, apX_long q]
          rw [show k = wl m by have := hk q; omega]
        · exact h1 q
      have hv : (if p then (1 : Int32) else 0) = 0 ∨ (if p then (1 : Int32) else 0) = 1 := by by_cases q : p <;> simp [q]
      have hQ' : Q (if p then 1 else 0) G := by
        rw [show (if p then (1 : Int32) else 0) = (if apX n m then 1 else 0) from by by_cases q : p <;> simp [q, ← hp]]
        exact hQ
      by_cases q : wl m = wl n + 1
      · have e : k = wl m := by have := hk q; omega
        refine kX12_isNear_131 hL ?_
        rw [e]
        rw [nLe (by omega) (by omega)]
        exact ⟨fun _ => ⟨hv, hQ'⟩, fun z => absurd (Nat.le_refl _) z⟩
      · refine kX12_isNear_131 hL ?_
        rw [show nI (wl n) + 1 = nI (wl n + 1) from nAddR, nEq (by omega) (by omega)]
        exact ⟨fun _ => ⟨hv, hQ'⟩, fun _ => ⟨fun _ => ⟨hv, hQ'⟩, fun z => absurd z q⟩⟩
    | succ r ih =>
      intro k p _ hk h1 h2
      by_cases q : wl m = wl n + 1
      · have e := hk q
        have st : ∀ (y : Prop) [Decidable y], (y ↔ ∃ i, i < k + 1 ∧ wo m i = n) → EvI K mX12_isNear 2 168 [(0, .long (lN n)), (2, .long (lN m)), (4, .int (nI (wl n))), (5, .int (nI (wl m))), (7, .int (nI k))] [.int (if y then 1 else 0)] G Q := by
          intro y _ hy
          refine kX12_isNear_168 hL ?_
          try simp (disch := omega) only [nLe, nLeR, nLeL, nLt, nLtR, nLtL, nEq, nEqR, nEqL, nClamp, nClampR, nAdd, nAddR, nAddL, nSub, nSubR, nMul, nMulR, nMulL, nDivR, vIn, vInR, iteZ, iteP, lEq, lEqR, forall_eq, forall_const, true_implies, false_implies, not_true_eq_false, not_false_eq_true, true_and, and_true, implies_true, Decidable.not_not, Nat.le_refl]
          exact ih (k + 1) y (fun _ => by omega) (fun z => absurd q z) (fun _ => hy)
        refine kX12_isNear_131 hL ?_
        try simp (disch := omega) only [nLe, nLeR, nLeL, nLt, nLtR, nLtL, nEq, nEqR, nEqL, nClamp, nClampR, nAdd, nAddR, nAddL, nSub, nSubR, nMul, nMulR, nMulL, nDivR, vIn, vInR, iteZ, iteP, lEq, lEqR, forall_eq, forall_const, true_implies, false_implies, not_true_eq_false, not_false_eq_true, true_and, and_true, implies_true, Decidable.not_not, Nat.le_refl]
        refine ⟨fun z => by omega, fun _ => ⟨fun z => absurd q z, fun _ => ⟨fun zp => ?_, fun zp => s_X12_without hm (by omega) hL ?_⟩⟩⟩
        · have := st True ⟨fun _ => by obtain ⟨i, hi, hw⟩ := (h2 q).mp zp; exact ⟨i, by omega, hw⟩, fun _ => trivial⟩
          simpa using this
        · have hwl := wo_lt (i := k) hm
          have h9 : (27 : Nat) ^ 9 = 7625597484987 := by decide
          rw [pk_lEQ (by omega) (by omega)]
          refine ⟨fun z => ?_, fun z => ?_⟩
          · have := st False ⟨fun y => absurd y id, fun ⟨i, hi, hw⟩ => by
              rcases Nat.lt_succ_iff_lt_or_eq.mp hi with y | y
              · exact zp ((h2 q).mpr ⟨i, y, hw⟩)
              · subst y; exact z hw⟩
            simpa using this
          · have := st True ⟨fun _ => ⟨k, by omega, z⟩, fun _ => trivial⟩
            simpa using this
      · exact ih k p (fun z => absurd z q) h1 h2
  -- the second
  have l2 : ∀ (r k : Nat) (p : Prop) [Decidable p], (wl n = wl m + 1 → k + r = wl n) → (¬ wl n = wl m + 1 → (p ↔ apX n m = true ∧ ¬ wl m = wl n + 1)) → (wl n = wl m + 1 → (p ↔ ∃ i, i < k ∧ wo n i = m)) → EvI K mX12_isNear 2 83 [(0, .long (lN n)), (2, .long (lN m)), (4, .int (nI (wl n))), (5, .int (nI (wl m))), (6, .int (if p then 1 else 0)), (7, .int (nI k))] [] G Q := by
    intro r
    induction r with
    | zero =>
      intro k p _ hk h1 h2
      have go : EvI K mX12_isNear 2 131 [(0, .long (lN n)), (2, .long (lN m)), (4, .int (nI (wl n))), (5, .int (nI (wl m))), (6, .int (if p then 1 else 0)), (7, .int 0)] [] G Q := by
        refine l3 (wl m) 0 p (fun _ => by omega) (fun z => ?_) (fun z => ?_)
        · by_cases q : wl n = wl m + 1
          · rw [h2 q, apX_long q, show k = wl n by have := hk q; omega]
          · rw [h1 q]; exact ⟨fun y => y.1, fun y => ⟨y, z⟩⟩
        · rw [h1 (by omega)]
          exact ⟨fun y => absurd z y.2, fun ⟨i, hi, _⟩ => absurd hi (Nat.not_lt_zero i)⟩
      by_cases q : wl n = wl m + 1
      · have e : k = wl n := by have := hk q; omega
        refine kX12_isNear_83 hL ?_
        rw [e, nLe (by omega) (by omega)]
        exact ⟨fun _ => go, fun z => absurd (Nat.le_refl _) z⟩
      · refine kX12_isNear_83 hL ?_
        rw [show nI (wl m) + 1 = nI (wl m + 1) from nAddR, nEq (by omega) (by omega)]
        exact ⟨fun _ => go, fun _ => ⟨fun _ => go, fun z => absurd z q⟩⟩
    | succ r ih =>
      intro k p _ hk h1 h2
      by_cases q : wl n = wl m + 1
      · have e := hk q
        have st : ∀ (y : Prop) [Decidable y], (y ↔ ∃ i, i < k + 1 ∧ wo n i = m) → EvI K mX12_isNear 2 120 [(0, .long (lN n)), (2, .long (lN m)), (4, .int (nI (wl n))), (5, .int (nI (wl m))), (7, .int (nI k))] [.int (if y then 1 else 0)] G Q := by
          intro y _ hy
          refine kX12_isNear_120 hL ?_
          try simp (disch := omega) only [nLe, nLeR, nLeL, nLt, nLtR, nLtL, nEq, nEqR, nEqL, nClamp, nClampR, nAdd, nAddR, nAddL, nSub, nSubR, nMul, nMulR, nMulL, nDivR, vIn, vInR, iteZ, iteP, lEq, lEqR, forall_eq, forall_const, true_implies, false_implies, not_true_eq_false, not_false_eq_true, true_and, and_true, implies_true, Decidable.not_not, Nat.le_refl]
          exact ih (k + 1) y (fun _ => by omega) (fun z => absurd q z) (fun _ => hy)
        refine kX12_isNear_83 hL ?_
        try simp (disch := omega) only [nLe, nLeR, nLeL, nLt, nLtR, nLtL, nEq, nEqR, nEqL, nClamp, nClampR, nAdd, nAddR, nAddL, nSub, nSubR, nMul, nMulR, nMulL, nDivR, vIn, vInR, iteZ, iteP, lEq, lEqR, forall_eq, forall_const, true_implies, false_implies, not_true_eq_false, not_false_eq_true, true_and, and_true, implies_true, Decidable.not_not, Nat.le_refl]
        refine ⟨fun z => by omega, fun _ => ⟨fun z => absurd q z, fun _ => ⟨fun zp => ?_, fun zp => s_X12_without hn (by omega) hL ?_⟩⟩⟩
        · have := st True ⟨fun _ => by obtain ⟨i, hi, hw⟩ := (h2 q).mp zp; exact ⟨i, by omega, hw⟩, fun _ => trivial⟩
          simpa using this
        · have hwl := wo_lt (i := k) hn
          have h9 : (27 : Nat) ^ 9 = 7625597484987 := by decide
          rw [pk_lEQ (by omega) (by omega)]
          refine ⟨fun z => ?_, fun z => ?_⟩
          · have := st False ⟨fun y => absurd y id, fun ⟨i, hi, hw⟩ => by
              rcases Nat.lt_succ_iff_lt_or_eq.mp hi with y | y
              · exact zp ((h2 q).mpr ⟨i, y, hw⟩)
              · subst y; exact z hw⟩
            simpa using this
          · have := st True ⟨fun _ => ⟨k, by omega, z⟩, fun _ => trivial⟩
            simpa using this
      · exact ih k p (fun z => absurd z q) h1 h2
  refine kX12_isNear_0 hL (s_X12_lettersOf hn hL (s_X12_lettersOf hm hL ?_))
  try simp (disch := omega) only [nLe, nLeR, nLeL, nLt, nLtR, nLtL, nEq, nEqR, nEqL, nClamp, nClampR, nAdd, nAddR, nAddL, nSub, nSubR, nMul, nMulR, nMulL, nDivR, vIn, vInR, iteZ, iteP, lEq, lEqR, forall_eq, forall_const, true_implies, false_implies, not_true_eq_false, not_false_eq_true, true_and, and_true, implies_true, Decidable.not_not, Nat.le_refl]
  have two : ∀ (p : Prop) [Decidable p], (¬ wl n = wl m + 1 → (p ↔ apX n m = true ∧ ¬ wl m = wl n + 1)) → (wl n = wl m + 1 → ¬ p) → EvI K mX12_isNear 2 83 [(0, .long (lN n)), (2, .long (lN m)), (4, .int (nI (wl n))), (5, .int (nI (wl m))), (6, .int (if p then 1 else 0)), (7, .int 0)] [] G Q := by
    intro p _ h1 h2
    exact l2 (wl n) 0 p (fun _ => by omega) h1 (fun z => ⟨fun y => absurd y (h2 z), fun ⟨i, hi, _⟩ => absurd hi (Nat.not_lt_zero i)⟩)
  refine ⟨fun z => ?_, fun z => ?_⟩
  · have hf : ¬ wl n = wl m + 1 → (False ↔ apX n m = true ∧ ¬ wl m = wl n + 1) := by
      intro q
      refine ⟨fun y => absurd y id, fun ⟨y1, y2⟩ => ?_⟩
      unfold apX at y1
      simp at y1
      omega
    have := two False hf (fun _ => id)
    simpa using this
  · have key : ∀ r k, k + r = wl n → EvI K mX12_isNear 2 28 [(0, .long (lN n)), (2, .long (lN m)), (4, .int (nI (wl n))), (5, .int (nI (wl m))), (7, .int (nI (dfc n m k))), (8, .int (nI k))] [] G Q := by
      intro r
      induction r with
      | zero =>
        intro k hk
        have hle := fb_ct_le (fun k => !(dg n k == dg m k)) k
        change dfc n m k ≤ k at hle
        have he : k = wl n := by omega
        refine kX12_isNear_28 hL ?_
        try simp (disch := omega) only [nLe, nLeR, nLeL, nLt, nLtR, nLtL, nEq, nEqR, nEqL, nClamp, nClampR, nAdd, nAddR, nAddL, nSub, nSubR, nMul, nMulR, nMulL, nDivR, vIn, vInR, iteZ, iteP, lEq, lEqR, forall_eq, forall_const, true_implies, false_implies, not_true_eq_false, not_false_eq_true, true_and, and_true, implies_true, Decidable.not_not, Nat.le_refl]
        refine ⟨fun _ => ?_, fun y => by omega⟩
        have ha := apX_eq hn hm z
        rw [he]
        refine ⟨fun y => ?_, fun y => ?_⟩
        · have := two False (fun _ => ⟨fun u => absurd u id, fun u => by rw [ha] at u; simp at u; exact y u.1⟩) (fun _ => id)
          simpa using this
        · have := two True (fun _ => ⟨fun _ => ⟨by rw [ha]; simp [y], by omega⟩, fun _ => trivial⟩) (fun u => by omega)
          simpa using this
      | succ r ih =>
        intro k hk
        have hle := fb_ct_le (fun k => !(dg n k == dg m k)) k
        change dfc n m k ≤ k at hle
        have d1 : dg n k < 27 := Nat.mod_lt _ (by decide)
        have d2 : dg m k < 27 := Nat.mod_lt _ (by decide)
        have hs : dfc n m (k + 1) = dfc n m k + if !(dg n k == dg m k) then 1 else 0 := rfl
        refine kX12_isNear_28 hL ?_
        try simp (disch := omega) only [nLe, nLeR, nLeL, nLt, nLtR, nLtL, nEq, nEqR, nEqL, nClamp, nClampR, nAdd, nAddR, nAddL, nSub, nSubR, nMul, nMulR, nMulL, nDivR, vIn, vInR, iteZ, iteP, lEq, lEqR, forall_eq, forall_const, true_implies, false_implies, not_true_eq_false, not_false_eq_true, true_and, and_true, implies_true, Decidable.not_not, Nat.le_refl]
        refine ⟨fun y => by omega, fun _ => s_X12_letter hn (by omega) hL (s_X12_letter hm (by omega) hL ?_)⟩
        try simp (disch := omega) only [nLe, nLeR, nLeL, nLt, nLtR, nLtL, nEq, nEqR, nEqL, nClamp, nClampR, nAdd, nAddR, nAddL, nSub, nSubR, nMul, nMulR, nMulL, nDivR, vIn, vInR, iteZ, iteP, lEq, lEqR, forall_eq, forall_const, true_implies, false_implies, not_true_eq_false, not_false_eq_true, true_and, and_true, implies_true, Decidable.not_not, Nat.le_refl]
        refine ⟨fun y => kX12_isNear_58 hL ?_, fun y => kX12_isNear_58 hL ?_⟩
        · try simp (disch := omega) only [nLe, nLeR, nLeL, nLt, nLtR, nLtL, nEq, nEqR, nEqL, nClamp, nClampR, nAdd, nAddR, nAddL, nSub, nSubR, nMul, nMulR, nMulL, nDivR, vIn, vInR, iteZ, iteP, lEq, lEqR, forall_eq, forall_const, true_implies, false_implies, not_true_eq_false, not_false_eq_true, true_and, and_true, implies_true, Decidable.not_not, Nat.le_refl]
          have := ih (k + 1) (by omega)
          rw [hs, if_pos (by simp [y])] at this
          exact this
        · try simp (disch := omega) only [nLe, nLeR, nLeL, nLt, nLtR, nLtL, nEq, nEqR, nEqL, nClamp, nClampR, nAdd, nAddR, nAddL, nSub, nSubR, nMul, nMulR, nMulL, nDivR, vIn, vInR, iteZ, iteP, lEq, lEqR, forall_eq, forall_const, true_implies, false_implies, not_true_eq_false, not_false_eq_true, true_and, and_true, implies_true, Decidable.not_not, Nat.le_refl]
          have := ih (k + 1) (by omega)
          rw [hs, if_neg (by simp [y])] at this
          exact this
    exact key (wl n) 0 (by omega)
theorem s_X12_hasS {Q : Int32 → St → Prop} {n m : Nat} (hn : n < 27 ^ 8) (hm : m < 27 ^ 8) (hL : Lay G.2.2) (hQ : Q (if n = 27 * m + 19 then 1 else 0) G) : EvI K mX12_hasS 0 0 [(0, .long (lN n)), (2, .long (lN m))] [] G Q := by
  have h8 : (27 : Nat) ^ 8 = 282429536481 := by decide
  refine kX12_hasS_0 hL ?_
  rw [show (27 : Int64) = lN 27 from rfl, show (19 : Int64) = lN 19 from rfl, pk_lRem (by omega) (by decide) (by decide), pk_lDiv (by omega) (by decide) (by decide)]
  try simp (disch := omega) only [nLe, nLeR, nLeL, nLt, nLtR, nLtL, nEq, nEqR, nEqL, nClamp, nClampR, nAdd, nAddR, nAddL, nSub, nSubR, nMul, nMulR, nMulL, nDivR, vIn, vInR, iteZ, iteP, lEq, lEqR, forall_eq, forall_const, true_implies, false_implies, not_true_eq_false, not_false_eq_true, true_and, and_true, implies_true, Decidable.not_not, Nat.le_refl]
  refine ⟨fun z => ?_, fun z => ⟨fun z2 => ?_, fun z2 => ?_⟩⟩
  · rw [if_neg (by omega)] at hQ; exact hQ
  · rw [if_neg (by omega)] at hQ; exact hQ
  · rw [if_pos (by omega)] at hQ; exact hQ
theorem s_X12_filled {Q : Int64 → St → Prop} {n : Nat} (hn : n < 27 ^ 8) (hL : Lay G.2.2) (hQ : Q (lN (n * 27 ^ (8 - wl n))) G) : EvL K mX12_filled 1 0 [(0, .long (lN n))] [] G Q := by
  have hl := wl_le n
  refine kX12_filled_0 hL (s_X12_lettersOf hn hL ?_)
  rw [show (8 : Int32) = nI 8 from rfl]
  try simp (disch := omega) only [nLe, nLeR, nLeL, nLt, nLtR, nLtL, nEq, nEqR, nEqL, nClamp, nClampR, nAdd, nAddR, nAddL, nSub, nSubR, nMul, nMulR, nMulL, nDivR, vIn, vInR, iteZ, iteP, lEq, lEqR, forall_eq, forall_const, true_implies, false_implies, not_true_eq_false, not_false_eq_true, true_and, and_true, implies_true, Decidable.not_not, Nat.le_refl]
  refine s_X12_power (by omega) hL ?_
  rw [lN_mul]
  exact hQ
end MWORD

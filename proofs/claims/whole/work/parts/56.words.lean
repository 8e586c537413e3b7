/-! Math, Arrays.fill, Words -/
section JDK
variable {K : KT} {G : St}
theorem s_J9_abs {Q : Int32 → St → Prop} {x : Int32} (hL : Lay G.2.2) (hQ : Q (if 0 ≤ x then x else -x) G) : EvI K mJ9_abs_0f7a4 0 0 [(0, .int x)] [] G Q := by
  refine kJ9_abs_0f7a4_0 hL ⟨fun q => ?_, fun q => ?_⟩
  · rw [if_pos q] at hQ; exact hQ
  · rw [if_neg q] at hQ; exact hQ
theorem s_J9_max {Q : Int32 → St → Prop} {a b : Nat} (ha : a < 2 ^ 31) (hb : b < 2 ^ 31) (hL : Lay G.2.2) (hQ : Q (nI (max a b)) G) : EvI K mJ9_max_7cf53 0 0 [(0, .int (nI a)), (1, .int (nI b))] [] G Q := by
  refine kJ9_max_7cf53_0 hL (pk_lt a b (fun q => ?_) (fun q => ?_))
  · rw [Nat.max_eq_right (by omega)] at hQ; exact hQ
  · rw [Nat.max_eq_left (by omega)] at hQ; exact hQ
theorem s_J9_min {Q : Int32 → St → Prop} {a b : Nat} (ha : a < 2 ^ 31) (hb : b < 2 ^ 31) (hL : Lay G.2.2) (hQ : Q (nI (min a b)) G) : EvI K mJ9_min_7cf53 0 0 [(0, .int (nI a)), (1, .int (nI b))] [] G Q := by
  refine kJ9_min_7cf53_0 hL (pk_lt b a (fun q => ?_) (fun q => ?_))
  · rw [Nat.min_eq_right (by omega)] at hQ; exact hQ
  · rw [Nat.min_eq_left (by omega)] at hQ; exact hQ
theorem Ar.kp {S : Nat → Prop} {G G1 : St} {i t n : Nat} (h : Ar G i t n) (k : Kp S G G1) : Ar G1 i t n := by
  obtain ⟨a, b, c, d⟩ := h
  have e := k.1
  refine ⟨?_, b, ?_, ?_⟩
  · show G1.2.2.2.2.1 i = _; rw [e]; exact a
  · show i < G1.2.2.2.2.2.1; rw [e]; exact c
  · show G1.2.2.2.1 i = _; rw [e]; exact d
theorem s_J7_fill {Q : St → Prop} {a n : Nat} {x : Int32} (hL : Lay G.2.2) (ha : Ar G a 0 n) (hn : n < 2 ^ 31) (hQ : ∀ G', Kp (fun i => i = a) G G' → (∀ j, j < n → sI G' a j = x) → (∀ j, n ≤ j → sI G' a j = sI G a j) → sL G' a = sL G a → Q G') : EvV K mJ7_fill_53178 0 0 [(0, .ref a), (1, .int x)] [] G Q := by
  refine kJ7_fill_53178_0 hL ha ?_
  have key : ∀ (m i : Nat) (G1 : St), i + m = n → Lay G1.2.2 → Kp (fun i => i = a) G G1 → (∀ j, j < i → sI G1 a j = x) → (∀ j, i ≤ j → sI G1 a j = sI G a j) → sL G1 a = sL G a → EvV K mJ7_fill_53178 0 5 [(0, .ref a), (1, .int x), (2, .int (nI i)), (3, .int (nI n))] [] G1 Q := by
    intro m
    induction m with
    | zero =>
      intro i G1 hi hL1 hk h1 h2 h3
      refine kJ7_fill_53178_5 hL1 (ha.kp hk) (pk_le n i (fun _ => ?_) (fun q => by omega))
      exact hQ G1 hk (fun j hj => h1 j (by omega)) (fun j hj => h2 j (by omega)) h3
    | succ m ih =>
      intro i G1 hi hL1 hk h1 h2 h3
      refine kJ7_fill_53178_5 hL1 (ha.kp hk) (pk_le n i (fun q => by omega) (fun q => ⟨pk_in i n (by omega), ?_⟩))
      rw [nI_clamp (by omega), nI_1]
      refine ih (i + 1) _ (by omega) hL1 (hk.tr (kp_uI rfl)) (fun j hj => ?_) (fun j hj => ?_) h3
      · rw [gI]
        by_cases e : j = i
        · simp [e]
        · simp [e]; exact h1 j (by omega)
      · rw [gI]
        have e : ¬ j = i := by omega
        simp [e]; exact h2 j (by omega)
  exact key n 0 G (by omega) hL Kp.rf (fun j hj => absurd hj (Nat.not_lt_zero j)) (fun _ _ => rfl) rfl
/-! words as numbers -/
theorem pw_lt {j : Nat} (h : j ≤ 8) : 27 ^ j ≤ 282429536481 := Nat.le_trans (Nat.pow_le_pow_right (by decide) h) (by decide)
theorem pw_pos (j : Nat) : 0 < 27 ^ j := Nat.pow_pos (by decide)
/-- how many letters: 8 at most -/
def wl (n : Nat) : Nat := fa_first (fun k => decide (n < 27 ^ k)) 8
theorem wl_le (n : Nat) : wl n ≤ 8 := fa_first_le _ 8
theorem wl_no {n k : Nat} (h : k < wl n) : 27 ^ k ≤ n := by
  have := fa_first_no (fun k => decide (n < 27 ^ k)) 8 k h
  simpa using this
theorem wl_yes {n : Nat} (h : n < 27 ^ 8) : n < 27 ^ wl n := by
  rcases Nat.lt_or_ge (wl n) 8 with q | q
  · have := fa_first_yes (fun k => decide (n < 27 ^ k)) 8 q
    exact of_decide_eq_true this
  · rw [Nat.le_antisymm (wl_le n) q]; exact h
theorem s_X10_lengthOf {Q : Int32 → St → Prop} {n : Nat} (hn : n < 2 ^ 63) (hL : Lay G.2.2) (hQ : Q (nI (wl n)) G) : EvI K mX10_lengthOf 0 0 [(0, .long (lN n))] [] G Q := by
  refine kX10_lengthOf_0 hL ?_
  have key : ∀ m k, k + m = 8 → (∀ j, j < k → (decide (n < 27 ^ j)) = false) → EvI K mX10_lengthOf 0 2 [(0, .long (lN n)), (2, .int (nI k))] [] G Q := by
    intro m
    induction m with
    | zero =>
      intro k hk hp
      refine kX10_lengthOf_2 hL (pk_le 8 k (fun _ => ?_) (fun q => by omega))
      have e : wl n = 8 := first_none (fun j hj => hp j (by omega))
      rw [e] at hQ
      rw [show k = 8 by omega]; exact hQ
    | succ m ih =>
      intro k hk hp
      refine kX10_lengthOf_2 hL (pk_le 8 k (fun q => by omega) (fun q => ⟨pk_in k 9 (by omega), ?_⟩))
      have hpl := pw_lt (j := k) (by omega)
      rw [nI_clamp (by omega), pw, pk_lLT hn (by omega), nI_1]
      refine ⟨fun e => ?_, fun e => ih (k + 1) (by omega) (fun j hj => ?_)⟩
      · have e2 : wl n = k := first_eq hp (by simpa using e) (by omega)
        rw [e2] at hQ; exact hQ
      · rcases Nat.lt_succ_iff_lt_or_eq.mp hj with q2 | q2
        · exact hp j q2
        · subst q2; simpa using e
  exact key 8 0 (by omega) (fun j hj => absurd hj (Nat.not_lt_zero j))
theorem s_X10_orderOf {Q : Int64 → St → Prop} {n : Nat} (hn : n < 27 ^ 8) (hL : Lay G.2.2) (hQ : Q (lN (n * 27 ^ (8 - wl n))) G) : EvL K mX10_orderOf 1 0 [(0, .long (lN n))] [] G Q := by
  have h8 : (27 : Nat) ^ 8 = 282429536481 := by decide
  refine kX10_orderOf_0 hL (s_X10_lengthOf (by omega) hL ?_)
  have hl := wl_le n
  rw [show (8 : Int32) = nI 8 from rfl, pk_sub hl]
  refine ⟨pk_in (8 - wl n) 9 (by omega), ?_⟩
  rw [nI_clamp (by omega), pw, lN_mul]
  exact hQ
/-- without the letter i (from the end) -/
def wo (n i : Nat) : Nat := n / 27 ^ (i + 1) * 27 ^ i + n % 27 ^ i
theorem s_X10_without {Q : Int64 → St → Prop} {n i : Nat} (hn : n < 2 ^ 63) (hi : i < 8) (hL : Lay G.2.2) (hQ : Q (lN (wo n i)) G) : EvL K mX10_without 0 0 [(0, .long (lN n)), (2, .int (nI i))] [] G Q := by
  have h1 := pw_lt (j := i) (by omega)
  have h2 := pw_lt (j := i + 1) (by omega)
  have p1 := pw_pos i
  have p2 := pw_pos (i + 1)
  refine kX10_without_0 hL ⟨fun q => absurd q (nI_pos (by omega)), fun _ => pk_lt i 8 (fun _ => ?_) (fun q => by omega)⟩
  rw [nI_1]
  refine ⟨pk_in (i + 1) 9 (by omega), ?_, pk_in i 9 (by omega), pk_in i 9 (by omega), ?_, fun v6 ev6 => ?_⟩
  · rw [nI_clamp (by omega), pw]
    intro q
    have := (pk_lEQ (a := 27 ^ (i + 1)) (b := 0) (by omega) (by decide)).mp q
    omega
  · rw [nI_clamp (by omega), pw]
    intro q
    have := (pk_lEQ (a := 27 ^ i) (b := 0) (by omega) (by decide)).mp q
    omega
  · rw [nI_clamp (by omega), nI_clamp (by omega), pw, pw, pk_lDiv hn p2 (by omega), pk_lRem hn p1 (by omega), lN_mul, lN_add] at ev6
    rw [ev6]; exact hQ
theorem s_X10_isOtherForm {Q : Int32 → St → Prop} {n m : Nat} (hn : n < 27 ^ 8) (hm : m < 27 ^ 8) (hL : Lay G.2.2) (hQ : Q (if n = 27 * m + 19 ∨ m = 27 * n + 19 then 1 else 0) G) : EvI K mX10_isOtherForm 0 0 [(0, .long (lN n)), (2, .long (lN m))] [] G Q := by
  have h8 : (27 : Nat) ^ 8 = 282429536481 := by decide
  have e : ∀ k : Nat, lN k * 27 + 19 = lN (27 * k + 19) := fun k => by
    show lN k * lN 27 + lN 19 = _
    rw [lN_mul, lN_add, Nat.mul_comm]
  refine kX10_isOtherForm_0 hL ?_
  rw [e, e, pk_lEQ (by omega) (by omega), pk_lEQ (by omega) (by omega)]
  refine ⟨fun q => ?_, fun q => ⟨fun q2 => ?_, fun q2 => ?_⟩⟩
  · rw [if_pos (Or.inl q)] at hQ; exact hQ
  · rw [if_neg (fun z => z.elim q q2)] at hQ; exact hQ
  · rw [if_pos (Or.inr q2)] at hQ; exact hQ
/-- one letter apart, as the class asks it -/
def apX (n m : Nat) : Bool := !(n == m) && decide (wl n ≤ wl m + 1 ∧ wl m ≤ wl n + 1) && decide (fa_first (fun i => (if wl n = max (wl n) (wl m) then wo n i else n) == (if wl m = max (wl n) (wl m) then wo m i else m)) (max (wl n) (wl m)) < max (wl n) (wl m))
theorem wo_lt {n i : Nat} (h : n < 27 ^ 8) : wo n i < 27 ^ 9 := by
  have h1 : n / 27 ^ (i + 1) * 27 ^ i ≤ n := by
    rw [Nat.pow_succ, ← Nat.div_div_eq_div_mul]
    exact Nat.le_trans (Nat.mul_le_mul_right _ (Nat.div_le_self _ _)) (Nat.div_mul_le_self _ _)
  have h2 := Nat.mod_le n (27 ^ i)
  have h8 : (27 : Nat) ^ 8 = 282429536481 := by decide
  have h9 : (27 : Nat) ^ 9 = 7625597484987 := by decide
  unfold wo
  omega
theorem s_X10_isOneLetterApart {Q : Int32 → St → Prop} {n m : Nat} (hn : n < 27 ^ 8) (hm : m < 27 ^ 8) (hL : Lay G.2.2) (hQ : Q (if apX n m then 1 else 0) G) : EvI K mX10_isOneLetterApart 1 0 [(0, .long (lN n)), (2, .long (lN m))] [] G Q := by
  have h8 : (27 : Nat) ^ 8 = 282429536481 := by decide
  have h9 : (27 : Nat) ^ 9 = 7625597484987 := by decide
  have ln := wl_le n
  have lm := wl_le m
  refine kX10_isOneLetterApart_0 hL (s_X10_lengthOf (by omega) hL (s_X10_lengthOf (by omega) hL ?_))
  rw [pk_lEQ (by omega) (by omega)]
  refine ⟨fun e => ?_, fun e => s_J9_abs hL ?_⟩
  · rw [show apX n m = false by simp [apX, e]] at hQ; exact hQ
  · have hab : (if 0 ≤ nI (wl n) - nI (wl m) then nI (wl n) - nI (wl m) else -(nI (wl n) - nI (wl m))) = nI (if wl m ≤ wl n then wl n - wl m else wl m - wl n) := by
      have hs := pk_sub_toInt (a := wl n) (b := wl m) (by omega) (by omega)
      apply Int32.toInt_inj.mp
      by_cases q : wl m ≤ wl n
      · rw [if_pos ((fa_le _ _).mpr (by rw [hs]; simp; omega)), if_pos q, hs, nI_toInt (by omega)]; omega
      · rw [if_neg (fun z => by have := (fa_le _ _).mp z; rw [hs] at this; simp at this; omega), if_neg q, fb_negI (by rw [hs]; omega), hs, nI_toInt (by omega)]; omega
    rw [hab]
    have hbig : (if wl m ≤ wl n then wl n - wl m else wl m - wl n) < 2 ^ 31 := by split <;> omega
    refine pk_le (if wl m ≤ wl n then wl n - wl m else wl m - wl n) 1 (fun q => ?_) (fun q => ?_)
    · have hd : wl n ≤ wl m + 1 ∧ wl m ≤ wl n + 1 := by split at q <;> omega
      refine s_J9_max (by omega) (by omega) hL ?_
      generalize hmx : max (wl n) (wl m) = mx at hQ ⊢
      have hmx8 : mx ≤ 8 := by omega
      have key : ∀ k i, i + k = mx → (∀ j, j < i → ((if wl n = mx then wo n j else n) == (if wl m = mx then wo m j else m)) = false) → EvI K mX10_isOneLetterApart 1 44 [(0, .long (lN n)), (2, .long (lN m)), (4, .int (nI (wl n))), (5, .int (nI (wl m))), (6, .int (nI mx)), (7, .int (nI i))] [] G Q := by
        intro k
        induction k with
        | zero =>
          intro i hi hp
          refine kX10_isOneLetterApart_44 hL (pk_le mx i (fun _ => ?_) (fun q => by omega))
          have e3 := first_none (p := fun i => (if wl n = mx then wo n i else n) == (if wl m = mx then wo m i else m)) (n := mx) (fun j hj => hp j (by omega))
          have e4 : apX n m = false := by
            unfold apX; rw [hmx, e3]; simp
          rw [e4] at hQ; exact hQ
        | succ k ih =>
          intro i hi hp
          have hB : ∀ A B : Nat, A < 2 ^ 63 → B < 2 ^ 63 → A = (if wl n = mx then wo n i else n) → B = (if wl m = mx then wo m i else m) → EvI K mX10_isOneLetterApart 1 87 [(0, .long (lN n)), (2, .long (lN m)), (4, .int (nI (wl n))), (5, .int (nI (wl m))), (6, .int (nI mx)), (7, .int (nI i)), (8, .long (lN A))] [.long (lN B)] G Q := by
            intro A B hA hB eA eB
            refine kX10_isOneLetterApart_87 hL ?_
            rw [pk_lEQ hA hB, nI_1]
            refine ⟨fun z => ih (i + 1) (by omega) (fun j hj => ?_), fun z => ?_⟩
            · rcases Nat.lt_succ_iff_lt_or_eq.mp hj with q2 | q2
              · exact hp j q2
              · subst q2; rw [← eA, ← eB]; simpa using z
            · have e3 := first_eq (p := fun i => (if wl n = mx then wo n i else n) == (if wl m = mx then wo m i else m)) (n := mx) (t := i) hp (by show ((if wl n = mx then wo n i else n) == (if wl m = mx then wo m i else m)) = true; rw [← eA, ← eB]; simpa using z) (by omega)
              have e4 : apX n m = true := by
                unfold apX; rw [hmx, e3]; simp [e, hd]; omega
              rw [e4] at hQ; exact hQ
          have hA : ∀ A : Nat, A < 2 ^ 63 → A = (if wl n = mx then wo n i else n) → EvI K mX10_isOneLetterApart 1 68 [(0, .long (lN n)), (2, .long (lN m)), (4, .int (nI (wl n))), (5, .int (nI (wl m))), (6, .int (nI mx)), (7, .int (nI i))] [.long (lN A)] G Q := by
            intro A hA eA
            refine kX10_isOneLetterApart_68 hL ?_
            rw [nI_eq (by omega) (by omega)]
            refine ⟨fun z => hB A m hA (by omega) eA (by rw [if_neg z]), fun z => s_X10_without (by omega) (by omega) hL (hB A (wo m i) hA (by have := wo_lt (i := i) hm; omega) eA (by rw [if_pos z]))⟩
          refine kX10_isOneLetterApart_44 hL (pk_le mx i (fun q => by omega) (fun q => ?_))
          rw [nI_eq (by omega) (by omega)]
          exact ⟨fun z => hA n (by omega) (by rw [if_neg z]), fun z => s_X10_without (by omega) (by omega) hL (hA (wo n i) (by have := wo_lt (i := i) hn; omega) (by rw [if_pos z]))⟩
      exact key mx 0 (by omega) (fun j hj => absurd hj (Nat.not_lt_zero j))
    · have e4 : apX n m = false := by
        unfold apX
        have : ¬ (wl n ≤ wl m + 1 ∧ wl m ≤ wl n + 1) := by split at q <;> omega
        simp [this]
      rw [e4] at hQ; exact hQ
/-- the words that are no names -/
def rsvd (n : Nat) : Bool := n == 10650290 || n == 397973 || n == 212302449 || n == 286880 || n == 279252 || n == 311436 || n == 11438892 || n == 411
theorem s_X10_isReserved {Q : Int32 → St → Prop} {n : Nat} (hn : n < 2 ^ 63) (hL : Lay G.2.2) (hQ : Q (if rsvd n then 1 else 0) G) : EvI K mX10_isReserved 0 0 [(0, .long (lN n))] [] G Q := by
  refine kX10_isReserved_0 hL ?_
  have e : ∀ k : Nat, k < 2 ^ 63 → (lN n = lN k ↔ n = k) := fun k hk => pk_lEQ hn hk
  have y : ∀ k : Nat, rsvd k = true → n = k → Q 1 G := fun k hk q => by subst q; rw [hk] at hQ; exact hQ
  refine ⟨fun q => y _ (by decide) ((e 10650290 (by decide)).mp q), fun q1 => ⟨fun q => y _ (by decide) ((e 397973 (by decide)).mp q), fun q2 => ⟨fun q => y _ (by decide) ((e 212302449 (by decide)).mp q), fun q3 => ⟨fun q => y _ (by decide) ((e 286880 (by decide)).mp q), fun q4 => ⟨fun q => y _ (by decide) ((e 279252 (by decide)).mp q), fun q5 => ⟨fun q => y _ (by decide) ((e 311436 (by decide)).mp q), fun q6 => ⟨fun q => y _ (by decide) ((e 11438892 (by decide)).mp q), fun q7 => ⟨fun q8 => ?_, fun q => y _ (by decide) ((e 411 (by decide)).mp q)⟩⟩⟩⟩⟩⟩⟩⟩
  have hr : rsvd n = false := by
    unfold rsvd
    have f1 := fun z => q1 ((e 10650290 (by decide)).mpr z)
    have f2 := fun z => q2 ((e 397973 (by decide)).mpr z)
    have f3 := fun z => q3 ((e 212302449 (by decide)).mpr z)
    have f4 := fun z => q4 ((e 286880 (by decide)).mpr z)
    have f5 := fun z => q5 ((e 279252 (by decide)).mpr z)
    have f6 := fun z => q6 ((e 311436 (by decide)).mpr z)
    have f7 := fun z => q7 ((e 11438892 (by decide)).mpr z)
    have f8 := fun z => q8 ((e 411 (by decide)).mpr z)
    simp
    exact ⟨⟨⟨⟨⟨⟨⟨f1, f2⟩, f3⟩, f4⟩, f5⟩, f6⟩, f7⟩, f8⟩
  rw [hr] at hQ; exact hQ
end JDK

/-! the words that are read -/
theorem wv_27 {T : TPt} {p k : Nat} (h : isLt (T.2 (p + k)) = true) : wv T p (k + 1) % 27 ≠ 0 := by
  unfold isLt at h
  have h' := of_decide_eq_true h
  rw [wv]
  omega
theorem tok_g {T : TPt} {p : Nat} (hp : p ≤ T.1) (h : (tok T p).1 = 1) : (tok T p).2.2.1 % 27 ≠ 0 := by
  unfold tok at h ⊢
  simp only [] at h ⊢
  split at h
  · exact absurd (show (0 : Nat) = 1 from h) (by decide)
  · rename_i h1
    rw [if_neg h1]
    split at h
    · rename_i h2
      rw [if_pos h2]
      show wv T (rn isBl T p) (rn isLt T (rn isBl T p) - rn isBl T p) % 27 ≠ 0
      have hq := rn_le (P := isBl) hp
      have gt : rn isBl T p < rn isLt T (rn isBl T p) := by
        rcases Nat.eq_or_lt_of_le (rn_ge isLt T (rn isBl T p)) with z | z
        · have := rn_end (P := isLt) (T := T) (p := rn isBl T p) (by omega)
          rw [← z, h2] at this; cases this
        · exact z
      obtain ⟨n, hn⟩ : ∃ n, rn isLt T (rn isBl T p) - rn isBl T p = n + 1 := ⟨rn isLt T (rn isBl T p) - rn isBl T p - 1, by omega⟩
      rw [hn]
      exact wv_27 (rn_in (P := isLt) (p := rn isBl T p) (Nat.le_add_right _ _) (by omega))
    · rename_i h2
      split at h
      · split at h
        · exact absurd (show (2 : Nat) = 1 from h) (by decide)
        · exact absurd (show (4 : Nat) = 1 from h) (by decide)
      · split at h
        · exact absurd (show (3 : Nat) = 1 from h) (by decide)
        · exact absurd (show (4 : Nat) = 1 from h) (by decide)
theorem tk_g {T : TPt} {i : Nat} (hA : ∀ j, j < T.1 → okS (T.2 j)) (h : (tk T i).1 = 1) : gw (tk T i).2.2.1 :=
  ⟨(tok_v (tp_le T i) hA (show (tk T i).1 ≠ 4 by omega)).1, tok_g (tp_le T i) h⟩
theorem tk_n {T : TPt} {i : Nat} (hA : ∀ j, j < T.1 → okS (T.2 j)) (h : (tk T i).1 = 2) : (tk T i).2.2.1 < 10000 :=
  (tok_v (tp_le T i) hA (show (tk T i).1 ≠ 4 by omega)).2.2.1 h
theorem isN_1 {T : TPt} {i : Nat} (h : isN (tk T i) = true) : (tk T i).1 = 1 := by
  unfold isN at h
  simp only [Bool.and_eq_true] at h
  simpa using h.1
def okQ3 (q : TQt) : Prop := q.1 ≤ 4 ∧ (∀ k, k < q.1 → q.2.1 k ≤ 3) ∧ okQ q
theorem okQ_add {T : TPt} {q : TQt} {k j : Nat} (hA : ∀ j, j < T.1 → okS (T.2 j)) (h : okQ3 q) (h4 : q.1 < 4) (hk : k ≤ 3) (h1 : k ≤ 1 → isN (tk T j) = true) (h2 : 2 ≤ k → (tk T j).1 = 2) : okQ3 (addQ q k (vl T j)) := by
  obtain ⟨a1, a2, a3⟩ := h
  refine ⟨h4, fun i hi => ?_, fun i hi => ?_⟩
  · have hi : i < q.1 + 1 := hi
    show (if i = q.1 then k else q.2.1 i) ≤ 3
    by_cases z : i = q.1
    · rw [if_pos z]; exact hk
    · rw [if_neg z]; exact a2 i (by omega)
  · have hi : i < q.1 + 1 := hi
    show ((if i = q.1 then k else q.2.1 i) ≤ 1 → ∃ n, (if i = q.1 then vl T j else q.2.2 i) = lN n ∧ gw n) ∧ (2 ≤ (if i = q.1 then k else q.2.1 i) → ∃ n, (if i = q.1 then vl T j else q.2.2 i) = lN n ∧ n < 10000)
    by_cases z : i = q.1
    · rw [if_pos z, if_pos z]
      exact ⟨fun y => ⟨_, rfl, tk_g hA (isN_1 (h1 y))⟩, fun y => ⟨_, rfl, tk_n hA (h2 y)⟩⟩
    · rw [if_neg z, if_neg z]
      exact a3 i (by omega)
theorem rdTerm_q {T : TPt} {q : TQt} {i : Nat} (hA : ∀ j, j < T.1 → okS (T.2 j)) (h : okQ3 q) : okQ3 (rdTerm T q i).2.1 := by
  by_cases z : (rdTerm T q i).1 = 0
  · obtain ⟨h4, k, j, b1, b2, b3, b4, -⟩ := rdTerm_ok z
    rw [b2]
    exact okQ_add hA h h4 b1 b3 b4
  · rw [rdTerm_bad z]; exact h
theorem rdAsk_q {T : TPt} (hA : ∀ j, j < T.1 → okS (T.2 j)) : ∀ {m : Nat} {q : TQt} {i : Nat}, okQ3 q → okQ3 (rdAsk T m q i).2.1
  | 0, q, i, h => h
  | m + 1, q, i, h => by
    rw [rdAsk]
    split
    · exact rdTerm_q hA h
    · split
      · exact rdTerm_q hA h
      · exact rdAsk_q hA (rdTerm_q hA h)
theorem eQ_ok : okQ3 eQ := ⟨Nat.zero_le _, fun k hk => absurd hk (Nat.not_lt_zero _), fun k hk => absurd hk (Nat.not_lt_zero _)⟩

/-! what a question that was read may be -/
theorem rdSR_le {T : TPt} {b : TBt} : ∀ {m : Nat} {cn : Nat → Nat} {i : Nat}, (∀ k, cn k + m ≤ 5) → ∀ k, (rdSR T b m cn i).2.1 k ≤ 5
  | 0, cn, i, h, k => by
    have := h k
    rw [rdSR]
    split
    · show cn k ≤ 5; omega
    · show cn k ≤ 5; omega
  | m + 1, cn, i, h, k => by
    have hk := h k
    have hs : ∀ k, (fun t => if t = fT b (vl T i) then cn t + 1 else cn t) k + m ≤ 5 := fun k => by
      have := h k
      show (if k = fT b (vl T i) then cn k + 1 else cn k) + m ≤ 5
      split <;> omega
    rw [rdSR]
    split
    · show cn k ≤ 5; omega
    · split
      · exact rdSR_le hs k
      · split
        · have := hs k
          show (if k = fT b (vl T i) then cn k + 1 else cn k) ≤ 5
          have h2 : (if k = fT b (vl T i) then cn k + 1 else cn k) + m ≤ 5 := this
          omega
        · show cn k ≤ 5; omega
theorem rdST_le {T : TPt} {b : TBt} (hb : b.1 ≤ 5) : ∀ {m : Nat} {q : TQt} {tn : Nat → Nat} {i : Nat}, (∀ k, tn k < 5) → ∀ k, (rdST T b m q tn i).2.2 k < 5
  | 0, q, tn, i, h, k => h k
  | m + 1, q, tn, i, h, k => by
    rw [rdST]
    split
    · exact h k
    · rename_i z
      have z : (rdOf T b q i).1 = 0 := by
        apply Classical.byContradiction
        exact z
      obtain ⟨-, -, n0, eq⟩ := rdOf_ok z
      have t5 : (rdOf T b q i).2.2.1 < 5 := by
        rw [eq]
        have := (rdName_0 n0).2
        show fT b _ < 5
        omega
      have hs : ∀ k, (fun k => if k = q.1 then (rdOf T b q i).2.2.1 else tn k) k < 5 := fun k => by
        show (if k = q.1 then (rdOf T b q i).2.2.1 else tn k) < 5
        split
        · exact t5
        · exact h k
      split
      · exact hs k
      · split
        · exact rdST_le hb hs k
        · exact h k
theorem rdQst_cn {T : TPt} {b : TBt} (hb : b.1 ≤ 5) : (∀ k, (rdQst T b).2.2.1 k ≤ 5) ∧ ∀ k, (rdQst T b).2.2.2 k < 5 := by
  unfold rdQst
  split
  · exact ⟨fun k => Nat.zero_le _, fun k => (by decide : (0 : Nat) < 5)⟩
  · exact ⟨rdSR_le (fun k => by show 0 + 5 ≤ 5; decide), rdST_le hb (fun k => (by decide : (0 : Nat) < 5))⟩
theorem rdSR_lt {T : TPt} {b : TBt} (hT : T.1 ≤ 1000) : ∀ {m : Nat} {cn : Nat → Nat} {i : Nat}, (rdSR T b m cn i).1 < 20000
  | 0, cn, i => by
    rw [rdSR]
    split
    · exact rdName_lt hT
    · exact fx_lt hT (by decide)
  | m + 1, cn, i => by
    rw [rdSR]
    split
    · exact rdName_lt hT
    · split
      · exact rdSR_lt hT
      · split
        · show (0 : Nat) < 20000; decide
        · exact fx_lt hT (by decide)
theorem rdST_lt {T : TPt} {b : TBt} (hT : T.1 ≤ 1000) : ∀ {m : Nat} {q : TQt} {tn : Nat → Nat} {i : Nat}, (rdST T b m q tn i).1 < 20000
  | 0, q, tn, i => by show (0 : Nat) < 20000; decide
  | m + 1, q, tn, i => by
    rw [rdST]
    split
    · exact rdOf_lt hT
    · split
      · show (0 : Nat) < 20000; decide
      · split
        · exact rdST_lt hT
        · exact fx_lt hT (by decide)
theorem rdQst_lt {T : TPt} {b : TBt} (hT : T.1 ≤ 1000) : (rdQst T b).1 < 20000 := by
  unfold rdQst
  split
  · exact rdSR_lt hT
  · exact rdST_lt hT

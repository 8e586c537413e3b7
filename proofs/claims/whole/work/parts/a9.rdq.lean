/-! what a question that was read may be -/
theorem rdSR_le {T : TPt} {b : TBt} : ∀ {m : Nat} {cn : Nat → Nat} {i : Nat}, (∀ k, cn k + m ≤ 5) → ∀ k, (rdSR T b m cn i).2.1 k ≤ 5
  | 0, cn, i, h, k => by
    have := h k
    rw [rdSR]
    split
    · show cn k ≤ 5; omega
    · show cn k ≤ 5; omega
  | m + 1, cn, i, h, k => by
    have hk := h k
    have hs : ∀ k, (fun t => if t = fT b (vl T i) then cn t + 1 else cn t) k + m ≤ 5 := fun k => by
      have := h k
      show (if k = fT b (vl T i) then cn k + 1 else cn k) + m ≤ 5
      split <;> omega
    rw [rdSR]
    split
    · show cn k ≤ 5; omega
    · split
      · exact rdSR_le hs k
      · split
        · have := hs k
          show (if k = fT b (vl T i) then cn k + 1 else cn k) ≤ 5
          have h2 : (if k = fT b (vl T i) then cn k + 1 else cn k) + m ≤ 5 := this
          omega
        · show cn k ≤ 5; omega

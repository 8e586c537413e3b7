/-! rows that are read -/
def cOk (b : TBt) (w : RWt) (t c : Nat) (v : Int64) : Prop := (b.2.2.2.2 t c = 5 → ∃ n, v = lN n ∧ gw n) ∧ (b.2.2.2.2 t c = 6 → ∃ n, v = lN n ∧ n < 10000) ∧ (b.2.2.2.2 t c < 5 → v = -1 ∨ ∃ q, q < w.1 ∧ w.2.1 q = b.2.2.2.2 t c ∧ v = lN q)
def wOk (b : TBt) (w : RWt) : Prop := w.1 ≤ 30 ∧ (∀ r, r < w.1 → w.2.1 r < b.1) ∧ okRw b w ∧ okC b w
theorem rdCell_ok {T : TPt} {b : TBt} {w : RWt} {t c i : Nat} (hA : ∀ j, j < T.1 → okS (T.2 j)) (h : (rdCell T b w t c i).1 = 0) : cOk b w t c (rdCell T b w t c i).2.1 := by
  revert h
  unfold rdCell
  by_cases k5 : b.2.2.2.2 t c = 5
  · rw [if_pos k5]
    by_cases z : isN (tk T i) = true
    · rw [if_pos z]
      exact fun _ => ⟨fun _ => ⟨_, rfl, tk_g hA (isN_1 z)⟩, fun y => by omega, fun y => by omega⟩
    · rw [if_neg z]
      intro h
      have h : fx T i 1 = 0 := h
      have := fx_pos (T := T) (i := i) (w := 1) (by decide)
      omega
  · rw [if_neg k5]
    by_cases k6 : b.2.2.2.2 t c = 6
    · rw [if_pos k6]
      by_cases z : (tk T i).1 = 2
      · rw [if_pos z]
        exact fun _ => ⟨fun y => by omega, fun _ => ⟨_, rfl, tk_n hA z⟩, fun y => by omega⟩
      · rw [if_neg z]
        intro h
        have h : fx T i 1 = 0 := h
        have := fx_pos (T := T) (i := i) (w := 1) (by decide)
        omega
    · rw [if_neg k6]
      by_cases z1 : isW (tk T i) 286880 = true
      · rw [if_pos z1]
        exact fun _ => ⟨fun y => by omega, fun y => by omega, fun _ => Or.inl rfl⟩
      · rw [if_neg z1]
        by_cases z : (tk T i).1 = 2
        · rw [if_pos z]
          by_cases f : fR w (b.2.2.2.2 t c) (tk T i).2.2.1 < w.1
          · rw [if_pos f]
            intro _
            refine ⟨fun y => by omega, fun y => by omega, fun _ => Or.inr ⟨_, f, ?_, rfl⟩⟩
            have := fa_first_yes (fun r => w.2.1 r == b.2.2.2.2 t c && nOf w.2.1 (b.2.2.2.2 t c) r == (tk T i).2.2.1) w.1 f
            simp only [Bool.and_eq_true] at this
            exact beq_iff_eq.mp this.1
          · rw [if_neg f]
            intro h
            have h : fx T i 4 = 0 := h
            have := fx_pos (T := T) (i := i) (w := 4) (by decide)
            omega
        · rw [if_neg z]
          intro h
          have h : fx T i 1 = 0 := h
          have := fx_pos (T := T) (i := i) (w := 1) (by decide)
          omega
theorem rdCells_ok {T : TPt} {b : TBt} {w : RWt} {t : Nat} (hA : ∀ j, j < T.1 → okS (T.2 j)) : ∀ {m c : Nat} {cs : Nat → Int64} {i : Nat}, (rdCells T b w t m c cs i).1 = 0 → (∀ d, d < c → cOk b w t d (cs d)) → ∀ d, d < c + m → cOk b w t d ((rdCells T b w t m c cs i).2.1 d)
  | 0, c, cs, i, _, hc, d, hd => hc d hd
  | m + 1, c, cs, i, h, hc, d, hd => by
    rw [rdCells] at h ⊢
    by_cases z : (rdCell T b w t c i).1 ≠ 0
    · rw [if_pos z] at h; exact absurd h z
    · rw [if_neg z] at h ⊢
      have z' : (rdCell T b w t c i).1 = 0 := by
        apply Classical.byContradiction
        exact z
      refine rdCells_ok hA h (fun e he => ?_) d (by omega)
      show cOk b w t e (if e = c then (rdCell T b w t c i).2.1 else cs e)
      by_cases y : e = c
      · rw [if_pos y, y]; exact rdCell_ok hA z'
      · rw [if_neg y]; exact hc e (by omega)

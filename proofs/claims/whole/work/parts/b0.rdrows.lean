/-! rows that are read -/
def cOk (b : TBt) (w : RWt) (t c : Nat) (v : Int64) : Prop := (b.2.2.2.2 t c = 5 → ∃ n, v = lN n ∧ gw n) ∧ (b.2.2.2.2 t c = 6 → ∃ n, v = lN n ∧ n < 10000) ∧ (b.2.2.2.2 t c < 5 → v = -1 ∨ ∃ q, q < w.1 ∧ w.2.1 q = b.2.2.2.2 t c ∧ v = lN q)
def wOk (b : TBt) (w : RWt) : Prop := w.1 ≤ 30 ∧ (∀ r, r < w.1 → w.2.1 r < b.1) ∧ okRw b w ∧ okC b w
theorem rdCell_ok {T : TPt} {b : TBt} {w : RWt} {t c i : Nat} (hA : ∀ j, j < T.1 → okS (T.2 j)) (h : (rdCell T b w t c i).1 = 0) : cOk b w t c (rdCell T b w t c i).2.1 := by
  revert h
  unfold rdCell
  by_cases k5 : b.2.2.2.2 t c = 5
  · rw [if_pos k5]
    by_cases z : isN (tk T i) = true
    · rw [if_pos z]
      exact fun _ => ⟨fun _ => ⟨_, rfl, tk_g hA (isN_1 z)⟩, fun y => by omega, fun y => by omega⟩
    · rw [if_neg z]
      intro h
      have h : fx T i 1 = 0 := h
      have := fx_pos (T := T) (i := i) (w := 1) (by decide)
      omega
  · rw [if_neg k5]
    by_cases k6 : b.2.2.2.2 t c = 6
    · rw [if_pos k6]
      by_cases z : (tk T i).1 = 2
      · rw [if_pos z]
        exact fun _ => ⟨fun y => by omega, fun _ => ⟨_, rfl, tk_n hA z⟩, fun y => by omega⟩
      · rw [if_neg z]
        intro h
        have h : fx T i 1 = 0 := h
        have := fx_pos (T := T) (i := i) (w := 1) (by decide)
        omega
    · rw [if_neg k6]
      by_cases z1 : isW (tk T i) 286880 = true
      · rw [if_pos z1]
        exact fun _ => ⟨fun y => by omega, fun y => by omega, fun _ => Or.inl rfl⟩
      · rw [if_neg z1]
        by_cases z : (tk T i).1 = 2
        · rw [if_pos z]
          by_cases f : fR w (b.2.2.2.2 t c) (tk T i).2.2.1 < w.1
          · rw [if_pos f]
            intro _
            refine ⟨fun y => by omega, fun y => by omega, fun _ => Or.inr ⟨_, f, ?_, rfl⟩⟩
            have := fa_first_yes (fun r => w.2.1 r == b.2.2.2.2 t c && nOf w.2.1 (b.2.2.2.2 t c) r == (tk T i).2.2.1) w.1 f
            simp only [Bool.and_eq_true] at this
            exact beq_iff_eq.mp this.1
          · rw [if_neg f]
            intro h
            have h : fx T i 4 = 0 := h
            have := fx_pos (T := T) (i := i) (w := 4) (by decide)
            omega
        · rw [if_neg z]
          intro h
          have h : fx T i 1 = 0 := h
          have := fx_pos (T := T) (i := i) (w := 1) (by decide)
          omega
theorem rdCells_ok {T : TPt} {b : TBt} {w : RWt} {t : Nat} (hA : ∀ j, j < T.1 → okS (T.2 j)) : ∀ {m c : Nat} {cs : Nat → Int64} {i : Nat}, (rdCells T b w t m c cs i).1 = 0 → (∀ d, d < c → cOk b w t d (cs d)) → ∀ d, d < c + m → cOk b w t d ((rdCells T b w t m c cs i).2.1 d)
  | 0, c, cs, i, _, hc, d, hd => hc d hd
  | m + 1, c, cs, i, h, hc, d, hd => by
    rw [rdCells] at h ⊢
    by_cases z : (rdCell T b w t c i).1 ≠ 0
    · rw [if_pos z] at h; exact absurd h z
    · rw [if_neg z] at h ⊢
      have z' : (rdCell T b w t c i).1 = 0 := by
        apply Classical.byContradiction
        exact z
      refine rdCells_ok hA h (fun e he => ?_) d (by omega)
      show cOk b w t e (if e = c then (rdCell T b w t c i).2.1 else cs e)
      by_cases y : e = c
      · rw [if_pos y, y]; exact rdCell_ok hA z'
      · rw [if_neg y]; exact hc e (by omega)
theorem addR_ok {b : TBt} {w : RWt} {t : Nat} {cs : Nat → Int64} (h : wOk b w) (h30 : w.1 < 30) (ht : t < b.1) (hc : ∀ d, d < b.2.2.1 t → cOk b w t d (cs d)) : wOk b (addR w t cs) := by
  obtain ⟨a1, a2, a3, a4⟩ := h
  have e1 : ∀ r, (addR w t cs).2.1 r = if r = w.1 then t else w.2.1 r := fun r => rfl
  have e2 : ∀ r c, (addR w t cs).2.2 r c = if r = w.1 then cs c else w.2.2 r c := fun r c => rfl
  refine ⟨h30, fun r hr => ?_, fun r c hr hcc hk => ?_, fun r c hr hcc => ?_⟩
  · have hr : r < w.1 + 1 := hr
    rw [e1]
    split
    · exact ht
    · exact a2 r (by omega)
  · have hr : r < w.1 + 1 := hr
    rw [e1] at hcc hk ⊢
    rw [e2]
    by_cases z : r = w.1
    · rw [if_pos z] at hcc hk ⊢
      rw [if_pos z]
      rcases (hc c hcc).2.2 hk with y | ⟨q, y1, y2, y3⟩
      · exact Or.inl y
      · exact Or.inr ⟨q, by omega, by rw [e1, if_neg (by omega)]; exact y2, y3⟩
    · rw [if_neg z] at hcc hk ⊢
      rw [if_neg z]
      rcases a3 r c (by omega) hcc hk with y | ⟨q, y1, y2, y3⟩
      · exact Or.inl y
      · exact Or.inr ⟨q, y1, by rw [e1, if_neg (by omega)]; exact y2, y3⟩
  · have hr : r < w.1 + 1 := hr
    rw [e1] at hcc ⊢
    rw [e2]
    by_cases z : r = w.1
    · rw [if_pos z] at hcc ⊢
      rw [if_pos z]
      exact ⟨(hc c hcc).1, (hc c hcc).2.1⟩
    · rw [if_neg z] at hcc ⊢
      rw [if_neg z]
      exact a4 r c (by omega) hcc
theorem rdRow_w {T : TPt} {b : TBt} {w : RWt} {i : Nat} (hA : ∀ j, j < T.1 → okS (T.2 j)) (hw : wOk b w) (h : (rdRow T b w i).1 = 0) : wOk b (rdRow T b w i).2.1 ∧ (rdRow T b w i).2.1.1 = w.1 + 1 := by
  obtain ⟨n0, h30, c0, eq⟩ := rdRow_ok h
  rw [eq]
  refine ⟨addR_ok hw h30 (rdName_0 n0).2 (fun d hd => ?_), rfl⟩
  exact rdCells_ok hA c0 (fun e he => absurd he (Nat.not_lt_zero _)) d (by omega)
theorem rdRows_w {T : TPt} {b : TBt} (hA : ∀ j, j < T.1 → okS (T.2 j)) : ∀ {m : Nat} {w : RWt} {i : Nat}, wOk b w → (rdRows T b m w i).1 = 0 → wOk b (rdRows T b m w i).2.1 ∧ w.1 ≤ (rdRows T b m w i).2.1.1 ∧ ((rdRows T b m w i).2.1.1 = w.1 → (rdRows T b m w i).2.1 = w)
  | 0, w, i, hw, _ => ⟨hw, Nat.le_refl _, fun _ => rfl⟩
  | m + 1, w, i, hw, h => by
    rw [rdRows] at h ⊢
    by_cases z1 : (tk T i).1 = 0
    · rw [if_pos z1]; exact ⟨hw, Nat.le_refl _, fun _ => rfl⟩
    · rw [if_neg z1] at h ⊢
      by_cases z2 : (rdRow T b w i).1 ≠ 0
      · rw [if_pos z2] at h; exact absurd h z2
      · rw [if_neg z2] at h ⊢
        have z2' : (rdRow T b w i).1 = 0 := by
          apply Classical.byContradiction
          exact z2
        obtain ⟨r1, r2⟩ := rdRow_w hA hw z2'
        obtain ⟨s1, s2, s3⟩ := rdRows_w hA r1 h
        exact ⟨s1, by omega, fun y => by omega⟩
/-- the rows that were there stay, also where the reading stops at a fault -/
def preW (w v : RWt) : Prop := w.1 ≤ v.1 ∧ ∀ r, r < w.1 → v.2.1 r = w.2.1 r ∧ ∀ c, v.2.2 r c = w.2.2 r c
theorem preW_rf (w : RWt) : preW w w := ⟨Nat.le_refl _, fun _ _ => ⟨rfl, fun _ => rfl⟩⟩
theorem preW_tr {u v w : RWt} (h : preW u v) (h2 : preW v w) : preW u w := ⟨Nat.le_trans h.1 h2.1, fun r hr => ⟨(h2.2 r (Nat.lt_of_lt_of_le hr h.1)).1.trans (h.2 r hr).1, fun c => ((h2.2 r (Nat.lt_of_lt_of_le hr h.1)).2 c).trans ((h.2 r hr).2 c)⟩⟩
theorem rdRow_pre {T : TPt} {b : TBt} {w : RWt} {i : Nat} : preW w (rdRow T b w i).2.1 := by
  unfold rdRow
  split
  · exact preW_rf w
  · split
    · exact preW_rf w
    · split
      · exact preW_rf w
      · split
        · refine ⟨Nat.le_succ _, fun r hr => ⟨?_, fun c => ?_⟩⟩
          · show (if r = w.1 then _ else w.2.1 r) = _
            rw [if_neg (by omega)]
          · show (if r = w.1 then _ else w.2.2 r c) = _
            rw [if_neg (by omega)]
        · exact preW_rf w
theorem rdRows_pre {T : TPt} {b : TBt} : ∀ {m : Nat} {w : RWt} {i : Nat}, preW w (rdRows T b m w i).2.1
  | 0, w, i => preW_rf w
  | m + 1, w, i => by
    rw [rdRows]
    split
    · exact preW_rf w
    · split
      · exact rdRow_pre
      · exact preW_tr rdRow_pre rdRows_pre

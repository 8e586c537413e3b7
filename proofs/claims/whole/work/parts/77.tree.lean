/-! the least sum of ties: however equal ones are taken -/
def Pm (tp : Nat → Nat → Nat) (s : Nat) : Nat → Nat → Nat → Prop
  | 0, R, x => R = s ∧ x = 0
  | k + 1, R, x => ∃ u v y, R.testBit u = true ∧ s.testBit v = true ∧ R.testBit v = false ∧ tp u v ≠ 0 ∧ (∀ u' v', R.testBit u' = true → s.testBit v' = true → R.testBit v' = false → tp u' v' ≠ 0 → tp u v ≤ tp u' v') ∧ x = tp u v + y ∧ Pm tp s k (R ||| 2 ^ v) y
section TREE
variable {tp : Nat → Nat → Nat} {s : Nat}
/-- closed by ties of th at most -/
def clo (tp : Nat → Nat → Nat) (s th A : Nat) : Prop := ∀ i j, A.testBit i = true → s.testBit j = true → A.testBit j = false → tp i j ≠ 0 → th < tp i j
def cq (tp : Nat → Nat → Nat) (s th u v : Nat) : Prop := ∀ A, sb A s → clo tp s th A → A.testBit u = true → A.testBit v = true
theorem cq_rf (th u : Nat) : cq tp s th u u := fun _ _ _ h => h
theorem cq_tr {th u v x : Nat} (h : cq tp s th u v) (h2 : cq tp s th v x) : cq tp s th u x := fun A a b c => h2 A a b (h A a b c)
theorem cq_sy (hsy : ∀ i j, tp i j = tp j i) (hs : s < 2 ^ 32) {th u v : Nat} (hu : s.testBit u = true) (h : cq tp s th u v) : cq tp s th v u := by
  intro A hA hc hv
  cases e : A.testBit u
  · exfalso
    have bB : ∀ i, (msk (fun i => s.testBit i && !A.testBit i) 32).testBit i = true ↔ s.testBit i = true ∧ A.testBit i = false := by
      intro i
      rw [msk_bit]
      simp only [Bool.and_eq_true, decide_eq_true_eq, Bool.not_eq_true']
      exact ⟨fun h => h.2, fun h => ⟨bt_lt hs h.1, h⟩⟩
    have := h (msk (fun i => s.testBit i && !A.testBit i) 32) (fun i z => ((bB i).mp z).1) (fun i j hi hj hn ht => by
      have hj' : A.testBit j = true := by
        cases z : A.testBit j
        · rw [(bB j).mpr ⟨hj, z⟩] at hn; cases hn
        · rfl
      have := hc j i hj' ((bB i).mp hi).1 ((bB i).mp hi).2 (by rw [hsy]; exact ht)
      rw [hsy]; exact this) ((bB u).mpr ⟨hu, e⟩)
    rw [((bB v).mp this).2] at hv; cases hv
  · rfl
def mkd (tp : Nat → Nat → Nat) (s th v : Nat) : Prop := ∀ v', s.testBit v' = true → v' < v → ¬ cq tp s th v v'
noncomputable def cmP (tp : Nat → Nat → Nat) (s th R v : Nat) : Bool := s.testBit v && dB (mkd tp s th v ∧ ∃ u, R.testBit u = true ∧ cq tp s th u v)
noncomputable def cmp (tp : Nat → Nat → Nat) (s th R : Nat) : Nat := fb_ct (cmP tp s th R) 32
theorem cmP_iff {th R v : Nat} : cmP tp s th R v = true ↔ s.testBit v = true ∧ mkd tp s th v ∧ ∃ u, R.testBit u = true ∧ cq tp s th u v := by
  unfold cmP
  rw [Bool.and_eq_true, dB_iff]
theorem cmp_lo {th R u v : Nat} (hu : R.testBit u = true) (hv : s.testBit v = true) (h0 : tp u v ≠ 0) (hle : tp u v ≤ th) : cmp tp s th (R ||| 2 ^ v) = cmp tp s th R := by
  have huv : cq tp s th u v := by
    intro A hA hc hAu
    cases e : A.testBit v
    · have := hc u v hAu hv e h0; omega
    · rfl
  refine fb_ct_cong (fun x _ => ?_)
  rw [Bool.eq_iff_iff, cmP_iff, cmP_iff]
  constructor
  · rintro ⟨a, b, y, c, d⟩
    refine ⟨a, b, ?_⟩
    rcases (add_bit _ _ _).mp c with q | q
    · exact ⟨y, q, d⟩
    · subst q; exact ⟨u, hu, cq_tr huv d⟩
  · rintro ⟨a, b, y, c, d⟩
    exact ⟨a, b, y, (add_bit _ _ _).mpr (Or.inl c), d⟩
theorem cmp_hi (hsy : ∀ i j, tp i j = tp j i) (hs : s < 2 ^ 32) {th R v : Nat} (hR : sb R s) (hv : s.testBit v = true) (hRv : R.testBit v = false) (hc : clo tp s th R) : cmp tp s th (R ||| 2 ^ v) = cmp tp s th R + 1 := by
  obtain ⟨w0, w1, ⟨w2, w3⟩, w4⟩ := @fb_first (fun x => s.testBit x = true ∧ cq tp s th v x) (fun _ => Classical.propDecidable _) 32 ⟨v, bt_lt hs hv, hv, cq_rf _ _⟩
  have hmk : mkd tp s th w0 := fun v' a b c => w4 v' b ⟨a, cq_tr w3 c⟩
  have hno : cmP tp s th R w0 = false := by
    cases e : cmP tp s th R w0
    · rfl
    · obtain ⟨-, -, u, a, b⟩ := cmP_iff.mp e
      have := cq_sy hsy hs hv w3 R hR hc (b R hR hc a)
      rw [hRv] at this; cases this
  have h1 := fb_ct_upd (cmP tp s th R) true w1
  rw [hno] at h1
  simp only [if_true, Bool.false_eq_true, if_false, Nat.add_zero] at h1
  unfold cmp
  rw [← h1]
  refine fb_ct_cong (fun x _ => ?_)
  by_cases e : x = w0
  · subst e
    rw [if_pos rfl, cmP_iff]
    exact ⟨w2, hmk, v, (add_bit _ _ _).mpr (Or.inr rfl), w3⟩
  · rw [if_neg e, Bool.eq_iff_iff, cmP_iff, cmP_iff]
    constructor
    · rintro ⟨a, b, y, c, d⟩
      refine ⟨a, b, ?_⟩
      rcases (add_bit _ _ _).mp c with q | q
      · exact ⟨y, q, d⟩
      · subst q
        exfalso
        have c1 : cq tp s th x w0 := cq_tr (cq_sy hsy hs hv d) w3
        have c2 : cq tp s th w0 x := cq_tr (cq_sy hsy hs hv w3) d
        rcases Nat.lt_or_gt_of_ne e with z | z
        · exact hmk x a z c2
        · exact b w0 w2 z c1
    · rintro ⟨a, b, y, c, d⟩
      exact ⟨a, b, y, (add_bit _ _ _).mpr (Or.inl c), d⟩
theorem sm_below (p : Nat) : ∀ B, p ≤ B → fb_sm (fun th => if th < p then 1 else 0) B = p
  | 0, h => by
    have : p = 0 := by omega
    subst this; rfl
  | B + 1, h => by
    rw [fb_sm_succ]
    by_cases q : B < p
    · have e : p = B + 1 := by omega
      rw [if_pos q]
      have : fb_sm (fun th => if th < p then 1 else 0) B = fb_sm (fun _ => 1) B := fb_sm_cong (fun k hk => if_pos (by omega))
      rw [this, fb_sm_const]; omega
    · rw [if_neg q, sm_below p B (by omega)]; rfl
theorem Pm_sum (hsy : ∀ i j, tp i j = tp j i) (hs : s < 2 ^ 32) {B : Nat} (hB : ∀ i j, tp i j ≤ B) : ∀ {k R x : Nat}, sb R s → Pm tp s k R x → x + fb_sm (fun th => cmp tp s th R) B = fb_sm (fun th => cmp tp s th s) B
  | 0, R, x, _, h => by rw [h.1, h.2, Nat.zero_add]
  | k + 1, R, x, hR, h => by
    obtain ⟨u, v, y, h1, h2, h3, h4, h5, h6, h7⟩ := h
    have hR' : sb (R ||| 2 ^ v) s := fun i z => by
      rcases (add_bit _ _ _).mp z with q | q
      · exact hR i q
      · rw [q]; exact h2
    have ih := Pm_sum hsy hs hB hR' h7
    have e : fb_sm (fun th => cmp tp s th (R ||| 2 ^ v)) B = fb_sm (fun th => cmp tp s th R) B + tp u v := by
      rw [← sm_below (tp u v) B (hB u v)]
      rw [sm_below (tp u v) B (hB u v)]
      have : fb_sm (fun th => cmp tp s th (R ||| 2 ^ v)) B = fb_sm (fun th => cmp tp s th R + if th < tp u v then 1 else 0) B := by
        refine fb_sm_cong (fun th _ => ?_)
        by_cases q : th < tp u v
        · rw [if_pos q]
          exact cmp_hi hsy hs hR h2 h3 (fun i j a b c d => Nat.lt_of_lt_of_le q (h5 i j a b c d))
        · rw [if_neg q, Nat.add_zero]
          exact cmp_lo h1 h2 h4 (by omega)
      rw [this, fb_sm_add, sm_below (tp u v) B (hB u v)]
    omega
theorem Pm_one (hsy : ∀ i j, tp i j = tp j i) (hs : s < 2 ^ 32) {B : Nat} (hB : ∀ i j, tp i j ≤ B) {k k' R x x' : Nat} (hR : sb R s) (h : Pm tp s k R x) (h' : Pm tp s k' R x') : x = x' := by
  have a := Pm_sum hsy hs hB hR h
  have b := Pm_sum hsy hs hB hR h'
  omega
noncomputable def ts (tp : Nat → Nat → Nat) (s : Nat) : Nat := Classical.epsilon (fun x => ∃ k, Pm tp s k (2 ^ lo s) x)
theorem ts_eq (hsy : ∀ i j, tp i j = tp j i) (hs : s < 2 ^ 32) (h0 : s ≠ 0) {B : Nat} (hB : ∀ i j, tp i j ≤ B) {k x : Nat} (h : Pm tp s k (2 ^ lo s) x) : ts tp s = x := by
  have e : ∃ k, Pm tp s k (2 ^ lo s) (ts tp s) := Classical.epsilon_spec (p := fun x => ∃ k, Pm tp s k (2 ^ lo s) x) ⟨x, k, h⟩
  obtain ⟨k', e⟩ := e
  refine Pm_one hsy hs hB (fun i z => ?_) e h
  rw [p2_bit, decide_eq_true_iff] at z
  subst z
  exact (lo_yes h0 hs).2.1
/-- at most so much -/
theorem Pm_le {B : Nat} (hB : ∀ i j, tp i j ≤ B) : ∀ {k R x : Nat}, Pm tp s k R x → x ≤ k * B
  | 0, R, x, h => by rw [h.2]; exact Nat.zero_le _
  | k + 1, R, x, h => by
    obtain ⟨u, v, y, h1, h2, h3, h4, h5, h6, h7⟩ := h
    have := Pm_le hB h7
    have := hB u v
    rw [h6, Nat.add_mul]; omega
theorem Pm_pc (hs : s < 2 ^ 32) : ∀ {k R x : Nat}, sb R s → Pm tp s k R x → pc R + k = pc s
  | 0, R, x, _, h => by rw [h.1]; rfl
  | k + 1, R, x, hR, h => by
    obtain ⟨u, v, y, h1, h2, h3, h4, h5, h6, h7⟩ := h
    have hR' : sb (R ||| 2 ^ v) s := fun i z => by
      rcases (add_bit _ _ _).mp z with q | q
      · exact hR i q
      · rw [q]; exact h2
    have := Pm_pc hs hR' h7
    rw [pc_add (bt_lt hs h2) h3] at this
    omega
end TREE

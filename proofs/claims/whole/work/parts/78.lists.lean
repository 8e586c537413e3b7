/-! lists of sets, rising -/
def ls (p : Nat → Bool) : Nat → List Nat
  | 0 => []
  | n + 1 => if p n = true then ls p n ++ [n] else ls p n
theorem ls_mem {p : Nat → Bool} {x : Nat} : ∀ {n : Nat}, x ∈ ls p n ↔ x < n ∧ p x = true
  | 0 => by simp [ls]
  | n + 1 => by
    rw [ls]
    split
    · rename_i h
      rw [List.mem_append, ls_mem, List.mem_singleton]
      constructor
      · rintro (⟨a, b⟩ | rfl)
        · exact ⟨by omega, b⟩
        · exact ⟨by omega, h⟩
      · rintro ⟨a, b⟩
        by_cases e : x = n
        · exact Or.inr e
        · exact Or.inl ⟨by omega, b⟩
    · rename_i h
      rw [ls_mem]
      constructor
      · rintro ⟨a, b⟩; exact ⟨by omega, b⟩
      · rintro ⟨a, b⟩
        refine ⟨?_, b⟩
        by_cases e : x = n
        · subst e; exact absurd b h
        · omega
theorem ls_sorted (p : Nat → Bool) : ∀ n, (ls p n).Pairwise (fun a b => a < b)
  | 0 => List.Pairwise.nil
  | n + 1 => by
    rw [ls]
    split
    · rw [List.pairwise_append]
      refine ⟨ls_sorted p n, List.pairwise_singleton _ _, fun a ha b hb => ?_⟩
      rw [List.mem_singleton] at hb
      subst hb
      exact (ls_mem.mp ha).1
    · exact ls_sorted p n
theorem ls_len (p : Nat → Bool) : ∀ n, (ls p n).length = fb_ct p n
  | 0 => rfl
  | n + 1 => by
    rw [ls, fb_ct_succ, ← ls_len p n]
    by_cases h : p n = true
    · rw [if_pos h, if_pos h, List.length_append]; rfl
    · rw [if_neg h, if_neg h]; rfl
theorem ls_skip {p : Nat → Bool} {a : Nat} : ∀ {b : Nat}, a ≤ b → (∀ x, a ≤ x → x < b → p x = false) → ls p b = ls p a
  | 0, h, _ => by
    have : a = 0 := by omega
    subst this; rfl
  | b + 1, h, hp => by
    by_cases e : a = b + 1
    · subst e; rfl
    · rw [ls, if_neg (by rw [hp b (by omega) (by omega)]; decide)]
      exact ls_skip (by omega) (fun x h1 h2 => hp x h1 (by omega))
theorem sorted_eq : ∀ {l1 l2 : List Nat}, l1.Pairwise (fun a b => a < b) → l2.Pairwise (fun a b => a < b) → (∀ x, x ∈ l1 ↔ x ∈ l2) → l1 = l2
  | [], [], _, _, _ => rfl
  | [], b :: l2, _, _, h => absurd ((h b).mpr List.mem_cons_self) List.not_mem_nil
  | a :: l1, [], _, _, h => absurd ((h a).mp List.mem_cons_self) List.not_mem_nil
  | a :: l1, b :: l2, h1, h2, h => by
    rw [List.pairwise_cons] at h1 h2
    have e : a = b := by
      rcases List.mem_cons.mp ((h a).mp List.mem_cons_self) with q | q
      · exact q
      · rcases List.mem_cons.mp ((h b).mpr List.mem_cons_self) with z | z
        · exact z.symm
        · have := h1.1 b z
          have := h2.1 a q
          omega
    subst e
    congr 1
    refine sorted_eq h1.2 h2.2 (fun x => ?_)
    constructor
    · intro hx
      rcases List.mem_cons.mp ((h x).mp (List.mem_cons_of_mem _ hx)) with q | q
      · have := h1.1 x hx; omega
      · exact q
    · intro hx
      rcases List.mem_cons.mp ((h x).mpr (List.mem_cons_of_mem _ hx)) with q | q
      · have := h2.1 x hx; omega
      · exact q
noncomputable def isC (td : Nat → Nat) (S m s : Nat) : Bool := dB (sb s S ∧ pc s = m ∧ Cn td s)
noncomputable def lS (td : Nat → Nat) (S m : Nat) : List Nat := ls (isC td S m) (2 ^ 30)
theorem lS_mem {td : Nat → Nat} {S m x : Nat} (hS : S < 2 ^ 30) : x ∈ lS td S m ↔ sb x S ∧ pc x = m ∧ Cn td x := by
  unfold lS
  rw [ls_mem]
  unfold isC
  rw [dB_iff]
  exact ⟨fun h => h.2, fun h => ⟨sb_lt h.1 hS, h⟩⟩
theorem gl_lS {td : Nat → Nat} (hsy : sy td) (ht : ∀ i, td i < 2 ^ 30) {S m : Nat} (hS : S < 2 ^ 30) : gl td (wiK td m) m [] 0 S = lS td S (m + 1) := by
  refine sorted_eq (gl_sorted (by omega) (fun i j _ h => by rw [Nat.zero_testBit] at h; cases h)) (ls_sorted _ _) (fun x => ?_)
  rw [lS_mem hS, show ([] : List Nat) = ([] : List Nat).map (ru td) from rfl, gl_mem hsy (wiK_ok ht m) (Gp.nil td) (by decide) hS (fun i j _ h => by rw [Nat.zero_testBit] at h; cases h) (by rw [pc_0, Nat.zero_add])]
  constructor
  · rintro ⟨T, a, b, c, d⟩
    rw [Nat.zero_or] at c
    subst c
    exact ⟨a, b, d⟩
  · rintro ⟨a, b, c⟩
    exact ⟨x, a, b, (Nat.zero_or x).symm, c⟩
/-- all sets of 1 to n rows -/
noncomputable def AL (td : Nat → Nat) (S : Nat) : Nat → List Nat
  | 0 => []
  | n + 1 => AL td S n ++ lS td S (n + 1)
theorem AL_mem {td : Nat → Nat} {S x : Nat} (hS : S < 2 ^ 30) : ∀ {n : Nat}, x ∈ AL td S n ↔ sb x S ∧ 1 ≤ pc x ∧ pc x ≤ n ∧ Cn td x
  | 0 => by simp [AL]; omega
  | n + 1 => by
    rw [AL, List.mem_append, AL_mem hS, lS_mem hS]
    constructor
    · rintro (⟨a, b, c, d⟩ | ⟨a, b, c⟩)
      · exact ⟨a, b, by omega, d⟩
      · exact ⟨a, by omega, by omega, c⟩
    · rintro ⟨a, b, c, d⟩
      by_cases e : pc x = n + 1
      · exact Or.inr ⟨a, e, d⟩
      · exact Or.inl ⟨a, b, by omega, d⟩
/-! how many there can be -/
def bn : Nat → Nat → Nat
  | _, 0 => 1
  | 0, _ + 1 => 0
  | w + 1, m + 1 => bn w (m + 1) + bn w m
noncomputable def ck (w m : Nat) : Nat := fb_ct (fun s => pc s == m) (2 ^ w)
theorem ck_bn : ∀ (w m : Nat), w ≤ 30 → ck w m = bn w m
  | 0, 0, _ => by
    unfold ck bn
    show fb_ct _ 1 = 1
    rw [fb_ct_succ]
    simp [fb_ct, pc_0]
  | 0, m + 1, _ => by
    unfold ck bn
    show fb_ct _ 1 = 0
    rw [fb_ct_succ]
    simp [fb_ct, pc_0]
  | w + 1, m, hw => by
    have hp : 2 ^ (w + 1) = 2 ^ w + 2 ^ w := by rw [Nat.pow_succ]; omega
    have hs : ck (w + 1) m = ck w m + fb_ct (fun k => pc (2 ^ w + k) == m) (2 ^ w) := by
      unfold ck
      rw [hp, fb_ct_split]
    have hk : ∀ k, k < 2 ^ w → pc (2 ^ w + k) = pc k + 1 := by
      intro k hk
      have : 2 ^ w + k = k ||| 2 ^ w := by
        have := Nat.two_pow_add_eq_or_of_lt hk 1
        rw [Nat.mul_one] at this
        rw [this, Nat.or_comm]
      rw [this]
      exact pc_add (by omega) (Nat.testBit_lt_two_pow hk)
    rw [hs, ck_bn w m (by omega)]
    cases m with
    | zero =>
      rw [bn]
      have : fb_ct (fun k => pc (2 ^ w + k) == 0) (2 ^ w) = 0 := fb_ct_zero.mpr (fun k h => by rw [hk k h]; simp)
      rw [this]
      cases w <;> rfl
    | succ m =>
      rw [bn]
      congr 1
      rw [← ck_bn w m (by omega)]
      exact fb_ct_cong (fun k h => by rw [hk k h]; simp)
theorem lS_len (td : Nat → Nat) (S m : Nat) : (lS td S m).length ≤ bn 30 m := by
  rw [← ck_bn 30 m (Nat.le_refl _)]
  unfold lS ck
  rw [ls_len]
  refine fb_ct_sub (fun k _ h => ?_)
  unfold isC at h
  rw [dB_iff] at h
  simp [h.2.1]
theorem bn_5 : bn 30 1 = 30 ∧ bn 30 2 = 435 ∧ bn 30 3 = 4060 ∧ bn 30 4 = 27405 ∧ bn 30 5 = 142506 := by decide +kernel
theorem AL_len (td : Nat → Nat) (S : Nat) {n : Nat} (hn : n ≤ 5) : (AL td S n).length ≤ 174436 := by
  have mono : ∀ m, (AL td S m).length ≤ (AL td S (m + 1)).length := fun m => by rw [AL, List.length_append]; omega
  have h5 : (AL td S 5).length ≤ 174436 := by
    obtain ⟨b1, b2, b3, b4, b5⟩ := bn_5
    have l1 := lS_len td S 1
    have l2 := lS_len td S 2
    have l3 := lS_len td S 3
    have l4 := lS_len td S 4
    have l5 := lS_len td S 5
    simp only [AL, List.length_append, List.length_nil, Nat.zero_add, Nat.reduceAdd]
    omega
  have m4 := mono 4
  have m3 := mono 3
  have m2 := mono 2
  have m1 := mono 1
  have m0 := mono 0
  rcases (show n = 0 ∨ n = 1 ∨ n = 2 ∨ n = 3 ∨ n = 4 ∨ n = 5 by omega) with rfl | rfl | rfl | rfl | rfl | rfl <;> simp only [Nat.zero_add, Nat.reduceAdd] at * <;> omega

/-! questions: the first of each shape, and the chains that find them -/
/-- the last one below that has it, or -1 -/
def lst (p : Nat → Bool) : Nat → Int32
  | 0 => -1
  | n + 1 => if p n = true then nI n else lst p n
theorem lst_cases {p : Nat → Bool} : ∀ n, (lst p n = -1 ∧ ∀ q, q < n → p q = false) ∨ ∃ q, q < n ∧ lst p n = nI q ∧ p q = true ∧ ∀ j, q < j → j < n → p j = false
  | 0 => Or.inl ⟨rfl, fun q hq => absurd hq (Nat.not_lt_zero q)⟩
  | n + 1 => by
    rw [lst]
    by_cases e : p n = true
    · rw [if_pos e]
      exact Or.inr ⟨n, Nat.lt_succ_self n, rfl, e, fun j h1 h2 => by omega⟩
    · rw [if_neg e]
      have e' : p n = false := by cases h : p n; rfl; exact absurd h e
      rcases lst_cases (p := p) n with ⟨a, b⟩ | ⟨q, a, b, c, d⟩
      · refine Or.inl ⟨a, fun q hq => ?_⟩
        rcases Nat.lt_succ_iff_lt_or_eq.mp hq with z | z
        · exact b q z
        · rw [z]; exact e'
      · refine Or.inr ⟨q, by omega, b, c, fun j h1 h2 => ?_⟩
        rcases Nat.lt_succ_iff_lt_or_eq.mp h2 with z | z
        · exact d j h1 z
        · rw [z]; exact e'
theorem lst_cong {p p' : Nat → Bool} : ∀ {n}, (∀ q, q < n → p q = p' q) → lst p n = lst p' n
  | 0, _ => rfl
  | n + 1, h => by rw [lst, lst, h n (Nat.lt_succ_self n), lst_cong (fun q hq => h q (by omega))]
/-- the first ones of their codes -/
def FL (c : Nat → Nat) : Nat → List Nat
  | 0 => []
  | n + 1 => if (FL c n).any (fun j => c j == c n) = true then FL c n else FL c n ++ [n]
theorem FL_lt {c : Nat → Nat} : ∀ {n j}, j ∈ FL c n → j < n
  | 0, j, h => by cases h
  | n + 1, j, h => by
    rw [FL] at h
    split at h
    · have := FL_lt h; omega
    · rcases List.mem_append.mp h with z | z
      · have := FL_lt z; omega
      · rw [List.mem_singleton] at z; omega
theorem FL_any {c : Nat → Nat} {n m : Nat} : (FL c n).any (fun j => c j == c m) = true ↔ ∃ q j, (FL c n)[q]? = some j ∧ c j = c m := by
  rw [List.any_eq_true]
  constructor
  · rintro ⟨j, h1, h2⟩
    obtain ⟨q, hq⟩ := List.mem_iff_getElem?.mp h1
    exact ⟨q, j, hq, by simpa using h2⟩
  · rintro ⟨q, j, h1, h2⟩
    exact ⟨j, getE_mem h1, by simp [h2]⟩
theorem FL_pre1 {c : Nat → Nat} {n q j : Nat} (h : (FL c n)[q]? = some j) : (FL c (n + 1))[q]? = some j := by
  rw [FL]
  split
  · exact h
  · rw [List.getElem?_append_left (getE_lt h)]; exact h
theorem FL_pre {c : Nat → Nat} {n q j : Nat} (h : (FL c n)[q]? = some j) : ∀ m, (FL c (n + m))[q]? = some j
  | 0 => h
  | m + 1 => FL_pre1 (FL_pre h m)
theorem FL_cov {c : Nat → Nat} : ∀ {n i}, i < n → ∃ q j, (FL c n)[q]? = some j ∧ c j = c i
  | n + 1, i, h => by
    rcases Nat.lt_succ_iff_lt_or_eq.mp h with z | z
    · obtain ⟨q, j, a, b⟩ := FL_cov z
      exact ⟨q, j, FL_pre1 a, b⟩
    · subst z
      by_cases e : (FL c i).any (fun j => c j == c i) = true
      · obtain ⟨q, j, a, b⟩ := FL_any.mp e
        exact ⟨q, j, FL_pre1 a, b⟩
      · refine ⟨(FL c i).length, i, ?_, rfl⟩
        rw [FL, if_neg e, List.getElem?_append_right (Nat.le_refl _), Nat.sub_self]; rfl
theorem app1 {l : List Nat} {n q j : Nat} (h : (l ++ [n])[q]? = some j) : (q < l.length ∧ l[q]? = some j) ∨ (q = l.length ∧ j = n) := by
  rcases Nat.lt_or_ge q l.length with z | z
  · rw [List.getElem?_append_left z] at h; exact Or.inl ⟨z, h⟩
  · have := getE_lt h
    rw [List.length_append, List.length_singleton] at this
    have e : q = l.length := by omega
    subst e
    rw [List.getElem?_append_right (Nat.le_refl _), Nat.sub_self] at h
    cases h
    exact Or.inr ⟨rfl, rfl⟩
theorem FL_inj {c : Nat → Nat} : ∀ {n q q' j j'}, (FL c n)[q]? = some j → (FL c n)[q']? = some j' → c j = c j' → q = q'
  | 0, q, q', j, j', h, _, _ => by cases h
  | n + 1, q, q', j, j', h, h', e => by
    by_cases a : (FL c n).any (fun j => c j == c n) = true
    · rw [FL, if_pos a] at h h'
      exact FL_inj h h' e
    · rw [FL, if_neg a] at h h'
      rcases app1 h with ⟨z, z'⟩ | ⟨z, z'⟩ <;> rcases app1 h' with ⟨y, y'⟩ | ⟨y, y'⟩
      · exact FL_inj z' y' e
      · exact absurd (FL_any.mpr ⟨q, j, z', by rw [e, y']⟩) a
      · exact absurd (FL_any.mpr ⟨q', j', y', by rw [← e, z']⟩) a
      · omega
theorem FL_len {c : Nat → Nat} : ∀ n, (FL c n).length ≤ n
  | 0 => Nat.le_refl 0
  | n + 1 => by
    have := FL_len (c := c) n
    rw [FL]
    split
    · omega
    · rw [List.length_append, List.length_singleton]; omega
theorem FL_cong {c c' : Nat → Nat} : ∀ {n}, (∀ i j, i < n → j < n → (c i = c j ↔ c' i = c' j)) → FL c n = FL c' n
  | 0, _ => rfl
  | n + 1, h => by
    have ih : FL c n = FL c' n := FL_cong (fun i j hi hj => h i j (by omega) (by omega))
    have e : ((FL c n).any (fun j => c j == c n) = true) = ((FL c' n).any (fun j => c' j == c' n) = true) := by
      rw [ih, List.any_eq_true, List.any_eq_true]
      apply propext
      constructor
      · rintro ⟨j, a, b⟩
        exact ⟨j, a, by have := FL_lt a; simp at b; simp; exact (h j n (by omega) (by omega)).mp b⟩
      · rintro ⟨j, a, b⟩
        exact ⟨j, a, by have := FL_lt a; simp at b; simp; exact (h j n (by omega) (by omega)).mpr b⟩
    rw [FL, FL, ih]
    rw [ih] at e
    by_cases q : (FL c' n).any (fun j => c j == c n) = true
    · rw [if_pos q, if_pos (e ▸ q)]
    · rw [if_neg q, if_neg (fun z => q (e ▸ z))]
/-- how many so far are of its code -/
def cQ (c : Nat → Nat) (n j : Nat) : Nat := fb_ct (fun i => c i == c j) n
/-- chains that find codes -/
def HC (H X : Nat → Int32) (hd V : Nat → Nat) (n B : Nat) : Prop := (∀ h, h < B → H h = lst (fun q => hd (V q) == h) n) ∧ ∀ q, q < n → X q = lst (fun p => hd (V p) == hd (V q)) q
/-- a list whose members are all in another one, each once -/
theorem nodup_le : ∀ {l m : List Nat}, l.Nodup → (∀ x, x ∈ l → x ∈ m) → l.length ≤ m.length
  | [], m, _, _ => Nat.zero_le _
  | a :: l, m, h, hs => by
    have h1 := List.nodup_cons.mp h
    have ha := hs a (List.mem_cons_self)
    have ih := nodup_le (m := m.erase a) h1.2 (fun x hx => (List.mem_erase_of_ne (fun e => h1.1 (e ▸ hx))).mpr (hs x (List.mem_cons_of_mem _ hx)))
    rw [List.length_erase_of_mem ha] at ih
    have : 0 < m.length := List.length_pos_of_mem ha
    rw [List.length_cons]; omega
theorem FL_nodup {c : Nat → Nat} {n : Nat} : ((FL c n).map c).Nodup := by
  rw [List.nodup_iff_pairwise_ne]
  rw [List.pairwise_iff_getElem]
  intro i j hi hj hij e
  rw [List.getElem_map, List.getElem_map] at e
  rw [List.length_map] at hi hj
  have := FL_inj (List.getElem?_eq_getElem hi) (List.getElem?_eq_getElem hj) e
  omega
/-- the digits that may stand for a term -/
def dg (v : Nat × Nat × Nat × Nat × Nat) : List Nat := 0 :: ((if v.2.1 = 0 then [] else [1]) ++ ((if v.2.2.1 = 0 then [] else [2]) ++ ((if v.2.2.2.1 = 0 then [] else [3]) ++ (if v.2.2.2.2 = 0 then [] else [4]))))
def vL : List (Nat × Nat × Nat × Nat × Nat) := (List.range 6).flatMap (fun a => (List.range (6 - a)).flatMap (fun b => (List.range (6 - a - b)).flatMap (fun c => (List.range (6 - a - b - c)).flatMap (fun d => (List.range (6 - a - b - c - d)).map (fun e => (a, b, c, d, e))))))
def vN (v : Nat × Nat × Nat × Nat × Nat) : Nat := v.1 + 6 * v.2.1 + 36 * v.2.2.1 + 216 * v.2.2.2.1 + 1296 * v.2.2.2.2
def cL : List Nat := vL.flatMap (fun a => (dg a).flatMap (fun x => (dg a).flatMap (fun y => (dg a).flatMap (fun z => (dg a).map (fun v => (((vN a * 5 + x) * 5 + y) * 5 + z) * 5 + v)))))
theorem fm_len {α β : Type} {l : List α} {g : α → List β} {k : Nat} (h : ∀ x, x ∈ l → (g x).length = k) : (l.flatMap g).length = l.length * k := by
  induction l with
  | nil => simp
  | cons a l ih => rw [List.flatMap_cons, List.length_append, h a (List.mem_cons_self), ih (fun x hx => h x (List.mem_cons_of_mem _ hx)), List.length_cons, Nat.succ_mul]; omega
theorem cL_at (a : Nat × Nat × Nat × Nat × Nat) : ((dg a).flatMap (fun x => (dg a).flatMap (fun y => (dg a).flatMap (fun z => (dg a).map (fun v => (((vN a * 5 + x) * 5 + y) * 5 + z) * 5 + v))))).length = (dg a).length * ((dg a).length * ((dg a).length * (dg a).length)) :=
  fm_len (fun x _ => fm_len (fun y _ => fm_len (fun z _ => List.length_map _)))
theorem fm_sum {α β : Type} {g : α → List β} {k : α → Nat} (h : ∀ x, (g x).length = k x) : ∀ l : List α, (l.flatMap g).length = (l.map k).sum
  | [] => rfl
  | a :: l => by rw [List.flatMap_cons, List.length_append, h, fm_sum h l, List.map_cons, List.sum_cons]
theorem cL_len : cL.length ≤ 30000 := by
  unfold cL
  rw [fm_sum cL_at]
  decide +kernel
theorem vL_len : vL.length = 252 := by decide +kernel
theorem vL_mem {a b c d e : Nat} (h : a + b + c + d + e ≤ 5) : (a, b, c, d, e) ∈ vL := by
  unfold vL
  rw [List.mem_flatMap]
  refine ⟨a, List.mem_range.mpr (by omega), List.mem_flatMap.mpr ⟨b, List.mem_range.mpr (by omega), List.mem_flatMap.mpr ⟨c, List.mem_range.mpr (by omega), List.mem_flatMap.mpr ⟨d, List.mem_range.mpr (by omega), List.mem_map.mpr ⟨e, List.mem_range.mpr (by omega), rfl⟩⟩⟩⟩⟩
theorem dg_mem {v : Nat × Nat × Nat × Nat × Nat} {u : Nat} (h : u = 0 ∨ u = 1 ∧ v.2.1 ≠ 0 ∨ u = 2 ∧ v.2.2.1 ≠ 0 ∨ u = 3 ∧ v.2.2.2.1 ≠ 0 ∨ u = 4 ∧ v.2.2.2.2 ≠ 0) : u ∈ dg v := by
  unfold dg
  rcases h with rfl | ⟨rfl, h⟩ | ⟨rfl, h⟩ | ⟨rfl, h⟩ | ⟨rfl, h⟩ <;> simp [h]
theorem cL_mem {cn tn : Nat → Nat} (hs : cn 0 + cn 1 + cn 2 + cn 3 + cn 4 ≤ 5) (ht : ∀ k, k < 4 → tn k < 5 ∧ (tn k ≠ 0 → cn (tn k) ≠ 0)) : mdC cn tn ∈ cL := by
  have m : ∀ k, k < 4 → tn k ∈ dg (cn 0, cn 1, cn 2, cn 3, cn 4) := fun k hk => by
    obtain ⟨a, b⟩ := ht k hk
    refine dg_mem ?_
    rcases (show tn k = 0 ∨ tn k = 1 ∨ tn k = 2 ∨ tn k = 3 ∨ tn k = 4 by omega) with e | e | e | e | e <;> rw [e] at b ⊢ <;> simp <;> exact b (by decide)
  unfold cL
  rw [List.mem_flatMap]
  refine ⟨(cn 0, cn 1, cn 2, cn 3, cn 4), vL_mem hs, List.mem_flatMap.mpr ⟨tn 0, m 0 (by decide), List.mem_flatMap.mpr ⟨tn 1, m 1 (by decide), List.mem_flatMap.mpr ⟨tn 2, m 2 (by decide), List.mem_map.mpr ⟨tn 3, m 3 (by decide), rfl⟩⟩⟩⟩⟩
theorem cnS_sum {rt : Nat → Nat} {s : Nat} : cnS rt s 0 + cnS rt s 1 + cnS rt s 2 + cnS rt s 3 + cnS rt s 4 ≤ pc s := by
  have g : ∀ n, fb_ct (fun r => s.testBit r && (rt r == 0)) n + fb_ct (fun r => s.testBit r && (rt r == 1)) n + fb_ct (fun r => s.testBit r && (rt r == 2)) n + fb_ct (fun r => s.testBit r && (rt r == 3)) n + fb_ct (fun r => s.testBit r && (rt r == 4)) n ≤ fb_ct (fun r => s.testBit r) n := by
    intro n
    induction n with
    | zero => exact Nat.le_refl _
    | succ n ih =>
      rw [fb_ct, fb_ct, fb_ct, fb_ct, fb_ct, fb_ct]
      cases hb : s.testBit n
      · simp only [Bool.false_and, Bool.false_eq_true, if_false, Nat.add_zero]; exact ih
      · simp only [Bool.true_and, beq_iff_eq, if_true]
        rcases (show rt n = 0 ∨ rt n = 1 ∨ rt n = 2 ∨ rt n = 3 ∨ rt n = 4 ∨ 4 < rt n by omega) with e | e | e | e | e | e
        · simp only [e]; simp; omega
        · simp only [e]; simp; omega
        · simp only [e]; simp; omega
        · simp only [e]; simp; omega
        · simp only [e]; simp; omega
        · rw [if_neg (by omega), if_neg (by omega), if_neg (by omega), if_neg (by omega), if_neg (by omega)]; omega
  unfold cnS
  rw [w30_eq, pc_def]
  exact Nat.le_trans (g 30) (fb_ct_mono _ (by decide))
theorem cnS_pos {rt : Nat → Nat} {s r : Nat} (hr : r < 30) (hs : s.testBit r = true) : cnS rt s (rt r) ≠ 0 := by
  unfold cnS
  rw [w30_eq]
  intro e
  have := fb_ct_zero.mp e r hr
  simp [hs] at this
theorem mC_mem {b : TBt} {w : RWt} {f P : Nat → Nat → Nat} {t s : Nat} (hw30 : w.1 ≤ 30) (hP : ∀ k r, P k r ≤ 4 ∨ P k r = 9) (hPn : ∀ k r, w.1 ≤ r → P k r = 9) (hwb : ∀ r, r < w.1 → w.2.1 r < b.1) (hb5 : b.1 ≤ 5) (hj : okJ f P t s) : mC w.2.1 P t s ∈ cL := by
  unfold mC
  refine cL_mem (Nat.le_trans cnS_sum hj.2.2.1) (fun k _ => ?_)
  by_cases q : k < t
  · obtain ⟨a, b, c⟩ := okJ_tn hP hPn hwb hb5 hj q
    simp only [if_pos q]
    exact ⟨a, fun _ => cnS_pos (by omega) c⟩
  · simp only [if_neg q]
    exact ⟨by decide, fun z => absurd rfl z⟩

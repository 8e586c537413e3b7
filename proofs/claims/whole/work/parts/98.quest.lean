/-! questions: the first of each shape, and the chains that find them -/
/-- the last one below that has it, or -1 -/
def lst (p : Nat → Bool) : Nat → Int32
  | 0 => -1
  | n + 1 => if p n = true then nI n else lst p n
theorem lst_cases {p : Nat → Bool} : ∀ n, (lst p n = -1 ∧ ∀ q, q < n → p q = false) ∨ ∃ q, q < n ∧ lst p n = nI q ∧ p q = true ∧ ∀ j, q < j → j < n → p j = false
  | 0 => Or.inl ⟨rfl, fun q hq => absurd hq (Nat.not_lt_zero q)⟩
  | n + 1 => by
    rw [lst]
    by_cases e : p n = true
    · rw [if_pos e]
      exact Or.inr ⟨n, Nat.lt_succ_self n, rfl, e, fun j h1 h2 => by omega⟩
    · rw [if_neg e]
      have e' : p n = false := by cases h : p n; rfl; exact absurd h e
      rcases lst_cases (p := p) n with ⟨a, b⟩ | ⟨q, a, b, c, d⟩
      · refine Or.inl ⟨a, fun q hq => ?_⟩
        rcases Nat.lt_succ_iff_lt_or_eq.mp hq with z | z
        · exact b q z
        · rw [z]; exact e'
      · refine Or.inr ⟨q, by omega, b, c, fun j h1 h2 => ?_⟩
        rcases Nat.lt_succ_iff_lt_or_eq.mp h2 with z | z
        · exact d j h1 z
        · rw [z]; exact e'
theorem lst_cong {p p' : Nat → Bool} : ∀ {n}, (∀ q, q < n → p q = p' q) → lst p n = lst p' n
  | 0, _ => rfl
  | n + 1, h => by rw [lst, lst, h n (Nat.lt_succ_self n), lst_cong (fun q hq => h q (by omega))]
/-- the first ones of their codes -/
def fL (c : Nat → Nat) : Nat → List Nat
  | 0 => []
  | n + 1 => if (fL c n).any (fun j => c j == c n) = true then fL c n else fL c n ++ [n]
theorem fL_lt {c : Nat → Nat} : ∀ {n j}, j ∈ fL c n → j < n
  | 0, j, h => by cases h
  | n + 1, j, h => by
    rw [fL] at h
    split at h
    · have := fL_lt h; omega
    · rcases List.mem_append.mp h with z | z
      · have := fL_lt z; omega
      · rw [List.mem_singleton] at z; omega
theorem fL_any {c : Nat → Nat} {n m : Nat} : (fL c n).any (fun j => c j == c m) = true ↔ ∃ q j : Nat, (fL c n)[q]? = some j ∧ c j = c m := by
  rw [List.any_eq_true]
  constructor
  · rintro ⟨j, h1, h2⟩
    obtain ⟨q, hq⟩ := List.mem_iff_getElem?.mp h1
    exact ⟨q, j, hq, by simpa using h2⟩
  · rintro ⟨q, j, h1, h2⟩
    exact ⟨j, getE_mem h1, by simp [h2]⟩
theorem fL_pre1 {c : Nat → Nat} {n q j : Nat} (h : (fL c n)[q]? = some j) : (fL c (n + 1))[q]? = some j := by
  rw [fL]
  split
  · exact h
  · rw [List.getElem?_append_left (getE_lt h)]; exact h
theorem fL_pre {c : Nat → Nat} {n q j : Nat} (h : (fL c n)[q]? = some j) : ∀ m, (fL c (n + m))[q]? = some j
  | 0 => h
  | m + 1 => fL_pre1 (fL_pre h m)
theorem fL_cov {c : Nat → Nat} : ∀ {n i}, i < n → ∃ q j : Nat, (fL c n)[q]? = some j ∧ c j = c i
  | n + 1, i, h => by
    rcases Nat.lt_succ_iff_lt_or_eq.mp h with z | z
    · obtain ⟨q, j, a, b⟩ := fL_cov z
      exact ⟨q, j, fL_pre1 a, b⟩
    · subst z
      by_cases e : (fL c i).any (fun j => c j == c i) = true
      · obtain ⟨q, j, a, b⟩ := fL_any.mp e
        exact ⟨q, j, fL_pre1 a, b⟩
      · refine ⟨(fL c i).length, i, ?_, rfl⟩
        rw [fL, if_neg e, List.getElem?_append_right (Nat.le_refl _), Nat.sub_self]; rfl
theorem app1 {l : List Nat} {n q j : Nat} (h : (l ++ [n])[q]? = some j) : (q < l.length ∧ l[q]? = some j) ∨ (q = l.length ∧ j = n) := by
  rcases Nat.lt_or_ge q l.length with z | z
  · rw [List.getElem?_append_left z] at h; exact Or.inl ⟨z, h⟩
  · have := getE_lt h
    rw [List.length_append, List.length_singleton] at this
    have e : q = l.length := by omega
    subst e
    rw [List.getElem?_append_right (Nat.le_refl _), Nat.sub_self] at h
    cases h
    exact Or.inr ⟨rfl, rfl⟩
theorem fL_inj {c : Nat → Nat} : ∀ {n q q' j j' : Nat}, (fL c n)[q]? = some j → (fL c n)[q']? = some j' → c j = c j' → q = q'
  | 0, q, q', j, j', h, _, _ => by cases h
  | n + 1, q, q', j, j', h, h', e => by
    by_cases a : (fL c n).any (fun j => c j == c n) = true
    · rw [fL, if_pos a] at h h'
      exact fL_inj h h' e
    · rw [fL, if_neg a] at h h'
      rcases app1 h with ⟨z, z'⟩ | ⟨z, z'⟩ <;> rcases app1 h' with ⟨y, y'⟩ | ⟨y, y'⟩
      · exact fL_inj z' y' e
      · exact absurd (fL_any.mpr ⟨q, j, z', by rw [e, y']⟩) a
      · exact absurd (fL_any.mpr ⟨q', j', y', by rw [← e, z']⟩) a
      · omega
theorem fL_len {c : Nat → Nat} : ∀ n, (fL c n).length ≤ n
  | 0 => Nat.le_refl 0
  | n + 1 => by
    have := fL_len (c := c) n
    rw [fL]
    split
    · omega
    · rw [List.length_append, List.length_singleton]; omega
theorem fL_cong {c c' : Nat → Nat} : ∀ {n}, (∀ i j, i < n → j < n → (c i = c j ↔ c' i = c' j)) → fL c n = fL c' n
  | 0, _ => rfl
  | n + 1, h => by
    have ih : fL c n = fL c' n := fL_cong (fun i j hi hj => h i j (by omega) (by omega))
    have e : ((fL c n).any (fun j => c j == c n) = true) = ((fL c' n).any (fun j => c' j == c' n) = true) := by
      rw [ih, List.any_eq_true, List.any_eq_true]
      apply propext
      constructor
      · rintro ⟨j, a, b⟩
        exact ⟨j, a, by have := fL_lt a; simp at b; simp; exact (h j n (by omega) (by omega)).mp b⟩
      · rintro ⟨j, a, b⟩
        exact ⟨j, a, by have := fL_lt a; simp at b; simp; exact (h j n (by omega) (by omega)).mpr b⟩
    rw [fL, fL, ih]
    rw [ih] at e
    by_cases q : (fL c' n).any (fun j => c j == c n) = true
    · rw [if_pos q, if_pos (e ▸ q)]
    · rw [if_neg q, if_neg (fun z => q (e ▸ z))]
/-- how many so far are of its code -/
def cQ (c : Nat → Nat) (n j : Nat) : Nat := fb_ct (fun i => c i == c j) n
/-- chains that find codes -/
def HC (H X : Nat → Int32) (hd V : Nat → Nat) (n B : Nat) : Prop := (∀ h, h < B → H h = lst (fun q => hd (V q) == h) n) ∧ ∀ q, q < n → X q = lst (fun p => hd (V p) == hd (V q)) q
/-- a list whose members are all in another one, each once -/
theorem nodup_le : ∀ {l m : List Nat}, l.Nodup → (∀ x, x ∈ l → x ∈ m) → l.length ≤ m.length
  | [], m, _, _ => Nat.zero_le _
  | a :: l, m, h, hs => by
    have h1 := List.nodup_cons.mp h
    have ha := hs a (List.mem_cons_self)
    have ih := nodup_le (m := m.erase a) h1.2 (fun x hx => (List.mem_erase_of_ne (fun e => h1.1 (by rw [← e]; exact hx))).mpr (hs x (List.mem_cons_of_mem _ hx)))
    rw [List.length_erase_of_mem ha] at ih
    have : 0 < m.length := List.length_pos_of_mem ha
    rw [List.length_cons]; omega
theorem fL_nodup {c : Nat → Nat} {n : Nat} : ((fL c n).map c).Nodup := by
  rw [List.nodup_iff_pairwise_ne]
  rw [List.pairwise_iff_getElem]
  intro i j hi hj hij e
  rw [List.getElem_map, List.getElem_map] at e
  rw [List.length_map] at hi hj
  have := fL_inj (List.getElem?_eq_getElem hi) (List.getElem?_eq_getElem hj) e
  omega
/-- the digits that may stand for a term -/
def dgt (v : Nat × Nat × Nat × Nat × Nat) : List Nat := 0 :: ((if v.2.1 = 0 then [] else [1]) ++ ((if v.2.2.1 = 0 then [] else [2]) ++ ((if v.2.2.2.1 = 0 then [] else [3]) ++ (if v.2.2.2.2 = 0 then [] else [4]))))
def vL : List (Nat × Nat × Nat × Nat × Nat) := (List.range 6).flatMap (fun a => (List.range (6 - a)).flatMap (fun b => (List.range (6 - a - b)).flatMap (fun c => (List.range (6 - a - b - c)).flatMap (fun d => (List.range (6 - a - b - c - d)).map (fun e => (a, b, c, d, e))))))
def vN (v : Nat × Nat × Nat × Nat × Nat) : Nat := v.1 + 6 * v.2.1 + 36 * v.2.2.1 + 216 * v.2.2.2.1 + 1296 * v.2.2.2.2
def cL : List Nat := vL.flatMap (fun a => (dgt a).flatMap (fun x => (dgt a).flatMap (fun y => (dgt a).flatMap (fun z => (dgt a).map (fun v => (((vN a * 5 + x) * 5 + y) * 5 + z) * 5 + v)))))
theorem fm_len {α β : Type} {l : List α} {g : α → List β} {k : Nat} (h : ∀ x, x ∈ l → (g x).length = k) : (l.flatMap g).length = l.length * k := by
  induction l with
  | nil => simp
  | cons a l ih => rw [List.flatMap_cons, List.length_append, h a (List.mem_cons_self), ih (fun x hx => h x (List.mem_cons_of_mem _ hx)), List.length_cons, Nat.succ_mul]; omega
theorem cL_at (a : Nat × Nat × Nat × Nat × Nat) : ((dgt a).flatMap (fun x => (dgt a).flatMap (fun y => (dgt a).flatMap (fun z => (dgt a).map (fun v => (((vN a * 5 + x) * 5 + y) * 5 + z) * 5 + v))))).length = (dgt a).length * ((dgt a).length * ((dgt a).length * (dgt a).length)) :=
  fm_len (fun x _ => fm_len (fun y _ => fm_len (fun z _ => List.length_map _)))
theorem fm_sum {α β : Type} {g : α → List β} {k : α → Nat} (h : ∀ x, (g x).length = k x) : ∀ l : List α, (l.flatMap g).length = (l.map k).sum
  | [] => rfl
  | a :: l => by rw [List.flatMap_cons, List.length_append, h, fm_sum h l, List.map_cons, List.sum_cons]
theorem cL_len : cL.length ≤ 30000 := by
  unfold cL
  rw [fm_sum cL_at]
  decide +kernel
theorem vL_len : vL.length = 252 := by decide +kernel
theorem vL_mem {a b c d e : Nat} (h : a + b + c + d + e ≤ 5) : (a, b, c, d, e) ∈ vL := by
  unfold vL
  rw [List.mem_flatMap]
  refine ⟨a, List.mem_range.mpr (by omega), List.mem_flatMap.mpr ⟨b, List.mem_range.mpr (by omega), List.mem_flatMap.mpr ⟨c, List.mem_range.mpr (by omega), List.mem_flatMap.mpr ⟨d, List.mem_range.mpr (by omega), List.mem_map.mpr ⟨e, List.mem_range.mpr (by omega), rfl⟩⟩⟩⟩⟩
theorem dgt_mem {v : Nat × Nat × Nat × Nat × Nat} {u : Nat} (h : u = 0 ∨ u = 1 ∧ v.2.1 ≠ 0 ∨ u = 2 ∧ v.2.2.1 ≠ 0 ∨ u = 3 ∧ v.2.2.2.1 ≠ 0 ∨ u = 4 ∧ v.2.2.2.2 ≠ 0) : u ∈ dgt v := by
  unfold dgt
  rcases h with q | ⟨q, z⟩ | ⟨q, z⟩ | ⟨q, z⟩ | ⟨q, z⟩ <;> subst q <;> simp_all
theorem cL_mem {cn tn : Nat → Nat} (hs : cn 0 + cn 1 + cn 2 + cn 3 + cn 4 ≤ 5) (ht : ∀ k, k < 4 → tn k < 5 ∧ (tn k ≠ 0 → cn (tn k) ≠ 0)) : mdC cn tn ∈ cL := by
  have m : ∀ k, k < 4 → tn k ∈ dgt (cn 0, cn 1, cn 2, cn 3, cn 4) := fun k hk => by
    obtain ⟨a, b⟩ := ht k hk
    refine dgt_mem ?_
    rcases (show tn k = 0 ∨ tn k = 1 ∨ tn k = 2 ∨ tn k = 3 ∨ tn k = 4 by omega) with e | e | e | e | e <;> rw [e] at b ⊢ <;> simp <;> exact b (by decide)
  unfold cL
  rw [List.mem_flatMap]
  refine ⟨(cn 0, cn 1, cn 2, cn 3, cn 4), vL_mem hs, List.mem_flatMap.mpr ⟨tn 0, m 0 (by decide), List.mem_flatMap.mpr ⟨tn 1, m 1 (by decide), List.mem_flatMap.mpr ⟨tn 2, m 2 (by decide), List.mem_map.mpr ⟨tn 3, m 3 (by decide), rfl⟩⟩⟩⟩⟩
theorem cnS_sum {rt : Nat → Nat} {s : Nat} : cnS rt s 0 + cnS rt s 1 + cnS rt s 2 + cnS rt s 3 + cnS rt s 4 ≤ pc s := by
  have g : ∀ n, fb_ct (fun r => s.testBit r && (rt r == 0)) n + fb_ct (fun r => s.testBit r && (rt r == 1)) n + fb_ct (fun r => s.testBit r && (rt r == 2)) n + fb_ct (fun r => s.testBit r && (rt r == 3)) n + fb_ct (fun r => s.testBit r && (rt r == 4)) n ≤ fb_ct (fun r => s.testBit r) n := by
    intro n
    induction n with
    | zero => exact Nat.le_refl _
    | succ n ih =>
      rw [fb_ct, fb_ct, fb_ct, fb_ct, fb_ct, fb_ct]
      cases hb : s.testBit n
      · simp only [Bool.false_and, Bool.false_eq_true, if_false, Nat.add_zero]; exact ih
      · simp only [Bool.true_and, beq_iff_eq, if_true]
        rcases (show rt n = 0 ∨ rt n = 1 ∨ rt n = 2 ∨ rt n = 3 ∨ rt n = 4 ∨ 4 < rt n by omega) with e | e | e | e | e | e
        · simp only [e]; simp; omega
        · simp only [e]; simp; omega
        · simp only [e]; simp; omega
        · simp only [e]; simp; omega
        · simp only [e]; simp; omega
        · rw [if_neg (by omega), if_neg (by omega), if_neg (by omega), if_neg (by omega), if_neg (by omega)]; omega
  unfold cnS
  rw [w30_eq, pc_def]
  exact Nat.le_trans (g 30) (fb_ct_mono _ (by decide))
theorem cnS_pos {rt : Nat → Nat} {s r : Nat} (hr : r < 30) (hs : s.testBit r = true) : cnS rt s (rt r) ≠ 0 := by
  unfold cnS
  rw [w30_eq]
  intro e
  have := fb_ct_zero.mp e r hr
  simp [hs] at this
theorem mC_mem {b : TBt} {w : RWt} {f P : Nat → Nat → Nat} {t s : Nat} (hw30 : w.1 ≤ 30) (hP : ∀ k r, P k r ≤ 4 ∨ P k r = 9) (hPn : ∀ k r, w.1 ≤ r → P k r = 9) (hwb : ∀ r, r < w.1 → w.2.1 r < b.1) (hb5 : b.1 ≤ 5) (hj : okJ f P t s) : mC w.2.1 P t s ∈ cL := by
  unfold mC
  refine cL_mem (Nat.le_trans cnS_sum hj.2.2.1) (fun k _ => ?_)
  by_cases q : k < t
  · obtain ⟨a, b, c⟩ := okJ_tn hP hPn hwb hb5 hj q
    simp only [if_pos q]
    exact ⟨a, fun _ => cnS_pos (by omega) c⟩
  · simp only [if_neg q]
    exact ⟨by decide, fun z => absurd rfl z⟩
theorem lst_none {p : Nat → Bool} {n : Nat} (h : ∀ q, q < n → p q = false) : lst p n = -1 := by
  rcases lst_cases (p := p) n with ⟨a, -⟩ | ⟨q, a, -, c, -⟩
  · exact a
  · rw [h q a] at c; cases c
theorem lst_cut {p : Nat → Bool} {n : Nat} : ∀ m, (∀ q, n ≤ q → q < n + m → p q = false) → lst p (n + m) = lst p n
  | 0, _ => rfl
  | m + 1, h => by
    rw [← Nat.add_assoc, lst, if_neg (by rw [h (n + m) (by omega) (by omega)]; decide)]
    exact lst_cut m (fun q a b => h q a (by omega))
theorem lst_hit {p : Nat → Bool} {n q : Nat} (hq : q < n) (hp : p q = true) (hu : ∀ j, q < j → j < n → p j = false) : lst p n = nI q := by
  have e : n = q + 1 + (n - (q + 1)) := by omega
  rw [e, lst_cut _ (fun j a b => hu j (by omega) (by omega)), lst, if_pos hp]
/-- one more in the chains -/
theorem HC.add {H X H' X' : Nat → Int32} {hd V V' : Nat → Nat} {n B v : Nat} (h : HC H X hd V n B) (hV : ∀ q, q < n → V' q = V q) (hv : V' n = v) (h1 : ∀ j, j < B → H' j = if j = hd v then nI n else H j) (h2 : ∀ q, q < n → X' q = X q) (h3 : X' n = H (hd v)) (hB : hd v < B) : HC H' X' hd V' (n + 1) B := by
  refine ⟨fun j hj => ?_, fun q hq => ?_⟩
  · rw [h1 j hj, lst, hv]
    by_cases e : j = hd v
    · rw [if_pos e, if_pos (by simp [e])]
    · rw [if_neg e, if_neg (by simp; exact fun z => e z.symm), h.1 j hj]
      exact lst_cong (fun q hq => by rw [hV q hq])
  · rcases Nat.lt_succ_iff_lt_or_eq.mp hq with z | z
    · rw [h2 q z, h.2 q z, hV q z]
      exact lst_cong (fun p hp => by rw [hV p (by omega)])
    · subst z
      rw [h3, h.1 _ hB, hv]
      exact lst_cong (fun p hp => by rw [hV p (by omega)])
/-- the questions of the first k, counted among the first n -/
def QS (sz : Int32) (H X C F N : Nat → Int32) (hd : Nat → Nat) (B : Nat) (c : Nat → Nat) (k n : Nat) : Prop := sz = nI (fL c k).length ∧ HC H X hd (fun q => c ((fL c k).getD q 0)) (fL c k).length B ∧ ∀ q j : Nat, (fL c k)[q]? = some j → C q = nI (c j) ∧ F q = nI j ∧ N q = nI (cQ c n j)
theorem getD_some {l : List Nat} {q j : Nat} (h : l[q]? = some j) : l.getD q 0 = j := by rw [List.getD_eq_getElem?_getD, h]; rfl
theorem getD_lt {l : List Nat} {q : Nat} (h : q < l.length) : l[q]? = some (l.getD q 0) := by rw [List.getD_eq_getElem?_getD, List.getElem?_eq_getElem h]; rfl
theorem cQ_0 {c : Nat → Nat} {n : Nat} (h : ¬ (fL c n).any (fun j => c j == c n) = true) : cQ c n n = 0 := fb_ct_zero.mpr (fun i hi => by
  cases e : (c i == c n)
  · rfl
  · obtain ⟨q, j, a, b⟩ := fL_cov hi
    exact absurd (fL_any.mpr ⟨q, j, a, by rw [b]; simpa using e⟩) h)
theorem cQ_1 {c : Nat → Nat} {n j : Nat} : cQ c (n + 1) j = cQ c n j + if c n = c j then 1 else 0 := by
  unfold cQ
  rw [fb_ct]
  by_cases e : c n = c j
  · rw [if_pos e, if_pos (by simp [e])]
  · rw [if_neg e, if_neg (by simp [e])]
theorem QS_find {sz : Int32} {H X C F N : Nat → Int32} {hd : Nat → Nat} {B n v : Nat} {c : Nat → Nat} (h : QS sz H X C F N hd B c n n) : (lst (fun q => c ((fL c n).getD q 0) == v) (fL c n).length = -1 ∧ ∀ q j : Nat, (fL c n)[q]? = some j → c j ≠ v) ∨ ∃ q j : Nat, (fL c n)[q]? = some j ∧ c j = v ∧ lst (fun q => c ((fL c n).getD q 0) == v) (fL c n).length = nI q := by
  rcases lst_cases (p := fun q => c ((fL c n).getD q 0) == v) (fL c n).length with ⟨a, b⟩ | ⟨q, a, b, d, -⟩
  · refine Or.inl ⟨a, fun q j hq e => ?_⟩
    have := b q (getE_lt hq)
    simp only [getD_some hq, e] at this
    simp at this
  · exact Or.inr ⟨q, _, getD_lt a, by simpa using d, b⟩
theorem fL_new {c : Nat → Nat} {n : Nat} (hn : ∀ q j : Nat, (fL c n)[q]? = some j → c j ≠ c n) : fL c (n + 1) = fL c n ++ [n] := by
  rw [fL, if_neg]
  intro z
  obtain ⟨q, j, a, b⟩ := fL_any.mp z
  exact hn q j a b
theorem fL_old {c : Nat → Nat} {n q j : Nat} (h : (fL c n)[q]? = some j) (e : c j = c n) : fL c (n + 1) = fL c n := by
  rw [fL, if_pos (fL_any.mpr ⟨q, j, h, e⟩)]
theorem QS_add {sz sz' : Int32} {H X C F N H' X' C' F' N' : Nat → Int32} {hd : Nat → Nat} {B n : Nat} {c : Nat → Nat} (h : QS sz H X C F N hd B c n n) (hn : ∀ q j : Nat, (fL c n)[q]? = some j → c j ≠ c n) (hz : sz' = nI ((fL c n).length + 1)) (h1 : ∀ j, j < B → H' j = if j = hd (c n) then nI (fL c n).length else H j) (h2 : ∀ q, q < (fL c n).length → X' q = X q ∧ C' q = C q ∧ F' q = F q ∧ N' q = N q) (h3 : X' (fL c n).length = H (hd (c n)) ∧ C' (fL c n).length = nI (c n) ∧ F' (fL c n).length = nI n ∧ N' (fL c n).length = nI 0) (hB : hd (c n) < B) : QS sz' H' X' C' F' N' hd B c (n + 1) n ∧ (fL c (n + 1))[(fL c n).length]? = some n := by
  have e := fL_new hn
  have el : (fL c (n + 1))[(fL c n).length]? = some n := by rw [e, List.getElem?_append_right (Nat.le_refl _), Nat.sub_self]; rfl
  have eL : (fL c (n + 1)).length = (fL c n).length + 1 := by rw [e, List.length_append, List.length_singleton]
  obtain ⟨a1, a2, a3⟩ := h
  refine ⟨⟨by rw [hz, eL], ?_, fun q j hq => ?_⟩, el⟩
  · rw [eL]
    refine a2.add (v := c n) (fun q hq => ?_) ?_ h1 (fun q hq => (h2 q hq).1) h3.1 hB
    · show c ((fL c (n + 1)).getD q 0) = c ((fL c n).getD q 0)
      rw [getD_some (fL_pre1 (getD_lt hq))]
    · show c ((fL c (n + 1)).getD _ 0) = c n
      rw [getD_some el]
  · rw [e] at hq
    rcases app1 hq with ⟨z, z'⟩ | ⟨rfl, rfl⟩
    · obtain ⟨b1, b2, b3⟩ := a3 q j z'
      obtain ⟨d1, d2, d3, d4⟩ := h2 q z
      exact ⟨d2.trans b1, d3.trans b2, d4.trans b3⟩
    · refine ⟨h3.2.1, h3.2.2.1, ?_⟩
      rw [h3.2.2.2, cQ_0]
      intro z
      obtain ⟨q, j, a, b⟩ := fL_any.mp z
      exact hn q j a b
theorem QS_cnt {sz sz' : Int32} {H X C F N H' X' C' F' N' : Nat → Int32} {hd : Nat → Nat} {B n q j : Nat} {c : Nat → Nat} (h : QS sz H X C F N hd B c (n + 1) n) (hq : (fL c (n + 1))[q]? = some j) (hj : c j = c n) (hz : sz' = sz) (h1 : ∀ k, k < B → H' k = H k) (h2 : ∀ p, p < (fL c (n + 1)).length → X' p = X p ∧ C' p = C p ∧ F' p = F p) (h3 : ∀ p, p < (fL c (n + 1)).length → N' p = if p = q then nI (cQ c n j + 1) else N p) : QS sz' H' X' C' F' N' hd B c (n + 1) (n + 1) := by
  obtain ⟨a1, a2, a3⟩ := h
  refine ⟨hz.trans a1, ⟨fun k hk => (h1 k hk).trans (a2.1 k hk), fun p hp => (h2 p hp).1.trans (a2.2 p hp)⟩, fun p i hp => ?_⟩
  obtain ⟨b1, b2, b3⟩ := a3 p i hp
  obtain ⟨d1, d2, d3⟩ := h2 p (getE_lt hp)
  refine ⟨d2.trans b1, d3.trans b2, ?_⟩
  rw [h3 p (getE_lt hp), cQ_1]
  by_cases e : p = q
  · subst e
    rw [hq] at hp
    cases hp
    rw [if_pos rfl, if_pos hj.symm]
  · rw [if_neg e, b3, if_neg (fun z => e (fL_inj hp hq (by rw [hj, ← z])))]
    rfl
theorem fL_30000 {c : Nat → Nat} {n : Nat} (h : ∀ i, i < n → c i ∈ cL) : (fL c n).length ≤ 30000 := by
  have := nodup_le (fL_nodup (c := c) (n := n)) (m := cL) (fun x hx => by
    obtain ⟨j, a, b⟩ := List.mem_map.mp hx
    rw [← b]; exact h j (fL_lt a))
  rw [List.length_map] at this
  exact Nat.le_trans this cL_len

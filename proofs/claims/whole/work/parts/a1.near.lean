/-! near words: the list of them -/
def ltF (v u : Nat) : Bool := decide (flW u < flW v)
def inN (N : List Nat) (v : Nat) : List Nat := if N[(N.takeWhile (ltF v)).length]? = some v then N else N.take (N.takeWhile (ltF v)).length ++ (v :: N.drop (N.takeWhile (ltF v)).length)
def srtF (N : List Nat) : Prop := N.Pairwise (fun u v => flW u < flW v)
theorem tw_take {p : Nat → Bool} : ∀ (l : List Nat), l.take (l.takeWhile p).length = l.takeWhile p
  | [] => rfl
  | a :: l => by
    rw [List.takeWhile_cons]
    split
    · rw [List.length_cons, List.take_succ_cons, tw_take l]
    · rfl
theorem tw_at {p : Nat → Bool} : ∀ (l : List Nat) (i : Nat) (u : Nat), i < (l.takeWhile p).length → l[i]? = some u → p u = true
  | [], i, u, h, _ => by simp at h
  | a :: l, i, u, h, hu => by
    rw [List.takeWhile_cons] at h
    split at h
    · rename_i hp
      cases i with
      | zero => rw [List.getElem?_cons_zero] at hu; cases hu; exact hp
      | succ i =>
        rw [List.getElem?_cons_succ] at hu
        rw [List.length_cons] at h
        exact tw_at l i u (by omega) hu
    · simp at h
theorem tw_stop {p : Nat → Bool} : ∀ (l : List Nat) (u : Nat), l[(l.takeWhile p).length]? = some u → p u = false
  | [], u, hu => by simp at hu
  | a :: l, u, hu => by
    rw [List.takeWhile_cons] at hu
    split at hu
    · rw [List.length_cons, List.getElem?_cons_succ] at hu
      exact tw_stop l u hu
    · rename_i hp
      rw [List.length_nil, List.getElem?_cons_zero] at hu
      cases hu
      simpa using hp
/-- the first place that is not less -/
theorem tw_len {p : Nat → Bool} {l : List Nat} {n : Nat} (hn : n ≤ l.length) (h1 : ∀ i u : Nat, i < n → l[i]? = some u → p u = true) (h2 : ∀ u : Nat, l[n]? = some u → p u = false) : (l.takeWhile p).length = n := by
  have hle : (l.takeWhile p).length ≤ l.length := by
    have := List.takeWhile_prefix (l := l) p
    exact this.length_le
  rcases Nat.lt_trichotomy (l.takeWhile p).length n with z | z | z
  · have hg := getD_lt (l := l) (q := (l.takeWhile p).length) (by omega)
    have a := tw_stop l _ hg
    have b := h1 _ _ z hg
    rw [a] at b; cases b
  · exact z
  · have hg := getD_lt (l := l) (q := n) (by omega)
    have a := tw_at l n _ z hg
    have b := h2 _ hg
    rw [a] at b; cases b
theorem srtF_at {N : List Nat} (h : srtF N) {i j u v : Nat} (hi : N[i]? = some u) (hj : N[j]? = some v) (hij : i < j) : flW u < flW v := by
  have h1 := getE_lt hi
  have h2 := getE_lt hj
  have := List.pairwise_iff_getElem.mp h i j h1 h2 hij
  rw [List.getElem?_eq_getElem h1] at hi
  rw [List.getElem?_eq_getElem h2] at hj
  cases hi
  cases hj
  exact this
theorem inN_mem {N : List Nat} {v u : Nat} : u ∈ inN N v ↔ u ∈ N ∨ u = v := by
  unfold inN
  by_cases z : N[(N.takeWhile (ltF v)).length]? = some v
  · rw [if_pos z]
    exact ⟨Or.inl, fun h => h.elim id (fun e => by rw [e]; exact getE_mem z)⟩
  · rw [if_neg z, List.mem_append, List.mem_cons]
    have hs : u ∈ N ↔ u ∈ N.take (N.takeWhile (ltF v)).length ∨ u ∈ N.drop (N.takeWhile (ltF v)).length := by
      rw [← List.mem_append, List.take_append_drop]
    rw [hs]
    constructor
    · rintro (h | h | h)
      · exact Or.inl (Or.inl h)
      · exact Or.inr h
      · exact Or.inl (Or.inr h)
    · rintro ((h | h) | h)
      · exact Or.inl h
      · exact Or.inr (Or.inr h)
      · exact Or.inr (Or.inl h)
/-- it is there if it was there -/
theorem inN_old {N : List Nat} {v : Nat} (hs : srtF N) (hv : v ∈ N) : N[(N.takeWhile (ltF v)).length]? = some v := by
  obtain ⟨i, hi⟩ := List.mem_iff_getElem?.mp hv
  have : (N.takeWhile (ltF v)).length = i := tw_len (Nat.le_of_lt (getE_lt hi)) (fun j u hj hu => by
    have := srtF_at hs hu hi hj
    unfold ltF; simpa using this) (fun u hu => by
    rw [hi] at hu
    cases hu
    unfold ltF; simp)
  rw [this]; exact hi
theorem inN_srt {N : List Nat} {v : Nat} (hs : srtF N) (hinj : ∀ u, u ∈ N → flW u = flW v → u = v) : srtF (inN N v) := by
  unfold inN
  by_cases z : N[(N.takeWhile (ltF v)).length]? = some v
  · rw [if_pos z]; exact hs
  · rw [if_neg z]
    have ht : ∀ u, u ∈ N.take (N.takeWhile (ltF v)).length → flW u < flW v := fun u hu => by
      rw [tw_take] at hu
      obtain ⟨i, hi⟩ := List.mem_iff_getElem?.mp hu
      have hl := getE_lt hi
      have hp : N.takeWhile (ltF v) <+: N := List.takeWhile_prefix _
      have hN : N[i]? = some u := by
        obtain ⟨t, ht⟩ := hp
        rw [← ht, List.getElem?_append_left hl]; exact hi
      have := tw_at N i u hl hN
      unfold ltF at this; simpa using this
    have hd : ∀ u, u ∈ N.drop (N.takeWhile (ltF v)).length → flW v < flW u := fun u hu => by
      obtain ⟨i, hi⟩ := List.mem_iff_getElem?.mp hu
      rw [List.getElem?_drop] at hi
      have hlt := getE_lt hi
      have hg := getD_lt (l := N) (q := (N.takeWhile (ltF v)).length) (by omega)
      have st := tw_stop N _ hg
      have st : ¬ flW (N.getD (N.takeWhile (ltF v)).length 0) < flW v := of_decide_eq_false st
      have ne : flW (N.getD (N.takeWhile (ltF v)).length 0) ≠ flW v := fun y => z (by rw [hg, hinj _ (getE_mem hg) y])
      rcases Nat.eq_zero_or_pos i with y | y
      · rw [y, Nat.add_zero] at hi
        rw [hg] at hi
        have := Option.some.inj hi
        rw [← this]; omega
      · have := srtF_at hs hg hi (by omega)
        omega
    unfold srtF at *
    rw [List.pairwise_append]
    refine ⟨hs.sublist (List.take_sublist _ _), List.pairwise_cons.mpr ⟨hd, hs.sublist (List.drop_sublist _ _)⟩, fun u hu w hw => ?_⟩
    rcases List.mem_cons.mp hw with y | y
    · rw [y]; exact ht u hu
    · have := ht u hu
      have := hd w y
      omega
/-- how many are less -/
theorem inN_ct {N : List Nat} {v x : Nat} (hs : srtF N) (hv : v ∉ N) : ((inN N v).filter (ltF x)).length = (N.filter (ltF x)).length + if flW v < flW x then 1 else 0 := by
  unfold inN
  rw [if_neg (fun z => hv (getE_mem z)), List.filter_append, List.length_append, List.filter_cons]
  have e : (N.filter (ltF x)).length = ((N.take (N.takeWhile (ltF v)).length).filter (ltF x)).length + ((N.drop (N.takeWhile (ltF v)).length).filter (ltF x)).length := by
    rw [← List.length_append, ← List.filter_append, List.take_append_drop]
  rw [e]
  by_cases z : flW v < flW x
  · rw [if_pos (show ltF x v = true by unfold ltF; simpa using z), if_pos z, List.length_cons]; omega
  · rw [if_neg (show ¬ ltF x v = true by unfold ltF; simpa using z), if_neg z]; omega
/-- the place of one is how many are less -/
theorem srtF_ct {N : List Nat} (hs : srtF N) {i v : Nat} (hi : N[i]? = some v) : (N.filter (ltF v)).length = i := by
  have hl := getE_lt hi
  have e : N.filter (ltF v) = N.take i := by
    conv => lhs; rw [← List.take_append_drop i N]
    rw [List.filter_append]
    have a : (N.take i).filter (ltF v) = N.take i := List.filter_eq_self.mpr (fun u hu => by
      obtain ⟨j, hj⟩ := List.mem_iff_getElem?.mp hu
      have hjl := getE_lt hj
      rw [List.length_take] at hjl
      rw [List.getElem?_take_of_lt (by omega)] at hj
      have := srtF_at hs hj hi (by omega)
      unfold ltF; simpa using this)
    have b : (N.drop i).filter (ltF v) = [] := List.filter_eq_nil_iff.mpr (fun u hu => by
      obtain ⟨j, hj⟩ := List.mem_iff_getElem?.mp hu
      rw [List.getElem?_drop] at hj
      rcases Nat.eq_zero_or_pos j with y | y
      · rw [y, Nat.add_zero, hi] at hj
        cases hj
        unfold ltF; simp
      · have := srtF_at hs hi hj (by omega)
        unfold ltF; simp; omega)
    rw [a, b, List.append_nil]
  rw [e, List.length_take]; omega
/-- the near words of the first cells -/
def nrC (a : AS) (k x : Nat) : Bool := a.S.testBit (x / 4) && (wdA a.b a.w (x / 4) (x % 4) != 0) && apX (wdA a.b a.w (x / 4) (x % 4)) (nv (a.q.2.2 k))
def NL (a : AS) (k : Nat) : Nat → List Nat
  | 0 => []
  | x + 1 => if nrC a k x = true then inN (NL a k x) (wdA a.b a.w (x / 4) (x % 4)) else NL a k x
section NEAR
variable {a : AS} {e : Nat}
theorem NL_mem {k : Nat} : ∀ {x v : Nat}, v ∈ NL a k x ↔ ∃ x', x' < x ∧ nrC a k x' = true ∧ v = wdA a.b a.w (x' / 4) (x' % 4)
  | 0, v => by simp [NL]
  | x + 1, v => by
    rw [NL]
    by_cases z : nrC a k x = true
    · rw [if_pos z, inN_mem, NL_mem]
      constructor
      · rintro (⟨x', h1, h2⟩ | h)
        · exact ⟨x', by omega, h2⟩
        · exact ⟨x, by omega, z, h⟩
      · rintro ⟨x', h1, h2, h3⟩
        rcases Nat.lt_succ_iff_lt_or_eq.mp h1 with y | y
        · exact Or.inl ⟨x', y, h2, h3⟩
        · rw [y] at h3; exact Or.inr h3
    · rw [if_neg z, NL_mem]
      constructor
      · rintro ⟨x', h1, h2⟩; exact ⟨x', by omega, h2⟩
      · rintro ⟨x', h1, h2, h3⟩
        rcases Nat.lt_succ_iff_lt_or_eq.mp h1 with y | y
        · exact ⟨x', y, h2, h3⟩
        · rw [y] at h2; exact absurd h2 z
theorem NL_len (k : Nat) : ∀ x, (NL a k x).length ≤ x
  | 0 => Nat.le_refl _
  | x + 1 => by
    have ih := NL_len k x
    rw [NL]
    split
    · unfold inN
      split
      · omega
      · rw [List.length_append, List.length_cons, List.length_take, List.length_drop]; omega
    · omega
theorem OkA.ng (ho : OkA e a) {k x : Nat} (hx : x ≤ 4 * a.w.1) {v : Nat} (h : v ∈ NL a k x) : gw v := by
  obtain ⟨x', h1, h2, h3⟩ := NL_mem.mp h
  rw [h3]
  refine ho.wg (by omega) ?_
  unfold nrC at h2
  simp only [Bool.and_eq_true] at h2
  simpa using h2.1.2
theorem OkA.nsrt (ho : OkA e a) {k : Nat} : ∀ {x : Nat}, x ≤ 4 * a.w.1 → srtF (NL a k x)
  | 0, _ => List.Pairwise.nil
  | x + 1, hx => by
    rw [NL]
    split
    · rename_i z
      refine inN_srt (ho.nsrt (by omega)) (fun u hu hf => ?_)
      have g1 := ho.ng (by omega) hu
      have g2 : gw (wdA a.b a.w (x / 4) (x % 4)) := by
        refine ho.wg (by omega) ?_
        unfold nrC at z
        simp only [Bool.and_eq_true] at z
        simpa using z.1.2
      exact fl_inj g1.2 g2.2 hf
    · exact ho.nsrt (by omega)
end NEAR

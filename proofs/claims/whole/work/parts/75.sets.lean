/-! sets of rows that hang together -/
noncomputable def dB (p : Prop) : Bool := @decide p (Classical.propDecidable p)
theorem dB_iff {p : Prop} : dB p = true ↔ p := @decide_eq_true_iff p (Classical.propDecidable p)
theorem dB_no {p : Prop} : dB p = false ↔ ¬ p := by
  constructor
  · intro h hp
    rw [dB_iff.mpr hp] at h; cases h
  · intro h
    cases e : dB p
    · rfl
    · exact absurd (dB_iff.mp e) h
def sb (a s : Nat) : Prop := ∀ i, a.testBit i = true → s.testBit i = true
theorem sb_rf (a : Nat) : sb a a := fun _ h => h
theorem sb_tr {a b c : Nat} (h : sb a b) (h2 : sb b c) : sb a c := fun i z => h2 i (h i z)
theorem sb_lt {a s n : Nat} (h : sb a s) (hs : s < 2 ^ n) : a < 2 ^ n := by
  apply Nat.lt_pow_two_of_testBit
  intro i hi
  cases e : a.testBit i
  · rfl
  · have := h i e
    rw [Nat.testBit_lt_two_pow (Nat.lt_of_lt_of_le hs (Nat.pow_le_pow_right (by decide) hi))] at this
    cases this
theorem bt_lt {s n i : Nat} (hs : s < 2 ^ n) (h : s.testBit i = true) : i < n := by
  rcases Nat.lt_or_ge i n with q | q
  · exact q
  · rw [Nat.testBit_lt_two_pow (Nat.lt_of_lt_of_le hs (Nat.pow_le_pow_right (by decide) q))] at h; cases h
theorem sb_and {a s : Nat} : sb a s ↔ a &&& s = a := by
  constructor
  · intro h
    apply Nat.eq_of_testBit_eq
    intro i
    rw [Nat.testBit_and]
    cases e : a.testBit i
    · rfl
    · rw [h i e]; rfl
  · intro h i e
    have := congrArg (fun x => x.testBit i) h
    simp only [Nat.testBit_and, e, Bool.true_and] at this
    exact this
theorem sb_ext {a b : Nat} (h : sb a b) (h2 : sb b a) : a = b := by
  apply Nat.eq_of_testBit_eq
  intro i
  cases e : a.testBit i
  · cases e2 : b.testBit i
    · rfl
    · rw [h2 i e2] at e; cases e
  · rw [h i e]
theorem ne0 {a : Nat} (h : a ≠ 0) : ∃ i, a.testBit i = true := Nat.exists_testBit_of_ne_zero h
theorem ne0' {a i : Nat} (h : a.testBit i = true) : a ≠ 0 := by
  intro e; subst e; rw [Nat.zero_testBit] at h; cases h
theorem p2_bit (r i : Nat) : (2 ^ r).testBit i = decide (r = i) := Nat.testBit_two_pow ..
theorem or_bit (a b i : Nat) : (a ||| b).testBit i = true ↔ a.testBit i = true ∨ b.testBit i = true := by rw [Nat.testBit_or, Bool.or_eq_true]
theorem and_bit (a b i : Nat) : (a &&& b).testBit i = true ↔ a.testBit i = true ∧ b.testBit i = true := by rw [Nat.testBit_and, Bool.and_eq_true]
theorem add_bit (a r i : Nat) : (a ||| 2 ^ r).testBit i = true ↔ a.testBit i = true ∨ i = r := by
  rw [or_bit, p2_bit, decide_eq_true_iff]
  exact ⟨fun h => h.imp_right Eq.symm, fun h => h.imp_right Eq.symm⟩
/-- without one -/
noncomputable def wt (s r : Nat) : Nat := msk (fun i => s.testBit i && !(i == r)) w32
theorem wt_bit {s r : Nat} (hs : s < 2 ^ 32) (i : Nat) : (wt s r).testBit i = true ↔ s.testBit i = true ∧ i ≠ r := by
  unfold wt
  rw [w32_eq, msk_bit]
  simp only [Bool.and_eq_true, decide_eq_true_eq, Bool.not_eq_true', beq_eq_false_iff_ne]
  exact ⟨fun h => h.2, fun h => ⟨bt_lt hs h.1, h⟩⟩
theorem wt_sb {s r : Nat} (hs : s < 2 ^ 32) : sb (wt s r) s := fun i h => ((wt_bit hs i).mp h).1
theorem pc_sb {a s : Nat} (h : sb a s) : pc a ≤ pc s := fb_ct_sub (fun k _ => h k)
theorem pc_eq {a s : Nat} (hs : s < 2 ^ 32) (h : sb a s) (e : pc s ≤ pc a) : a = s := by
  refine sb_ext h (fun i hi => ?_)
  cases ea : a.testBit i
  · exfalso
    have h1 : fb_ct (fun k => a.testBit k || (s.testBit k && !a.testBit k)) 32 = fb_ct (fun k => a.testBit k) 32 + fb_ct (fun k => s.testBit k && !a.testBit k) 32 :=
      fb_ct_or (fun k _ z => by rw [z.1] at z; simp at z)
    have h2 : fb_ct (fun k => a.testBit k || (s.testBit k && !a.testBit k)) 32 = fb_ct (fun k => s.testBit k) 32 := fb_ct_cong (fun k _ => by
      cases e1 : a.testBit k
      · simp
      · simp [h k e1])
    have h3 : 0 < fb_ct (fun k => s.testBit k && !a.testBit k) 32 := fb_ct_pos.mpr ⟨i, bt_lt hs hi, by simp [hi, ea]⟩
    rw [pc_def, pc_def] at e
    omega
  · rfl
theorem pc_lt {a s i : Nat} (hs : s < 2 ^ 32) (h : sb a s) (hi : s.testBit i = true) (ha : a.testBit i = false) : pc a < pc s := by
  rcases Nat.lt_or_ge (pc a) (pc s) with q | q
  · exact q
  · rw [pc_eq hs h q, hi] at ha; cases ha
theorem pc_add {s r : Nat} (hr : r < 32) (h : s.testBit r = false) : pc (s ||| 2 ^ r) = pc s + 1 := by
  rw [pc_def, pc_def]
  have h1 := fb_ct_upd (fun i => s.testBit i) true hr
  simp only [h] at h1
  simp at h1
  rw [← h1]
  refine fb_ct_cong (fun k _ => ?_)
  rw [Nat.testBit_or, p2_bit]
  by_cases e : k = r
  · subst e; simp
  · simp [e, Ne.symm e]
theorem pc_wt {s r : Nat} (hs : s < 2 ^ 32) (h : s.testBit r = true) : pc s = pc (wt s r) + 1 := by
  have e : wt s r ||| 2 ^ r = s := by
    refine sb_ext (fun i z => ?_) (fun i z => ?_)
    · rcases (add_bit _ _ _).mp z with q | q
      · exact ((wt_bit hs i).mp q).1
      · rw [q]; exact h
    · refine (add_bit _ _ _).mpr ?_
      by_cases e : i = r
      · exact Or.inr e
      · exact Or.inl ((wt_bit hs i).mpr ⟨z, e⟩)
  have h2 : (wt s r).testBit r = false := by
    cases q : (wt s r).testBit r
    · rfl
    · exact absurd rfl ((wt_bit hs r).mp q).2
  rw [← pc_add (bt_lt hs h) h2, e]
theorem pc_one (r : Nat) (hr : r < 32) : pc (2 ^ r) = 1 := by
  have := pc_add (s := 0) hr (Nat.zero_testBit r)
  rw [Nat.zero_or, pc_0] at this
  exact this
/-- hang together, by cuts -/
def Cn (td : Nat → Nat) (s : Nat) : Prop := ∀ A, sb A s → A ≠ 0 → A ≠ s → ∃ i j, A.testBit i = true ∧ s.testBit j = true ∧ A.testBit j = false ∧ (td i).testBit j = true
def sy (td : Nat → Nat) : Prop := ∀ i j, (td i).testBit j = (td j).testBit i
/-- all that is tied to one of a set -/
noncomputable def ru (td : Nat → Nat) (s : Nat) : Nat := (bl s).foldl (fun a i => a ||| td i) 0
theorem fold_or {td : Nat → Nat} : ∀ (l : List Nat) (x j : Nat), (l.foldl (fun a i => a ||| td i) x).testBit j = true ↔ x.testBit j = true ∨ ∃ i, i ∈ l ∧ (td i).testBit j = true
  | [], x, j => by simp
  | a :: l, x, j => by
    rw [List.foldl_cons, fold_or l, or_bit]
    constructor
    · rintro ((h | h) | ⟨i, h1, h2⟩)
      · exact Or.inl h
      · exact Or.inr ⟨a, List.mem_cons_self, h⟩
      · exact Or.inr ⟨i, List.mem_cons_of_mem _ h1, h2⟩
    · rintro (h | ⟨i, h1, h2⟩)
      · exact Or.inl (Or.inl h)
      · rcases List.mem_cons.mp h1 with q | q
        · subst q; exact Or.inl (Or.inr h2)
        · exact Or.inr ⟨i, q, h2⟩
theorem ru_bit {td : Nat → Nat} {s j : Nat} (hs : s < 2 ^ 32) : (ru td s).testBit j = true ↔ ∃ i, s.testBit i = true ∧ (td i).testBit j = true := by
  unfold ru
  rw [fold_or]
  constructor
  · rintro (h | ⟨i, h1, h2⟩)
    · rw [Nat.zero_testBit] at h; cases h
    · exact ⟨i, (bl_mem hs).mp h1, h2⟩
  · rintro ⟨i, h1, h2⟩; exact Or.inr ⟨i, (bl_mem hs).mpr h1, h2⟩
theorem ru_or {td : Nat → Nat} {a b : Nat} (ha : a < 2 ^ 32) (hb : b < 2 ^ 32) : ru td (a ||| b) = ru td a ||| ru td b := by
  refine sb_ext (fun j h => ?_) (fun j h => ?_)
  · obtain ⟨i, h1, h2⟩ := (ru_bit (Nat.or_lt_two_pow ha hb)).mp h
    refine (or_bit _ _ _).mpr ?_
    rcases (or_bit _ _ _).mp h1 with q | q
    · exact Or.inl ((ru_bit ha).mpr ⟨i, q, h2⟩)
    · exact Or.inr ((ru_bit hb).mpr ⟨i, q, h2⟩)
  · refine (ru_bit (Nat.or_lt_two_pow ha hb)).mpr ?_
    rcases (or_bit _ _ _).mp h with q | q
    · obtain ⟨i, h1, h2⟩ := (ru_bit ha).mp q
      exact ⟨i, (or_bit _ _ _).mpr (Or.inl h1), h2⟩
    · obtain ⟨i, h1, h2⟩ := (ru_bit hb).mp q
      exact ⟨i, (or_bit _ _ _).mpr (Or.inr h1), h2⟩
theorem ru_p2 {td : Nat → Nat} {r : Nat} (hr : r < 32) : ru td (2 ^ r) = td r := by
  have h2 : 2 ^ r < 2 ^ 32 := Nat.pow_lt_pow_right (by decide) hr
  refine sb_ext (fun j h => ?_) (fun j h => ?_)
  · obtain ⟨i, h1, h3⟩ := (ru_bit h2).mp h
    rw [p2_bit, decide_eq_true_iff] at h1
    subst h1; exact h3
  · exact (ru_bit h2).mpr ⟨r, by rw [p2_bit]; simp, h⟩
theorem pw_mem {α : Type} {R : α → α → Prop} (hs : ∀ a b, R a b → R b a) : ∀ {l : List α}, l.Pairwise R → ∀ {a b : α}, a ∈ l → b ∈ l → a ≠ b → R a b
  | [], _, a, _, h, _, _ => absurd h List.not_mem_nil
  | x :: l, hp, a, b, ha, hb, hn => by
    rw [List.pairwise_cons] at hp
    rcases List.mem_cons.mp ha with q | q
    · rcases List.mem_cons.mp hb with z | z
      · exact absurd (q.trans z.symm) hn
      · rw [q]; exact hp.1 b z
    · rcases List.mem_cons.mp hb with z | z
      · rw [z]; exact hs _ _ (hp.1 a q)
      · exact pw_mem hs hp.2 q z hn
/-- all of some sets and one more -/
def un (l : List Nat) (x : Nat) : Nat := l.foldl (fun a c => a ||| c) x
theorem un_bit : ∀ (l : List Nat) (x j : Nat), (un l x).testBit j = true ↔ x.testBit j = true ∨ ∃ C, C ∈ l ∧ C.testBit j = true := fun l x j => fold_or (td := fun c => c) l x j
theorem un_lt {l : List Nat} {x : Nat} (h : ∀ C, C ∈ l → C < 2 ^ 32) (hx : x < 2 ^ 32) : un l x < 2 ^ 32 := by
  apply Nat.lt_pow_two_of_testBit
  intro i hi
  cases e : (un l x).testBit i
  · rfl
  · rcases (un_bit l x i).mp e with q | ⟨C, a, q⟩
    · exact absurd (bt_lt hx q) (by omega)
    · exact absurd (bt_lt (h C a) q) (by omega)
theorem ru_un {td : Nat → Nat} : ∀ {l : List Nat} {x : Nat}, (∀ C, C ∈ l → C < 2 ^ 32) → x < 2 ^ 32 → ru td (un l x) = (l.map (ru td)).foldl (fun a c => a ||| c) (ru td x)
  | [], x, _, _ => rfl
  | c :: l, x, h, hx => by
    have hc := h c List.mem_cons_self
    show ru td (un l (x ||| c)) = _
    rw [ru_un (fun C hC => h C (List.mem_cons_of_mem _ hC)) (Nat.or_lt_two_pow hx hc), ru_or hx hc]; rfl
/-- a row with groups that are all tied to it -/
theorem Cn_star {td : Nat → Nat} {l : List Nat} {r : Nat} (hsy : sy td) (hr : r < 32) (hl : ∀ C, C ∈ l → C < 2 ^ 32 ∧ Cn td C ∧ (ru td C).testBit r = true) : Cn td (un l (2 ^ r)) := by
  have hp : 2 ^ r < 2 ^ 32 := Nat.pow_lt_pow_right (by decide) hr
  have p2r : ∀ j, (2 ^ r).testBit j = true ↔ j = r := fun j => by rw [p2_bit, decide_eq_true_iff]; exact ⟨Eq.symm, Eq.symm⟩
  intro A hA h0 hne
  -- an edge within a group that A cuts
  have cut : ∀ C, C ∈ l → (∃ i, C.testBit i = true ∧ A.testBit i = true) → (∃ j, C.testBit j = true ∧ A.testBit j = false) → ∃ i j, A.testBit i = true ∧ (un l (2 ^ r)).testBit j = true ∧ A.testBit j = false ∧ (td i).testBit j = true := by
    intro C hC ⟨i, c1, a1⟩ ⟨j, c2, a2⟩
    obtain ⟨x, y, e1, e2, e3, e4⟩ := (hl C hC).2.1 (A &&& C) (fun k z => ((and_bit _ _ _).mp z).2) (ne0' ((and_bit _ _ _).mpr ⟨a1, c1⟩)) (fun e => by
      have : (A &&& C).testBit j = true := by rw [e]; exact c2
      rw [((and_bit _ _ _).mp this).1] at a2; cases a2)
    refine ⟨x, y, ((and_bit _ _ _).mp e1).1, (un_bit _ _ _).mpr (Or.inr ⟨C, hC, e2⟩), ?_, e4⟩
    cases q : A.testBit y
    · rfl
    · rw [Nat.testBit_and, q, e2] at e3; cases e3
  cases er : A.testBit r
  · obtain ⟨i, hi⟩ := ne0 h0
    rcases (un_bit _ _ _).mp (hA i hi) with q | ⟨C, hC, q⟩
    · rw [(p2r i).mp q, er] at hi; cases hi
    · by_cases hz : ∃ j, C.testBit j = true ∧ A.testBit j = false
      · exact cut C hC ⟨i, q, hi⟩ hz
      · obtain ⟨x, x1, x2⟩ := (ru_bit (hl C hC).1).mp (hl C hC).2.2
        refine ⟨x, r, ?_, (un_bit _ _ _).mpr (Or.inl ((p2r r).mpr rfl)), er, x2⟩
        cases z : A.testBit x
        · exact absurd ⟨x, x1, z⟩ hz
        · rfl
  · have : ∃ j, (un l (2 ^ r)).testBit j = true ∧ A.testBit j = false := by
      rcases Classical.em (∃ j, (un l (2 ^ r)).testBit j = true ∧ A.testBit j = false) with q | q
      · exact q
      · refine absurd (sb_ext hA (fun j hj => ?_)) hne
        cases z : A.testBit j
        · exact absurd ⟨j, hj, z⟩ q
        · rfl
    obtain ⟨j, j1, j2⟩ := this
    rcases (un_bit _ _ _).mp j1 with q | ⟨C, hC, q⟩
    · rw [(p2r j).mp q, er] at j2; cases j2
    · by_cases hz : ∃ i, C.testBit i = true ∧ A.testBit i = true
      · exact cut C hC hz ⟨j, q, j2⟩
      · obtain ⟨x, x1, x2⟩ := (ru_bit (hl C hC).1).mp (hl C hC).2.2
        refine ⟨r, x, er, (un_bit _ _ _).mpr (Or.inr ⟨C, hC, x1⟩), ?_, by rw [hsy]; exact x2⟩
        cases z : A.testBit x
        · rfl
        · exact absurd ⟨x, x1, z⟩ hz
theorem Cn_one {td : Nat → Nat} (hsy : sy td) {r : Nat} (hr : r < 32) : Cn td (2 ^ r) := Cn_star (l := []) hsy hr (fun C h => absurd h List.not_mem_nil)
/-- the groups of a set -/
def Gp (td : Nat → Nat) (set : Nat) (cs : List Nat) : Prop := (∀ C, C ∈ cs → C ≠ 0 ∧ sb C set ∧ Cn td C) ∧ (∀ i, set.testBit i = true → ∃ C, C ∈ cs ∧ C.testBit i = true) ∧ cs.Pairwise (fun C D => ∀ i j, C.testBit i = true → D.testBit j = true → i ≠ j ∧ (td i).testBit j = false)
theorem Gp.apart {td : Nat → Nat} {set : Nat} {cs : List Nat} (hsy : sy td) (h : Gp td set cs) {C D i j : Nat} (hC : C ∈ cs) (hD : D ∈ cs) (hn : C ≠ D) (hi : C.testBit i = true) (hj : D.testBit j = true) : i ≠ j ∧ (td i).testBit j = false :=
  pw_mem (R := fun C D => ∀ i j, C.testBit i = true → D.testBit j = true → i ≠ j ∧ (td i).testBit j = false) (fun a b hab i j hi hj => ⟨Ne.symm (hab j i hj hi).1, by rw [hsy]; exact (hab j i hj hi).2⟩) h.2.2 hC hD hn i j hi hj
theorem Gp.nil (td : Nat → Nat) : Gp td 0 [] := ⟨fun C h => absurd h List.not_mem_nil, ⟨fun i h => absurd h (by rw [Nat.zero_testBit]; decide), List.Pairwise.nil⟩⟩
/-- a row joins the groups -/
theorem Gp.join {td : Nat → Nat} {set r : Nat} {cs : List Nat} (hsy : sy td) (h : Gp td set cs) (hset : set < 2 ^ 32) (hr : r < 32) (hn : set.testBit r = false) : Gp td (set ||| 2 ^ r) (cs.filter (fun C => !(ru td C).testBit r) ++ [un (cs.filter (fun C => (ru td C).testBit r)) (2 ^ r)]) := by
  have p2r : ∀ j, (2 ^ r).testBit j = true ↔ j = r := fun j => by rw [p2_bit, decide_eq_true_iff]; exact ⟨Eq.symm, Eq.symm⟩
  refine ⟨fun C hC => ?_, fun i hi => ?_, ?_⟩
  · rcases List.mem_append.mp hC with q | q
    · have q1 := (List.mem_filter.mp q).1
      exact ⟨(h.1 C q1).1, fun i z => (add_bit _ _ _).mpr (Or.inl ((h.1 C q1).2.1 i z)), (h.1 C q1).2.2⟩
    · rw [List.mem_singleton] at q
      subst q
      refine ⟨ne0' ((un_bit _ _ _).mpr (Or.inl ((p2r r).mpr rfl))), fun i z => ?_, Cn_star hsy hr (fun C hC => ?_)⟩
      · rcases (un_bit _ _ _).mp z with y | ⟨C, y1, y2⟩
        · exact (add_bit _ _ _).mpr (Or.inr ((p2r i).mp y))
        · exact (add_bit _ _ _).mpr (Or.inl ((h.1 C (List.mem_filter.mp y1).1).2.1 i y2))
      · have q1 := List.mem_filter.mp hC
        exact ⟨sb_lt (h.1 C q1.1).2.1 hset, (h.1 C q1.1).2.2, q1.2⟩
  · rcases (add_bit _ _ _).mp hi with q | q
    · obtain ⟨C, c1, c2⟩ := h.2.1 i q
      cases e : (ru td C).testBit r
      · exact ⟨C, List.mem_append_left _ (List.mem_filter.mpr ⟨c1, by simp [e]⟩), c2⟩
      · exact ⟨_, List.mem_append_right _ (List.mem_singleton.mpr rfl), (un_bit _ _ _).mpr (Or.inr ⟨C, List.mem_filter.mpr ⟨c1, e⟩, c2⟩)⟩
    · exact ⟨_, List.mem_append_right _ (List.mem_singleton.mpr rfl), (un_bit _ _ _).mpr (Or.inl ((p2r i).mpr q))⟩
  · rw [List.pairwise_append]
    refine ⟨h.2.2.filter _, List.pairwise_singleton _ _, fun C hC D hD i j hi hj => ?_⟩
    rw [List.mem_singleton] at hD
    subst hD
    obtain ⟨c1, c2⟩ := List.mem_filter.mp hC
    have c2' : (ru td C).testBit r = false := by simpa using c2
    have hset' := (h.1 C c1).2.1 i hi
    rcases (un_bit _ _ _).mp hj with y | ⟨D, y1, y2⟩
    · have ej := (p2r j).mp y
      subst ej
      refine ⟨fun e => ?_, ?_⟩
      · rw [e, hn] at hset'; cases hset'
      · cases z : (td i).testBit j
        · rfl
        · rw [(ru_bit (sb_lt (h.1 C c1).2.1 hset)).mpr ⟨i, hi, z⟩] at c2'; cases c2'
    · obtain ⟨d1, d2⟩ := List.mem_filter.mp y1
      exact h.apart hsy c1 d1 (fun e => by subst e; rw [c2'] at d2; cases d2) hi y2

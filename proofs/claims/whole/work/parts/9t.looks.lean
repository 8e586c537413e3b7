/-! looks: what is least so far, and the bound -/
def oI (o : Option Nat) : Int32 := match o with
  | none => -1
  | some v => nI v
def oMin (o : Option Nat) (y : Nat) : Option Nat := match o with
  | none => some y
  | some x => if y ≤ x then some y else some x
def bstO (q : Nat → Bool) (c : Nat → Nat) (l : List Nat) (o : Option Nat) : Option Nat := l.foldl (fun o s => if q s = true then oMin o (c s) else o) o
def lbO (n : Nat) : List (Nat × Nat) → Option Nat → Option Nat
  | [], v => v
  | p :: D, v => if n < p.1 then v else lbO n D (some p.2)
def mnO (n : Nat) (l : List (Nat × Nat)) (o : Option Nat) : Option Nat := l.foldl (fun o p => if p.1 ≤ n then oMin o p.2 else o) o
theorem mnO_jp {q : Nat → Bool} {c : Nat → Nat} {n : Nat} : ∀ (l : List Nat) (k : Nat) (o : Option Nat), mnO n ((jp q k l).map (fun p => (p.1, c p.2))) o = bstO q c (l.take (n - k)) o
  | [], k, o => by simp [jp, mnO, bstO]
  | s :: l, k, o => by
    have ih := mnO_jp (q := q) (c := c) (n := n) l (k + 1)
    rcases Nat.lt_or_ge k n with z | z
    · have e : n - k = (n - (k + 1)) + 1 := by omega
      rw [e, List.take_succ_cons, jp]
      by_cases hq : q s = true
      · rw [if_pos hq, List.map_cons]
        show mnO n _ (if k + 1 ≤ n then oMin o (c s) else o) = bstO q c _ (if q s = true then oMin o (c s) else o)
        rw [if_pos (by omega), if_pos hq]
        exact ih _
      · rw [if_neg hq]
        show mnO n _ o = bstO q c _ (if q s = true then oMin o (c s) else o)
        rw [if_neg hq]
        exact ih _
    · have e : n - k = 0 := by omega
      have e1 : n - (k + 1) = 0 := by omega
      rw [e, jp]
      have ih' := ih o
      rw [e1] at ih'
      by_cases hq : q s = true
      · rw [if_pos hq, List.map_cons]
        show mnO n _ (if k + 1 ≤ n then oMin o (c s) else o) = _
        rw [if_neg (by omega)]
        exact ih'
      · rw [if_neg hq]; exact ih'
theorem lbO_all {n : Nat} : ∀ {D E : List (Nat × Nat)} {v : Option Nat}, (∀ q, q ∈ D → q.1 ≤ n) → lbO n (D ++ E) v = lbO n E (lbO n D v)
  | [], E, v, _ => rfl
  | p :: D, E, v, h => by
    have := h p (List.mem_cons_self)
    rw [List.cons_append, lbO, lbO, if_neg (by omega), if_neg (by omega)]
    exact lbO_all (fun q hq => h q (List.mem_cons_of_mem _ hq))
theorem lbO_gt {n : Nat} {p : Nat × Nat} (hp : n < p.1) : ∀ {D : List (Nat × Nat)} {v : Option Nat}, lbO n (D ++ [p]) v = lbO n D v
  | [], v => by show (if n < p.1 then v else _) = v; rw [if_pos hp]
  | q :: D, v => by
    rw [List.cons_append, lbO, lbO]
    split
    · rfl
    · exact lbO_gt hp
theorem dSt_min {n : Nat} : ∀ (l D : List (Nat × Nat)) (o : Option Nat) (k : Nat), (∀ p, p ∈ l → k < p.1 ∧ p.2 < 64) → l.Pairwise (fun p q => p.1 < q.1) → (∀ p, p ∈ D → p.1 ≤ k) → lbO n D none = o → (k ≤ n → o = if D = [] then none else some (lp D)) → lbO n (l.foldl dSt D) none = mnO n l o
  | [], D, o, k, _, _, _, h, _ => h
  | p :: l, D, o, k, h1, h2, h3, h4, h5 => by
    obtain ⟨a1, a2⟩ := h1 p (List.mem_cons_self)
    obtain ⟨b1, b2⟩ := List.pairwise_cons.mp h2
    have lp0 : lp [] = 64 := rfl
    show lbO n (l.foldl dSt (dSt D p)) none = mnO n l (if p.1 ≤ n then oMin o p.2 else o)
    refine dSt_min l (dSt D p) _ p.1 (fun q hq => ⟨b1 q hq, (h1 q (List.mem_cons_of_mem _ hq)).2⟩) b2 (fun q hq => ?_) ?_ (fun hk => ?_)
    · unfold dSt at hq
      split at hq
      · rcases List.mem_append.mp hq with z | z
        · have := h3 q z; omega
        · rw [List.mem_singleton] at z; rw [z]; exact Nat.le_refl _
      · have := h3 q hq; omega
    · by_cases z : p.1 ≤ n
      · rw [if_pos z]
        have h5' := h5 (by omega)
        have hall : ∀ q, q ∈ D → q.1 ≤ n := fun q hq => by have := h3 q hq; omega
        unfold dSt
        by_cases y : p.2 < lp D
        · rw [if_pos y, lbO_all hall]
          show (if n < p.1 then _ else some p.2) = _
          rw [if_neg (by omega), h5']
          by_cases d : D = []
          · rw [if_pos d]; rfl
          · rw [if_neg d]
            show some p.2 = if p.2 ≤ lp D then some p.2 else some (lp D)
            rw [if_pos (by omega)]
        · rw [if_neg y, h4, h5']
          have d : D ≠ [] := fun e => by rw [e, lp0] at y; omega
          rw [if_neg d]
          show some (lp D) = if p.2 ≤ lp D then some p.2 else some (lp D)
          by_cases u : p.2 ≤ lp D
          · rw [if_pos u, show p.2 = lp D by omega]
          · rw [if_neg u]
      · rw [if_neg z]
        unfold dSt
        split
        · rw [lbO_gt (by omega)]; exact h4
        · exact h4
    · have h5' := h5 (by omega)
      rw [if_pos hk, h5']
      unfold dSt
      by_cases y : p.2 < lp D
      · have ne : ¬ D ++ [p] = [] := by simp
        rw [if_pos y, if_neg ne, lp_snoc]
        by_cases d : D = []
        · rw [if_pos d]; rfl
        · rw [if_neg d]
          show (if p.2 ≤ lp D then some p.2 else some (lp D)) = some p.2
          rw [if_pos (by omega)]
      · have d : D ≠ [] := fun e => by rw [e, lp0] at y; omega
        rw [if_neg y, if_neg d]
        show (if p.2 ≤ lp D then some p.2 else some (lp D)) = some (lp D)
        by_cases u : p.2 ≤ lp D
        · rw [if_pos u, show p.2 = lp D by omega]
        · rw [if_neg u]
theorem jp_inc {q : Nat → Bool} {c : Nat → Nat} : ∀ (l : List Nat) (k : Nat), (∀ p, p ∈ (jp q k l).map (fun p => (p.1, c p.2)) → k < p.1) ∧ ((jp q k l).map (fun p => (p.1, c p.2))).Pairwise (fun p q => p.1 < q.1)
  | [], k => ⟨fun p hp => by simp [jp] at hp, by simp [jp]⟩
  | s :: l, k => by
    obtain ⟨h1, h2⟩ := jp_inc (q := q) (c := c) l (k + 1)
    rw [jp]
    split
    · rw [List.map_cons]
      refine ⟨fun p hp => ?_, List.pairwise_cons.mpr ⟨fun p hp => h1 p hp, h2⟩⟩
      rcases List.mem_cons.mp hp with z | z
      · rw [z]; exact Nat.lt_succ_self k
      · have := h1 p z; omega
    · exact ⟨fun p hp => by have := h1 p hp; omega, h2⟩
theorem dSt_mem : ∀ {l D : List (Nat × Nat)} {p : Nat × Nat}, p ∈ l.foldl dSt D → p ∈ D ∨ p ∈ l
  | [], D, p, h => Or.inl h
  | q :: l, D, p, h => by
    rcases dSt_mem (l := l) (D := dSt D q) h with z | z
    · unfold dSt at z
      split at z
      · rcases List.mem_append.mp z with y | y
        · exact Or.inl y
        · rw [List.mem_singleton] at y; rw [y]; exact Or.inr (List.mem_cons_self)
      · exact Or.inl z
    · exact Or.inr (List.mem_cons_of_mem _ z)
/-- the least tie -/
noncomputable def leT (f : Nat → Nat → Nat) : Nat := Classical.epsilon (lsT f)
theorem leT_eq {f : Nat → Nat → Nat} {l : Nat} (h : lsT f l) : leT f = l := by
  have h2 : lsT f (leT f) := Classical.epsilon_spec ⟨l, h⟩
  rcases h with ⟨h, h'⟩ | ⟨h, ⟨a, b, h'⟩, h''⟩ <;> rcases h2 with ⟨g, g'⟩ | ⟨g, ⟨c, d, g'⟩, g''⟩
  · omega
  · rw [h'] at g'; omega
  · rw [g'] at h'; omega
  · have := h'' c d (by omega)
    have := g'' a b (by omega)
    omega
/-- the size of the n-th set -/
noncomputable def szN (f : Nat → Nat → Nat) (S n : Nat) : Nat := Classical.epsilon (fun m => 1 ≤ m ∧ (aL f S (m - 1)).length ≤ n ∧ n < (aL f S m).length)
theorem aL_mono {f : Nat → Nat → Nat} {S m : Nat} : ∀ d, (aL f S m).length ≤ (aL f S (m + d)).length
  | 0 => Nat.le_refl _
  | d + 1 => by
    have ih := aL_mono (f := f) (S := S) (m := m) d
    have e : (aL f S (m + (d + 1))).length = (aL f S (m + d)).length + (lS (tdF f) S (m + d + 1)).length := by
      show (AL (tdF f) S (m + d) ++ lS (tdF f) S (m + d + 1)).length = _
      rw [List.length_append]; rfl
    omega
theorem szN_eq {f : Nat → Nat → Nat} {S n m : Nat} (h1 : 1 ≤ m) (h2 : (aL f S (m - 1)).length ≤ n) (h3 : n < (aL f S m).length) : szN f S n = m := by
  have h := Classical.epsilon_spec (p := fun m => 1 ≤ m ∧ (aL f S (m - 1)).length ≤ n ∧ n < (aL f S m).length) ⟨m, h1, h2, h3⟩
  have h' : 1 ≤ szN f S n ∧ (aL f S (szN f S n - 1)).length ≤ n ∧ n < (aL f S (szN f S n)).length := h
  generalize szN f S n = k at *
  rcases Nat.lt_trichotomy k m with z | z | z
  · have := aL_mono (f := f) (S := S) (m := k) (m - 1 - k)
    rw [show k + (m - 1 - k) = m - 1 by omega] at this
    omega
  · exact z
  · have := aL_mono (f := f) (S := S) (m := m) (k - 1 - m)
    rw [show m + (k - 1 - m) = k - 1 by omega] at this
    omega
noncomputable def bnd (a : AS) (m : Nat) : Int32 := if anyB (fun k => mnP (a.P k) a.w.1 == 9) a.q.1 = true then -1 else if m ≤ 1 then nI (fb_sm (fun k => mnP (a.P k) a.w.1) a.q.1) else if leT a.f = 0 then -1 else nI (fb_sm (fun k => mnP (a.P k) a.w.1) a.q.1 + (m - 1) * leT a.f)
noncomputable def rLooks (a : AS) (x y : Int32) : Int32 := if a.q.1 ≠ 0 ∧ 0 ≤ x.toInt ∧ x.toInt ≤ 1000000 then (if y = 0 then oI (bstO (jqF a.f a.P a.q.1) (tpr a.f a.P a.q.1) ((aL a.f a.S a.W).take x.toInt.toNat) none) else if y = 1 then (if x.toInt.toNat < (aL a.f a.S a.W).length then bnd a (szN a.f a.S x.toInt.toNat) else -1) else if y = 2 then nI (min x.toInt.toNat (aL a.f a.S a.W).length) else -1) else -1
section LOOKS
variable {K : KT} {G : St} {a : AS} {e : Nat}
theorem OkA.al (ho : OkA e a) : (aL a.f a.S a.W).length ≤ 174436 := AL_len (tdF a.f) a.S ho.W5
theorem OkA.dl (ho : OkA e a) (n : Nat) : lbO n (dL a.f a.P a.q.1 a.S a.W) none = bstO (jqF a.f a.P a.q.1) (tpr a.f a.P a.q.1) ((aL a.f a.S a.W).take n) none := by
  have h := mnO_jp (q := jqF a.f a.P a.q.1) (c := tpr a.f a.P a.q.1) (n := n) (aL a.f a.S a.W) 0 none
  rw [Nat.sub_zero] at h
  rw [← h]
  obtain ⟨i1, i2⟩ := jp_inc (q := jqF a.f a.P a.q.1) (c := tpr a.f a.P a.q.1) (aL a.f a.S a.W) 0
  refine dSt_min _ [] none 0 (fun p hp => ⟨i1 p hp, ?_⟩) i2 (fun p hp => by cases hp) rfl (fun _ => rfl)
  obtain ⟨p', q1, q2⟩ := List.mem_map.mp hp
  obtain ⟨j, j1, j2, j3⟩ := jp_mem q1
  have hm : p'.2 ∈ jL a.f a.P a.q.1 a.S a.W := List.mem_filter.mpr ⟨getE_mem j1, j3⟩
  have := (tpr_le ho.f' ho.q4 ho.P1 (jL_ok ho.S30 ho.W5 hm).1).2
  rw [← q2]
  show tpr a.f a.P a.q.1 p'.2 < 64
  omega
theorem s_leastBehind {Q : Int32 → St → Prop} {n : Nat} {D : List (Nat × Nat)} (hL : Lay G.2.2) (hD : XDr G D) (hn : n ≤ 1000000) (hp : ∀ p, p ∈ D → p.1 < 2147483648) (hQ : Q (oI (lbO n D none)) G) : EvI K mX6_leastBehind 0 0 [(0, .ref 18), (1, .int (nI n))] [] G Q := by
  have l64 := hD.2.1
  have key : ∀ (m i : Nat) (v : Option Nat), i + m = D.length → lbO n (D.drop i) v = lbO n D none → EvI K mX6_leastBehind 0 4 [(0, .ref 18), (1, .int (nI n)), (2, .int (oI v)), (3, .int (nI i))] [] G Q := by
    intro m
    induction m with
    | zero =>
      intro i v hm hv
      refine kX6_leastBehind_4 hL ?_
      rw [hD.1, show i = D.length by omega]
      refine ⟨fun _ => ?_, fun z => absurd (Int32.le_refl _) z⟩
      rw [show i = D.length by omega, List.drop_length, lbO] at hv
      rw [hv]; exact hQ
    | succ m ih =>
      intro i v hm hv
      have hi : i < D.length := by omega
      have hg : D[i]? = some D[i] := List.getElem?_eq_getElem hi
      obtain ⟨d1, d2, d3⟩ := hD.2.2 i _ hg
      have hp1 := hp _ (getE_mem hg)
      have ed : D.drop i = D[i] :: D.drop (i + 1) := by rw [List.drop_eq_getElem_cons hi]
      rw [ed, lbO] at hv
      refine kX6_leastBehind_4 hL ?_
      rw [hD.1, nI_clamp (by omega), d1, d2, nLt (by omega) hp1, show nI i + 1 = nI (i + 1) from nAdd]
      refine ⟨fun z => absurd z (by rw [nLe (by omega) (by omega)]; omega), fun _ => ⟨(vIn (by omega)).mpr (by omega), fun z => ?_, fun z => ⟨(vIn (by omega)).mpr (by omega), ?_⟩⟩⟩
      · rw [if_pos z] at hv
        rw [hv]; exact hQ
      · rw [if_neg z] at hv
        exact ih (i + 1) (some (D[i]).2) (by omega) hv
  exact kX6_leastBehind_0 hL (key D.length 0 none (by omega) (by rw [List.drop_zero]))
theorem x_looks {Q : Int32 → St → Prop} {x y : Int32} (h : XI e sen G a) (ho : OkA e a) (hQ : ∀ G', XI e sen G' a → KX G G' → Q (rLooks a x y) G') : EvIa K mX11_looks 11 0 [(0, .ref 1), (1, .int x), (2, .int y)] [] G Q := by
  have al := ho.al
  have q4 := ho.q4
  have w30 := ho.w30
  have no : ∀ G', XI e sen G' a → KX G G' → ¬ (a.q.1 ≠ 0 ∧ 0 ≤ x.toInt ∧ x.toInt ≤ 1000000) → Q (-1) G' := fun G' h1 h2 h3 => by
    have := hQ G' h1 h2
    unfold rLooks at this
    rw [if_neg h3] at this; exact this
  refine kX11_looks_0 h.lay ?_
  rw [fa_lt, fa_lt, show (0 : Int32).toInt = 0 from rfl, show (1000000 : Int32).toInt = 1000000 from rfl]
  refine ⟨fun z => no G h Kg.rf (by omega), fun z1 => ⟨fun z => no G h Kg.rf (by omega), fun z2 => s_searched h ho (fun q0 => ⟨h.lay, fun z => absurd rfl z, fun _ => no G h Kg.rf (fun y => y.1 q0)⟩) (fun G1 q0 h1 k1 f1 => ⟨h1.lay, fun _ => ?_, fun z => absurd z (by decide)⟩)⟩⟩
  rcases num_cases x (n := 1000001) (by decide) with ⟨n, hn, en⟩ | hno
  · have hr := hQ G1 h1 k1.kx
    unfold rLooks at hr
    rw [if_pos ⟨q0, by omega, by omega⟩, en, nI_nat (by omega)] at hr
    rw [en]
    obtain ⟨-, f16, f15, sd⟩ := h1.fs f1
    obtain ⟨s1, s2, s3, s4, s5, s6, s7⟩ := sd.sr
    have hL1 := h1.lay
    refine ⟨fun z => ?_, fun z => ?_, fun z => ?_, fun z1 z2 z3 => ?_⟩
    · rw [if_pos z, ← ho.dl n] at hr
      refine s_leastBehind hL1 s6 (by omega) (fun p hp => ?_) hr
      rcases dSt_mem hp with y | y
      · cases y
      · obtain ⟨p', q1, q2⟩ := List.mem_map.mp y
        obtain ⟨j, j1, j2, -⟩ := jp_mem q1
        have := getE_lt j1
        rw [← q2]
        show p'.1 < _
        omega
    · rw [if_neg (by rw [z]; decide), if_pos z] at hr
      refine kX6_boundBehind_0 hL1 ?_
      rw [s4, nLt (by omega) (by omega)]
      refine ⟨fun hlt => ?_, fun hge => by rw [if_neg hge] at hr; exact hr⟩
      rw [if_pos hlt] at hr
      obtain ⟨hTi, p, l, p1, p2, p3, p4, p5⟩ := h1.ft f15
      have el : leT a.f = l := leT_eq p4
      have hH := h1.fh f16
      have mn9 : ∀ k, mnP (a.P k) a.w.1 ≤ 9 := fun k => mnP_le _ _
      have smb : ∀ n, fb_sm (fun k => mnP (a.P k) a.w.1) n ≤ 9 * n := by
        intro n
        induction n with
        | zero => exact Nat.le_refl _
        | succ n ih =>
          rw [fb_sm]
          have := mn9 n
          omega
      -- the terms
      have terms : ∀ (b : Nat) (r : Int32), b ≤ 60 → (anyB (fun k => mnP (a.P k) a.w.1 == 9) a.q.1 = true → Q (-1) G1) → (¬ anyB (fun k => mnP (a.P k) a.w.1 == 9) a.q.1 = true → Q (nI (b + fb_sm (fun k => mnP (a.P k) a.w.1) a.q.1)) G1) → EvI K mX6_boundBehind 0 65 [(0, .ref 18), (3, .int (nI b)), (4, .int 0)] [] G1 Q := by
        intro b r hb h9 hok
        have key : ∀ (m k : Nat), k + m = a.q.1 → anyB (fun k => mnP (a.P k) a.w.1 == 9) k = false → EvI K mX6_boundBehind 0 65 [(0, .ref 18), (3, .int (nI (b + fb_sm (fun k => mnP (a.P k) a.w.1) k))), (4, .int (nI k))] [] G1 Q := by
          intro m
          induction m with
          | zero =>
            intro k hm hno
            refine kX6_boundBehind_65 hL1 ?_
            rw [s1, show k = a.q.1 by omega]
            rw [show k = a.q.1 by omega] at hno
            exact ⟨fun _ => hok (by rw [hno]; decide), fun z => absurd (Int32.le_refl _) z⟩
          | succ m ih =>
            intro k hm hno
            have h9k := (hH.1 k (by omega)).2.2
            have m9 := mn9 k
            have sb := smb k
            refine kX6_boundBehind_65 hL1 ?_
            rw [s1, nI_clamp (by omega), h9k, hx_m1 m9]
            refine ⟨fun z => absurd z (by rw [nLe (by omega) (by omega)]; omega), fun _ => ⟨(vIn (by omega)).mpr (by omega), fun z => ⟨(vIn (by omega)).mpr (by omega), ?_⟩, fun z => h9 (anyB_iff.mpr ⟨k, by omega, by simp [z]⟩)⟩⟩
            rw [hx_n z, show nI k + 1 = nI (k + 1) from nAdd, show nI (b + fb_sm (fun k => mnP (a.P k) a.w.1) k) + nI (mnP (a.P k) a.w.1) = nI (b + fb_sm (fun k => mnP (a.P k) a.w.1) k + mnP (a.P k) a.w.1) from nAdd]
            have := ih (k + 1) (by omega) (by rw [anyB, hno]; simp [z])
            rw [fb_sm, ← Nat.add_assoc] at this
            exact this
        exact key a.q.1 0 (by omega) rfl
      -- with the size
      have size : ∀ m, 1 ≤ m → m ≤ 5 → (aL a.f a.S (m - 1)).length ≤ n → n < (aL a.f a.S m).length → EvI K mX6_boundBehind 0 33 [(0, .ref 18), (2, .int (nI m))] [] G1 Q := by
        intro m m1 m5 h1' h2'
        rw [szN_eq m1 h1' h2'] at hr
        unfold bnd at hr
        rw [el] at hr
        have go : (m ≤ 1 ∨ l ≠ 0) → EvI K mX6_boundBehind 0 50 [(0, .ref 18), (2, .int (nI m))] [] G1 Q := by
          intro hml
          refine kX6_boundBehind_50 hL1 ?_
          rw [p2, show nI m - 1 = nI (m - 1) from nSub (b := 1) m1, show nI (m - 1) * nI l = nI ((m - 1) * l) from nMul]
          have bb : (m - 1) * l ≤ 4 * 11 := Nat.mul_le_mul (by omega) p5
          refine terms ((m - 1) * l) 0 (by omega) (fun z => by rw [if_pos z] at hr; exact hr) (fun z => ?_)
          rw [if_neg z] at hr
          by_cases u : m ≤ 1
          · rw [if_pos u] at hr
            rw [show m - 1 = 0 by omega, Nat.zero_mul, Nat.zero_add]; exact hr
          · rw [if_neg u, if_neg (by omega)] at hr
            rw [Nat.add_comm]; exact hr
        refine kX6_boundBehind_33 hL1 ?_
        rw [p2, show (1 : Int32) = nI 1 from rfl, show (0 : Int32) = nI 0 from rfl, nLe (by omega) (by decide), nEq (by omega) (by decide)]
        refine ⟨fun z => go (Or.inl z), fun z => ⟨fun z2 => go (Or.inr z2), fun z2 => ?_⟩⟩
        rw [if_neg z, if_pos z2] at hr
        by_cases u : anyB (fun k => mnP (a.P k) a.w.1 == 9) a.q.1 = true
        · rw [if_pos u] at hr; exact hr
        · rw [if_neg u] at hr; exact hr
      have W5 := ho.W5
      have W1 := ho.W1
      have find : ∀ (c m : Nat), m + c = a.W → 1 ≤ m → (aL a.f a.S (m - 1)).length ≤ n → EvI K mX6_boundBehind 0 12 [(0, .ref 18), (1, .int (nI n)), (2, .int (nI m))] [] G1 Q := by
        intro c
        induction c with
        | zero =>
          intro m hm m1 hlo
          have em : m = a.W := by omega
          have hlt' : n < (aL a.f a.S m).length := by rw [em]; exact hlt
          have lm : (aL a.f a.S m).length ≤ 174436 := AL_len (tdF a.f) a.S (by omega)
          refine kX6_boundBehind_12 hL1 ?_
          rw [nI_clamp (by omega), s5 m (by omega), nLt (by omega) (by omega)]
          exact ⟨fun _ => size m m1 (by omega) hlo hlt', fun _ => ⟨(vIn (by omega)).mpr (by omega), fun _ => size m m1 (by omega) hlo hlt', fun z => absurd hlt' z⟩⟩
        | succ c ih =>
          intro m hm m1 hlo
          have lm : (aL a.f a.S m).length ≤ 174436 := AL_len (tdF a.f) a.S (by omega)
          refine kX6_boundBehind_12 hL1 ?_
          rw [nI_clamp (by omega), s5 m (by omega), nLt (by omega) (by omega), show nI m + 1 = nI (m + 1) from nAdd]
          exact ⟨fun z => absurd z (by rw [show (5 : Int32) = nI 5 from rfl, nLe (by decide) (by omega)]; omega), fun _ => ⟨(vIn (by omega)).mpr (by omega), fun z => size m m1 (by omega) hlo z, fun z => ih (m + 1) (by omega) (by omega) (by rw [show m + 1 - 1 = m by omega]; omega)⟩⟩
      exact find (a.W - 1) 1 (by omega) (Nat.le_refl _) (Nat.zero_le _)
    · rw [if_neg (by rw [z]; decide), if_neg (by rw [z]; decide), if_pos z] at hr
      rw [s4]
      exact s_J9_min (by omega) (by omega) hL1 hr
    · rw [if_neg z1, if_neg z2, if_neg z3] at hr
      exact hr
  · exact absurd ⟨by omega, by omega⟩ hno
end LOOKS

/-! parts: the word that parts most; the class -/
def hsR (a : AS) (r v : Nat) : Bool := anyB (fun c => wdA a.b a.w r c == v) 4
def plB (a : AS) (v : Nat) : Bool := anyB (fun k => decide (a.q.2.1 k = 0 ∧ nv (a.q.2.2 k) = v)) a.q.1
def mkW (a : AS) (S v : Nat) : Nat := msk (fun r => S.testBit r && hsR a r v) a.w.1
noncomputable def nW (a : AS) (v : Nat) : Nat := (a.J.filter (fun s => s &&& mkW a a.S v != 0)).length
noncomputable def mrW (a : AS) (v : Nat) : Nat := max (nW a v) (a.J.length - nW a v)
def flW (v : Nat) : Nat := v * 27 ^ (8 - wl v)
def cdW (a : AS) (v : Nat) : Prop := v ≠ 0 ∧ plB a v = false ∧ 0 < nW a v
/-- the best of those in D -/
def opW (a : AS) (D : Nat → Prop) (o : Option Nat) : Prop := match o with
  | none => ∀ v, ¬ D v
  | some w => D w ∧ ∀ v, D v → mrW a w < mrW a v ∨ mrW a w = mrW a v ∧ flW w ≤ flW v
def beW (a : AS) (o : Option Nat) (v : Nat) : Prop := match o with
  | none => True
  | some w => mrW a v < mrW a w ∨ mrW a v = mrW a w ∧ flW v < flW w
theorem opW_new {a : AS} {D D' : Nat → Prop} {o : Option Nat} {v : Nat} (h : opW a D o) (hD : ∀ x, D' x ↔ D x ∨ x = v) (hb : beW a o v) : opW a D' (some v) := by
  refine ⟨(hD v).mpr (Or.inr rfl), fun x hx => ?_⟩
  rcases (hD x).mp hx with z | z
  · cases o with
    | none => exact absurd z (h x)
    | some w =>
      have h1 := h.2 x z
      have hb : mrW a v < mrW a w ∨ mrW a v = mrW a w ∧ flW v < flW w := hb
      omega
  · rw [z]; exact Or.inr ⟨rfl, Nat.le_refl _⟩
theorem opW_old {a : AS} {D D' : Nat → Prop} {o : Option Nat} {v : Nat} (h : opW a D o) (hD : ∀ x, D' x ↔ D x ∨ x = v) (hb : ¬ beW a o v) : opW a D' o := by
  cases o with
  | none => exact absurd trivial hb
  | some w =>
    have hb : ¬ (mrW a v < mrW a w ∨ mrW a v = mrW a w ∧ flW v < flW w) := hb
    refine ⟨(hD w).mpr (Or.inl h.1), fun x hx => ?_⟩
    rcases (hD x).mp hx with z | z
    · exact h.2 x z
    · rw [z]; omega
theorem opW_iff {a : AS} {D D' : Nat → Prop} {o : Option Nat} (h : opW a D o) (hD : ∀ x, D' x ↔ D x) : opW a D' o := by
  cases o with
  | none => exact fun v hv => h v ((hD v).mp hv)
  | some w => exact ⟨(hD w).mpr h.1, fun v hv => h.2 v ((hD v).mp hv)⟩
noncomputable def ptO (a : AS) : Option Nat := Classical.epsilon (opW a (cdW a))
theorem fl_inj {n m i j : Nat} (h1 : n % 27 ≠ 0) (h2 : m % 27 ≠ 0) (h : n * 27 ^ i = m * 27 ^ j) : n = m := by
  have key : ∀ (i j n m : Nat), i ≤ j → n % 27 ≠ 0 → n * 27 ^ i = m * 27 ^ j → n = m := by
    intro i j n m hij hn he
    have e : 27 ^ j = 27 ^ (j - i) * 27 ^ i := by rw [← Nat.pow_add]; congr 1; omega
    rw [e, ← Nat.mul_assoc] at he
    have he' := Nat.eq_of_mul_eq_mul_right (Nat.pow_pos (by decide)) he
    by_cases z : j - i = 0
    · rw [z, Nat.pow_zero, Nat.mul_one] at he'; exact he'
    · exfalso
      rw [show j - i = (j - i - 1) + 1 by omega, Nat.pow_succ, ← Nat.mul_assoc] at he'
      rw [he'] at hn
      exact hn (Nat.mul_mod_left _ _)
  rcases Nat.le_total i j with z | z
  · exact key i j n m z h1 h
  · exact (key j i m n z h2 h.symm).symm
section PARTS
variable {K : KT} {G : St} {a : AS} {e : Nat}
theorem OkA.wg (ho : OkA e a) {r c : Nat} (hr : r < a.w.1) (h : wdA a.b a.w r c ≠ 0) : gw (wdA a.b a.w r c) := by
  unfold wdA at h ⊢
  by_cases z : c < a.b.2.2.1 (a.w.2.1 r) ∧ a.b.2.2.2.2 (a.w.2.1 r) c = 5
  · rw [if_pos z]
    obtain ⟨n, n1, n2⟩ := (ho.cl r c hr z.1).1 z.2
    rw [n1, nv_l (by have := n2.1; omega)]; exact n2
  · rw [if_neg z] at h; exact absurd rfl h
theorem OkA.nWp (ho : OkA e a) {v : Nat} : 0 < nW a v ↔ ∃ s r, s ∈ a.J ∧ s.testBit r = true ∧ hsR a r v = true := by
  unfold nW
  rw [List.length_pos_iff_exists_mem]
  constructor
  · rintro ⟨s, hs⟩
    obtain ⟨h1, h2⟩ := List.mem_filter.mp hs
    have h2 : s &&& mkW a a.S v ≠ 0 := by simpa using h2
    have ex : ∃ r, (s &&& mkW a a.S v).testBit r = true := by
      apply Classical.byContradiction
      intro z
      apply h2
      apply Nat.eq_of_testBit_eq
      intro i
      rw [Nat.zero_testBit]
      cases q : (s &&& mkW a a.S v).testBit i
      · rfl
      · exact absurd ⟨i, q⟩ z
    obtain ⟨r, hr⟩ := ex
    rw [Nat.testBit_and] at hr
    simp only [Bool.and_eq_true] at hr
    have hm := hr.2
    unfold mkW at hm
    rw [msk_bit] at hm
    simp only [Bool.and_eq_true] at hm
    exact ⟨s, r, h1, hr.1, hm.2.2⟩
  · rintro ⟨s, r, h1, h2, h3⟩
    refine ⟨s, List.mem_filter.mpr ⟨h1, ?_⟩⟩
    have hS := (ho.J1 h1).2.1 r h2
    have hr := ho.Sn r hS
    have : (s &&& mkW a a.S v).testBit r = true := by
      rw [Nat.testBit_and, h2]
      unfold mkW
      rw [msk_bit]; simp [hr, hS, h3]
    have : s &&& mkW a a.S v ≠ 0 := fun z => by rw [z, Nat.zero_testBit] at this; cases this
    simpa using this
theorem OkA.cdg (ho : OkA e a) {v : Nat} (h : cdW a v) : gw v := by
  obtain ⟨s, r, h1, h2, h3⟩ := ho.nWp.mp h.2.2
  unfold hsR at h3
  obtain ⟨c, -, hc⟩ := anyB_iff.mp h3
  have hc : wdA a.b a.w r c = v := by simpa using hc
  have hr := ho.Sn r ((ho.J1 h1).2.1 r h2)
  rw [← hc]
  exact ho.wg hr (by rw [hc]; exact h.1)
theorem ptO_eq (ho : OkA e a) {o : Option Nat} (h : opW a (cdW a) o) : ptO a = o := by
  have h2 : opW a (cdW a) (ptO a) := Classical.epsilon_spec ⟨o, h⟩
  generalize ptO a = o2 at *
  cases o with
  | none =>
    cases o2 with
    | none => rfl
    | some v => exact absurd h2.1 (h v)
  | some v =>
    cases o2 with
    | none => exact absurd h.1 (h2 v)
    | some u =>
      have h1 := h.2 u h2.1
      have h3 := h2.2 v h.1
      have e : flW u = flW v := by omega
      rw [fl_inj (ho.cdg h2.1).2 (ho.cdg h.1).2 e]
noncomputable def rParts (a : AS) (x : Int32) : Int64 := if 0 ≤ x.toInt ∧ x.toInt ≤ 1 then (match ptO a with
  | none => -1
  | some w => if x = 0 then lN w else Int32.toInt64 (nI (mrW a w))) else -1
/-- the order counts as the list does -/
theorem ol_ct {J : List Nat} {c : Nat → Nat} (q : Nat → Bool) : ∀ n, ((ol J c n).filter q).length = (J.filter (fun s => q s && decide (c s < n))).length
  | 0 => by
    rw [ol]
    have : J.filter (fun s => q s && decide (c s < 0)) = [] := List.filter_eq_nil_iff.mpr (fun s _ => by simp)
    rw [this]; rfl
  | n + 1 => by
    rw [ol, List.filter_append, List.length_append, ol_ct q n, List.filter_filter]
    have key : ∀ l : List Nat, (l.filter (fun s => q s && decide (c s < n))).length + (l.filter (fun s => q s && eqc c n s)).length = (l.filter (fun s => q s && decide (c s < n + 1))).length := by
      intro l
      induction l with
      | nil => rfl
      | cons s l ih =>
        rw [List.filter_cons, List.filter_cons, List.filter_cons]
        unfold eqc at *
        cases hq : q s
        · simp only [Bool.false_and, Bool.false_eq_true, if_false]; exact ih
        · simp only [Bool.true_and, decide_eq_true_eq, beq_iff_eq]
          rcases Nat.lt_trichotomy (c s) n with z | z | z
          · rw [if_pos z, if_neg (by omega), if_pos (by omega), List.length_cons, List.length_cons]; omega
          · rw [if_neg (by omega), if_pos z, if_pos (by omega), List.length_cons, List.length_cons]; omega
          · rw [if_neg (by omega), if_neg (by omega), if_neg (by omega)]; exact ih
    exact key J
theorem OkA.oct (ho : OkA e a) (q : Nat → Bool) : (a.O.filter q).length = (a.J.filter q).length := by
  show ((ol a.J (tpr a.f a.P a.q.1) 64).filter q).length = _
  rw [ol_ct]
  congr 1
  apply List.filter_congr
  intro s hs
  have := (ho.oJ.2 s hs).2.2.1
  simp [show tpr a.f a.P a.q.1 s < 64 by omega]
theorem s_hasW {Q : Int32 → St → Prop} {h r v : Nat} (hL : Lay G.2.2) (hh : h = 39 ∨ h = 49) (hb : XTb G h a.b) (hw : XRw G h a.b a.w) (ho : OkA e a) (hr : r < a.w.1) (hv : v < 282429536481) (hQ : Q (if hsR a r v = true then 1 else 0) G) : EvI K mX1_hasWord 2 0 [(0, .ref h), (1, .int (nI r)), (2, .long (lN v))] [] G Q := by
  have wl' : ∀ c, wdA a.b a.w r c < 282429536481 := fun c => by
    by_cases z : wdA a.b a.w r c = 0
    · omega
    · exact (ho.wg hr z).1
  have key : ∀ (m c : Nat), c + m = 4 → anyB (fun c => wdA a.b a.w r c == v) c = false → EvI K mX1_hasWord 2 3 [(0, .ref h), (1, .int (nI r)), (2, .long (lN v)), (4, .int (nI c))] [] G Q := by
    intro m
    induction m with
    | zero =>
      intro c hm hno
      have ec : c = 4 := by omega
      subst ec
      refine kX1_hasWord_3 hL hh ⟨fun _ => ?_, fun z => absurd (by decide) z⟩
      unfold hsR at hQ
      rw [hno] at hQ; exact hQ
    | succ m ih =>
      intro c hm hno
      have w1 := wl' c
      refine kX1_hasWord_3 hL hh ⟨fun z => absurd z (by rw [show (4 : Int32) = nI 4 from rfl, nLe (by decide) (by omega)]; omega), fun _ => s_X1_wordN hL hh hb hw ho.tb ho.cl hr (by omega) ?_⟩
      rw [lEq (by omega) (by omega), show nI c + 1 = nI (c + 1) from nAdd]
      refine ⟨fun z => ih (c + 1) (by omega) (by rw [anyB, hno]; simp [z]), fun z => ?_⟩
      have : hsR a r v = true := anyB_iff.mpr ⟨c, by omega, by simp [z]⟩
      rw [if_pos this] at hQ
      exact hQ
  exact kX1_hasWord_0 hL hh (key 4 0 (by omega) rfl)
theorem s_hasPlain {Q : Int32 → St → Prop} {t v : Nat} (hL : Lay G.2.2) (ht : t = 59 ∨ t = 62) (hq : XTq G t a.q) (ho : OkA e a) (hv : v < 282429536481) (hQ : Q (if plB a v = true then 1 else 0) G) : EvI K mX8_hasPlainWord 0 0 [(0, .ref t), (1, .long (lN v))] [] G Q := by
  have q4 := ho.q4
  have key : ∀ (m k : Nat), k + m = a.q.1 → anyB (fun k => decide (a.q.2.1 k = 0 ∧ nv (a.q.2.2 k) = v)) k = false → EvI K mX8_hasPlainWord 0 2 [(0, .ref t), (1, .long (lN v)), (3, .int (nI k))] [] G Q := by
    intro m
    induction m with
    | zero =>
      intro k hm hno
      refine kX8_hasPlainWord_2 hL ht ?_
      rw [hq.1, show k = a.q.1 by omega]
      refine ⟨fun _ => ?_, fun z => absurd (Int32.le_refl _) z⟩
      rw [show k = a.q.1 by omega] at hno
      unfold plB at hQ
      rw [hno] at hQ; exact hQ
    | succ m ih =>
      intro k hm hno
      have hk : k < a.q.1 := by omega
      obtain ⟨a1, a2, a3⟩ := hq.2.2 k hk
      obtain ⟨v1, v2, v3⟩ := ho.qv hk
      have next : ¬ (a.q.2.1 k = 0 ∧ nv (a.q.2.2 k) = v) → EvI K mX8_hasPlainWord 0 32 [(0, .ref t), (1, .long (lN v)), (3, .int (nI k))] [] G Q := by
        intro z
        refine kX8_hasPlainWord_32 hL ht ?_
        rw [show nI k + 1 = nI (k + 1) from nAdd]
        exact ih (k + 1) (by omega) (by rw [anyB, hno]; simp; exact fun h1 h2 => z ⟨h1, h2⟩)
      refine kX8_hasPlainWord_2 hL ht ?_
      rw [hq.1, nI_clamp (by omega), a1, a3, v1, show (0 : Int32) = nI 0 from rfl, nEq (by omega) (by decide)]
      refine ⟨fun z => absurd z (by rw [nLe (by omega) (by omega)]; omega), fun _ => ⟨(vIn (by omega)).mpr (by omega), fun z => next (fun y => z y.1), fun z => ⟨(vIn (by omega)).mpr (by omega), ?_⟩⟩⟩
      have vl := v2 (by omega)
      rw [lEq (by omega) (by omega)]
      refine ⟨fun z2 => next (fun y => z2 y.2), fun z2 => ?_⟩
      have : plB a v = true := anyB_iff.mpr ⟨k, hk, by simp [z, z2]⟩
      rw [if_pos this] at hQ
      exact hQ
  exact kX8_hasPlainWord_0 hL ht (key a.q.1 0 (by omega) rfl)
theorem s_rowsOfAll {Q : Int32 → St → Prop} (hL : Lay G.2.2) (hX : XOr G a.f a.P a.q.1 a.J) (ho : OkA e a) (hQ : ∀ R, R < 1073741824 → (∀ r, R.testBit r = true ↔ ∃ s, s ∈ a.J ∧ s.testBit r = true) → Q (nI R) G) : EvI K mX6_rowsOfAll 2 0 [(0, .ref 18)] [] G Q := by
  have jl := ho.Jl
  have key : ∀ (m i R : Nat), i + m = a.J.length → R < 2 ^ 30 → (∀ r, R.testBit r = true ↔ ∃ j s, j < i ∧ a.O[j]? = some s ∧ s.testBit r = true) → EvI K mX6_rowsOfAll 2 4 [(0, .ref 18), (1, .int (nI R)), (2, .int (nI i))] [] G Q := by
    intro m
    induction m with
    | zero =>
      intro i R hm hR hb
      refine kX6_rowsOfAll_4 hL ?_
      rw [hX.1, show i = a.J.length by omega]
      refine ⟨fun _ => hQ R hR (fun r => ?_), fun z => absurd (Int32.le_refl _) z⟩
      rw [hb r]
      constructor
      · rintro ⟨j, s, -, h2, h3⟩; exact ⟨s, ho.Om h2, h3⟩
      · rintro ⟨s, h1, h2⟩
        have : s ∈ a.O := ol_mem.mpr ⟨h1, by have := (ho.oJ.2 s h1).2.2.1; omega⟩
        obtain ⟨j, hj⟩ := List.mem_iff_getElem?.mp this
        exact ⟨j, s, by have := getE_lt hj; rw [ho.Ol] at this; omega, hj, h2⟩
    | succ m ih =>
      intro i R hm hR hb
      have hs := getD_lt (l := a.O) (q := i) (by rw [ho.Ol]; omega)
      have hm' := ho.Om hs
      have s30 := (ho.oJ.2 _ hm').1
      refine kX6_rowsOfAll_4 hL ?_
      rw [hX.1]
      refine ⟨fun z => absurd z (by rw [nLe (by omega) (by omega)]; omega), fun _ => s_X6_setOf hL hX ho.oJ hs hm' ?_⟩
      rw [show nI i + 1 = nI (i + 1) from nAdd, fa_or]
      refine ih (i + 1) _ (by omega) (Nat.or_lt_two_pow hR s30) (fun r => ?_)
      rw [Nat.testBit_or, Bool.or_eq_true, hb r]
      constructor
      · rintro (⟨j, s, h1, h2, h3⟩ | h)
        · exact ⟨j, s, by omega, h2, h3⟩
        · exact ⟨i, _, by omega, hs, h⟩
      · rintro ⟨j, s, h1, h2, h3⟩
        rcases Nat.lt_succ_iff_lt_or_eq.mp h1 with y | y
        · exact Or.inl ⟨j, s, y, h2, h3⟩
        · rw [y, hs] at h2
          rw [Option.some.inj h2]; exact Or.inr h3
  exact kX6_rowsOfAll_0 hL (key a.J.length 0 0 (by omega) (by decide) (fun r => by rw [Nat.zero_testBit]; constructor; intro h; cases h; rintro ⟨j, s, h1, -⟩; omega))
end PARTS

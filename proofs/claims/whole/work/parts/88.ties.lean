/-! ties: what they are, and the class' -/
def foldN {α : Type} (g : Nat → α → α) : Nat → α → α
  | 0, x => x
  | n + 1, x => g n (foldN g n x)
theorem foldN_ind {α : Type} {p : α → Prop} {g : Nat → α → α} {x : α} (h0 : p x) : ∀ {n : Nat}, (∀ i y, i < n → p y → p (g i y)) → p (foldN g n x)
  | 0, _ => h0
  | n + 1, h => h n _ (Nat.lt_succ_self n) (foldN_ind h0 (fun i y hi => h i y (Nat.lt_succ_of_lt hi)))
def tAdd (f : Nat → Nat → Nat) (a b p : Nat) : Nat → Nat → Nat := if f a b ≠ 0 ∧ f a b ≤ p then f else fun x y => if (x = a ∧ y = b) ∨ (x = b ∧ y = a) then p else f x y
theorem tAdd_no {f : Nat → Nat → Nat} {a b p : Nat} (h : f a b ≠ 0 ∧ f a b ≤ p) : tAdd f a b p = f := if_pos h
theorem tAdd_yes {f : Nat → Nat → Nat} {a b p : Nat} (h : ¬ (f a b ≠ 0 ∧ f a b ≤ p)) (x y : Nat) : tAdd f a b p x y = if (x = a ∧ y = b) ∨ (x = b ∧ y = a) then p else f x y := by unfold tAdd; rw [if_neg h]
theorem tAdd_ok {f : Nat → Nat → Nat} {a b p : Nat} (hf : okF f) (ha : a < 30) (hb : b < 30) (hab : a ≠ b) (hp : p ≤ 11) : okF (tAdd f a b p) := by
  by_cases h : f a b ≠ 0 ∧ f a b ≤ p
  · rw [tAdd_no h]; exact hf
  · refine ⟨fun x y => ?_, fun x y => ?_, fun x y hx => ?_, fun x => ?_⟩
    · rw [tAdd_yes h, tAdd_yes h, hf.1 x y]
      by_cases e : (x = a ∧ y = b) ∨ (x = b ∧ y = a)
      · rw [if_pos e, if_pos (by omega)]
      · rw [if_neg e, if_neg (by omega)]
    · rw [tAdd_yes h]
      split
      · exact hp
      · exact hf.2.1 x y
    · rw [tAdd_yes h, if_neg (by omega)]; exact hf.2.2.1 x y hx
    · rw [tAdd_yes h, if_neg (by omega)]; exact hf.2.2.2 x
noncomputable def cntT (f : Nat → Nat → Nat) : Nat := fb_sm (fun a => pc (tdF f a)) w30
def lsT (f : Nat → Nat → Nat) (l : Nat) : Prop := (l = 0 ∧ ∀ a b, f a b = 0) ∨ (l ≠ 0 ∧ (∃ a b, f a b = l) ∧ ∀ a b, f a b ≠ 0 → l ≤ f a b)
theorem tdF_add {f : Nat → Nat → Nat} {a b p : Nat} (hf : okF f) (ha : a < 30) (hb : b < 30) (hab : a ≠ b) (hp : p ≤ 11) (hp0 : p ≠ 0) (h : ¬ (f a b ≠ 0 ∧ f a b ≤ p)) (x : Nat) : tdF (tAdd f a b p) x = if x = a then tdF f a ||| 2 ^ b else if x = b then tdF f b ||| 2 ^ a else tdF f x := by
  have hf' := tAdd_ok hf ha hb hab hp
  apply Nat.eq_of_testBit_eq
  intro y
  rw [Bool.eq_iff_iff, tdF_bit hf', tAdd_yes h]
  by_cases e1 : x = a
  · subst e1
    rw [if_pos rfl, add_bit, tdF_bit hf]
    by_cases e2 : y = b
    · subst e2; simp [hp0]
    · rw [if_neg (by omega)]; simp [e2]
  · rw [if_neg e1]
    by_cases e3 : x = b
    · subst e3
      rw [if_pos rfl, add_bit, tdF_bit hf]
      by_cases e2 : y = a
      · subst e2; simp [hp0]
      · rw [if_neg (by omega)]; simp [e2]
    · rw [if_neg e3, if_neg (by omega), tdF_bit hf]
theorem cntT_add {f : Nat → Nat → Nat} {a b p : Nat} (hf : okF f) (ha : a < 30) (hb : b < 30) (hab : a ≠ b) (hp : p ≤ 11) (hp0 : p ≠ 0) (h : ¬ (f a b ≠ 0 ∧ f a b ≤ p)) : cntT (tAdd f a b p) = cntT f + if f a b = 0 then 2 else 0 := by
  have td := tdF_add hf ha hb hab hp hp0 h
  unfold cntT
  rw [w30_eq]
  have key : ∀ A B : Nat, fb_sm (fun k => if k = a then A else if k = b then B else pc (tdF f k)) 30 + pc (tdF f a) + pc (tdF f b) = fb_sm (fun k => pc (tdF f k)) 30 + A + B := by
    intro A B
    have u1 := fb_sm_upd (fun k => if k = b then B else pc (tdF f k)) A ha
    have u2 := fb_sm_upd (fun k => pc (tdF f k)) B hb
    simp only [hab, if_false] at u1 u2
    omega
  have s1 : fb_sm (fun x => pc (tdF (tAdd f a b p) x)) 30 = fb_sm (fun k => if k = a then pc (tdF f a ||| 2 ^ b) else if k = b then pc (tdF f b ||| 2 ^ a) else pc (tdF f k)) 30 := fb_sm_cong (fun k _ => by
    rw [td k]
    by_cases e1 : k = a
    · rw [if_pos e1, if_pos e1]
    · rw [if_neg e1, if_neg e1]
      by_cases e2 : k = b
      · rw [if_pos e2, if_pos e2]
      · rw [if_neg e2, if_neg e2])
  have k0 := key (pc (tdF f a ||| 2 ^ b)) (pc (tdF f b ||| 2 ^ a))
  rw [← s1] at k0
  have hsw : f b a = f a b := hf.1 b a
  by_cases e : f a b = 0
  · have c1 : (tdF f a).testBit b = false := by
      cases z : (tdF f a).testBit b
      · rfl
      · exact absurd e ((tdF_bit hf a b).mp z)
    have c2 : (tdF f b).testBit a = false := by
      cases z : (tdF f b).testBit a
      · rfl
      · exact absurd (hsw.trans e) ((tdF_bit hf b a).mp z)
    rw [pc_add (by omega) c1, pc_add (by omega) c2] at k0
    rw [if_pos e]
    omega
  · have same : ∀ x y, f x y ≠ 0 → tdF f x ||| 2 ^ y = tdF f x := fun x y hxy => sb_ext (fun i z => by
      rcases (add_bit _ _ _).mp z with q | q
      · exact q
      · rw [q]; exact (tdF_bit hf x y).mpr hxy) (fun i z => (add_bit _ _ _).mpr (Or.inl z))
    rw [same a b e, same b a (by rw [hsw]; exact e)] at k0
    rw [if_neg e]
    omega
theorem lsT_add {f : Nat → Nat → Nat} {a b p l : Nat} (hf : okF f) (hp0 : p ≠ 0) (h : ¬ (f a b ≠ 0 ∧ f a b ≤ p)) (hl : lsT f l) : lsT (tAdd f a b p) (if l = 0 ∨ p < l then p else l) := by
  right
  by_cases e : l = 0 ∨ p < l
  · rw [if_pos e]
    refine ⟨hp0, ⟨a, b, by rw [tAdd_yes h, if_pos (Or.inl ⟨rfl, rfl⟩)]⟩, fun x y hxy => ?_⟩
    rw [tAdd_yes h] at hxy ⊢
    by_cases q : (x = a ∧ y = b) ∨ (x = b ∧ y = a)
    · rw [if_pos q]; exact Nat.le_refl _
    · rw [if_neg q] at hxy ⊢
      rcases hl with ⟨l0, la⟩ | ⟨l0, le, la⟩
      · exact absurd (la x y) hxy
      · have := la x y hxy; omega
  · rw [if_neg e]
    rcases hl with ⟨l0, la⟩ | ⟨l0, ⟨u, v, le⟩, la⟩
    · exact absurd (Or.inl l0) e
    · refine ⟨l0, ?_, fun x y hxy => ?_⟩
      · by_cases q : (u = a ∧ v = b) ∨ (u = b ∧ v = a)
        · have hab : f a b = l := by
            rcases q with ⟨rfl, rfl⟩ | ⟨rfl, rfl⟩
            · exact le
            · rw [hf.1]; exact le
          exact absurd ⟨by omega, by omega⟩ h
        · exact ⟨u, v, by rw [tAdd_yes h, if_neg q]; exact le⟩
      · rw [tAdd_yes h] at hxy ⊢
        by_cases q : (x = a ∧ y = b) ∨ (x = b ∧ y = a)
        · rw [if_pos q]; omega
        · rw [if_neg q] at hxy ⊢; exact la x y hxy

/-- ties with their pairs and the least -/
def XTl (G : St) (f : Nat → Nat → Nat) : Prop := XTi G f ∧ ∃ p l, sI G 11 2 = nI p ∧ sI G 11 3 = nI l ∧ 2 * p = cntT f ∧ lsT f l ∧ l ≤ 11
theorem cntT_le (f : Nat → Nat → Nat) : cntT f ≤ 960 := by
  unfold cntT
  rw [w30_eq]
  exact fb_sm_bound (c := 32) (fun k _ => pc_le _)
/-- the row to which a key points, seen -/
def kyA (b : TBt) (w : RWt) (S r c : Nat) : Option Nat := if c < b.2.2.1 (w.2.1 r) ∧ b.2.2.2.2 (w.2.1 r) c < 5 ∧ w.2.2 r c ≠ -1 ∧ S.testBit (nv (w.2.2 r c)) = true then some (nv (w.2.2 r c)) else none
def cntP (b : TBt) (w : RWt) (S r c q : Nat) : Nat := fb_ct (fun i => S.testBit i && (w.2.1 i == w.2.1 r) && (kyA b w S i c == some q)) w.1
def kSt (b : TBt) (w : RWt) (S r c : Nat) (f : Nat → Nat → Nat) : Nat → Nat → Nat := match kyA b w S r c with
  | none => f
  | some q => tAdd f r q (1 + cntP b w S r c q / 3)
/-- the word that a seen row has in a column -/
def wdI (b : TBt) (w : RWt) (S r col : Nat) : Nat := if S.testBit r = true ∧ w.2.1 r = col / 4 then wdA b w r (col % 4) else 0
def lSt (b : TBt) (w : RWt) (S x y : Nat) (f : Nat → Nat → Nat) : Nat → Nat → Nat := foldN (fun a f => foldN (fun c f => if wdI b w S a x ≠ 0 ∧ wdI b w S c y = wdI b w S a x then tAdd f a c 3 else f) w.1 f) w.1 f
def kFs (b : TBt) (w : RWt) (S n : Nat) : Nat → Nat → Nat := foldN (fun r f => if S.testBit r = true then foldN (fun c f => kSt b w S r c f) 4 f else f) n (fun _ _ => 0)
/-- the ties -/
def fTi (b : TBt) (w : RWt) (S : Nat) (l : LTt) : Nat → Nat → Nat := foldN (fun k f => lSt b w S (l.2 k / 20) (l.2 k % 20) f) l.1 (kFs b w S w.1)
theorem okF_0 : okF (fun _ _ => 0) := ⟨fun _ _ => rfl, fun _ _ => Nat.zero_le _, fun _ _ _ => rfl, fun _ => rfl⟩
/-- lets: text columns of two tables -/
def okLt (b : TBt) (l : LTt) : Prop := ∀ k, k < l.1 → l.2 k < 400 ∧ l.2 k / 20 / 4 ≠ l.2 k % 20 / 4 ∧ l.2 k / 20 / 4 < b.1 ∧ l.2 k / 20 % 4 < b.2.2.1 (l.2 k / 20 / 4) ∧ b.2.2.2.2 (l.2 k / 20 / 4) (l.2 k / 20 % 4) = 5 ∧ l.2 k % 20 / 4 < b.1 ∧ l.2 k % 20 % 4 < b.2.2.1 (l.2 k % 20 / 4) ∧ b.2.2.2.2 (l.2 k % 20 / 4) (l.2 k % 20 % 4) = 5
theorem kyA_lt {b : TBt} {w : RWt} {S r c q : Nat} (hor : okRw b w) (hr : r < w.1) (w30 : w.1 ≤ 30) (h : kyA b w S r c = some q) : q < r ∧ S.testBit q = true ∧ c < b.2.2.1 (w.2.1 r) ∧ b.2.2.2.2 (w.2.1 r) c < 5 ∧ w.2.2 r c = lN q := by
  unfold kyA at h
  split at h
  · rename_i z
    cases h
    rcases hor r c hr z.1 z.2.1 with e | ⟨k, a, -, e⟩
    · exact absurd e z.2.2.1
    · have : nv (w.2.2 r c) = k := by rw [e, nv_l (by omega)]
      rw [this]
      rw [this] at z
      exact ⟨a, z.2.2.2, z.1, z.2.1, e⟩
  · cases h
theorem kSt_ok {b : TBt} {w : RWt} {S r c : Nat} {f : Nat → Nat → Nat} (hf : okF f) (hor : okRw b w) (hr : r < w.1) (w30 : w.1 ≤ 30) : okF (kSt b w S r c f) := by
  unfold kSt
  split
  · exact hf
  · rename_i q hq
    have := (kyA_lt hor hr w30 hq).1
    have hc : cntP b w S r c q ≤ w.1 := fb_ct_le _ _
    exact tAdd_ok hf (by omega) (by omega) (by omega) (by omega)
theorem wdI_0 {b : TBt} {w : RWt} {S r x : Nat} (h : wdI b w S r x ≠ 0) : S.testBit r = true ∧ w.2.1 r = x / 4 ∧ wdI b w S r x = wdA b w r (x % 4) := by
  unfold wdI at h ⊢
  split at h
  · rename_i z; exact ⟨z.1, z.2, by rw [if_pos z]⟩
  · exact absurd rfl h
theorem lSt_ok {b : TBt} {w : RWt} {S x y : Nat} {f : Nat → Nat → Nat} (hf : okF f) (w30 : w.1 ≤ 30) (hxy : x / 4 ≠ y / 4) : okF (lSt b w S x y f) := by
  unfold lSt
  refine foldN_ind hf (fun a g ha hg => foldN_ind hg (fun c g hc hg => ?_))
  split
  · rename_i z
    refine tAdd_ok hg (by omega) (by omega) (fun e => ?_) (by omega)
    subst e
    have h1 := wdI_0 z.1
    have h2 := wdI_0 (show wdI b w S a y ≠ 0 by rw [z.2]; exact z.1)
    exact hxy (h1.2.1.symm.trans h2.2.1)
  · exact hg
theorem kFs_ok {b : TBt} {w : RWt} {S n : Nat} (hor : okRw b w) (w30 : w.1 ≤ 30) (hn : n ≤ w.1) : okF (kFs b w S n) := by
  unfold kFs
  refine foldN_ind okF_0 (fun r g hr hg => ?_)
  split
  · exact foldN_ind hg (fun c g _ hg => kSt_ok hg hor (by omega) w30)
  · exact hg
theorem fTi_ok {b : TBt} {w : RWt} {S : Nat} {l : LTt} (hor : okRw b w) (w30 : w.1 ≤ 30) (hl : okLt b l) : okF (fTi b w S l) := by
  unfold fTi
  exact foldN_ind (kFs_ok hor w30 (Nat.le_refl _)) (fun k g hk hg => lSt_ok hg w30 (hl k hk).2.1)
section TIES
variable {K : KT} {G : St} {h : Nat} {b : TBt} {w : RWt} {f : Nat → Nat → Nat} {S : Nat}
def sTi : Nat → Nat → Prop := fun i _ => i = 11 ∨ i = 12 ∨ i = 13
theorem s_X9_add {Q : St → Prop} {x y p : Nat} (hL : Lay G.2.2) (hX : XTl G f) (hf : okF f) (hx : x < 30) (hy : y < 30) (hxy : x ≠ y) (hp : p ≤ 11) (hp0 : p ≠ 0) (hQ : ∀ G', Kq sTi G G' → XTl G' (tAdd f x y p) → Q G') : EvV K mX9_add 1 0 [(0, .ref 11), (1, .int (nI x)), (2, .int (nI y)), (3, .int (nI p))] [] G Q := by
  obtain ⟨⟨t1, t2⟩, q, l, e2, e3, e4, e5, e6⟩ := id hX
  have h11 := hf.2.1 x y
  have tdx := tdF_lt f x
  have tdy := tdF_lt f y
  have hcle := cntT_le f
  have put : ¬ (f x y ≠ 0 ∧ f x y ≤ p) → EvV K mX9_add 1 25 [(0, .ref 11), (1, .int (nI x)), (2, .int (nI y)), (3, .int (nI p)), (4, .int (nI (f x y)))] [] G Q := by
    intro hno
    have td := tdF_add hf hx hy hxy hp hp0 hno
    have ct := cntT_add hf hx hy hxy hp hp0 hno
    have lt := lsT_add hf hp0 hno e5
    refine kX9_add_25 hL ?_
    rw [shl_one (by omega), shl_one (by omega)]
    try simp (disch := omega) only [nLe, nLeR, nLeL, nLt, nLtR, nLtL, nEq, nEqR, nEqL, nClamp, nClampR, nAdd, nAddR, nAddL, nSub, nSubR, nMul, nMulR, nMulL, nDivR, vIn, vInR, iteZ, iteP, lEq, lEqR, forall_eq, forall_const, true_implies, false_implies, not_true_eq_false, not_false_eq_true, true_and, and_true, implies_true, Decidable.not_not, Nat.le_refl]
    rw [t2 x hx, fa_or]
    refine ⟨by omega, by omega, hx, hx, hy, ?_⟩
    have g13 : sI (uI (uI (uI G 12 (x * 30 + y) (nI p)) 12 (y * 30 + x) (nI p)) 13 x (nI (tdF f x ||| 2 ^ y))) 13 y = nI (tdF f y) := by
      simp [gI, Ne.symm hxy]; exact t2 y hy
    rw [g13, fa_or]
    refine ⟨hy, ?_⟩
    generalize hG8 : uI (uI (uI (uI G 12 (x * 30 + y) (nI p)) 12 (y * 30 + x) (nI p)) 13 x (nI (tdF f x ||| 2 ^ y))) 13 y (nI (tdF f y ||| 2 ^ x)) = G8
    have k8 : Kq sTi G G8 := by
      rw [← hG8]
      exact (((kq_I (by unfold sTi; omega)).sI (by unfold sTi; omega)).sI (by unfold sTi; omega)).sI (by unfold sTi; omega)
    have g2 : sI G8 11 2 = nI q := by rw [← hG8]; simp [gI]; exact e2
    have g3 : sI G8 11 3 = nI l := by rw [← hG8]; simp [gI]; exact e3
    have i12 : ∀ a c, a < 30 → c < 30 → sI G8 12 (30 * a + c) = nI (tAdd f x y p a c) := by
      intro a c ha hc
      rw [← hG8, tAdd_yes hno]
      rw [gI, gI, gI, gI]
      by_cases z : (a = x ∧ c = y) ∨ (a = y ∧ c = x)
      · rw [if_pos z]
        rcases z with ⟨rfl, rfl⟩ | ⟨rfl, rfl⟩
        · rw [if_neg (by omega), if_neg (by omega)]
          by_cases z2 : 12 = 12 ∧ 30 * a + c = c * 30 + a
          · rw [if_pos z2]
          · rw [if_neg z2, if_pos ⟨rfl, by omega⟩]
        · rw [if_neg (by omega), if_neg (by omega), if_pos ⟨rfl, by omega⟩]
      · rw [if_neg z, if_neg (by omega), if_neg (by omega), if_neg (by omega), if_neg (by omega)]
        exact t1 a c ha hc
    have i13 : ∀ a, a < 30 → sI G8 13 a = nI (tdF (tAdd f x y p) a) := by
      intro a ha
      rw [← hG8, td a]
      rw [gI, gI, gI, gI]
      by_cases z : a = x
      · subst z
        rw [if_neg (fun z => hxy z.2), if_pos ⟨rfl, rfl⟩, if_pos rfl]
      · rw [if_neg z]
        by_cases z2 : a = y
        · subst z2; rw [if_pos ⟨rfl, rfl⟩, if_pos rfl]
        · rw [if_neg (fun u => z2 u.2), if_neg (fun u => z u.2), if_neg (by omega), if_neg (by omega), if_neg z2]; exact t2 a ha
    have fin : ∀ q', 2 * q' = cntT (tAdd f x y p) → ∀ n1 : Int32, nI q + n1 = nI q' → EvV K mX9_add 1 88 [(0, .ref 11), (3, .int (nI p))] [.int n1, .int (nI q), .ref 11] G8 Q := by
      intro q' hq' n1 hn1
      refine kX9_add_88 (k8.lay hL) ?_
      rw [hn1, g3]
      try simp (disch := omega) only [nLe, nLeR, nLeL, nLt, nLtR, nLtL, nEq, nEqR, nEqL, nClamp, nClampR, nAdd, nAddR, nAddL, nSub, nSubR, nMul, nMulR, nMulL, nDivR, vIn, vInR, iteZ, iteP, lEq, lEqR, forall_eq, forall_const, true_implies, false_implies, not_true_eq_false, not_false_eq_true, true_and, and_true, implies_true, Decidable.not_not, Nat.le_refl]
      refine ⟨fun z => hQ _ ((k8.sI (by unfold sTi; omega)).sI (by unfold sTi; omega)) ?_, fun z => ⟨fun z2 => hQ _ (k8.sI (by unfold sTi; omega)) ?_, fun z2 => hQ _ ((k8.sI (by unfold sTi; omega)).sI (by unfold sTi; omega)) ?_⟩⟩
      · rw [if_pos (Or.inl z)] at lt
        exact ⟨⟨fun a c ha hc => by simp [gI]; exact i12 a c ha hc, fun a ha => by simp [gI]; exact i13 a ha⟩, q', p, by simp [gI], by simp [gI], hq', lt, hp⟩
      · rw [if_neg (by omega)] at lt
        exact ⟨⟨fun a c ha hc => by simp [gI]; exact i12 a c ha hc, fun a ha => by simp [gI]; exact i13 a ha⟩, q', l, by simp [gI], by simp [gI]; exact g3, hq', lt, e6⟩
      · rw [if_pos (Or.inr (by omega))] at lt
        exact ⟨⟨fun a c ha hc => by simp [gI]; exact i12 a c ha hc, fun a ha => by simp [gI]; exact i13 a ha⟩, q', p, by simp [gI], by simp [gI], hq', lt, hp⟩
    rw [g2]
    refine ⟨fun z => fin q (by rw [ct, if_neg z]; omega) 0 (by rw [Int32.add_zero]), fun z => fin (q + 1) (by rw [ct, if_pos z]; omega) 1 nAddR⟩
  refine kX9_add_0 hL (s_X9_priceOf hL ⟨t1, t2⟩ hx hy ?_)
  try simp (disch := omega) only [nLe, nLeR, nLeL, nLt, nLtR, nLtL, nEq, nEqR, nEqL, nClamp, nClampR, nAdd, nAddR, nAddL, nSub, nSubR, nMul, nMulR, nMulL, nDivR, vIn, vInR, iteZ, iteP, lEq, lEqR, forall_eq, forall_const, true_implies, false_implies, not_true_eq_false, not_false_eq_true, true_and, and_true, implies_true, Decidable.not_not, Nat.le_refl]
  refine ⟨fun z => absurd z hxy, fun _ => ⟨fun z => put (by omega), fun z => ⟨fun z2 => put (by omega), fun z2 => hQ G Kq.rf ?_⟩⟩⟩
  rw [tAdd_no ⟨z, by omega⟩]; exact hX
end TIES

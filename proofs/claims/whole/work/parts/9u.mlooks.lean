/-! looks: the model -/
section WALK
variable {td : Nat → Nat} {S n : Nat}
theorem sb_2n (hSn : ∀ r, S.testBit r = true → r < n) {s : Nat} (hs : sb s S) : s < 2 ^ n := by
  apply Nat.lt_pow_two_of_testBit
  intro i hi
  cases e : s.testBit i
  · rfl
  · have := hSn i (hs i e); omega
theorem w_end (hSn : ∀ r, S.testBit r = true → r < n) (hn : n ≤ 30) {m x : Nat} (hx : 2 ^ n ≤ x) : ls (isC td S m) x = lS td S m := by
  have pn : 2 ^ n ≤ 2 ^ 30 := Nat.pow_le_pow_right (by decide) hn
  have a : ls (isC td S m) x = ls (isC td S m) (2 ^ n) := ls_skip hx (fun y h1 _ => isC_no (fun u => by have := sb_2n hSn u.1; omega))
  have b : ls (isC td S m) (2 ^ 30) = ls (isC td S m) (2 ^ n) := ls_skip pn (fun y h1 _ => isC_no (fun u => by have := sb_2n hSn u.1; omega))
  rw [a, ← b]; rfl
theorem w_next {m s x : Nat} (h1 : s < x) (h2 : ∀ y, s < y → y < x → pc y ≠ m) : ls (isC td S m) x = ls (isC td S m) (s + 1) :=
  ls_skip (by omega) (fun y y1 y2 => isC_no (fun u => h2 y (by omega) y2 u.2.1))
theorem w_first {m : Nat} (hm : m ≤ 30) : ls (isC td S m) (2 ^ m - 1) = [] := by
  have := ls_skip (p := isC td S m) (a := 0) (b := 2 ^ m - 1) (Nat.zero_le _) (fun y _ y2 => isC_no (fun u => by have := pc_below (by omega) y2; omega))
  rw [this]; rfl
theorem w_more (hS : S < 2 ^ 30) (hSn : ∀ r, S.testBit r = true → r < n) (hn : n ≤ 30) {m : Nat} (hm : n < m) : ∀ d, AL td S (m - 1 + d) = AL td S (m - 1) := by
  have none : ∀ j, m ≤ j → lS td S j = [] := by
    intro j hj
    have hno : ∀ x, x ∉ lS td S j := fun x hx => by
      have := (lS_mem hS).mp hx
      have h1 : pc x ≤ n := by
        rw [← pc_ones (m := n) (by omega)]
        exact pc_sb (fun i hi => by rw [Nat.testBit_two_pow_sub_one]; have := hSn i (this.1 i hi); simp [this])
      omega
    cases e : lS td S j with
    | nil => rfl
    | cons a l => exact absurd (by rw [e]; exact List.mem_cons_self) (hno a)
  intro d
  induction d with
  | zero => rfl
  | succ d ihd => rw [← Nat.add_assoc, AL, ihd, none _ (by omega), List.append_nil]
theorem w_in {x : Nat} (hx : x < 1073741824) (hS : S < 1073741824) : nI x &&& (nI S ^^^ (-1)) = 0 ↔ sb x S := by
  rw [and_not (c := msk (fun j => x.testBit j && !S.testBit j) 30) (by omega) (by omega) (by have := msk_lt (fun j => x.testBit j && !S.testBit j) 30; omega) (fun j => by
    rw [msk_bit]
    by_cases q : j < 30
    · simp [q]
    · have : x.testBit j = false := by
        cases z : x.testBit j
        · rfl
        · exact absurd (bt_lt (n := 30) hx z) q
      simp [q, this])]
  have hml := msk_lt (fun j => x.testBit j && !S.testBit j) 30
  rw [nEqR (by omega) (by decide)]
  constructor
  · intro h i hi
    cases z : S.testBit i
    · have : (msk (fun j => x.testBit j && !S.testBit j) 30).testBit i = true := by
        rw [msk_bit]; simp [hi, z]; exact bt_lt (n := 30) hx hi
      have h' : msk (fun j => x.testBit j && !S.testBit j) 30 = 0 := h
      rw [h', Nat.zero_testBit] at this; cases this
    · rfl
  · intro h
    show msk (fun j => x.testBit j && !S.testBit j) 30 = 0
    apply Nat.eq_of_testBit_eq
    intro i
    rw [msk_bit, Nat.zero_testBit]
    cases z : x.testBit i
    · simp
    · rw [h i z]; simp
/-- all of them begin so -/
theorem w_pre {m s W : Nat} (hm : 1 ≤ m) (hW : m ≤ W) (hs : s ≤ 2 ^ 30) : ∃ r, AL td S W = (AL td S (m - 1) ++ ls (isC td S m) s) ++ r := by
  have h1 : ∃ r, lS td S m = ls (isC td S m) s ++ r := by
    have : ∀ d, ∃ r, ls (isC td S m) (s + d) = ls (isC td S m) s ++ r := by
      intro d
      induction d with
      | zero => exact ⟨[], by rw [List.append_nil]; rfl⟩
      | succ d ih =>
        obtain ⟨r, hr⟩ := ih
        rw [← Nat.add_assoc, ls]
        split
        · exact ⟨r ++ [s + d], by rw [hr, List.append_assoc]⟩
        · exact ⟨r, hr⟩
    obtain ⟨r, hr⟩ := this (2 ^ 30 - s)
    rw [show s + (2 ^ 30 - s) = 2 ^ 30 by omega] at hr
    exact ⟨r, hr⟩
  obtain ⟨r, hr⟩ := h1
  have h2 : ∀ d, ∃ q, AL td S (m + d) = (AL td S (m - 1) ++ ls (isC td S m) s) ++ q := by
    intro d
    induction d with
    | zero =>
      refine ⟨r, ?_⟩
      have : AL td S (m + 0) = AL td S (m - 1) ++ lS td S m := by
        show AL td S m = _
        rw [show m = (m - 1) + 1 by omega, AL, show m - 1 + 1 = m by omega]
      rw [this, hr, List.append_assoc]
    | succ d ih =>
      obtain ⟨q, hq⟩ := ih
      refine ⟨q ++ lS td S (m + d + 1), ?_⟩
      rw [← Nat.add_assoc, AL, hq, List.append_assoc, List.append_assoc]
  obtain ⟨q, hq⟩ := h2 (W - m)
  rw [show m + (W - m) = W by omega] at hq
  exact ⟨q, hq⟩
end WALK
section MLOOKS
variable {K : KT} {G : St} {a : AS} {e : Nat}
theorem s_leastO {Q : Int32 → St → Prop} {o : Option Nat} {y : Nat} (hL : Lay G.2.2) (ho : ∀ x, o = some x → x < 2147483648) (hy : y < 2147483648) (hQ : Q (oI (oMin o y)) G) : EvI K mX12_least 0 0 [(0, .int (oI o)), (1, .int (nI y))] [] G Q := by
  refine kX12_least_0 hL ?_
  cases o with
  | none => exact ⟨fun z => absurd z (by decide), fun _ => hQ⟩
  | some x =>
    have hx := ho x rfl
    show ((0 ≤ nI x → _) ∧ (¬ 0 ≤ nI x → _))
    rw [show (0 : Int32) = nI 0 from rfl, nLe (by decide) hx]
    refine ⟨fun _ => ⟨fun z => absurd z (nI_pos hy), fun _ => ?_⟩, fun z => absurd (Nat.zero_le _) z⟩
    have ex : oI (some x) = nI x := rfl
    rw [ex, nLe hy hx]
    have hq : Q (oI (if y ≤ x then some y else some x)) G := hQ
    refine ⟨fun z => ?_, fun z => ?_⟩
    · rw [if_pos z] at hq; exact hq
    · rw [if_neg z] at hq; exact hq
/-- the least tie: 900 prices -/
theorem s_X12_leastTie {Q : Int32 → St → Prop} (hL : Lay G.2.2) (f1 : MF G a) (ho : OkA e a) (hQ : Q (tx (leT a.f)) G) : EvI K mX12_leastTie 1 0 [(0, .ref 66)] [] G Q := by
  have hf := ho.f'
  let g : Nat → Nat := fun k => a.f (k / 30) (k % 30)
  have key : ∀ (m i : Nat) (o : Option Nat), i + m = 900 → (o = none ∧ (∀ k, k < i → g k = 0) ∨ ∃ x, o = some x ∧ x ≠ 0 ∧ x ≤ 11 ∧ (∃ k, k < i ∧ g k = x) ∧ ∀ k, k < i → g k ≠ 0 → x ≤ g k) → EvI K mX12_leastTie 1 4 [(0, .ref 66), (1, .int (oI o)), (2, .int (nI i))] [] G Q := by
    intro m
    induction m with
    | zero =>
      intro i o hm hv
      have ei : i = 900 := by omega
      subst ei
      refine kX12_leastTie_4 hL ⟨fun _ => ?_, fun z => absurd (by decide) z⟩
      have tr : ∀ c d, c < 30 → d < 30 → g (30 * c + d) = a.f c d := fun c d hc hd => by
        show a.f ((30 * c + d) / 30) ((30 * c + d) % 30) = _
        rw [show (30 * c + d) / 30 = c by omega, show (30 * c + d) % 30 = d by omega]
      have big : ∀ c d, a.f c d ≠ 0 → c < 30 ∧ d < 30 := fun c d h => by
        refine ⟨?_, ?_⟩
        · rcases Nat.lt_or_ge c 30 with y | y
          · exact y
          · exact absurd (hf.2.2.1 c d y) h
        · rcases Nat.lt_or_ge d 30 with y | y
          · exact y
          · rw [hf.1] at h; exact absurd (hf.2.2.1 d c y) h
      rcases hv with ⟨e0, h0⟩ | ⟨x, e0, x0, x11, ⟨k, k1, k2⟩, hmin⟩
      · have : lsT a.f 0 := Or.inl ⟨rfl, fun c d => by
          by_cases z : a.f c d = 0
          · exact z
          · obtain ⟨b1, b2⟩ := big c d z
            rw [← tr c d b1 b2]
            exact h0 _ (by omega)⟩
        rw [leT_eq this] at hQ
        rw [e0]; exact hQ
      · have : lsT a.f x := Or.inr ⟨x0, ⟨k / 30, k % 30, k2⟩, fun c d z => by
          obtain ⟨b1, b2⟩ := big c d z
          have := hmin (30 * c + d) (by omega) (by rw [tr c d b1 b2]; exact z)
          rw [tr c d b1 b2] at this; exact this⟩
        rw [leT_eq this] at hQ
        rw [e0]
        unfold tx at hQ
        rw [if_neg x0] at hQ; exact hQ
    | succ m ih =>
      intro i o hm hv
      have hi : i < 900 := by omega
      have v := f1.ti.1 (i / 30) (i % 30) (by omega) (by omega)
      rw [show 30 * (i / 30) + i % 30 = i by omega] at v
      have v : sI G 86 i = tx (g i) := v
      have g11 : g i ≤ 11 := hf.2.1 _ _
      refine kX12_leastTie_4 hL ?_
      rw [nI_clamp (by omega), v]
      refine ⟨fun z => absurd z (by rw [show (900 : Int32) = nI 900 from rfl, nLe (by decide) (by omega)]; omega), fun _ => ⟨(vIn (by omega)).mpr hi, fun z => ⟨(vIn (by omega)).mpr hi, ?_⟩, fun z => kX12_leastTie_34 hL ?_⟩⟩
      · have g0 : g i ≠ 0 := fun y => by rw [y] at z; exact absurd z (by decide)
        rw [show tx (g i) = nI (g i) by unfold tx; rw [if_neg g0]]
        refine s_leastO hL (fun x hx => ?_) (by omega) (kX12_leastTie_34 hL ?_)
        · rcases hv with ⟨e0, -⟩ | ⟨x', e0, -, x11, -⟩
          · rw [e0] at hx; cases hx
          · rw [e0] at hx; cases hx; omega
        rw [show nI i + 1 = nI (i + 1) from nAdd]
        refine ih (i + 1) _ (by omega) ?_
        rcases hv with ⟨e0, h0⟩ | ⟨x, e0, x0, x11, ⟨k, k1, k2⟩, hmin⟩
        · refine Or.inr ⟨g i, by rw [e0]; rfl, g0, g11, ⟨i, by omega, rfl⟩, fun k hk hk0 => ?_⟩
          rcases Nat.lt_succ_iff_lt_or_eq.mp hk with y | y
          · exact absurd (h0 k y) hk0
          · rw [y]; exact Nat.le_refl _
        · rw [e0]
          by_cases y : g i ≤ x
          · refine Or.inr ⟨g i, by show (if g i ≤ x then some (g i) else some x) = _; rw [if_pos y], g0, g11, ⟨i, by omega, rfl⟩, fun k hk hk0 => ?_⟩
            rcases Nat.lt_succ_iff_lt_or_eq.mp hk with u | u
            · have := hmin k u hk0; omega
            · rw [u]; exact Nat.le_refl _
          · refine Or.inr ⟨x, by show (if g i ≤ x then some (g i) else some x) = _; rw [if_neg y], x0, x11, ⟨k, by omega, k2⟩, fun k hk hk0 => ?_⟩
            rcases Nat.lt_succ_iff_lt_or_eq.mp hk with u | u
            · exact hmin k u hk0
            · rw [u]; omega
      · have g0 : g i = 0 := by
          by_cases y : g i = 0
          · exact y
          · exfalso
            apply z
            unfold tx
            rw [if_neg y, show (0 : Int32) = nI 0 from rfl, nLe (by decide) (by omega)]; exact Nat.zero_le _
        rw [show nI i + 1 = nI (i + 1) from nAdd]
        refine ih (i + 1) _ (by omega) ?_
        rcases hv with ⟨e0, h0⟩ | ⟨x, e0, x0, x11, ⟨k, k1, k2⟩, hmin⟩
        · refine Or.inl ⟨e0, fun k hk => ?_⟩
          rcases Nat.lt_succ_iff_lt_or_eq.mp hk with y | y
          · exact h0 k y
          · rw [y]; exact g0
        · refine Or.inr ⟨x, e0, x0, x11, ⟨k, by omega, k2⟩, fun k hk hk0 => ?_⟩
          rcases Nat.lt_succ_iff_lt_or_eq.mp hk with u | u
          · exact hmin k u hk0
          · rw [u] at hk0; exact absurd g0 hk0
  exact kX12_leastTie_0 hL (key 900 0 none (by omega) (Or.inl ⟨rfl, fun k hk => absurd hk (Nat.not_lt_zero _)⟩))
theorem leT_le (ho : OkA e a) : leT a.f ≤ 11 := by
  by_cases h : ∃ l, lsT a.f l
  · obtain ⟨l, hl⟩ := h
    rw [leT_eq hl]
    rcases hl with ⟨q, -⟩ | ⟨-, ⟨c, d, q⟩, -⟩
    · omega
    · rw [← q]; exact ho.f'.2.1 c d
  · exfalso
    apply h
    by_cases z : ∀ c d, a.f c d = 0
    · exact ⟨0, Or.inl ⟨rfl, z⟩⟩
    · have ex : ∃ v, v ≠ 0 ∧ ∃ c d, a.f c d = v := by
        apply Classical.byContradiction
        intro y
        exact z (fun c d => by
          apply Classical.byContradiction
          intro u
          exact y ⟨_, u, c, d, rfl⟩)
      have least : ∀ (n v : Nat), v ≤ n → v ≠ 0 → (∃ c d, a.f c d = v) → ∃ l, lsT a.f l := by
        intro n
        induction n with
        | zero => intro v h1 h2; omega
        | succ n ih =>
          intro v h1 h2 h3
          by_cases w : ∀ c d, a.f c d ≠ 0 → v ≤ a.f c d
          · exact ⟨v, Or.inr ⟨h2, h3, w⟩⟩
          · have ex2 : ∃ c d, a.f c d ≠ 0 ∧ a.f c d < v := by
              apply Classical.byContradiction
              intro y
              exact w (fun c d h0 => by
                rcases Nat.lt_or_ge (a.f c d) v with u | u
                · exact absurd ⟨c, d, h0, u⟩ y
                · exact u)
            obtain ⟨c, d, h4, h5⟩ := ex2
            exact ih (a.f c d) (by omega) h4 ⟨c, d, rfl⟩
      obtain ⟨v, v1, v2⟩ := ex
      exact least v v (Nat.le_refl _) v1 v2
theorem s_boundOf {Q : Int32 → St → Prop} {m : Nat} (hL : Lay G.2.2) (c : MC G a) (f1 : MF G a) (ho : OkA e a) (hm1 : 1 ≤ m) (hm : m ≤ 5) (hQ : Q (bnd a m) G) : EvI K mX12_boundOf 2 0 [(0, .ref 66), (1, .int (nI m))] [] G Q := by
  have q4 := ho.q4
  have w30 := ho.w30
  have l11 := leT_le ho
  have mn9 : ∀ k n, mnP (a.P k) n ≤ 9 := fun k n => mnP_le _ _
  have smb : ∀ n, fb_sm (fun k => mnP (a.P k) a.w.1) n ≤ 9 * n := by
    intro n
    induction n with
    | zero => exact Nat.le_refl _
    | succ n ih =>
      rw [fb_sm]
      have := mn9 n a.w.1
      omega
  unfold bnd at hQ
  have terms : ∀ (d k : Nat), k + d = a.q.1 → anyB (fun k => mnP (a.P k) a.w.1 == 9) k = false → EvI K mX12_boundOf 2 4 [(0, .ref 66), (1, .int (nI m)), (2, .int (nI (fb_sm (fun k => mnP (a.P k) a.w.1) k))), (3, .int (nI k))] [] G Q := by
    intro d
    induction d with
    | zero =>
      intro k hd hno
      have ek : k = a.q.1 := by omega
      subst ek
      rw [if_neg (by rw [hno]; decide)] at hQ
      have sb := smb a.q.1
      refine kX12_boundOf_4 hL ?_
      rw [c.tq.1]
      refine ⟨fun _ => ⟨fun z => s_X12_leastTie hL f1 ho ⟨fun z2 => s_X12_leastTie hL f1 ho ?_, fun z2 => ?_⟩, fun z => ?_⟩, fun z => absurd (Int32.le_refl _) z⟩
      · have m1 : ¬ m ≤ 1 := fun y => z (by rw [show m = 1 by omega]; rfl)
        have l0 : leT a.f ≠ 0 := fun y => by rw [y] at z2; exact absurd z2 (by decide)
        rw [if_neg m1, if_neg l0] at hQ
        rw [show tx (leT a.f) = nI (leT a.f) by unfold tx; rw [if_neg l0], show nI m - 1 = nI (m - 1) from nSub (b := 1) hm1, show nI (m - 1) * nI (leT a.f) = nI ((m - 1) * leT a.f) from nMul, show nI (fb_sm (fun k => mnP (a.P k) a.w.1) a.q.1) + nI ((m - 1) * leT a.f) = nI (fb_sm (fun k => mnP (a.P k) a.w.1) a.q.1 + (m - 1) * leT a.f) from nAdd]
        exact hQ
      · have m1 : ¬ m ≤ 1 := fun y => z (by rw [show m = 1 by omega]; rfl)
        have l0 : leT a.f = 0 := by
          by_cases y : leT a.f = 0
          · exact y
          · exfalso
            apply z2
            unfold tx
            rw [if_neg y, show (0 : Int32) = nI 0 from rfl, nLe (by decide) (by omega)]; exact Nat.zero_le _
        rw [if_neg m1, if_pos l0] at hQ
        exact hQ
      · have m1 : m ≤ 1 := by rw [show (1 : Int32) = nI 1 from rfl, nEq (by omega) (by decide)] at z; omega
        rw [if_pos m1] at hQ
        exact hQ
    | succ d ih =>
      intro k hd hno
      have hk : k < a.q.1 := by omega
      have sb := smb k
      refine kX12_boundOf_4 hL ?_
      rw [c.tq.1]
      refine ⟨fun z => absurd z (by rw [nLe (by omega) (by omega)]; omega), fun _ => ?_⟩
      have rows : ∀ (n r : Nat), r + n = a.w.1 → EvI K mX12_boundOf 2 18 [(0, .ref 66), (1, .int (nI m)), (2, .int (nI (fb_sm (fun k => mnP (a.P k) a.w.1) k))), (3, .int (nI k)), (4, .int (hx (mnP (a.P k) r))), (5, .int (nI r))] [] G Q := by
        intro n
        induction n with
        | zero =>
          intro r hn
          have er : r = a.w.1 := by omega
          subst er
          have m9 := mn9 k a.w.1
          refine kX12_boundOf_18 hL ?_
          rw [c.ro.1, hx_ge m9]
          refine ⟨fun _ => ⟨fun z => ?_, fun z => ?_⟩, fun z => absurd (Int32.le_refl _) z⟩
          · rw [hx_n z, show nI k + 1 = nI (k + 1) from nAdd, show nI (fb_sm (fun k => mnP (a.P k) a.w.1) k) + nI (mnP (a.P k) a.w.1) = nI (fb_sm (fun k => mnP (a.P k) a.w.1) k + mnP (a.P k) a.w.1) from nAdd]
            exact ih (k + 1) (by omega) (by rw [anyB, hno]; simp [z])
          · have z' : mnP (a.P k) a.w.1 = 9 := by omega
            rw [if_pos (anyB_iff.mpr ⟨k, hk, by simp [z']⟩)] at hQ
            exact hQ
        | succ n ihn =>
          intro r hn
          have hh := (f1.ht r (by omega)).1 k (by omega)
          rw [if_pos hk] at hh
          have p9 : a.P k r ≤ 9 := by have := ho.P1 k r; omega
          have m9 := mn9 k r
          refine kX12_boundOf_18 hL ?_
          rw [c.ro.1, show (4 : Int32) * nI r + nI k = nI (4 * r + k) by rw [show (4 : Int32) * nI r = nI (4 * r) from nMul]; exact nAdd, nI_clamp (by omega), hh, hx_ge p9]
          refine ⟨fun z => absurd z (by rw [nLe (by omega) (by omega)]; omega), fun _ => ⟨(vIn (by omega)).mpr (by omega), fun z => ⟨(vIn (by omega)).mpr (by omega), ?_⟩, fun z => kX12_boundOf_62 hL ?_⟩⟩
          · rw [hx_n z]
            refine s_X12_least hL m9 (by omega) (kX12_boundOf_62 hL ?_)
            rw [show nI r + 1 = nI (r + 1) from nAdd]
            exact ihn (r + 1) (by omega)
          · rw [show nI r + 1 = nI (r + 1) from nAdd]
            have := ihn (r + 1) (by omega)
            rw [mnP_hi (by omega)] at this
            exact this
      exact rows a.w.1 0 (by omega)
  exact kX12_boundOf_0 hL (terms a.q.1 0 (by omega) rfl)
end MLOOKS

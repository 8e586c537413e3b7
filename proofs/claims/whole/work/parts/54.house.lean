/-! bits of nI, masks -/
theorem bt_nI {n : Nat} (h : n < 2 ^ 32) (i : Nat) : bt (nI n) i = n.testBit i := by
  show (nI n).toBitVec.getLsbD i = _
  rw [← BitVec.testBit_toNat, pk_tn h]
theorem nI_bits {x : Int32} {n : Nat} (hn : n < 2 ^ 32) (h : ∀ i, i < 32 → bt x i = n.testBit i) : x = nI n := b_ext (fun i hi => by rw [h i hi, bt_nI hn])
theorem and_not {a b c : Nat} (ha : a < 2 ^ 32) (hb : b < 2 ^ 32) (hc : c < 2 ^ 32) (h : ∀ i, c.testBit i = (a.testBit i && !b.testBit i)) : nI a &&& (nI b ^^^ (-1)) = nI c := by
  refine nI_bits hc (fun i hi => ?_)
  rw [b_and, b_xor, b_m1 i hi, bt_nI ha, bt_nI hb, h]
  cases a.testBit i <;> cases b.testBit i <;> rfl
theorem shl_one {n : Nat} (h : n < 31) : (1 : Int32) <<< (nI n &&& 31) = nI (2 ^ n) := by
  have e := pk_shlN (n := 1) (nI n &&& 31) n (s_l n (by omega)) (by
    have : 2 ^ n < 2 ^ 31 := Nat.pow_lt_pow_right (by decide) h
    omega)
  rw [Nat.one_mul] at e
  exact e
theorem bit_at {s j : Nat} (hs : s < 2 ^ 31) (hj : j < 32) : (nI s >>> (nI j &&& 31)) &&& 1 = nI (if s.testBit j then 1 else 0) := by
  rw [pk_shrN hs (nI j &&& 31) j (s_l j hj), pk_andN (Nat.lt_of_le_of_lt (Nat.div_le_self _ _) (by omega)) (m := 1) 1 (by decide)]
  congr 1
  rw [Nat.testBit_eq_decide_div_mod_eq]
  have := Nat.mod_two_eq_zero_or_one (s / 2 ^ j)
  rcases this with q | q <;> simp [q]
/-- the numbers below n that are f, as bits -/
def msk (f : Nat → Bool) : Nat → Nat
  | 0 => 0
  | n + 1 => msk f n + if f n then 2 ^ n else 0
theorem msk_lt (f : Nat → Bool) : ∀ n, msk f n < 2 ^ n
  | 0 => by simp [msk]
  | n + 1 => by
    have h := msk_lt f n
    rw [msk, Nat.pow_succ]
    split <;> omega
theorem msk_bit (f : Nat → Bool) : ∀ n i, (msk f n).testBit i = (decide (i < n) && f i)
  | 0, i => by simp [msk]
  | n + 1, i => by
    have h := msk_bit f n
    have hl := msk_lt f n
    rw [msk]
    by_cases hf : f n = true
    · rw [if_pos hf, Nat.add_comm]
      by_cases e : i = n
      · subst e
        rw [Nat.testBit_two_pow_add_eq, Nat.testBit_lt_two_pow hl]
        simp [hf]
      · rcases Nat.lt_or_gt_of_ne e with q | q
        · rw [Nat.testBit_two_pow_add_gt q, h]
          simp [q, Nat.lt_succ_of_lt q]
        · rw [Nat.testBit_lt_two_pow (Nat.lt_of_lt_of_le (show 2 ^ n + msk f n < 2 ^ (n + 1) by rw [Nat.pow_succ]; omega) (Nat.pow_le_pow_right (by decide) q))]
          have : ¬ i < n + 1 := by omega
          simp [this]
    · rw [if_neg hf, Nat.add_zero, h]
      by_cases e : i = n
      · subst e; simp [hf]
      · have : i < n + 1 ↔ i < n := by omega
        simp [this]
/-! the first one -/
theorem first_eq {p : Nat → Bool} {t n : Nat} (h : ∀ j, j < t → p j = false) (ht : p t = true) (hn : t < n) : fa_first p n = t := by
  rcases Nat.lt_trichotomy (fa_first p n) t with q | q | q
  · have h1 := fa_first_yes p n (by omega)
    rw [h _ q] at h1; cases h1
  · exact q
  · have h1 := fa_first_no p n t q
    rw [ht] at h1; cases h1
theorem first_none {p : Nat → Bool} {n : Nat} (h : ∀ j, j < n → p j = false) : fa_first p n = n := by
  rcases Nat.lt_or_ge (fa_first p n) n with q | q
  · have h1 := fa_first_yes p n q
    rw [h _ q] at h1; cases h1
  · exact Nat.le_antisymm (fa_first_le p n) q
/-- the first one below n, or -1 -/
def fI (p : Nat → Bool) (n : Nat) : Int32 := if fa_first p n < n then nI (fa_first p n) else -1
theorem fI_at {p : Nat → Bool} {t n : Nat} (h : ∀ j, j < t → p j = false) (ht : p t = true) (hn : t < n) : fI p n = nI t := by rw [fI, first_eq h ht hn, if_pos hn]
theorem fI_no {p : Nat → Bool} {n : Nat} (h : ∀ j, j < n → p j = false) : fI p n = -1 := by rw [fI, first_none h, if_neg (Nat.lt_irrefl _)]
theorem nI_mul4 (a b : Nat) : nI a * 4 + nI b = nI (4 * a + b) := by
  show nI a * nI 4 + nI b = _
  rw [pk_mul, nI_add, Nat.mul_comm]
/-! the House -/
section HOUSE
variable {K : KT} {G : St} {h : Nat} {b : TBt} {w : RWt}
theorem s_X1_tableNamed {Q : Int32 → St → Prop} {v : Int64} (hL : Lay G.2.2) (hh : h = 39 ∨ h = 49) (hb : XTb G h b) (hQ : Q (fI (fun t => b.2.1 t == v) b.1) G) : EvI K mX1_tableNamed 0 0 [(0, .ref h), (1, .long v)] [] G Q := by
  refine kX1_tableNamed_0 hL hh ?_
  obtain ⟨h1, h2, h3⟩ := hb
  have key : ∀ m t, t + m = b.1 → (∀ j, j < t → (b.2.1 j == v) = false) → EvI K mX1_tableNamed 0 2 [(0, .ref h), (1, .long v), (3, .int (nI t))] [] G Q := by
    intro m
    induction m with
    | zero =>
      intro t ht hp
      refine kX1_tableNamed_2 hL hh ?_
      rw [h1]
      refine pk_le b.1 t (fun _ => ?_) (fun q => by omega)
      rw [fI_no (fun j hj => hp j (by omega))] at hQ
      exact hQ
    | succ m ih =>
      intro t ht hp
      refine kX1_tableNamed_2 hL hh ?_
      rw [h1]
      refine pk_le b.1 t (fun q => by omega) (fun q => ⟨pk_in t 5 (by omega), ?_⟩)
      rw [nI_clamp (by omega), (h3 t (by omega)).1, nI_1]
      refine ⟨fun e => ih (t + 1) (by omega) (fun j hj => ?_), fun e => ?_⟩
      · rcases Nat.lt_succ_iff_lt_or_eq.mp hj with q | q
        · exact hp j q
        · subst q; simpa using e
      · rw [fI_at hp (by simpa using e) (by omega)] at hQ
        exact hQ
  exact key b.1 0 (by omega) (fun j hj => absurd hj (Nat.not_lt_zero j))
theorem s_X1_hasColumnNamed {Q : Int32 → St → Prop} {v : Int64} {t : Nat} (hL : Lay G.2.2) (hh : h = 39 ∨ h = 49) (hb : XTb G h b) (ht : t < b.1) (hQ : Q (if fa_first (fun c => b.2.2.2.1 t c == v) (b.2.2.1 t) < b.2.2.1 t then 1 else 0) G) : EvI K mX1_hasColumnNamed 0 0 [(0, .ref h), (1, .int (nI t)), (2, .long v)] [] G Q := by
  refine kX1_hasColumnNamed_0 hL hh ?_
  obtain ⟨h1, h2, h3⟩ := hb
  obtain ⟨-, c2, c3, c4⟩ := h3 t ht
  have key : ∀ m c, c + m = b.2.2.1 t → (∀ j, j < c → (b.2.2.2.1 t j == v) = false) → EvI K mX1_hasColumnNamed 0 3 [(0, .ref h), (1, .int (nI t)), (2, .long v), (4, .int (nI c))] [] G Q := by
    intro m
    induction m with
    | zero =>
      intro c hc hp
      refine kX1_hasColumnNamed_3 hL hh ⟨pk_in t 5 (by omega), ?_⟩
      rw [nI_clamp (by omega), c2]
      refine pk_le (b.2.2.1 t) c (fun _ => ?_) (fun q => by omega)
      rw [first_none (fun j hj => hp j (by omega)), if_neg (Nat.lt_irrefl _)] at hQ
      exact hQ
    | succ m ih =>
      intro c hc hp
      refine kX1_hasColumnNamed_3 hL hh ⟨pk_in t 5 (by omega), ?_⟩
      rw [nI_clamp (by omega), c2]
      refine pk_le (b.2.2.1 t) c (fun q => by omega) (fun q => ?_)
      rw [nI_mul4]
      refine ⟨pk_in (4 * t + c) 20 (by omega), ?_⟩
      rw [nI_clamp (by omega), (c4 c (by omega)).1, nI_1]
      refine ⟨fun e => ih (c + 1) (by omega) (fun j hj => ?_), fun e => ?_⟩
      · rcases Nat.lt_succ_iff_lt_or_eq.mp hj with q | q
        · exact hp j q
        · subst q; simpa using e
      · rw [first_eq hp (by simpa using e) (show c < b.2.2.1 t by omega), if_pos (by omega)] at hQ
        exact hQ
  exact key (b.2.2.1 t) 0 (by omega) (fun j hj => absurd hj (Nat.not_lt_zero j))
/-- the kind of a cell: -3 there is none -/
def kdAt (b : TBt) (w : RWt) (x c : Int32) : Int32 := if 0 ≤ x.toInt ∧ x.toInt < w.1 ∧ 0 ≤ c.toInt ∧ c.toInt < b.2.2.1 (w.2.1 x.toInt.toNat) then kdX (b.2.2.2.2 (w.2.1 x.toInt.toNat) c.toInt.toNat) else -3
theorem kdAt_in {b : TBt} {w : RWt} {r c : Nat} (hr : r < w.1) (hw : w.1 ≤ 30) (hc : c < b.2.2.1 (w.2.1 r)) (h4 : b.2.2.1 (w.2.1 r) ≤ 4) : kdAt b w (nI r) (nI c) = kdX (b.2.2.2.2 (w.2.1 r) c) := by
  rw [kdAt, nI_toInt (by omega), nI_toInt (by omega), if_pos ⟨by omega, by omega, by omega, by simp; omega⟩]
  simp
theorem kdAt_r {b : TBt} {w : RWt} {x c : Int32} (h : x.toInt < 0 ∨ (w.1 : Int) ≤ x.toInt) : kdAt b w x c = -3 := if_neg (by omega)
theorem s_X1_kindAt {Q : Int32 → St → Prop} {x c : Int32} (hL : Lay G.2.2) (hh : h = 39 ∨ h = 49) (hb : XTb G h b) (hw : XRw G h b w) (hQ : Q (kdAt b w x c) G) : EvI K mX1_kindAt 0 0 [(0, .ref h), (1, .int x), (2, .int c)] [] G Q := by
  obtain ⟨h1, h2, h3⟩ := hb
  obtain ⟨w1, w2, w3, w4⟩ := hw
  refine kX1_kindAt_0 hL hh ?_
  rw [w1]
  refine ⟨fun q => ?_, fun q0 => ⟨fun q => ?_, fun q1 => ⟨fun q => ?_, fun q2 => ?_⟩⟩⟩
  · rw [kdAt_r (Or.inl (by simpa using (fa_lt _ _).mp q))] at hQ; exact hQ
  · rw [kdAt_r (Or.inr (by have := (fa_le _ _).mp q; rw [nI_toInt (by omega)] at this; exact this))] at hQ; exact hQ
  · rw [kdAt, if_neg (fun z => by have := (fa_lt _ _).mp q; simp at this; omega)] at hQ; exact hQ
  · obtain ⟨r, hr, rfl, -, hcl, -⟩ := pk_mu q0 q1 (by omega)
    obtain ⟨d, hd, rfl⟩ := nI_of q2
    obtain ⟨r1, r2, r3, r4⟩ := w3 r hr
    obtain ⟨-, t2, t3, t4⟩ := h3 _ r1
    refine ⟨pk_in r 30 (by omega), ?_⟩
    rw [hcl, r2]
    refine ⟨pk_in (w.2.1 r) 5 (by omega), ?_⟩
    rw [nI_clamp (by omega), t2, nI_mul4]
    refine pk_lt d (b.2.2.1 (w.2.1 r)) (fun z => ⟨pk_in r 30 (by omega), pk_in (4 * w.2.1 r + d) 20 (by omega), ?_⟩) (fun z => ?_)
    · rw [nI_clamp (by omega), (t4 d z).2]
      rw [kdAt_in hr w2 z t3] at hQ; exact hQ
    · rw [kdAt, if_neg (fun y => by rw [nI_toInt hd, nI_toInt (by omega)] at y; simp at y; omega)] at hQ; exact hQ
end HOUSE

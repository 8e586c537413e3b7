theorem kdX_m1 {k : Nat} (hk : k < 2 ^ 31) : kdX k = -1 ↔ k = 5 := by
  unfold kdX
  by_cases h : k = 5
  · simp [h]
  · rw [if_neg h]
    by_cases h2 : k = 6
    · simp [h2]
    · rw [if_neg h2]
      constructor
      · intro q
        have := congrArg Int32.toInt q
        rw [nI_toInt hk] at this
        have e : (-1 : Int32).toInt = -1 := by decide
        rw [e] at this; omega
      · intro q; exact absurd q h
theorem kdX_m2 {k : Nat} (hk : k < 2 ^ 31) : kdX k = -2 ↔ k = 6 := by
  unfold kdX
  by_cases h : k = 5
  · simp [h]
  · rw [if_neg h]
    by_cases h2 : k = 6
    · simp [h2]
    · rw [if_neg h2]
      constructor
      · intro q
        have := congrArg Int32.toInt q
        rw [nI_toInt hk] at this
        have e : (-2 : Int32).toInt = -2 := by decide
        rw [e] at this; omega
      · intro q; exact absurd q h2
theorem kdX_m3 {k : Nat} (hk : k < 2 ^ 31) : ¬ kdX k = -3 := by
  unfold kdX
  by_cases h : k = 5
  · simp [h]
  · rw [if_neg h]
    by_cases h2 : k = 6
    · simp [h2]
    · rw [if_neg h2]
      intro q
      have := congrArg Int32.toInt q
      rw [nI_toInt hk] at this
      have e : (-3 : Int32).toInt = -3 := by decide
      rw [e] at this; omega
theorem kdX_ge {k : Nat} (hk : k ≤ 6) : 0 ≤ kdX k ↔ k < 5 := by
  rcases (show k = 0 ∨ k = 1 ∨ k = 2 ∨ k = 3 ∨ k = 4 ∨ k = 5 ∨ k = 6 by omega) with rfl | rfl | rfl | rfl | rfl | rfl | rfl <;> decide
/-- all kinds are kinds -/
def okTb (b : TBt) : Prop := ∀ t c, t < b.1 → c < b.2.2.1 t → b.2.2.2.2 t c ≤ 6
/-- a cell that is not -3 has its row and column -/
theorem kdAt_have {b : TBt} {w : RWt} {x c : Int32} (h : ¬ kdAt b w x c = -3) (hw : w.1 ≤ 30) : ∃ r d : Nat, x = nI r ∧ c = nI d ∧ r < w.1 ∧ d < b.2.2.1 (w.2.1 r) ∧ kdAt b w x c = kdX (b.2.2.2.2 (w.2.1 r) d) := by
  have hx : 0 ≤ x.toInt ∧ x.toInt < w.1 ∧ 0 ≤ c.toInt ∧ c.toInt < b.2.2.1 (w.2.1 x.toInt.toNat) := by
    by_cases q : 0 ≤ x.toInt ∧ x.toInt < w.1 ∧ 0 ≤ c.toInt ∧ c.toInt < b.2.2.1 (w.2.1 x.toInt.toNat)
    · exact q
    · exact absurd (if_neg q) h
  obtain ⟨h1, h2, h3, h4⟩ := hx
  have hc := fb_rng c
  refine ⟨x.toInt.toNat, c.toInt.toNat, ?_, ?_, by omega, by omega, if_pos ⟨h1, h2, h3, h4⟩⟩
  · apply Int32.toInt_inj.mp; rw [nI_toInt (by omega)]; omega
  · apply Int32.toInt_inj.mp; rw [nI_toInt (by omega)]; omega
section HOUSE2
variable {K : KT} {G : St} {h : Nat} {b : TBt} {w : RWt}
theorem s_X1_wordAt {Q : Int64 → St → Prop} {x c : Int32} (hL : Lay G.2.2) (hh : h = 39 ∨ h = 49) (hb : XTb G h b) (hw : XRw G h b w) (hQ : Q (if kdAt b w x c = -1 then w.2.2 x.toInt.toNat c.toInt.toNat else 0) G) : EvL K mX1_wordAt 1 0 [(0, .ref h), (1, .int x), (2, .int c)] [] G Q := by
  refine kX1_wordAt_0 hL hh (s_X1_kindAt hL hh hb hw ⟨fun q => ?_, fun q => ?_⟩)
  · rw [if_neg q] at hQ; exact hQ
  · rw [if_pos q] at hQ
    obtain ⟨r, d, rfl, rfl, hr, hd, -⟩ := kdAt_have (b := b) (w := w) (x := x) (c := c) (by rw [q]; decide) hw.2.1
    obtain ⟨r1, -, -, r4⟩ := hw.2.2.1 r hr
    have h4 := (hb.2.2 _ r1).2.2.1
    have hw2 := hw.2.1
    rw [nI_mul4]
    refine ⟨pk_in (4 * r + d) 120 (by omega), ?_⟩
    rw [nI_clamp (by omega), r4 d hd]
    rw [nI_toInt (by omega), nI_toInt (by omega)] at hQ
    simpa using hQ
theorem s_X1_numberAt {Q : Int64 → St → Prop} {x c : Int32} (hL : Lay G.2.2) (hh : h = 39 ∨ h = 49) (hb : XTb G h b) (hw : XRw G h b w) (hQ : Q (if kdAt b w x c = -2 then w.2.2 x.toInt.toNat c.toInt.toNat else -1) G) : EvL K mX1_numberAt 1 0 [(0, .ref h), (1, .int x), (2, .int c)] [] G Q := by
  refine kX1_numberAt_0 hL hh (s_X1_kindAt hL hh hb hw ⟨fun q => ?_, fun q => ?_⟩)
  · rw [if_neg q] at hQ; exact hQ
  · rw [if_pos q] at hQ
    obtain ⟨r, d, rfl, rfl, hr, hd, -⟩ := kdAt_have (b := b) (w := w) (x := x) (c := c) (by rw [q]; decide) hw.2.1
    obtain ⟨r1, -, -, r4⟩ := hw.2.2.1 r hr
    have h4 := (hb.2.2 _ r1).2.2.1
    have hw2 := hw.2.1
    rw [nI_mul4]
    refine ⟨pk_in (4 * r + d) 120 (by omega), ?_⟩
    rw [nI_clamp (by omega), r4 d hd]
    rw [nI_toInt (by omega), nI_toInt (by omega)] at hQ
    simpa using hQ
/-- a row's number, or -1, as a long -/
def kyL (o : Option Nat) : Int64 := match o with
  | none => -1
  | some r => lN r
/-- the cells of keys hold rows that are told ahead, or none -/
def okRw (b : TBt) (w : RWt) : Prop := ∀ r c, r < w.1 → c < b.2.2.1 (w.2.1 r) → b.2.2.2.2 (w.2.1 r) c < 5 → w.2.2 r c = -1 ∨ ∃ q, q < r ∧ w.2.1 q = b.2.2.2.2 (w.2.1 r) c ∧ w.2.2 r c = lN q
theorem s_X1_keyAt {Q : Int32 → St → Prop} {x c : Int32} {s : Nat} (hL : Lay G.2.2) (hh : h = 39 ∨ h = 49) (hb : XTb G h b) (hw : XRw G h b w) (hob : okTb b) (hor : okRw b w) (hs : s < 2 ^ 31)
    (hno : (¬ 0 ≤ kdAt b w x c) → Q (-1) G) (hn1 : ∀ r d, x = nI r → c = nI d → r < w.1 → d < b.2.2.1 (w.2.1 r) → b.2.2.2.2 (w.2.1 r) d < 5 → w.2.2 r d = -1 → Q (-1) G)
    (hyes : ∀ r d q, x = nI r → c = nI d → r < w.1 → d < b.2.2.1 (w.2.1 r) → b.2.2.2.2 (w.2.1 r) d < 5 → q < r → w.2.2 r d = lN q → Q (if s.testBit q then nI q else -1) G) : EvI K mX1_keyAt 1 0 [(0, .ref h), (1, .int x), (2, .int c), (3, .int (nI s))] [] G Q := by
  refine kX1_keyAt_0 hL hh (s_X1_kindAt hL hh hb hw ⟨fun q => ?_, fun q => hno q⟩)
  obtain ⟨r, d, rfl, rfl, hr, hd, hk⟩ := kdAt_have (b := b) (w := w) (x := x) (c := c) (by intro z; rw [z] at q; exact absurd q (by decide)) hw.2.1
  obtain ⟨r1, -, -, r4⟩ := hw.2.2.1 r hr
  have h4 := (hb.2.2 _ r1).2.2.1
  have hw2 := hw.2.1
  rw [hk] at q
  have hk5 := (kdX_ge (hob _ d r1 hd)).mp q
  rw [nI_mul4]
  refine ⟨pk_in (4 * r + d) 120 (by omega), ?_⟩
  rw [nI_clamp (by omega), r4 d hd]
  rcases hor r d hr hd hk5 with e | ⟨k, hkr, -, e⟩
  · rw [e]
    exact ⟨fun _ => hn1 r d rfl rfl hr hd hk5 e, fun z => absurd (by decide) z⟩
  · rw [e, lN_i]
    refine ⟨fun z => absurd z (nI_pos (by omega)), fun _ v3 ev3 => ?_⟩
    rw [bit_at hs (by omega)] at ev3
    subst ev3
    have hy := hyes r d k rfl rfl hr hd hk5 hkr e
    by_cases hbit : s.testBit k = true
    · rw [if_pos hbit] at hy ⊢
      exact ⟨fun z => absurd z (by decide), fun _ => hy⟩
    · rw [if_neg hbit] at hy ⊢
      exact ⟨fun _ => hy, fun z => absurd rfl z⟩
theorem s_X1_isTold {Q : Int32 → St → Prop} {x : Int32} (hL : Lay G.2.2) (hh : h = 39 ∨ h = 49) (hw : XRw G h b w) (hQ : Q (if 0 ≤ x.toInt ∧ x.toInt < w.1 then 1 else 0) G) : EvI K mX1_isTold 0 0 [(0, .ref h), (1, .int x)] [] G Q := by
  refine kX1_isTold_0 hL hh ?_
  rw [hw.1]
  have hw2 := hw.2.1
  refine ⟨fun q => ?_, fun q0 => ⟨fun q => ?_, fun q1 => ?_⟩⟩
  · rw [if_neg (fun z => by have := (fa_lt _ _).mp q; simp at this; omega)] at hQ; exact hQ
  · rw [if_neg (fun z => by have := (fa_le _ _).mp q; rw [nI_toInt (by omega)] at this; omega)] at hQ; exact hQ
  · obtain ⟨r, hr, rfl, -⟩ := pk_mu q0 q1 (by omega)
    rw [if_pos (by rw [nI_toInt (by omega)]; omega)] at hQ; exact hQ
theorem s_X1_told {Q : Int32 → St → Prop} (hL : Lay G.2.2) (hh : h = 39 ∨ h = 49) (hw : XRw G h b w) (hQ : Q (nI (2 ^ w.1 - 1)) G) : EvI K mX1_told 0 0 [(0, .ref h)] [] G Q := by
  refine kX1_told_0 hL hh ?_
  have hw2 := hw.2.1
  rw [hw.1, shl_one (by omega), show (1 : Int32) = nI 1 from rfl, pk_sub (Nat.one_le_two_pow)]
  exact hQ
/-- the rows that a person sees, as bits -/
def seeM (n : Nat) (d : Nat → Nat → Bool) (p : Nat) : Nat := msk (fun r => !d p r) n
theorem seeM_lt {n : Nat} {d : Nat → Nat → Bool} {p : Nat} (hn : n ≤ 30) : seeM n d p < 2 ^ 30 := Nat.lt_of_lt_of_le (msk_lt _ _) (Nat.pow_le_pow_right (by decide) hn)
theorem seeM_bit (n : Nat) (d : Nat → Nat → Bool) (p r : Nat) : (seeM n d p).testBit r = (decide (r < n) && !d p r) := msk_bit _ _ _
theorem s_X1_seenBy {Q : Int32 → St → Prop} {d : Nat → Nat → Bool} {p : Nat} (hL : Lay G.2.2) (hh : h = 39 ∨ h = 49) (hw : XRw G h b w) (hd : XHd G h w.1 d) (hp : p < 4) (hQ : Q (nI (seeM w.1 d p)) G) : EvI K mX1_seenBy 1 0 [(0, .ref h), (1, .int (nI p))] [] G Q := by
  refine kX1_seenBy_0 hL hh (s_X1_told hL hh hw ⟨pk_in p 4 hp, ?_⟩)
  obtain ⟨k, hk, e, hbit⟩ := hd.1 p hp
  have hw2 := hw.2.1
  have hpw : 2 ^ w.1 ≤ 2 ^ 30 := Nat.pow_le_pow_right (by decide) hw2
  rw [nI_clamp (by omega), e, and_not (c := seeM w.1 d p) (by omega) (by omega) (by have := seeM_lt (n := w.1) (d := d) (p := p) hw2; omega) (fun i => ?_)]
  · exact hQ
  · rw [seeM_bit, hbit, Nat.testBit_two_pow_sub_one]
theorem s_X1_hasWord {Q : Int32 → St → Prop} {r : Nat} {v : Int64} (hL : Lay G.2.2) (hh : h = 39 ∨ h = 49) (hb : XTb G h b) (hw : XRw G h b w) (hQ : Q (if fa_first (fun c => (if kdAt b w (nI r) (nI c) = -1 then w.2.2 (nI r).toInt.toNat c else 0) == v) 4 < 4 then 1 else 0) G) : EvI K mX1_hasWord 2 0 [(0, .ref h), (1, .int (nI r)), (2, .long v)] [] G Q := by
  refine kX1_hasWord_0 hL hh ?_
  have key : ∀ m c, c + m = 4 → (∀ j, j < c → ((if kdAt b w (nI r) (nI j) = -1 then w.2.2 (nI r).toInt.toNat j else 0) == v) = false) → EvI K mX1_hasWord 2 3 [(0, .ref h), (1, .int (nI r)), (2, .long v), (4, .int (nI c))] [] G Q := by
    intro m
    induction m with
    | zero =>
      intro c hc hp
      refine kX1_hasWord_3 hL hh (pk_le 4 c (fun _ => ?_) (fun q => by omega))
      rw [first_none (fun j hj => hp j (by omega)), if_neg (Nat.lt_irrefl _)] at hQ
      exact hQ
    | succ m ih =>
      intro c hc hp
      refine kX1_hasWord_3 hL hh (pk_le 4 c (fun q => by omega) (fun q => s_X1_wordAt hL hh hb hw ?_))
      rw [show (nI c).toInt.toNat = c by rw [nI_toInt (by omega)]; simp, nI_1]
      refine ⟨fun e => ih (c + 1) (by omega) (fun j hj => ?_), fun e => ?_⟩
      · rcases Nat.lt_succ_iff_lt_or_eq.mp hj with q | q
        · exact hp j q
        · subst q; simpa using e
      · rw [first_eq hp (by simpa using e) (show c < 4 by omega), if_pos (by omega)] at hQ
        exact hQ
  exact key 4 0 (by omega) (fun j hj => absurd hj (Nat.not_lt_zero j))
end HOUSE2

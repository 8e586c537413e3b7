/-! the class: questions -/
theorem gRI (G : St) (a k i j : Nat) (v : Int32) : sR (uI G a k v) i j = sR G i j := rfl
theorem gNI (G : St) (a k i : Nat) (v : Int32) : sN (uI G a k v) i = sN G i := rfl
theorem c31 : ∀ k, k < 32 → (nI k &&& 31) = nI k := by decide +kernel
theorem sm32 : ∀ k, k < 32 → (BitVec.ofNat 32 k).smod 32 = BitVec.ofNat 32 k := by decide +kernel
theorem sshr_i {n k : Nat} (hn : n < 2147483648) (hk : k < 32) : nI n >>> (nI k &&& 31) = nI (n / 2 ^ k) := by
  rw [c31 k hk]
  apply Int32.toBitVec_inj.mp
  have h2 : (nI n >>> nI k).toBitVec = (nI n).toBitVec.sshiftRight k := by
    show (nI n).toBitVec.sshiftRight' ((nI k).toBitVec.smod 32) = _
    rw [show (nI k).toBitVec = BitVec.ofNat 32 k from rfl, sm32 k hk, BitVec.sshiftRight', BitVec.toNat_ofNat, Nat.mod_eq_of_lt (by omega)]
  have tn : (nI n).toBitVec.toNat = n := by rw [show (nI n).toBitVec = BitVec.ofNat 32 n from rfl, BitVec.toNat_ofNat, Nat.mod_eq_of_lt (by omega)]
  have hmsb : (nI n).toBitVec.msb = false := by
    rw [BitVec.msb_eq_false_iff_two_mul_lt, tn]; omega
  rw [h2, BitVec.sshiftRight_eq_of_msb_false hmsb]
  apply BitVec.eq_of_toNat_eq
  rw [BitVec.toNat_ushiftRight, Nat.shiftRight_eq_div_pow, tn, show (nI (n / 2 ^ k)).toBitVec = BitVec.ofNat 32 (n / 2 ^ k) from rfl, BitVec.toNat_ofNat, Nat.mod_eq_of_lt (Nat.lt_of_le_of_lt (Nat.div_le_self _ _) (show n < 2 ^ 32 by omega))]
theorem xor_i {a b : Nat} : nI a ^^^ nI b = nI (a ^^^ b) := by
  apply Int32.toBitVec_inj.mp
  show BitVec.ofNat 32 a ^^^ BitVec.ofNat 32 b = BitVec.ofNat 32 (a ^^^ b)
  apply BitVec.eq_of_getLsbD_eq
  intro i hi
  simp [BitVec.getLsbD_xor, BitVec.getLsbD_ofNat, Nat.testBit_xor, hi]
def hxX (x : Nat) : Nat := ((x ^^^ x / 2 ^ 6) ^^^ x / 2 ^ 13) ^^^ x / 2 ^ 19
def hdX (x : Nat) : Nat := hxX x % 64
theorem hxX_lt {x : Nat} (h : x < 2147483648) : hxX x < 2147483648 := by
  have d : ∀ k, x / 2 ^ k < 2 ^ 31 := fun k => Nat.lt_of_le_of_lt (Nat.div_le_self _ _) h
  exact Nat.xor_lt_two_pow (n := 31) (Nat.xor_lt_two_pow (Nat.xor_lt_two_pow h (d 6)) (d 13)) (d 19)
theorem hdX_lt (x : Nat) : hdX x < 64 := Nat.mod_lt _ (by decide)
theorem QS_cong {sz sz' : Int32} {H X C F N H' X' C' F' N' : Nat → Int32} {hd : Nat → Nat} {B k n : Nat} {c : Nat → Nat} (h : QS sz H X C F N hd B c k n) (hz : sz' = sz) (h1 : ∀ j, j < B → H' j = H j) (h2 : ∀ q, q < (fL c k).length → X' q = X q ∧ C' q = C q ∧ F' q = F q ∧ N' q = N q) : QS sz' H' X' C' F' N' hd B c k n := by
  obtain ⟨a1, a2, a3⟩ := h
  refine ⟨hz.trans a1, ⟨fun j hj => (h1 j hj).trans (a2.1 j hj), fun q hq => (h2 q hq).1.trans (a2.2 q hq)⟩, fun q j hq => ?_⟩
  obtain ⟨b1, b2, b3⟩ := a3 q j hq
  obtain ⟨d1, d2, d3, d4⟩ := h2 q (getE_lt hq)
  exact ⟨d2.trans b1, d3.trans b2, d4.trans b3⟩
def XQ (G : St) (c : Nat → Nat) (k n : Nat) : Prop := QS (sI G 28 12) (sI G 29) (sI G (sR G 28 1)) (sI G (sR G 28 2)) (sI G (sR G 28 4)) (sI G (sR G 28 3)) hdX 64 c k n
/-- the numbers of the joinings' questions -/
def XNm (G : St) (c : Nat → Nat) (k n : Nat) : Prop := ∀ i, i < n → ∃ q j : Nat, (fL c k)[q]? = some j ∧ c j = c i ∧ sI G (sR G 28 5) i = nI q
def sQf (a b : Nat) : Nat → Nat → Prop := fun i k => i = 28 ∧ (k = 10 ∨ k = 12) ∨ 29 ≤ i ∧ i ≤ 34 ∨ 104 ≤ i ∧ i ≠ a ∧ i ≠ b
def tQf : Nat → Nat → Prop := fun i k => i = 28 ∧ 1 ≤ k ∧ k ≤ 5
/-- one array of the questions has grown -/
def Gw (j n m : Nat) (G G2 : St) : Prop := nx G2 = nx G + 1 ∧ su G2 = su G + m ∧ sR G2 28 j = nx G ∧ (∀ a b, ¬ (a = 28 ∧ b = j) → a ≠ nx G → sR G2 a b = sR G a b) ∧ (∀ a, a ≠ nx G → sI G2 a = sI G a ∧ sL G2 a = sL G a ∧ sN G2 a = sN G a ∧ sK G2 a = sK G a) ∧ sN G2 (nx G) = m ∧ ∀ q, q < n → sI G2 (nx G) q = sI G (sR G 28 j) q
theorem Gw.g {j n m : Nat} {G G2 : St} {S : Nat → Nat → Prop} (h : Gw j n m G G2) (hj : 1 ≤ j ∧ j ≤ 5) : Kg S tQf G G2 := by
  obtain ⟨a1, a2, a3, a4, a5, a6, a7⟩ := h
  refine ⟨by omega, fun i hi => ?_, fun i k hi => ?_⟩
  · have := a5 i (by omega); exact ⟨this.2.2.1, this.2.2.2⟩
  · have := a5 i (by omega)
    exact ⟨fun _ => ⟨by rw [this.1], by rw [this.2.1]⟩, fun z => a4 i k (fun y => z (by unfold tQf; omega)) (by omega)⟩
theorem gt28 {x g : Nat} (h : x = g ∨ 104 ≤ x) (hg : 30 ≤ g ∧ g ≤ 34) : x ≠ 28 ∧ x ≠ 29 ∧ (29 ≤ x ∧ x ≤ 34 ∨ 104 ≤ x) := by omega
section XQUEST
variable {K : KT} {G : St} {h : Nat} {b : TBt} {w : RWt} {f P : Nat → Nat → Nat} {t e : Nat}
theorem s_headOf {Q : Int32 → St → Prop} {x : Nat} (hL : Lay G.2.2) (hx : x < 2147483648) (hQ : Q (nI (hdX x)) G) : EvI K mX4_headOf 1 0 [(0, .int (nI x))] [] G Q := by
  have e : ((nI x ^^^ (nI x >>> ((6 : Int32) &&& 31))) ^^^ (nI x >>> ((13 : Int32) &&& 31))) ^^^ (nI x >>> ((19 : Int32) &&& 31)) = nI (hxX x) := by
    rw [show (6 : Int32) = nI 6 from rfl, show (13 : Int32) = nI 13 from rfl, show (19 : Int32) = nI 19 from rfl, sshr_i hx (by decide), sshr_i hx (by decide), sshr_i hx (by decide), xor_i, xor_i, xor_i]; rfl
  refine kX4_headOf_0 hL ?_
  rw [e]
  have hl := hxX_lt hx
  have e2 : nI (hxX x) - nI (hxX x) / 64 * 64 = nI (hdX x) := by
    have e : hxX x % 64 = hxX x - hxX x / 64 * 64 := by omega
    unfold hdX
    try simp (disch := omega) only [nLe, nLeR, nLeL, nLt, nLtR, nLtL, nEq, nEqR, nEqL, nClamp, nClampR, nAdd, nAddR, nAddL, nSub, nSubR, nMul, nMulR, nMulL, nDivR, vIn, vInR, iteZ, iteP, lEq, lEqR, forall_eq, forall_const, true_implies, false_implies, not_true_eq_false, not_false_eq_true, true_and, and_true, implies_true, Decidable.not_not, Nat.le_refl]
    rw [e]
  refine kJ9_floorMod_7cf53_0 hL ?_
  rw [e2, show (64 : Int32) = nI 64 from rfl, xor_i]
  have hx2 : hxX x ^^^ 64 < 2147483648 := Nat.xor_lt_two_pow (n := 31) hl (by decide)
  refine ⟨by decide, fun _ => hQ, fun z => absurd ?_ z⟩
  rw [show (0 : Int32) = nI 0 from rfl, nLe (by decide) hx2]; exact Nat.zero_le _
theorem s_X4_find {Q : Int32 → St → Prop} {V : Nat → Nat} {m v : Nat} (hL : Lay G.2.2) (hC : HC (sI G 29) (sI G (sR G 28 1)) hdX V m 64) (hz : sI G 28 12 = nI m) (hm : m < 1000000) (hN : m ≤ sN G (sR G 28 1) ∧ m ≤ sN G (sR G 28 2)) (hV : ∀ q, q < m → sI G (sR G 28 2) q = nI (V q) ∧ V q < 2147483648) (hv : v < 2147483648) (hQ : Q (lst (fun q => V q == v) m) G) : EvI K mX4_find 2 0 [(0, .ref 28), (1, .int (nI v))] [] G Q := by
  have walk : ∀ (fuel k i : Nat), k ≤ fuel → i + k ≤ m → (∀ q, k ≤ q → q < m → V q ≠ v) → EvI K mX4_find 2 12 [(0, .ref 28), (1, .int (nI v)), (2, .int (lst (fun p => hdX (V p) == hdX v) k)), (3, .int (nI i))] [] G Q := by
    intro fuel
    have none : ∀ k i, (∀ q, q < k → (hdX (V q) == hdX v) = false) → (∀ q, k ≤ q → q < m → V q ≠ v) → EvI K mX4_find 2 12 [(0, .ref 28), (1, .int (nI v)), (2, .int (lst (fun p => hdX (V p) == hdX v) k)), (3, .int (nI i))] [] G Q := by
      intro k i h1 h2
      rw [lst_none h1]
      rw [lst_none (fun q hq => by
        simp
        rcases Nat.lt_or_ge q k with z | z
        · have := h1 q z
          simp at this
          intro e; rw [e] at this; exact this rfl
        · exact h2 q z hq)] at hQ
      refine kX4_find_12 hL ⟨fun _ => hQ, fun _ => ⟨fun _ => hQ, fun z => absurd rfl z⟩⟩
    induction fuel with
    | zero =>
      intro k i hf hk hno
      exact none k i (fun q hq => absurd hq (by omega)) hno
    | succ fuel ih =>
      intro k i hf hk hno
      rcases lst_cases (p := fun p => hdX (V p) == hdX v) k with ⟨a, c⟩ | ⟨q, a, e, c, d⟩
      · exact none k i c hno
      · rw [e]
        have c' : hdX (V q) = hdX v := by simpa using c
        obtain ⟨v1, v2⟩ := hV q (by omega)
        refine kX4_find_12 hL ?_
        rw [hz]
        have nm : ¬ nI q = -1 := fun z => by
          have := congrArg Int32.toInt z
          rw [nI_toInt (by omega)] at this
          have e1 : (-1 : Int32).toInt = -1 := by decide
          omega
        refine ⟨fun z => absurd z (by try simp (disch := omega) only [nLe, nLeR, nLeL, nLt, nLtR, nLtL, nEq, nEqR, nEqL, nClamp, nClampR, nAdd, nAddR, nAddL, nSub, nSubR, nMul, nMulR, nMulL, nDivR, vIn, vInR, iteZ, iteP, lEq, lEqR, forall_eq, forall_const, true_implies, false_implies, not_true_eq_false, not_false_eq_true, true_and, and_true, implies_true, Decidable.not_not, Nat.le_refl]; omega), fun _ => ⟨fun z => absurd z nm, fun _ => ?_⟩⟩
        try simp (disch := omega) only [nLe, nLeR, nLeL, nLt, nLtR, nLtL, nEq, nEqR, nEqL, nClamp, nClampR, nAdd, nAddR, nAddL, nSub, nSubR, nMul, nMulR, nMulL, nDivR, vIn, vInR, iteZ, iteP, lEq, lEqR, forall_eq, forall_const, true_implies, false_implies, not_true_eq_false, not_false_eq_true, true_and, and_true, implies_true, Decidable.not_not, Nat.le_refl, v1]
        refine ⟨by omega, fun z => ⟨by omega, ?_⟩, fun z => ?_⟩
        · rw [hC.2 q (by omega), c']
          refine ih q (i + 1) (by omega) (by omega) (fun j h1 h2 => ?_)
          rcases Nat.lt_or_ge j k with y | y
          · rcases Nat.eq_or_lt_of_le h1 with u | u
            · rw [← u]; exact z
            · have := d j u y
              simp at this
              intro e; rw [e] at this; exact this rfl
          · exact hno j y h2
        · rw [lst_hit (q := q) (by omega) (by simp [z]) (fun j h1 h2 => by
            simp
            rcases Nat.lt_or_ge j k with y | y
            · have := d j h1 y
              simp at this
              intro e; rw [e] at this; exact this rfl
            · exact hno j y h2)] at hQ
          exact hQ
  refine kX4_find_0 hL (s_headOf hL hv ?_)
  have hlt := hdX_lt v
  try simp (disch := omega) only [nLe, nLeR, nLeL, nLt, nLtR, nLtL, nEq, nEqR, nEqL, nClamp, nClampR, nAdd, nAddR, nAddL, nSub, nSubR, nMul, nMulR, nMulL, nDivR, vIn, vInR, iteZ, iteP, lEq, lEqR, forall_eq, forall_const, true_implies, false_implies, not_true_eq_false, not_false_eq_true, true_and, and_true, implies_true, Decidable.not_not, Nat.le_refl]
  refine ⟨hlt, ?_⟩
  rw [hC.1 _ hlt]
  exact walk m m 0 (Nat.le_refl _) (by omega) (fun q h1 h2 => by omega)
theorem s_cpQ {Q : Nat → St → Prop} {j g n m : Nat} (hL : Lay G.2.2) (hq : (28, j, 0, g) ∈ ltG) (hn : sN G (sR G 28 j) = n) (hnm : n < m) (hm : m < 1000000) (hQ : ∀ G1, Lay G1.2.2 → 0 < nx G → Lay (uR G1 28 j (nx G)).2.2 → Gw j n m G (uR G1 28 j (nx G)) → sI G1 28 12 = sI G 28 12 → Q (nx G) G1) : EvAa K mJ7_copyOf_59c91 1 0 [(0, .ref (sR G 28 j)), (1, .int (nI m))] [] G Q := by
  obtain ⟨g1, g2, g3⟩ := lay_g hL hq
  have g0 : 0 < sR G 28 j := by
    have hh : ∀ p ∈ ltG, 0 < p.2.2.2 := by decide
    have := hh _ hq
    have : 0 < g := this
    omega
  refine s_copyI (n := n) hL ⟨g1, g0, g3, hn⟩ hnm hm (fun G1 mk hcp => ?_)
  have hL1 := hL.mk mk
  obtain ⟨m1, m2, m3, m4, m5⟩ := id mk
  have h104 : 104 ≤ nx G := hL.2.2.2.1
  have hL2 : Lay (uR G1 28 j (nx G)).2.2 := hL1.put hq h104 (by omega) m5 (fun q hq => by
    obtain ⟨i, k, t, f⟩ := q
    have h1 := lay_g hL hq
    have h2 : i < 104 := (lay_lt hL).2.2.2 _ hq
    show sR G1 i k ≠ nx G
    rw [(m3 i (by omega)).2.2.1]; omega)
  refine hQ G1 hL1 (by omega) hL2 ⟨m1, m2, uR_at, fun a b h1 h2 => ?_, fun a ha => ?_, m4, fun q hq => hcp q hq⟩ (by rw [(m3 28 (by omega)).1])
  · rw [uR_ne h1, (m3 a h2).2.2.1]
  · obtain ⟨b1, b2, b3, b4, b5⟩ := m3 a ha
    exact ⟨b1, b2, b4, b5⟩
theorem s_X4_add {Q : Int32 → St → Prop} {c : Nat → Nat} {n a b : Nat} (hL : Lay G.2.2) (hR : Rm e G) (ha : sR G 18 9 = a ∧ sR G 18 10 = b) (hX : XQ G c n n) (hno : ∀ q j : Nat, (fL c n)[q]? = some j → c j ≠ c n) (hl : (fL c n).length ≤ sN G (sR G 28 2)) (hn : n < 174436) (hc : c n < 2147483648) (hQ : ∀ G', Lay G'.2.2 → Rm e G' → Kg (sQf a b) tQf G G' → XQ G' c (n + 1) n → (fL c n).length + 1 ≤ sN G' (sR G' 28 2) → sR G' 28 5 = sR G 28 5 → (∀ k, sI G' (sR G 28 5) k = sI G (sR G 28 5) k) → sI G' 28 10 = sI G 28 10 → Q (nI (fL c n).length) G') : EvIa K mX4_add 2 0 [(0, .ref 28), (1, .int (nI (c n))), (2, .int (nI n))] [] G Q := by
  have hFl := fL_len (c := c) n
  generalize hm : (fL c n).length = m at *
  -- with room for one more
  have put : ∀ G1 : St, Lay G1.2.2 → Rm e G1 → Kg (sQf a b) tQf G G1 → XQ G1 c n n → m < sN G1 (sR G1 28 2) → sR G1 28 5 = sR G 28 5 → (∀ k, sI G1 (sR G 28 5) k = sI G (sR G 28 5) k) → sI G1 28 10 = sI G 28 10 → EvIa K mX4_add 2 80 [(0, .ref 28), (1, .int (nI (c n))), (2, .int (nI n))] [] G1 Q := by
    intro G1 hL1 hR1 hk1 hX1 hlt h5 h5' h10
    have h104 : 104 ≤ nx G := hL.2.2.2.1
    obtain ⟨r1, r2, r3, r4, r5, r6, r7, r8, r9, r10, r11, r12⟩ := id hR1
    have l1 := lay_g hL1 (i := 28) (k := 1) (t := 0) (f := 30) (by decide)
    have l2 := lay_g hL1 (i := 28) (k := 2) (t := 0) (f := 31) (by decide)
    have l3 := lay_g hL1 (i := 28) (k := 3) (t := 0) (f := 32) (by decide)
    have l4 := lay_g hL1 (i := 28) (k := 4) (t := 0) (f := 33) (by decide)
    have l5 := lay_g hL1 (i := 28) (k := 5) (t := 0) (f := 34) (by decide)
    have e9 : sR G1 18 9 = a := by rw [hk1.R (by omega) (by unfold tQf; omega)]; exact ha.1
    have e10 : sR G1 18 10 = b := by rw [hk1.R (by omega) (by unfold tQf; omega)]; exact ha.2
    have d : ∀ k t g, (28, k, t, g) ∈ ltG → sR G1 28 k ≠ a ∧ sR G1 28 k ≠ b := fun k t g hq => by
      rw [← e9, ← e10]
      exact ⟨lay_d hL1 hq (i' := 18) (k' := 9) (t' := 1) (f' := 26) (by decide) (by simp), lay_d hL1 hq (i' := 18) (k' := 10) (t' := 1) (f' := 27) (by decide) (by simp)⟩
    have d1 := d 1 0 30 (by decide)
    have d2 := d 2 0 31 (by decide)
    have d3 := d 3 0 32 (by decide)
    have d4 := d 4 0 33 (by decide)
    have n12 := lay_d hL1 (i := 28) (k := 1) (t := 0) (f := 30) (i' := 28) (k' := 2) (t' := 0) (f' := 31) (by decide) (by decide) (by decide)
    have n13 := lay_d hL1 (i := 28) (k := 1) (t := 0) (f := 30) (i' := 28) (k' := 3) (t' := 0) (f' := 32) (by decide) (by decide) (by decide)
    have n14 := lay_d hL1 (i := 28) (k := 1) (t := 0) (f := 30) (i' := 28) (k' := 4) (t' := 0) (f' := 33) (by decide) (by decide) (by decide)
    have n15 := lay_d hL1 (i := 28) (k := 1) (t := 0) (f := 30) (i' := 28) (k' := 5) (t' := 0) (f' := 34) (by decide) (by decide) (by decide)
    have n23 := lay_d hL1 (i := 28) (k := 2) (t := 0) (f := 31) (i' := 28) (k' := 3) (t' := 0) (f' := 32) (by decide) (by decide) (by decide)
    have n24 := lay_d hL1 (i := 28) (k := 2) (t := 0) (f := 31) (i' := 28) (k' := 4) (t' := 0) (f' := 33) (by decide) (by decide) (by decide)
    have n25 := lay_d hL1 (i := 28) (k := 2) (t := 0) (f := 31) (i' := 28) (k' := 5) (t' := 0) (f' := 34) (by decide) (by decide) (by decide)
    have n34 := lay_d hL1 (i := 28) (k := 3) (t := 0) (f := 32) (i' := 28) (k' := 4) (t' := 0) (f' := 33) (by decide) (by decide) (by decide)
    have n35 := lay_d hL1 (i := 28) (k := 3) (t := 0) (f := 32) (i' := 28) (k' := 5) (t' := 0) (f' := 34) (by decide) (by decide) (by decide)
    have n45 := lay_d hL1 (i := 28) (k := 4) (t := 0) (f := 33) (i' := 28) (k' := 5) (t' := 0) (f' := 34) (by decide) (by decide) (by decide)
    rw [h5] at n15 n25 n35 n45 l5
    have hh := hdX_lt (c n)
    have hz1 : sI G1 28 12 = nI m := by have := hX1.1; rw [hm] at this; exact this
    have q1 := gt28 l1.2.1 (by decide)
    have q2 := gt28 l2.2.1 (by decide)
    have q3 := gt28 l3.2.1 (by decide)
    have q4 := gt28 l4.2.1 (by decide)
    have q5 := gt28 l5.2.1 (by decide)
    have hN1 : m < sN G1 (sR G1 28 1) := by rw [r10]; exact hlt
    have hN3 : m < sN G1 (sR G1 28 3) := by rw [r11]; exact hlt
    have hN4 : m < sN G1 (sR G1 28 4) := by rw [r12]; exact hlt
    have sQ : ∀ x k, (29 ≤ x ∧ x ≤ 34 ∨ 104 ≤ x) → x ≠ a ∧ x ≠ b → sQf a b x k := fun x k h1 h2 => by
      unfold sQf
      rcases h1 with z | z
      · exact Or.inr (Or.inl z)
      · exact Or.inr (Or.inr ⟨z, h2⟩)
    have m31 : m < 2147483648 := by omega
    have n31 : n < 2147483648 := by omega
    clear l1 l2 l3 l4 l5 r1 r2 r3 r4 r5 r6 r7 r8 r9 r10 r11 r12 e9 e10 d hl hFl
    refine kX4_add_80 hL1 (s_headOf hL1 hc ?_)
    generalize hA1 : sR G1 28 1 = A1 at *
    generalize hA2 : sR G1 28 2 = A2 at *
    generalize hA3 : sR G1 28 3 = A3 at *
    generalize hA4 : sR G1 28 4 = A4 at *
    generalize hA5 : sR G 28 5 = A5 at *
    have z1 : sI (uI G1 A1 m (sI G1 29 (hdX (c n)))) 28 12 = nI m := by simp [gI, q1.1.symm, hz1]
    have z2 : sI (uI (uI (uI G1 A1 m (sI G1 29 (hdX (c n)))) 29 (hdX (c n)) (nI m)) A2 m (nI (c n))) 28 12 = nI m := by simp [gI, q1.1.symm, q2.1.symm, hz1]
    have z3 : sI (uI (uI (uI (uI G1 A1 m (sI G1 29 (hdX (c n)))) 29 (hdX (c n)) (nI m)) A2 m (nI (c n))) A3 m 0) 28 12 = nI m := by simp [gI, q1.1.symm, q2.1.symm, q3.1.symm, hz1]
    have z4 : sI (uI (uI (uI (uI (uI G1 A1 m (sI G1 29 (hdX (c n)))) 29 (hdX (c n)) (nI m)) A2 m (nI (c n))) A3 m 0) A4 m (nI n)) 28 12 = nI m := by simp [gI, q1.1.symm, q2.1.symm, q3.1.symm, q4.1.symm, hz1]
    have vm : vp_in (nI m) (sN G1 A1) ∧ vp_in (nI m) (sN G1 A2) ∧ vp_in (nI m) (sN G1 A3) ∧ vp_in (nI m) (sN G1 A4) := ⟨(vIn m31).mpr hN1, (vIn m31).mpr hlt, (vIn m31).mpr hN3, (vIn m31).mpr hN4⟩
    have vh : vp_in (nI (hdX (c n))) 64 := (vIn (by omega)).mpr hh
    have km : Int32.toNatClampNeg (nI m) = m := nI_clamp m31
    have kh : Int32.toNatClampNeg (nI (hdX (c n))) = hdX (c n) := nI_clamp (by omega)
    rw [hz1, km, kh]
    refine ⟨vh, vm.1, fun G4 e4 => ?_⟩
    rw [e4]
    simp only [gRI, gNI, hA2, z1, km]
    refine ⟨vh, vm.2.1, fun G7 e7 => ?_⟩
    rw [e7]
    simp only [gRI, gNI, hA3, z2, km]
    refine ⟨vm.2.2.1, fun G9 e9 => ?_⟩
    rw [e9]
    simp only [gRI, gNI, hA4, z3, km]
    refine ⟨vm.2.2.2, fun G11 e11 => ?_⟩
    rw [e11]
    simp only [z4]
    rw [show nI m + 1 = nI (m + 1) from nAdd]
    clear e4 e7 e9 e11 G4 G7 G9 G11
    have k2 : Kq (sQf a b) G1 (uI (uI (uI (uI (uI (uI G1 A1 m (sI G1 29 (hdX (c n)))) 29 (hdX (c n)) (nI m)) A2 m (nI (c n))) A3 m 0) A4 m (nI n)) 28 12 (nI (m + 1))) := ((((((kq_I (sQ _ _ q1.2.2 d1)).sI (Or.inr (Or.inl (by decide)))).sI (sQ _ _ q2.2.2 d2)).sI (sQ _ _ q3.2.2 d3)).sI (sQ _ _ q4.2.2 d4)).sI (Or.inl ⟨rfl, Or.inr rfl⟩))
    generalize hUU : uI (uI (uI (uI (uI (uI G1 A1 m (sI G1 29 (hdX (c n)))) 29 (hdX (c n)) (nI m)) A2 m (nI (c n))) A3 m 0) A4 m (nI n)) 28 12 (nI (m + 1)) = U at *
    have eU : ∀ x k, sI U x k = if x = 28 ∧ k = 12 then nI (m + 1) else if x = A4 ∧ k = m then nI n else if x = A3 ∧ k = m then 0 else if x = A2 ∧ k = m then nI (c n) else if x = 29 ∧ k = hdX (c n) then nI m else if x = A1 ∧ k = m then sI G1 29 (hdX (c n)) else sI G1 x k := fun x k => by rw [← hUU]; simp only [gI]
    have eR : ∀ x k, sR U x k = sR G1 x k := k2.R
    have eN : ∀ x, sN U x = sN G1 x := fun x => by rw [← hUU]; rfl
    clear hUU z1 z2 z3 z4
    refine hQ _ (k2.lay hL1) (hR1.kq k2) (hk1.tr k2.g) ?_ ?_ ?_ (fun k => ?_) ?_
    · unfold XQ
      simp only [eR, hA1, hA2, hA3, hA4]
      refine (QS_add (sz := sI G1 28 12) (H := sI G1 29) (X := sI G1 A1) (C := sI G1 A2) (F := sI G1 A4) (N := sI G1 A3) ?_ hno ?_ (fun j hj => ?_) (fun q hq => ?_) ?_ hh).1
      · have := hX1; unfold XQ at this; rw [hA1, hA2, hA3, hA4] at this; exact this
      · rw [eU, if_pos ⟨rfl, rfl⟩, hm]
      · rw [hm]
        simp [eU, q1.2.1.symm, q2.2.1.symm, q3.2.1.symm, q4.2.1.symm]
      · rw [hm] at hq
        have hqm : q ≠ m := by omega
        simp [eU, hqm, q1.1, q2.1, q3.1, q4.1, q1.2.1, q2.2.1, q3.2.1, q4.2.1]
      · rw [hm]
        simp [eU, q1.1, q2.1, q3.1, q4.1, q1.2.1, q2.2.1, q3.2.1, q4.2.1, n12, n13, n14, n23, n24, n34, n12.symm, n13.symm, n14.symm, n23.symm, n24.symm, n34.symm]
        rfl
    · rw [eR, hA2, eN]; exact hlt
    · rw [eR]; exact h5
    · simp [eU, q5.1, q5.2.1, n15.symm, n25.symm, n35.symm, n45.symm]
      exact h5' k
    · simp [eU, q1.1.symm, q2.1.symm, q3.1.symm, q4.1.symm]
      exact h10
  obtain ⟨r1, r2, r3, r4, r5, r6, r7, r8, r9, r10, r11, r12⟩ := id hR
  have hz : sI G 28 12 = nI m := by have := hX.1; rw [hm] at this; exact this
  have hN31 : sN G (sR G 28 2) < 2147483648 := by omega
  refine kX4_add_0 hL ?_
  rw [hz]
  try simp (disch := omega) only [nLe, nLeR, nLeL, nLt, nLtR, nLtL, nEq, nEqR, nEqL, nClamp, nClampR, nAdd, nAddR, nAddL, nSub, nSubR, nMul, nMulR, nMulL, nDivR, vIn, vInR, iteZ, iteP, lEq, lEqR, forall_eq, forall_const, true_implies, false_implies, not_true_eq_false, not_false_eq_true, true_and, and_true, implies_true, Decidable.not_not, Nat.le_refl]
  refine ⟨fun z => put G hL hR Kg.rf hX z rfl (fun _ => rfl) rfl, fun z => ?_⟩
  have em : sN G (sR G 28 2) = m := by omega
  have h104 : 104 ≤ nx G := hL.2.2.2.1
  have i1 := (lay_g hL (i := 28) (k := 1) (t := 0) (f := 30) (by decide)).2.2
  have i2 := (lay_g hL (i := 28) (k := 2) (t := 0) (f := 31) (by decide)).2.2
  have i3 := (lay_g hL (i := 28) (k := 3) (t := 0) (f := 32) (by decide)).2.2
  have i4 := (lay_g hL (i := 28) (k := 4) (t := 0) (f := 33) (by decide)).2.2
  have i5 := (lay_g hL (i := 28) (k := 5) (t := 0) (f := 34) (by decide)).2.2
  have i9 := (lay_g hL (i := 18) (k := 9) (t := 1) (f := 26) (by decide)).2.2
  have i10 := (lay_g hL (i := 18) (k := 10) (t := 1) (f := 27) (by decide)).2.2
  refine s_cpQ (j := 1) (g := 30) (n := m) hL (by decide) (by omega) (by omega) (by omega) (fun G1 hL1 p1 hL1' w1 s1 => ?_)
  generalize hU1 : uR G1 28 1 (nx G) = U1 at *
  refine ⟨hL1, p1, hL1', ?_⟩
  rw [s1, hz]
  try simp (disch := omega) only [nLe, nLeR, nLeL, nLt, nLtR, nLtL, nEq, nEqR, nEqL, nClamp, nClampR, nAdd, nAddR, nAddL, nSub, nSubR, nMul, nMulR, nMulL, nDivR, vIn, vInR, iteZ, iteP, lEq, lEqR, forall_eq, forall_const, true_implies, false_implies, not_true_eq_false, not_false_eq_true, true_and, and_true, implies_true, Decidable.not_not, Nat.le_refl]
  have u1_2 : sR U1 28 2 = sR G 28 2 := w1.2.2.2.1 28 2 (by decide) (by omega)
  have u1_3 : sR U1 28 3 = sR G 28 3 := w1.2.2.2.1 28 3 (by decide) (by omega)
  have u1_4 : sR U1 28 4 = sR G 28 4 := w1.2.2.2.1 28 4 (by decide) (by omega)
  have v1 : ∀ x, x < nx G → sI U1 x = sI G x ∧ sN U1 x = sN G x := fun x hx => ⟨(w1.2.2.2.2.1 x (by omega)).1, (w1.2.2.2.2.1 x (by omega)).2.2.1⟩
  have x1 := w1.1
  refine s_cpQ (j := 2) (g := 31) (n := m) hL1' (by decide) (by rw [u1_2, (v1 _ i2).2]; omega) (by omega) (by omega) (fun G2 hL2 p2 hL2' w2 s2 => ?_)
  generalize hU2 : uR G2 28 2 (nx U1) = U2 at *
  refine ⟨hL2, p2, hL2', ?_⟩
  rw [s2, (v1 28 (by omega)).1, hz]
  try simp (disch := omega) only [nLe, nLeR, nLeL, nLt, nLtR, nLtL, nEq, nEqR, nEqL, nClamp, nClampR, nAdd, nAddR, nAddL, nSub, nSubR, nMul, nMulR, nMulL, nDivR, vIn, vInR, iteZ, iteP, lEq, lEqR, forall_eq, forall_const, true_implies, false_implies, not_true_eq_false, not_false_eq_true, true_and, and_true, implies_true, Decidable.not_not, Nat.le_refl]
  have u2_3 : sR U2 28 3 = sR G 28 3 := (w2.2.2.2.1 28 3 (by decide) (by omega)).trans u1_3
  have u2_4 : sR U2 28 4 = sR G 28 4 := (w2.2.2.2.1 28 4 (by decide) (by omega)).trans u1_4
  have v2 : ∀ x, x < nx G → sI U2 x = sI G x ∧ sN U2 x = sN G x := fun x hx => ⟨(w2.2.2.2.2.1 x (by omega)).1.trans (v1 x hx).1, (w2.2.2.2.2.1 x (by omega)).2.2.1.trans (v1 x hx).2⟩
  have x2 := w2.1
  refine s_cpQ (j := 3) (g := 32) (n := m) hL2' (by decide) (by rw [u2_3, (v2 _ i3).2]; omega) (by omega) (by omega) (fun G3 hL3 p3 hL3' w3 s3 => ?_)
  generalize hU3 : uR G3 28 3 (nx U2) = U3 at *
  refine ⟨hL3, p3, hL3', ?_⟩
  rw [s3, (v2 28 (by omega)).1, hz]
  try simp (disch := omega) only [nLe, nLeR, nLeL, nLt, nLtR, nLtL, nEq, nEqR, nEqL, nClamp, nClampR, nAdd, nAddR, nAddL, nSub, nSubR, nMul, nMulR, nMulL, nDivR, vIn, vInR, iteZ, iteP, lEq, lEqR, forall_eq, forall_const, true_implies, false_implies, not_true_eq_false, not_false_eq_true, true_and, and_true, implies_true, Decidable.not_not, Nat.le_refl]
  have u3_4 : sR U3 28 4 = sR G 28 4 := (w3.2.2.2.1 28 4 (by decide) (by omega)).trans u2_4
  have v3 : ∀ x, x < nx G → sI U3 x = sI G x ∧ sN U3 x = sN G x := fun x hx => ⟨(w3.2.2.2.2.1 x (by omega)).1.trans (v2 x hx).1, (w3.2.2.2.2.1 x (by omega)).2.2.1.trans (v2 x hx).2⟩
  have x3 := w3.1
  refine s_cpQ (j := 4) (g := 33) (n := m) hL3' (by decide) (by rw [u3_4, (v3 _ i4).2]; omega) (by omega) (by omega) (fun G4 hL4 p4 hL4' w4 s4 => ?_)
  generalize hU4 : uR G4 28 4 (nx U3) = U4 at *
  have x4 := w4.1
  have v4 : ∀ x, x < nx G → sI U4 x = sI G x ∧ sN U4 x = sN G x := fun x hx => ⟨(w4.2.2.2.2.1 x (by omega)).1.trans (v3 x hx).1, (w4.2.2.2.2.1 x (by omega)).2.2.1.trans (v3 x hx).2⟩
  have ref : ∀ i k, i < nx G → ¬ (i = 28 ∧ 1 ≤ k ∧ k ≤ 4) → sR U4 i k = sR G i k := fun i k hi hn' => by
    rw [w4.2.2.2.1 i k (by omega) (by omega), w3.2.2.2.1 i k (by omega) (by omega), w2.2.2.2.1 i k (by omega) (by omega), w1.2.2.2.1 i k (by omega) (by omega)]
  have a1 : sR U4 28 1 = nx G := by rw [w4.2.2.2.1 28 1 (by decide) (by omega), w3.2.2.2.1 28 1 (by decide) (by omega), w2.2.2.2.1 28 1 (by decide) (by omega)]; exact w1.2.2.1
  have a2 : sR U4 28 2 = nx U1 := by rw [w4.2.2.2.1 28 2 (by decide) (by omega), w3.2.2.2.1 28 2 (by decide) (by omega)]; exact w2.2.2.1
  have a3 : sR U4 28 3 = nx U2 := by rw [w4.2.2.2.1 28 3 (by decide) (by omega)]; exact w3.2.2.1
  have a4 : sR U4 28 4 = nx U3 := w4.2.2.1
  have c1 : sN U4 (nx G) = 2 * m ∧ sI U4 (nx G) = sI U1 (nx G) := by
    rw [(w4.2.2.2.2.1 _ (by omega)).2.2.1, (w3.2.2.2.2.1 _ (by omega)).2.2.1, (w2.2.2.2.2.1 _ (by omega)).2.2.1, (w4.2.2.2.2.1 _ (by omega)).1, (w3.2.2.2.2.1 _ (by omega)).1, (w2.2.2.2.2.1 _ (by omega)).1]
    exact ⟨w1.2.2.2.2.2.1, rfl⟩
  have c2 : sN U4 (nx U1) = 2 * m ∧ sI U4 (nx U1) = sI U2 (nx U1) := by
    rw [(w4.2.2.2.2.1 _ (by omega)).2.2.1, (w3.2.2.2.2.1 _ (by omega)).2.2.1, (w4.2.2.2.2.1 _ (by omega)).1, (w3.2.2.2.2.1 _ (by omega)).1]
    exact ⟨w2.2.2.2.2.2.1, rfl⟩
  have c3 : sN U4 (nx U2) = 2 * m ∧ sI U4 (nx U2) = sI U3 (nx U2) := by
    rw [(w4.2.2.2.2.1 _ (by omega)).2.2.1, (w4.2.2.2.2.1 _ (by omega)).1]
    exact ⟨w3.2.2.2.2.2.1, rfl⟩
  have c4 : sN U4 (nx U3) = 2 * m := w4.2.2.2.2.2.1
  have t1 : ∀ q, q < m → sI U4 (nx G) q = sI G (sR G 28 1) q := fun q hq => by rw [c1.2]; exact w1.2.2.2.2.2.2 q hq
  have t2 : ∀ q, q < m → sI U4 (nx U1) q = sI G (sR G 28 2) q := fun q hq => by rw [c2.2, w2.2.2.2.2.2.2 q hq, u1_2, (v1 _ i2).1]
  have t3 : ∀ q, q < m → sI U4 (nx U2) q = sI G (sR G 28 3) q := fun q hq => by rw [c3.2, w3.2.2.2.2.2.2 q hq, u2_3, (v2 _ i3).1]
  have t4 : ∀ q, q < m → sI U4 (nx U3) q = sI G (sR G 28 4) q := fun q hq => by rw [w4.2.2.2.2.2.2 q hq, u3_4, (v3 _ i4).1]
  have b1 := w1.2.1
  have b2 := w2.2.1
  have b3 := w3.2.1
  have b4 := w4.2.1
  refine ⟨hL4, p4, put U4 hL4' ?_ (((w1.g (by decide)).tr (w2.g (by decide))).tr ((w3.g (by decide)).tr (w4.g (by decide)))) ?_ ?_ (ref 28 5 (by omega) (by omega)) (fun k => by rw [(v4 _ i5).1]) (by rw [(v4 28 (by omega)).1])⟩
  · unfold Rm
    rw [a1, a2, a3, a4, ref 18 9 (by omega) (by omega), ref 18 10 (by omega) (by omega), ref 28 5 (by omega) (by omega), (v4 _ i9).2, (v4 _ i10).2, (v4 _ i5).2, c1.1, c2.1, c3.1, c4]
    omega
  · unfold XQ
    rw [a1, a2, a3, a4]
    refine QS_cong hX ?_ (fun j hj => ?_) (fun q hq => ?_)
    · rw [(v4 28 (by omega)).1]
    · rw [(v4 29 (by omega)).1]
    · rw [hm] at hq
      exact ⟨t1 q hq, t2 q hq, t4 q hq, t3 q hq⟩
  · rw [a2, c2.1]; omega
end XQUEST

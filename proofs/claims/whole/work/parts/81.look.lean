/-! the class' search: found sets, groups, looks -/
/-- e calls so far: what was made is no more than so much -/
def Rm (e : Nat) (G : St) : Prop := su G ≤ 1000000 + 1000 * e + 2 * sN G (sR G 18 9) + 2 * sN G (sR G 18 10) + 2 * sN G (sR G 28 5) + 8 * sN G (sR G 28 2) ∧ 64 * nx G ≤ 10000 + 6400 * e + su G ∧ 64 ≤ sN G (sR G 18 9) ∧ sN G (sR G 18 9) ≤ 348872 ∧ (sN G (sR G 18 10) = sN G (sR G 18 9) ∨ 2 * sN G (sR G 18 10) ≤ sN G (sR G 18 9)) ∧ 32 ≤ sN G (sR G 28 5) ∧ sN G (sR G 28 5) ≤ 348872 ∧ 32 ≤ sN G (sR G 28 2) ∧ sN G (sR G 28 2) ≤ 348872 ∧ sN G (sR G 28 1) = sN G (sR G 28 2) ∧ sN G (sR G 28 3) = sN G (sR G 28 2) ∧ sN G (sR G 28 4) = sN G (sR G 28 2)
theorem Rm.kq {e : Nat} {S : Nat → Nat → Prop} {G G1 : St} (h : Rm e G) (hk : Kq S G G1) : Rm e G1 := by
  have e1 : su G1 = su G := by show G1.2.2.2.2.2.2 = _; rw [hk.1]; rfl
  have e2 : nx G1 = nx G := by show G1.2.2.2.2.2.1 = _; rw [hk.1]; rfl
  have e3 : ∀ i, sN G1 i = sN G i := fun i => by show G1.2.2.2.1 i = _; rw [hk.1]; rfl
  unfold Rm
  simp only [hk.R, e1, e2, e3]
  exact h
theorem lay_g {G : St} (h : Lay G.2.2) {i k t f : Nat} (hq : (i, k, t, f) ∈ ltG) : sK G (sR G i k) = 100 + t ∧ (sR G i k = f ∨ 104 ≤ sR G i k) ∧ sR G i k < nx G := h.2.2.2.2.2.2.1 (i, k, t, f) hq
theorem lay_d {G : St} (h : Lay G.2.2) {i k t f i' k' t' f' : Nat} (hq : (i, k, t, f) ∈ ltG) (hq' : (i', k', t', f') ∈ ltG) (hn : (i, k) ≠ (i', k')) : sR G i k ≠ sR G i' k' := fun e => hn (by
  have := h.2.2.2.2.2.2.2 (i, k, t, f) hq (i', k', t', f') hq' e
  cases this; rfl)
/-- the sets that were found: their places and the sets -/
def jf (q : Nat → Bool) : Nat → List Nat → List Nat
  | _, [] => []
  | k, s :: l => if q s = true then ((k + 1) * 1073741824 + s) :: jf q (k + 1) l else jf q (k + 1) l
theorem jf_snoc {q : Nat → Bool} : ∀ {l : List Nat} {k s : Nat}, jf q k (l ++ [s]) = if q s = true then jf q k l ++ [(k + l.length + 1) * 1073741824 + s] else jf q k l
  | [], k, s => by
    simp only [List.nil_append, jf, List.length_nil, Nat.add_zero]
  | a :: l, k, s => by
    have ih := jf_snoc (q := q) (l := l) (k := k + 1) (s := s)
    have e : k + (a :: l).length + 1 = k + 1 + l.length + 1 := by rw [List.length_cons]; omega
    rw [List.cons_append, jf, jf, ih, e]
    by_cases h : q a = true
    · rw [if_pos h, if_pos h]
      by_cases h2 : q s = true
      · rw [if_pos h2, if_pos h2]; rfl
      · rw [if_neg h2, if_neg h2]
    · rw [if_neg h, if_neg h]
theorem jf_len {q : Nat → Bool} : ∀ {l : List Nat} {k : Nat}, (jf q k l).length ≤ l.length
  | [], k => Nat.le_refl _
  | a :: l, k => by
    have := jf_len (q := q) (l := l) (k := k + 1)
    rw [jf]
    split
    · rw [List.length_cons, List.length_cons]; omega
    · rw [List.length_cons]; omega
noncomputable def cov (hd : Nat → Nat) (vis : List Nat) : Nat := vis.foldl (fun a s => a ||| 2 ^ ru hd s) 0
theorem cov_snoc (hd : Nat → Nat) (vis : List Nat) (s : Nat) : cov hd (vis ++ [s]) = cov hd vis ||| 2 ^ ru hd s := by unfold cov; rw [List.foldl_append]; rfl
theorem cov_bit {hd : Nat → Nat} {vis : List Nat} {c : Nat} : (cov hd vis).testBit c = true ↔ ∃ s, s ∈ vis ∧ ru hd s = c := by
  unfold cov
  rw [fold_or (td := fun s => 2 ^ ru hd s)]
  constructor
  · rintro (h | ⟨s, a, b⟩)
    · rw [Nat.zero_testBit] at h; cases h
    · rw [p2_bit, decide_eq_true_iff] at b; exact ⟨s, a, b⟩
  · rintro ⟨s, a, b⟩
    exact Or.inr ⟨s, a, by rw [p2_bit]; simp [b]⟩
theorem cov_lt {hd : Nat → Nat} {vis : List Nat} (h : ∀ s, ru hd s < 16) : cov hd vis < 2 ^ 16 := by
  apply Nat.lt_pow_two_of_testBit
  intro i hi
  cases e : (cov hd vis).testBit i
  · rfl
  · obtain ⟨s, -, b⟩ := cov_bit.mp e
    have := h s
    omega
def XFd (G : St) (L : List Nat) : Prop := sI G 18 17 = nI L.length ∧ L.length ≤ sN G (sR G 18 9) ∧ ∀ i x, L[i]? = some x → sL G (sR G 18 9) i = lN x
def sKf : Nat → Nat → Prop := fun i k => i = 18 ∧ k = 17 ∨ i = 26 ∨ 104 ≤ i
def tKf : Nat → Nat → Prop := fun i k => i = 18 ∧ k = 9
theorem sshr_l {n k : Nat} (hn : n < 2 ^ 63) (hk : k < 64) : lN n >>> (Int32.toInt64 (nI k) &&& 63) = lN (n / 2 ^ k) := by
  rw [wb_c k hk]
  apply wb_inj
  have h2 : (lN n >>> lN k).toBitVec = (lN n).toBitVec.sshiftRight k := by
    show (lN n).toBitVec.sshiftRight' ((lN k).toBitVec.smod 64) = _
    rw [wb_tb k, wb_sm k hk, BitVec.sshiftRight', BitVec.toNat_ofNat, Nat.mod_eq_of_lt (by omega)]
  have hmsb : (lN n).toBitVec.msb = false := by
    rw [BitVec.msb_eq_false_iff_two_mul_lt, wb_tn (by omega)]; omega
  rw [h2, BitVec.sshiftRight_eq_of_msb_false hmsb, wb_tb]
  apply BitVec.eq_of_toNat_eq
  rw [wb_tb, BitVec.toNat_ushiftRight, Nat.shiftRight_eq_div_pow, BitVec.toNat_ofNat, BitVec.toNat_ofNat, Nat.mod_eq_of_lt (show n < 2 ^ 64 by omega), Nat.mod_eq_of_lt (Nat.lt_of_le_of_lt (Nat.div_le_self _ _) (show n < 2 ^ 64 by omega))]
theorem uR_at {G : St} {i k v : Nat} : sR (uR G i k v) i k = v := by
  show va_up G.2.2.1 i (va_up (G.2.2.1 i) k v) i k = v
  rw [up_at, up_at]
theorem uR_ne {G : St} {i k v a b : Nat} (h : ¬ (a = i ∧ b = k)) : sR (uR G i k v) a b = sR G a b := by
  show va_up G.2.2.1 i (va_up (G.2.2.1 i) k v) a b = _
  by_cases e : a = i
  · subst e
    rw [up_at, up_ne _ _ (fun e2 => h ⟨rfl, e2⟩)]; rfl
  · rw [up_ne _ _ e]; rfl
section LOOK
variable {K : KT} {G : St} {f P : Nat → Nat → Nat} {n t e : Nat}
theorem s_keepFound {Q : St → Prop} {L : List Nat} {x p : Nat} (hL : Lay G.2.2) (hR : Rm e G) (hF : XFd G L) (hl : L.length < 174436) (hp : sI G 18 16 = nI p) (hp2 : p < 1000000) (hx : x < 1073741824) (hQ : ∀ G', Lay G'.2.2 → Rm e G' → Kg sKf tKf G G' → XFd G' (L ++ [p * 1073741824 + x]) → Q G') : EvVa K mX6_keepFound 2 0 [(0, .ref 18), (1, .int (nI x))] [] G Q := by
  -- with room for one more
  have put : ∀ G1 : St, Lay G1.2.2 → Rm e G1 → Kg sKf tKf G G1 → XFd G1 L → L.length < sN G1 (sR G1 18 9) → EvVa K mX6_keepFound 2 29 [(0, .ref 18), (1, .int (nI x))] [] G1 Q := by
    intro G1 hL1 hR1 hk1 hF1 hlt
    obtain ⟨f1, f2, f3⟩ := hF1
    have h104 : 104 ≤ nx G := hL.2.2.2.1
    obtain ⟨g1, g2, g3⟩ := lay_g hL1 (i := 18) (k := 9) (t := 1) (f := 26) (by decide)
    refine kX6_keepFound_29 hL1 ?_
    have hp1 : sI G1 18 16 = nI p := by rw [hk1.I (by omega) (by unfold sKf; omega)]; exact hp
    rw [f1, hp1]
    have ev : (Int32.toInt64 (nI p) <<< (Int32.toInt64 30 &&& 63)) ||| Int32.toInt64 (nI x) = lN (p * 1073741824 + x) := by
      rw [nI_l (by omega), nI_l (by omega), show (30 : Int32) = nI 30 from rfl, wb_shl p (by decide), show p * 2 ^ 30 = 2 ^ 30 * p from Nat.mul_comm _ _, fb_or_sumL p (show x < 2 ^ 30 from hx), Nat.mul_comm]
    rw [ev]
    try simp (disch := omega) only [nLe, nLeR, nLeL, nLt, nLtR, nLtL, nEq, nEqR, nEqL, nClamp, nClampR, nAdd, nAddR, nAddL, nSub, nSubR, nMul, nMulR, nMulL, nDivR, vIn, vInR, iteZ, iteP, lEq, lEqR, forall_eq, forall_const, true_implies, false_implies, not_true_eq_false, not_false_eq_true, true_and, and_true, implies_true, Decidable.not_not, Nat.le_refl]
    refine ⟨hlt, ?_⟩
    have k2 : Kq sKf G1 (uL (uI G1 18 17 (nI (L.length + 1))) (sR G1 18 9) L.length (lN (p * 1073741824 + x))) := (kq_I (by unfold sKf; omega)).sL (by unfold sKf; omega)
    refine hQ _ (k2.lay hL1) (hR1.kq k2) (hk1.tr k2.g) ⟨?_, ?_, fun i y hy => ?_⟩
    · rw [gIL, gI, if_pos ⟨rfl, rfl⟩, List.length_append]; rfl
    · rw [List.length_append, k2.R]
      show L.length + 1 ≤ sN G1 (sR G1 18 9)
      omega
    · rw [k2.R, gL]
      by_cases ei : i = L.length
      · subst ei
        rw [List.getElem?_append_right (Nat.le_refl _), Nat.sub_self] at hy
        cases hy
        rw [if_pos ⟨rfl, rfl⟩]
      · have hi : i < L.length := by
          rcases Nat.lt_or_ge i L.length with q | q
          · exact q
          · rw [List.getElem?_append_right q, List.getElem?_eq_none (by simp; omega)] at hy; cases hy
        rw [List.getElem?_append_left hi] at hy
        rw [if_neg (fun z => ei z.2), gLI]
        exact f3 i y hy
  obtain ⟨f1, f2, f3⟩ := id hF
  obtain ⟨r1, r2, r3, r4, r5, r6, r7, r8, r9, r10, r11, r12⟩ := id hR
  refine kX6_keepFound_0 hL ?_
  rw [f1]
  have hn31 : sN G (sR G 18 9) < 2147483648 := by omega
  try simp (disch := omega) only [nLe, nLeR, nLeL, nLt, nLtR, nLtL, nEq, nEqR, nEqL, nClamp, nClampR, nAdd, nAddR, nAddL, nSub, nSubR, nMul, nMulR, nMulL, nDivR, vIn, vInR, iteZ, iteP, lEq, lEqR, forall_eq, forall_const, true_implies, false_implies, not_true_eq_false, not_false_eq_true, true_and, and_true, implies_true, Decidable.not_not, Nat.le_refl]
  refine ⟨fun z => put G hL hR Kg.rf hF z, fun z => ?_⟩
  have eL : L.length = sN G (sR G 18 9) := by omega
  obtain ⟨g1, g2, g3⟩ := lay_g hL (i := 18) (k := 9) (t := 1) (f := 26) (by decide)
  have g0 : 0 < sR G 18 9 := by omega
  refine s_copyL (n := sN G (sR G 18 9)) hL ⟨g1, g0, g3, rfl⟩ (by omega) (by omega) (fun G1 mk hcp => ?_)
  have hL1 := hL.mk mk
  obtain ⟨m1, m2, m3, m4, m5⟩ := id mk
  have h104 : 104 ≤ nx G := hL.2.2.2.1
  have hne : ∀ i k t f, (i, k, t, f) ∈ ltG → sR G1 i k = sR G i k ∧ sR G i k ≠ nx G ∧ sN G1 (sR G i k) = sN G (sR G i k) := fun i k t f hq => by
    have h1 := lay_g hL hq
    have h2 : i < 104 := (lay_lt hL).2.2.2 _ hq
    exact ⟨by rw [(m3 i (by omega)).2.2.1], by omega, (m3 _ (by omega)).2.2.2.1⟩
  have hL2 : Lay (uR G1 18 9 (nx G)).2.2 := hL1.put (i := 18) (k := 9) (t := 1) (f := 26) (by decide) h104 (by omega) m5 (fun q hq => by
    obtain ⟨i, k, t, f⟩ := q
    have := hne i k t f hq
    show sR G1 i k ≠ nx G
    rw [this.1]; exact this.2.1)
  refine ⟨hL1, by omega, put _ hL2 ?_ (mk.g.tr (kg_R ⟨rfl, rfl⟩)) ⟨?_, ?_, fun i y hy => ?_⟩ ?_⟩
  · unfold Rm
    have o1 := hne 18 10 1 27 (by decide)
    have o2 := hne 28 5 0 34 (by decide)
    have o3 := hne 28 2 0 31 (by decide)
    have o4 := hne 28 1 0 30 (by decide)
    have o5 := hne 28 3 0 32 (by decide)
    have o6 := hne 28 4 0 33 (by decide)
    rw [uR_at, uR_ne (by decide), uR_ne (by decide), uR_ne (by decide), uR_ne (by decide), uR_ne (by decide), uR_ne (by decide)]
    show su G1 ≤ 1000000 + 1000 * e + 2 * sN G1 (nx G) + 2 * sN G1 (sR G1 18 10) + 2 * sN G1 (sR G1 28 5) + 8 * sN G1 (sR G1 28 2) ∧ 64 * nx G1 ≤ 10000 + 6400 * e + su G1 ∧ 64 ≤ sN G1 (nx G) ∧ sN G1 (nx G) ≤ 348872 ∧ (sN G1 (sR G1 18 10) = sN G1 (nx G) ∨ 2 * sN G1 (sR G1 18 10) ≤ sN G1 (nx G)) ∧ 32 ≤ sN G1 (sR G1 28 5) ∧ sN G1 (sR G1 28 5) ≤ 348872 ∧ 32 ≤ sN G1 (sR G1 28 2) ∧ sN G1 (sR G1 28 2) ≤ 348872 ∧ sN G1 (sR G1 28 1) = sN G1 (sR G1 28 2) ∧ sN G1 (sR G1 28 3) = sN G1 (sR G1 28 2) ∧ sN G1 (sR G1 28 4) = sN G1 (sR G1 28 2)
    rw [o1.1, o2.1, o3.1, o4.1, o5.1, o6.1, o1.2.2, o2.2.2, o3.2.2, o4.2.2, o5.2.2, o6.2.2, m1, m2, m4]
    omega
  · show sI G1 18 17 = _
    rw [(m3 18 (by omega)).1]; exact f1
  · rw [uR_at]
    show L.length ≤ sN G1 (nx G)
    omega
  · rw [uR_at]
    show sL G1 (nx G) i = lN y
    have hi : i < L.length := by
      rcases Nat.lt_or_ge i L.length with q | q
      · exact q
      · rw [List.getElem?_eq_none q] at hy; cases hy
    rw [hcp i (by omega)]
    exact f3 i y hy
  · rw [uR_at]
    show L.length < sN G1 (nx G)
    omega
end LOOK

/-! what was chosen -/
noncomputable def nQ (a : AS) : Nat := (fL a.mc a.J.length).length
/-- the first joining of a question; its tables in sixes -/
noncomputable def fq (a : AS) (q : Nat) : Nat := (fL a.mc a.J.length).getD q 0
noncomputable def yq (a : AS) (q : Nat) : Nat := a.mc (fq a q) / 625
noncomputable def rkQ (a : AS) (q : Nat) : Nat := fb_ct (fun p => decide (a.ch (yq a q) < a.ch (yq a p) ∨ a.ch (yq a p) = a.ch (yq a q) ∧ p < q)) (nQ a)
def chA (a : AS) (y : Nat) : AS := (a.T, a.b, a.w, a.q, a.d, a.p, a.W, a.l, (fun x => if x = y then a.ch x + 1 else a.ch x), a.m)
theorem and_mask {n k : Nat} (h : n < 2147483648) (hk : k < 32) : nI n &&& nI (2 ^ k - 1) = nI (n % 2 ^ k) := by
  have p : 2 ^ k < 2 ^ 32 := Nat.pow_lt_pow_right (by decide) hk
  have ml : n % 2 ^ k ≤ n := Nat.mod_le _ _
  apply Int32.toBitVec_inj.mp
  show BitVec.ofNat 32 n &&& BitVec.ofNat 32 (2 ^ k - 1) = BitVec.ofNat 32 (n % 2 ^ k)
  apply BitVec.eq_of_toNat_eq
  rw [BitVec.toNat_and, BitVec.toNat_ofNat, BitVec.toNat_ofNat, BitVec.toNat_ofNat, Nat.mod_eq_of_lt (show n < 2 ^ 32 by omega), Nat.mod_eq_of_lt (show 2 ^ k - 1 < 2 ^ 32 by omega), Nat.mod_eq_of_lt (show n % 2 ^ k < 2 ^ 32 by omega)]
  exact Nat.and_two_pow_sub_one_eq_mod n k
theorem sx_inj {y z : Nat} (hy : y < 7776) (hz : z < 7776) (h : sx y = sx z) : y = z := by
  unfold sx at h
  omega
theorem sx_lt {y : Nat} (hy : y < 7776) : sx y < 32768 := by unfold sx; omega
theorem sx_of {c0 c1 c2 c3 c4 : Nat} (h0 : c0 ≤ 5) (h1 : c1 ≤ 5) (h2 : c2 ≤ 5) (h3 : c3 ≤ 5) : sx (c0 + 6 * c1 + 36 * c2 + 216 * c3 + 1296 * c4) = c0 + 8 * c1 + 64 * c2 + 512 * c3 + 4096 * c4 := by
  have e0 : (c0 + 6 * c1 + 36 * c2 + 216 * c3 + 1296 * c4) % 6 = c0 := by omega
  have e1 : (c0 + 6 * c1 + 36 * c2 + 216 * c3 + 1296 * c4) / 6 % 6 = c1 := by omega
  have e2 : (c0 + 6 * c1 + 36 * c2 + 216 * c3 + 1296 * c4) / 36 % 6 = c2 := by omega
  have e3 : (c0 + 6 * c1 + 36 * c2 + 216 * c3 + 1296 * c4) / 216 % 6 = c3 := by omega
  have e4 : (c0 + 6 * c1 + 36 * c2 + 216 * c3 + 1296 * c4) / 1296 = c4 := by omega
  unfold sx
  rw [e0, e1, e2, e3, e4]
theorem yL_lt : ∀ y, y ∈ yL → y < 7776 := by decide +kernel
theorem yL_251 : (yL.filter (fun y => y != 0)).length = 251 := by decide +kernel
theorem shT_15 (tn : Nat → Nat) : ∀ t, shT tn t % 32768 = 0
  | 0 => rfl
  | t + 1 => by
    have ih := shT_15 tn t
    rw [shT]
    have : tn t * 2 ^ (15 + 3 * t) = 32768 * (tn t * 2 ^ (3 * t)) := by rw [Nat.pow_add, show 2 ^ 15 = 32768 from rfl]; rw [Nat.mul_left_comm]
    rw [this]
    omega
section CHOSEN
variable {K : KT} {G : St} {a : AS} {e : Nat} {sen : AS → Nat → List Nat}
theorem OkA.fqE (ho : OkA e a) {q : Nat} (hq : q < nQ a) : (fL a.mc a.J.length)[q]? = some (fq a q) ∧ fq a q < a.J.length := by
  have := getD_lt hq
  exact ⟨this, fL_lt (getE_mem this)⟩
theorem OkA.yqE (ho : OkA e a) {i : Nat} (hi : i < a.J.length) : a.mc i / 625 ∈ yL ∧ a.mc i / 625 ≠ 0 ∧ a.xc i % 32768 = sx (a.mc i / 625) := by
  have hs := getD_lt (l := a.O) (q := i) (by rw [ho.Ol]; exact hi)
  have hm := ho.Om hs
  have oJ := ho.oJ.2 _ hm
  have oj := oJ.2.2.2.1
  generalize hss : a.O.getD i 0 = s at *
  have em : a.mc i = mC a.w.2.1 a.P a.q.1 s := by show mC _ _ _ (a.O.getD i 0) = _; rw [hss]
  have ex : a.xc i = xC a.w.2.1 a.P a.q.1 s := by show xC _ _ _ (a.O.getD i 0) = _; rw [hss]
  have cn5 : ∀ u, cnS a.w.2.1 s u ≤ 5 := fun u => Nat.le_trans cnS_le oj.2.2.1
  have sm := cnS_sum (rt := a.w.2.1) (s := s)
  have h5 := oj.2.2.1
  have tn5 : ∀ k, (if k < a.q.1 then tnS a.w.2.1 a.P s k else 0) < 5 := fun k => by
    split
    · rename_i q; exact (okJ_tn (b := a.b) ho.P1 ho.P2 ho.wb ho.b5 oj q).1
    · decide
  have t0 := tn5 0
  have t1 := tn5 1
  have t2 := tn5 2
  have t3 := tn5 3
  have c0 := cn5 0
  have c1 := cn5 1
  have c2 := cn5 2
  have c3 := cn5 3
  have c4 := cn5 4
  have ey : a.mc i / 625 = cnS a.w.2.1 s 0 + 6 * cnS a.w.2.1 s 1 + 36 * cnS a.w.2.1 s 2 + 216 * cnS a.w.2.1 s 3 + 1296 * cnS a.w.2.1 s 4 := by
    rw [em]; unfold mC mdC; dsimp only; omega
  have hpos : cnS a.w.2.1 s 0 + cnS a.w.2.1 s 1 + cnS a.w.2.1 s 2 + cnS a.w.2.1 s 3 + cnS a.w.2.1 s 4 ≠ 0 := by
    have hlo := lo_bit oj.2.1 (show s < 2 ^ 32 by have := oj.1; omega)
    have h30 : lo s < 30 := bt_lt (n := 30) oj.1 hlo
    have h1 := cnS_pos (rt := a.w.2.1) h30 hlo
    have h2 := ho.wb _ (oJ.2.2.2.2 _ hlo)
    have h3 := ho.b5
    rcases (show a.w.2.1 (lo s) = 0 ∨ a.w.2.1 (lo s) = 1 ∨ a.w.2.1 (lo s) = 2 ∨ a.w.2.1 (lo s) = 3 ∨ a.w.2.1 (lo s) = 4 by omega) with z | z | z | z | z <;> rw [z] at h1 <;> omega
  refine ⟨?_, by omega, ?_⟩
  · rw [ey]
    unfold yL
    exact List.mem_map.mpr ⟨(cnS a.w.2.1 s 0, cnS a.w.2.1 s 1, cnS a.w.2.1 s 2, cnS a.w.2.1 s 3, cnS a.w.2.1 s 4), vL_mem (by omega), rfl⟩
  · have := shT_15 (tnS a.w.2.1 a.P s) a.q.1
    have hsc := shC_lt cn5
    have e1 : (shC (cnS a.w.2.1 s) + shT (tnS a.w.2.1 a.P s) a.q.1) % 32768 = shC (cnS a.w.2.1 s) := by
      have h15 : shC (cnS a.w.2.1 s) < 32768 := hsc
      omega
    rw [ex]
    unfold xC
    rw [e1, ey, sx_of c0 c1 c2 c3]
    rfl
theorem L251 {L : List Nat} (h1 : L.Nodup) (h2 : ∀ y, y ∈ L → y ∈ yL ∧ y ≠ 0) : L.length ≤ 251 := by
  rw [← yL_251]
  exact nodup_le h1 (fun y hy => List.mem_filter.mpr ⟨(h2 y hy).1, by simp [(h2 y hy).2]⟩)
theorem s_X4_has {Q : Int32 → St → Prop} {x : Int32} {n : Nat} (hL : Lay G.2.2) (hn : n < 2147483648) (h12 : sI G 28 12 = nI n) (hQ : Q (if inR x n then 1 else 0) G) : EvI K mX4_has 0 0 [(0, .ref 28), (1, .int x)] [] G Q := by
  refine kX4_has_0 hL ?_
  rw [h12, fa_lt, fa_le, nI_toInt hn, show (0 : Int32).toInt = 0 from rfl]
  refine ⟨fun z => ?_, fun z => ⟨fun z2 => ?_, fun z2 => ?_⟩⟩
  · rw [if_neg (by omega)] at hQ; exact hQ
  · rw [if_neg (by omega)] at hQ; exact hQ
  · rw [if_pos (by omega)] at hQ; exact hQ
theorem XSd.sz (sd : XSd G a (sen a)) (ho : OkA e a) : sI G 28 12 = nI (nQ a) := by rw [sd.qs.1, ho.fl (Nat.le_refl _)]; rfl
theorem XSd.at (sd : XSd G a (sen a)) (ho : OkA e a) {q : Nat} (hq : q < nQ a) : sI G (sR G 28 2) q = nI (a.xc (fq a q)) ∧ sI G (sR G 28 4) q = nI (fq a q) ∧ sI G (sR G 28 3) q = nI (cQ a.mc a.J.length (fq a q)) := by
  obtain ⟨h1, h2⟩ := ho.fqE hq
  have := sd.qs.2.2 q (fq a q) (by rw [ho.fl (Nat.le_refl _)]; exact h1)
  rw [ho.cqe (Nat.le_refl _) h2] at this
  exact this
theorem XSd.n2' (sd : XSd G a (sen a)) (ho : OkA e a) : nQ a ≤ sN G (sR G 28 2) := by have := sd.n2; rw [ho.fl (Nat.le_refl _)] at this; exact this
theorem s_chosenPlace {Q : Int32 → St → Prop} {q : Nat} {L : List Nat} (hL : Lay G.2.2) (sd : XSd G a (sen a)) (ho : OkA e a) (hq : q < nQ a) (l1 : L.Nodup) (l2 : ∀ y, y ∈ L → y ∈ yL ∧ y ≠ 0) (l3 : sI G 28 11 = nI L.length) (l4 : ∀ i y : Nat, L[i]? = some y → sI G 35 i = nI (sx y)) (hQ1 : ∀ i : Nat, L[i]? = some (yq a q) → Q (nI i) G) (hQ2 : yq a q ∉ L → Q (nI L.length) G) : EvI K mX4_chosenPlace 1 0 [(0, .ref 28), (1, .int (nI q))] [] G Q := by
  have n30 := ho.fl30
  have n30' : nQ a ≤ 30000 := n30
  have l251 := L251 l1 l2
  obtain ⟨f1, f2⟩ := ho.fqE hq
  obtain ⟨y1, y2, y3⟩ := ho.yqE f2
  have hy : yq a q < 7776 := yL_lt _ y1
  have key : ∀ (m i : Nat), i + m = L.length → (∀ j, j < i → L[j]? ≠ some (yq a q)) → EvI K mX4_chosenPlace 1 25 [(0, .ref 28), (2, .int (nI (sx (yq a q)))), (3, .int (nI i))] [] G Q := by
    intro m
    induction m with
    | zero =>
      intro i hm hno
      refine kX4_chosenPlace_25 hL ?_
      rw [l3, show i = L.length by omega]
      refine ⟨fun _ => hQ2 (fun z => ?_), fun z => absurd (Int32.le_refl _) z⟩
      obtain ⟨j, hj⟩ := List.mem_iff_getElem?.mp z
      exact hno j (by have := getE_lt hj; omega) hj
    | succ m ih =>
      intro i hm hno
      have hg := getD_lt (l := L) (q := i) (by omega)
      have hv := l4 i _ hg
      have hy' := yL_lt _ (l2 _ (getE_mem hg)).1
      have s1 := sx_lt hy
      have s2 := sx_lt hy'
      refine kX4_chosenPlace_25 hL ?_
      rw [l3]
      try simp (disch := omega) only [nLe, nLeR, nLeL, nLt, nLtR, nLtL, nEq, nEqR, nEqL, nClamp, nClampR, nAdd, nAddR, nAddL, nSub, nSubR, nMul, nMulR, nMulL, nDivR, vIn, vInR, iteZ, iteP, lEq, lEqR, forall_eq, forall_const, true_implies, false_implies, not_true_eq_false, not_false_eq_true, true_and, and_true, implies_true, Decidable.not_not, Nat.le_refl, hv]
      refine ⟨fun z => by omega, fun _ => ⟨by omega, fun z => hQ1 i ?_, fun z => ih (i + 1) (by omega) (fun j hj hj2 => ?_)⟩⟩
      · rw [← sx_inj hy' hy z]; exact hg
      · rcases Nat.lt_succ_iff_lt_or_eq.mp hj with u | u
        · exact hno j u hj2
        · rw [u, hg] at hj2
          exact z (by rw [Option.some.inj hj2])
  refine kX4_chosenPlace_0 hL (s_X4_has hL (by omega) (sd.sz ho) ?_)
  rw [if_pos ((inR_n (by omega)).mpr hq)]
  refine ⟨fun z => absurd z (by decide), fun _ => ?_⟩
  have hn2 := sd.n2' ho
  have hx31 : a.xc (fq a q) < 2147483648 := ho.x31 (ho.Om (getD_lt (l := a.O) (q := fq a q) (by rw [ho.Ol]; exact f2)))
  try simp (disch := omega) only [nLe, nLeR, nLeL, nLt, nLtR, nLtL, nEq, nEqR, nEqL, nClamp, nClampR, nAdd, nAddR, nAddL, nSub, nSubR, nMul, nMulR, nMulL, nDivR, vIn, vInR, iteZ, iteP, lEq, lEqR, forall_eq, forall_const, true_implies, false_implies, not_true_eq_false, not_false_eq_true, true_and, and_true, implies_true, Decidable.not_not, Nat.le_refl]
  refine ⟨by omega, ?_⟩
  rw [(sd.at ho hq).1, show (32767 : Int32) = nI (2 ^ 15 - 1) from rfl, and_mask hx31 (by decide), show 2 ^ 15 = 32768 from rfl, y3]
  exact key L.length 0 (by omega) (fun j hj => absurd hj (Nat.not_lt_zero _))
theorem s_chosenOf {Q : Int32 → St → Prop} {q : Nat} (hL : Lay G.2.2) (sd : XSd G a (sen a)) (c : XCh G a.ch) (ho : OkA e a) (hq : q < nQ a) (hQ : Q (nI (a.ch (yq a q))) G) : EvI K mX4_chosenOf 2 0 [(0, .ref 28), (1, .int (nI q))] [] G Q := by
  obtain ⟨L, l1, l2, l3, l4, l5⟩ := c
  have l251 := L251 l1 l2
  refine kX4_chosenOf_0 hL (s_chosenPlace hL sd ho hq l1 l2 l3 (fun i y hy => (l4 i y hy).1) (fun i hi => ?_) (fun hno => ?_))
  · have hil := getE_lt hi
    rw [l3]
    try simp (disch := omega) only [nLe, nLeR, nLeL, nLt, nLtR, nLtL, nEq, nEqR, nEqL, nClamp, nClampR, nAdd, nAddR, nAddL, nSub, nSubR, nMul, nMulR, nMulL, nDivR, vIn, vInR, iteZ, iteP, lEq, lEqR, forall_eq, forall_const, true_implies, false_implies, not_true_eq_false, not_false_eq_true, true_and, and_true, implies_true, Decidable.not_not, Nat.le_refl, (l4 i _ hi).2]
    exact ⟨fun z => by omega, fun _ => ⟨by omega, hQ⟩⟩
  · rw [l3]
    rw [l5 _ hno] at hQ
    exact ⟨fun _ => hQ, fun z => absurd (Int32.le_refl _) z⟩
theorem s_X4_rankOf {Q : Int32 → St → Prop} {q : Nat} (hL : Lay G.2.2) (sd : XSd G a (sen a)) (c : XCh G a.ch) (ho : OkA e a) (he : e ≤ 1000) (hq : q < nQ a) (hQ : Q (nI (rkQ a q)) G) : EvI K mX4_rankOf 3 0 [(0, .ref 28), (1, .int (nI q))] [] G Q := by
  have n30 : nQ a ≤ 30000 := ho.fl30
  have hcq := ho.ch (yq a q)
  have key : ∀ (m p : Nat), p + m = nQ a → EvI K mX4_rankOf 3 11 [(0, .ref 28), (1, .int (nI q)), (2, .int (nI (a.ch (yq a q)))), (3, .int (nI (fb_ct (fun p => decide (a.ch (yq a q) < a.ch (yq a p) ∨ a.ch (yq a p) = a.ch (yq a q) ∧ p < q)) p))), (4, .int (nI p))] [] G Q := by
    intro m
    induction m with
    | zero =>
      intro p hm
      refine kX4_rankOf_11 hL ?_
      rw [sd.sz ho, show p = nQ a by omega]
      exact ⟨fun _ => hQ, fun z => absurd (Int32.le_refl _) z⟩
    | succ m ih =>
      intro p hm
      have ct := fb_ct_le (fun p => decide (a.ch (yq a q) < a.ch (yq a p) ∨ a.ch (yq a p) = a.ch (yq a q) ∧ p < q)) p
      have hcp := ho.ch (yq a p)
      have := ih (p + 1) (by omega)
      rw [fb_ct] at this
      have go : ∀ d, d = (if decide (a.ch (yq a q) < a.ch (yq a p) ∨ a.ch (yq a p) = a.ch (yq a q) ∧ p < q) = true then 1 else 0) → EvI K mX4_rankOf 3 49 [(0, .ref 28), (1, .int (nI q)), (2, .int (nI (a.ch (yq a q)))), (3, .int (nI (fb_ct (fun p => decide (a.ch (yq a q) < a.ch (yq a p) ∨ a.ch (yq a p) = a.ch (yq a q) ∧ p < q)) p + d))), (4, .int (nI p))] [] G Q := by
        intro d hd
        refine kX4_rankOf_49 hL ?_
        rw [← hd] at this
        try simp (disch := omega) only [nLe, nLeR, nLeL, nLt, nLtR, nLtL, nEq, nEqR, nEqL, nClamp, nClampR, nAdd, nAddR, nAddL, nSub, nSubR, nMul, nMulR, nMulL, nDivR, vIn, vInR, iteZ, iteP, lEq, lEqR, forall_eq, forall_const, true_implies, false_implies, not_true_eq_false, not_false_eq_true, true_and, and_true, implies_true, Decidable.not_not, Nat.le_refl]
        exact this
      refine kX4_rankOf_11 hL ?_
      rw [sd.sz ho]
      try simp (disch := omega) only [nLe, nLeR, nLeL, nLt, nLtR, nLtL, nEq, nEqR, nEqL, nClamp, nClampR, nAdd, nAddR, nAddL, nSub, nSubR, nMul, nMulR, nMulL, nDivR, vIn, vInR, iteZ, iteP, lEq, lEqR, forall_eq, forall_const, true_implies, false_implies, not_true_eq_false, not_false_eq_true, true_and, and_true, implies_true, Decidable.not_not, Nat.le_refl]
      refine ⟨fun z => by omega, fun _ => s_chosenOf hL sd c ho (by omega) ?_⟩
      try simp (disch := omega) only [nLe, nLeR, nLeL, nLt, nLtR, nLtL, nEq, nEqR, nEqL, nClamp, nClampR, nAdd, nAddR, nAddL, nSub, nSubR, nMul, nMulR, nMulL, nDivR, vIn, vInR, iteZ, iteP, lEq, lEqR, forall_eq, forall_const, true_implies, false_implies, not_true_eq_false, not_false_eq_true, true_and, and_true, implies_true, Decidable.not_not, Nat.le_refl]
      refine ⟨fun z => kX4_rankOf_46 hL ?_, fun z => ⟨fun z2 => go 0 (by rw [if_neg]; simp; omega), fun z2 => ⟨fun z3 => go 0 (by rw [if_neg]; simp; omega), fun z3 => kX4_rankOf_46 hL ?_⟩⟩⟩
      · try simp (disch := omega) only [nLe, nLeR, nLeL, nLt, nLtR, nLtL, nEq, nEqR, nEqL, nClamp, nClampR, nAdd, nAddR, nAddL, nSub, nSubR, nMul, nMulR, nMulL, nDivR, vIn, vInR, iteZ, iteP, lEq, lEqR, forall_eq, forall_const, true_implies, false_implies, not_true_eq_false, not_false_eq_true, true_and, and_true, implies_true, Decidable.not_not, Nat.le_refl]
        exact go 1 (by rw [if_pos]; simp [z])
      · try simp (disch := omega) only [nLe, nLeR, nLeL, nLt, nLtR, nLtL, nEq, nEqR, nEqL, nClamp, nClampR, nAdd, nAddR, nAddL, nSub, nSubR, nMul, nMulR, nMulL, nDivR, vIn, vInR, iteZ, iteP, lEq, lEqR, forall_eq, forall_const, true_implies, false_implies, not_true_eq_false, not_false_eq_true, true_and, and_true, implies_true, Decidable.not_not, Nat.le_refl]
        exact go 1 (by rw [if_pos]; simp; omega)
  exact kX4_rankOf_0 hL (s_chosenOf hL sd c ho hq (key (nQ a) 0 (by omega)))
theorem x_choose {Q : Int32 → St → Prop} {x : Int32} (h : XI e sen G a) (ho : OkA e a) (he : e ≤ 1000) (hsen : ∀ y, sen (chA a y) = sen a) (hQ0 : ∀ G', XI e sen G' a → KX G G' → ¬ inR x (nQ a) → Q (-1) G') (hQ : ∀ G' q, q < nQ a → x = nI q → XI e sen G' (chA a (yq a q)) → KX G G' → Q (nI (a.ch (yq a q) + 1)) G') : EvIa K mX11_choose 11 0 [(0, .ref 1), (1, .int x)] [] G Q := by
  have n30 : nQ a ≤ 30000 := ho.fl30
  refine kX11_choose_0 h.lay (s_searched h ho (fun q0 => ⟨h.lay, fun _ => hQ0 G h Kg.rf ?_, fun z => absurd rfl z⟩) (fun G1 q0 h1 k1 f1 => ⟨h1.lay, fun z => absurd z (by decide), fun _ => ?_⟩))
  · unfold nQ AS.J
    rw [if_pos q0]
    intro z
    have := z.1
    have := z.2
    simp [fL] at this
    omega
  obtain ⟨g0, f16, f15, sd⟩ := h1.fs f1
  refine s_X4_has h1.lay (by omega) (sd.sz ho) ?_
  rcases num_cases x (n := nQ a) (by omega) with ⟨q, hq, eq⟩ | hnx
  · rw [if_pos (by rw [eq, inR_n (by omega)]; exact hq)]
    refine ⟨fun z => absurd z (by decide), fun _ => ?_⟩
    rw [eq]
    obtain ⟨L, l1, l2, l3, l4, l5⟩ := h1.c.ch
    have l251 := L251 l1 l2
    obtain ⟨f1', f2⟩ := ho.fqE hq
    obtain ⟨y1, y2, y3⟩ := ho.yqE f2
    have hy : yq a q < 7776 := yL_lt _ y1
    have hcq := ho.ch (yq a q)
    have hh := lay_h h1.lay
    have ht := lay_t h1.lay
    -- the invariant for what is chosen now
    have fin : ∀ (G2 : St) (M : List Nat) (i : Nat), Kq (fun i k => i = 35 ∨ i = 36 ∨ i = 28 ∧ k = 11) G1 G2 → M.Nodup → (∀ y, y ∈ M → y ∈ yL ∧ y ≠ 0) → sI G2 28 11 = nI M.length → (∀ i y : Nat, M[i]? = some y → sI G2 35 i = nI (sx y) ∧ sI G2 36 i = nI (a.ch y)) → (∀ y, y ∉ M → a.ch y = 0) → M[i]? = some (yq a q) → EvI K mX4_chooseOne 2 56 [(0, .ref 28), (2, .int (nI i))] [] G2 Q := by
      intro G2 M i k2 m1 m2 m3 m4 m5 hi
      have m251 := L251 m1 m2
      have hil := getE_lt hi
      refine kX4_chooseOne_56 (k2.lay h1.lay) ?_
      try simp (disch := omega) only [nLe, nLeR, nLeL, nLt, nLtR, nLtL, nEq, nEqR, nEqL, nClamp, nClampR, nAdd, nAddR, nAddL, nSub, nSubR, nMul, nMulR, nMulL, nDivR, vIn, vInR, iteZ, iteP, lEq, lEqR, forall_eq, forall_const, true_implies, false_implies, not_true_eq_false, not_false_eq_true, true_and, and_true, implies_true, Decidable.not_not, Nat.le_refl, (m4 i _ hi).2]
      have k3 : Kq (fun i k => i = 35 ∨ i = 36 ∨ i = 28 ∧ k = 11) G1 (uI G2 36 i (nI (a.ch (yq a q) + 1))) := k2.sI (Or.inr (Or.inl rfl))
      have kk : KX G (uI G2 36 i (nI (a.ch (yq a q) + 1))) := k1.kx.tr (k3.kx (fun i k z => by omega))
      have n36 : ∀ j y : Nat, M[j]? = some y → j ≠ i → y ≠ yq a q := fun j y hj hne hyy => hne (by
        rw [hyy] at hj
        exact (List.getElem?_inj (getE_lt hj) m1).mp (hj.trans hi.symm))
      have fk : ∀ k, sI (uI G2 36 i (nI (a.ch (yq a q) + 1))) 1 k = sI G1 1 k := fun k => k3.I (by omega)
      refine ⟨by omega, by omega, hQ _ q hq eq ⟨k3.lay h1.lay, h1.rm.kq k3, ?_, fun z => ?_, fun z => ?_, fun z => ?_, fun z => ?_⟩ kk⟩
      · have c1 := h1.c
        refine ⟨c1.tp.kq k3 (fun i k z => by omega), ?_, ?_, ?_, ?_, (k3.I (by omega)).trans c1.pe, (k3.I (by omega)).trans c1.wi, c1.lt.kq k3 (fun i k z => by omega), ⟨M, m1, m2, ?_, fun j y hj => ⟨?_, ?_⟩, fun y hy => ?_⟩, (k3.I (by omega)).trans c1.m0, (k3.I (by omega)).trans c1.m1, (k3.I (by omega)).trans c1.m2⟩
        · rw [k3.R]; exact c1.tb.kq k3 (fun i k z => by omega)
        · rw [k3.R]; exact c1.ro.kq k3 (fun i k z => by omega)
        · rw [k3.R]; exact c1.hd.kq k3 (fun i k z => by omega)
        · rw [k3.R]; exact c1.tq.kq k3 (fun i k z => by omega)
        · rw [gI, if_neg (by omega)]; exact m3
        · rw [gI, if_neg (by omega)]; exact (m4 j y hj).1
        · rw [gI]
          show _ = nI (if y = yq a q then a.ch y + 1 else a.ch y)
          by_cases ej : j = i
          · rw [ej, hi] at hj
            cases hj
            rw [if_pos ⟨rfl, ej⟩, if_pos rfl]
          · rw [if_neg (fun z => ej z.2), if_neg (n36 j y hj ej)]; exact (m4 j y hj).2
        · show (if y = yq a q then a.ch y + 1 else a.ch y) = 0
          rw [if_neg (fun z => hy (by rw [z]; exact getE_mem hi))]
          exact m5 y hy
      · rw [fk] at z; exact (h1.fh z).kq k3 (fun i k z => by unfold sHt; omega)
      · rw [fk] at z; exact (h1.ft z).kq k3 (fun i k z => by unfold sTi; omega)
      · rw [fk] at z; exact (h1.fo z).kq k3 (fun i k z => by unfold sOf; omega)
      · rw [fk] at z
        obtain ⟨z1, z2, z3, z4⟩ := h1.fs z
        refine ⟨z1, by rw [fk]; exact z2, by rw [fk]; exact z3, ?_⟩
        rw [hsen]
        exact z4.kq h1.lay k3 (fun i k z => by omega)
    refine kX4_chooseOne_0 h1.lay (s_chosenPlace h1.lay sd ho hq l1 l2 l3 (fun i y hy => (l4 i y hy).1) (fun i hi => ?_) (fun hno => ?_))
    · have hil := getE_lt hi
      rw [l3]
      try simp (disch := omega) only [nLe, nLeR, nLeL, nLt, nLtR, nLtL, nEq, nEqR, nEqL, nClamp, nClampR, nAdd, nAddR, nAddL, nSub, nSubR, nMul, nMulR, nMulL, nDivR, vIn, vInR, iteZ, iteP, lEq, lEqR, forall_eq, forall_const, true_implies, false_implies, not_true_eq_false, not_false_eq_true, true_and, and_true, implies_true, Decidable.not_not, Nat.le_refl]
      refine ⟨fun _ => ⟨fun _ => fin G1 L i Kq.rf l1 l2 l3 l4 l5 hi, fun z => by omega⟩, fun z => by omega⟩
    · have l252 : L.length + 1 ≤ 251 := by
        have : (yq a q :: L).Nodup := List.nodup_cons.mpr ⟨hno, l1⟩
        exact L251 this (fun y hy => by
          rcases List.mem_cons.mp hy with z | z
          · rw [z]; exact ⟨y1, y2⟩
          · exact l2 y z)
      have hn2 := sd.n2' ho
      have hx31 : a.xc (fq a q) < 2147483648 := ho.x31 (ho.Om (getD_lt (l := a.O) (q := fq a q) (by rw [ho.Ol]; exact f2)))
      rw [l3]
      refine ⟨fun _ => ⟨fun z => absurd rfl z, fun _ => ?_⟩, fun z => absurd (by try simp (disch := omega) only [nLe, nLeR, nLeL, nLt, nLtR, nLtL, nEq, nEqR, nEqL, nClamp, nClampR, nAdd, nAddR, nAddL, nSub, nSubR, nMul, nMulR, nMulL, nDivR, vIn, vInR, iteZ, iteP, lEq, lEqR, forall_eq, forall_const, true_implies, false_implies, not_true_eq_false, not_false_eq_true, true_and, and_true, implies_true, Decidable.not_not, Nat.le_refl]; omega) z⟩
      try simp (disch := omega) only [nLe, nLeR, nLeL, nLt, nLtR, nLtL, nEq, nEqR, nEqL, nClamp, nClampR, nAdd, nAddR, nAddL, nSub, nSubR, nMul, nMulR, nMulL, nDivR, vIn, vInR, iteZ, iteP, lEq, lEqR, forall_eq, forall_const, true_implies, false_implies, not_true_eq_false, not_false_eq_true, true_and, and_true, implies_true, Decidable.not_not, Nat.le_refl]
      rw [(sd.at ho hq).1, show (32767 : Int32) = nI (2 ^ 15 - 1) from rfl, and_mask hx31 (by decide), show 2 ^ 15 = 32768 from rfl, y3]
      refine ⟨by omega, by omega, by omega, fin _ (L ++ [yq a q]) L.length (((kq_I (Or.inl rfl)).sI (Or.inr (Or.inl rfl))).sI (Or.inr (Or.inr ⟨rfl, rfl⟩))) ?_ (fun y hy => ?_) ?_ (fun i y hy => ?_) (fun y hy => l5 y (fun z => hy (List.mem_append.mpr (Or.inl z)))) ?_⟩
      · rw [List.nodup_append]
        refine ⟨l1, by simp, fun x hx y hy => ?_⟩
        rw [List.mem_singleton] at hy
        intro z
        rw [z, hy] at hx
        exact hno hx
      · rcases List.mem_append.mp hy with z | z
        · exact l2 y z
        · rw [List.mem_singleton] at z; rw [z]; exact ⟨y1, y2⟩
      · rw [gI, if_pos ⟨rfl, rfl⟩, List.length_append]; rfl
      · rcases app1 hy with ⟨z, z'⟩ | ⟨z, z'⟩
        · have : i ≠ L.length := by omega
          simp [gI, this]
          exact l4 i y z'
        · subst z z'
          simp [gI]
          refine ⟨rfl, ?_⟩
          rw [l5 _ hno]; rfl
      · rw [List.getElem?_append_right (Nat.le_refl _), Nat.sub_self]; rfl
  · rw [if_neg hnx]
    exact ⟨fun _ => hQ0 G1 h1 k1.kx hnx, fun z => absurd rfl z⟩
end CHOSEN

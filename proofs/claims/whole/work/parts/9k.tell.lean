/-! the class tells a question -/
section TELL
variable {K : KT} {G : St} {a : AS} {e : Nat}
theorem OkA.jq (ho : OkA e a) {q : Nat} (hq : q < nQ a) : okJ a.f a.P a.q.1 (a.O.getD (fq a q) 0) ∧ (∀ r, (a.O.getD (fq a q) 0).testBit r = true → r < a.w.1) ∧ a.xc (fq a q) = xC a.w.2.1 a.P a.q.1 (a.O.getD (fq a q) 0) ∧ a.mc (fq a q) = mC a.w.2.1 a.P a.q.1 (a.O.getD (fq a q) 0) := by
  have hs := getD_lt (l := a.O) (q := fq a q) (by rw [ho.Ol]; exact (ho.fqE hq).2)
  have oJ := ho.oJ.2 _ (ho.Om hs)
  exact ⟨oJ.2.2.2.1, oJ.2.2.2.2, rfl, rfl⟩
theorem OkA.nm' (ho : OkA e a) {t : Nat} (ht : t < a.b.1) : a.b.2.1 t = lN (nv (a.b.2.1 t)) ∧ nv (a.b.2.1 t) < 282429536481 := by
  obtain ⟨n, h1, h2⟩ := ho.nm t ht
  have e : nv (a.b.2.1 t) = n := by rw [h1]; exact nv_l (by have := h2.1; omega)
  rw [e]
  exact ⟨h1, h2.1⟩
theorem OkA.qv (ho : OkA e a) {k : Nat} (hk : k < a.q.1) : a.q.2.2 k = lN (nv (a.q.2.2 k)) ∧ (a.q.2.1 k ≤ 1 → nv (a.q.2.2 k) < 282429536481) ∧ (2 ≤ a.q.2.1 k → nv (a.q.2.2 k) < 10000) := by
  obtain ⟨h1, h2⟩ := ho.qu k hk
  by_cases z : a.q.2.1 k ≤ 1
  · obtain ⟨n, e1, e2⟩ := h1 z
    have e : nv (a.q.2.2 k) = n := by rw [e1]; exact nv_l (by have := e2.1; omega)
    rw [e]
    exact ⟨e1, fun _ => e2.1, fun y => by omega⟩
  · obtain ⟨n, e1, e2⟩ := h2 (by omega)
    have e : nv (a.q.2.2 k) = n := by rw [e1]; exact nv_l (by omega)
    rw [e]
    exact ⟨e1, fun y => by omega, fun _ => e2⟩
/-- a digit of a code in eights -/
theorem shC_at {cn : Nat → Nat} {u r : Nat} (h : ∀ u, cn u ≤ 5) (hu : u < 5) : (shC cn + 32768 * r) / 2 ^ (3 * u) % 8 = cn u := by
  have h0 := h 0
  have h1 := h 1
  have h2 := h 2
  have h3 := h 3
  have h4 := h 4
  unfold shC
  rcases (show u = 0 ∨ u = 1 ∨ u = 2 ∨ u = 3 ∨ u = 4 by omega) with rfl | rfl | rfl | rfl | rfl
  · show (_) / 1 % 8 = _; omega
  · show (_) / 8 % 8 = _; omega
  · show (_) / 64 % 8 = _; omega
  · show (_) / 512 % 8 = _; omega
  · show (_) / 4096 % 8 = _; omega
theorem shT_split {tn : Nat → Nat} : ∀ {t k : Nat}, k < t → ∃ r, shT tn t = shT tn k + tn k * 2 ^ (15 + 3 * k) + 2 ^ (15 + 3 * k) * (8 * r)
  | t + 1, k, h => by
    rcases Nat.lt_succ_iff_lt_or_eq.mp h with z | z
    · obtain ⟨r, hr⟩ := shT_split (tn := tn) z
      refine ⟨r + tn t * 2 ^ (3 * (t - k - 1)), ?_⟩
      have e : 2 ^ (15 + 3 * t) = 2 ^ (15 + 3 * k) * (8 * 2 ^ (3 * (t - k - 1))) := by
        rw [show (8 : Nat) = 2 ^ 3 from rfl, ← Nat.pow_add, ← Nat.pow_add]
        congr 1
        omega
      rw [shT, hr, e, Nat.mul_add 8, Nat.mul_add (2 ^ (15 + 3 * k)), Nat.add_assoc, Nat.add_assoc, Nat.add_assoc]
      congr 3
      rw [Nat.mul_left_comm (tn t), Nat.mul_left_comm (tn t)]
    · subst z
      exact ⟨0, by rw [shT]; simp⟩
theorem shT_at {cn tn : Nat → Nat} {t k : Nat} (hc : ∀ u, cn u ≤ 5) (ht : ∀ k, k < t → tn k < 5) (hk : k < t) : (shC cn + shT tn t) / 2 ^ (15 + 3 * k) % 8 = tn k := by
  obtain ⟨r, hr⟩ := shT_split (tn := tn) hk
  have hlt : shC cn + shT tn k < 2 ^ (15 + 3 * k) := by
    have hsc := shC_lt hc
    have e : shT tn k = shT (fun j => if j < k then tn j else 0) k := by
      have : ∀ j, j ≤ k → shT tn j = shT (fun j => if j < k then tn j else 0) j := by
        intro j
        induction j with
        | zero => intro _; rfl
        | succ j ihj => intro hj'; rw [shT, shT, ihj (by omega), if_pos (by omega)]
      exact this k (Nat.le_refl _)
    have := (shT_lt (tn := fun j => if j < k then tn j else 0) (fun j => by
      split
      · have := ht j (by omega); omega
      · decide) k).1
    rw [e]; omega
  have h8 := ht k hk
  have p : 0 < 2 ^ (15 + 3 * k) := Nat.pow_pos (by decide)
  have e : shC cn + shT tn t = (shC cn + shT tn k) + 2 ^ (15 + 3 * k) * (tn k + 8 * r) := by rw [hr, Nat.mul_add, Nat.mul_comm (tn k)]; omega
  rw [e, Nat.add_mul_div_left _ _ p, Nat.div_eq_of_lt hlt, Nat.zero_add]
  omega
theorem cnS_hi {rt : Nat → Nat} {s u n bn : Nat} (h1 : ∀ r, s.testBit r = true → r < n) (h2 : ∀ r, r < n → rt r < bn) (hu : bn ≤ u) : cnS rt s u = 0 := by
  unfold cnS
  exact fb_ct_zero.mpr (fun r _ => by
    cases e : s.testBit r
    · simp
    · have := h2 r (h1 r e)
      simp; omega)
theorem sm5 {cn : Nat → Nat} {n : Nat} (hn : n ≤ 5) (h : cn 0 + cn 1 + cn 2 + cn 3 + cn 4 ≤ 5) : fb_sm cn n ≤ 5 := by
  rcases (show n = 0 ∨ n = 1 ∨ n = 2 ∨ n = 3 ∨ n = 4 ∨ n = 5 by omega) with rfl | rfl | rfl | rfl | rfl | rfl <;> simp only [fb_sm] <;> omega
set_option maxHeartbeats 2000000 in
theorem s_tell {Q : St → Prop} {q : Nat} (h : XI e sen G a) (f18 : sI G 1 18 ≠ 0) (ho : OkA e a) (hq : q < nQ a) (hQ : ∀ G', XI e sen G' a → KX G G' → sI G' 1 18 ≠ 0 → XW G' (sen a q) → Q G') : EvV K mX4_tell 3 0 [(0, .ref 28), (1, .int (nI q)), (2, .ref (sR G 1 8)), (3, .ref (sR G 1 10))] [] G Q := by
  have hL := h.lay
  have hh := lay_h hL
  have ht := lay_t hL
  obtain ⟨g0, f16, f15, sd⟩ := h.fs f18
  have n30 : nQ a ≤ 30000 := ho.fl30
  have hH : sR G 1 8 = 39 ∨ sR G 1 8 = 49 := by omega
  have hT : sR G 1 10 = 59 ∨ sR G 1 10 = 62 := by omega
  have c := h.c
  obtain ⟨oj, sr, ex, em⟩ := ho.jq hq
  have b5 := ho.b5
  have q4 := ho.q4
  -- the state, if only the sentence has changed
  have keep : ∀ G1, Kq (fun i k => sW i k ∨ i = 28 ∧ k = 10) G G1 → sI G1 28 10 = nI q → XW G1 (sen a q) → Q G1 := by
    intro G1 k1 e10 w1
    have fk : ∀ k, sI G1 1 k = sI G 1 k := fun k => k1.I (by unfold sW; omega)
    refine hQ G1 ⟨k1.lay hL, h.rm.kq k1, h.c.fr hL (k1.g.mono (fun i k _ z => by unfold sW at z; unfold frS; omega) (fun i k _ z => z)), fun z => ?_, fun z => ?_, fun z => ?_, fun z => ⟨g0, by rw [fk]; exact f16, by rw [fk]; exact f15, ?_⟩⟩ (k1.kx (fun i k z => by unfold sW at z; omega)) (by rw [fk]; exact f18) w1
    · rw [fk] at z; exact (h.fh z).kq k1 (fun i k z => by unfold sW at z; unfold sHt; omega)
    · rw [fk] at z; exact (h.ft z).kq k1 (fun i k z => by unfold sW at z; unfold sTi; omega)
    · rw [fk] at z; exact (h.fo z).kq k1 (fun i k z => by unfold sW at z; unfold sOf; omega)
    · have g1 := (lay_g hL (i := 28) (k := 1) (t := 0) (f := 30) (by decide)).2.1
      have g2 := (lay_g hL (i := 28) (k := 2) (t := 0) (f := 31) (by decide)).2.1
      have g3 := (lay_g hL (i := 28) (k := 3) (t := 0) (f := 32) (by decide)).2.1
      have g4 := (lay_g hL (i := 28) (k := 4) (t := 0) (f := 33) (by decide)).2.1
      have g5 := (lay_g hL (i := 28) (k := 5) (t := 0) (f := 34) (by decide)).2.1
      have eN : sN G1 = sN G := congrArg (fun x => x.2.1) k1.1
      have i1 : ∀ i k, (29 ≤ i ∧ i ≤ 34 ∨ 104 ≤ i ∨ i = 28 ∧ k = 12) → sI G1 i k = sI G i k := fun i k z => k1.I (by unfold sW; omega)
      refine ⟨sd.sr.kq hL k1 (fun i k z => by unfold sW at z; omega), ?_, ?_, ?_, fun i hi => ?_, Or.inr ⟨q, ?_, e10, w1.1, w1.2⟩⟩
      · unfold XQ
        simp only [k1.R]
        exact QS_cong sd.qs (i1 _ _ (by omega)) (fun j _ => i1 _ _ (by omega)) (fun q _ => ⟨i1 _ _ (by omega), i1 _ _ (by omega), i1 _ _ (by omega), i1 _ _ (by omega)⟩)
      · rw [k1.R, eN]; exact sd.n5
      · rw [k1.R, eN]; exact sd.n2
      · obtain ⟨q, j, a1, a2, a3⟩ := sd.nm i hi
        exact ⟨q, j, a1, a2, by rw [k1.R, i1 _ _ (by omega)]; exact a3⟩
      · rw [ho.fl (Nat.le_refl _)]; exact hq
  refine kX4_tell_0 hL hH hT ⟨fun z => ?_, fun z => s_X4_has hL (by omega) (sd.sz ho) ?_⟩
  · rcases sd.se with y | ⟨q', q1, q2, q3, q4'⟩
    · rw [y] at z
      have := congrArg Int32.toInt z
      rw [nI_toInt (by omega)] at this
      have e1 : (-1 : Int32).toInt = -1 := by decide
      omega
    · rw [q2, nEq (by rw [ho.fl (Nat.le_refl _)] at q1; have : q' < nQ a := q1; omega) (by omega)] at z
      subst z
      exact keep G Kq.rf q2 ⟨q3, q4'⟩
  rw [if_pos ((inR_n (by omega)).mpr hq)]
  refine ⟨fun _ => ?_, fun z => absurd z (by decide)⟩
  have hn2 := sd.n2' ho
  have l2 := lay_g hL (i := 28) (k := 2) (t := 0) (f := 31) (by decide)
  have k0 : Kq (fun i k => sW i k ∨ i = 28 ∧ k = 10) G (uI (uI G 28 10 (nI q)) 28 9 0) := (kq_I (Or.inr ⟨rfl, rfl⟩)).sI (Or.inl (Or.inl ⟨rfl, rfl⟩))
  have e0 : sI (uI (uI G 28 10 (nI q)) 28 9 0) (sR G 28 2) q = nI (a.xc (fq a q)) := by rw [k0.I (by unfold sW; omega)]; exact (sd.at ho hq).1
  rw [show sI (uI (uI G 28 10 (nI q)) 28 9 0) (sR G 28 2) (Int32.toNatClampNeg (nI q)) = nI (a.xc (fq a q)) by rw [nI_clamp (by omega)]; exact e0]
  refine ⟨(vIn (by omega)).mpr (by omega), ?_⟩
  have hx31 : a.xc (fq a q) < 2147483648 := ho.x31 (ho.Om (getD_lt (l := a.O) (q := fq a q) (by rw [ho.Ol]; exact (ho.fqE hq).2)))
  have hsen : sen a q = seS a (a.O.getD (fq a q) 0) := rfl
  generalize hss : a.O.getD (fq a q) 0 = s at *
  generalize hxx : a.xc (fq a q) = x at *
  have cn5 : ∀ u, cnS a.w.2.1 s u ≤ 5 := fun u => Nat.le_trans cnS_le oj.2.2.1
  have tn5 : ∀ k, k < a.q.1 → tnS a.w.2.1 a.P s k < 5 := fun k hk => (okJ_tn (b := a.b) ho.P1 ho.P2 ho.wb ho.b5 oj hk).1
  have tnb : ∀ k, k < a.q.1 → tnS a.w.2.1 a.P s k < a.b.1 := fun k hk => ho.wb _ (okJ_tn (b := a.b) ho.P1 ho.P2 ho.wb ho.b5 oj hk).2.1
  have smn := sm5 (cn := cnS a.w.2.1 s) (n := a.b.1) b5 (Nat.le_trans cnS_sum oj.2.2.1)
  have sh15 := shT_15 (tnS a.w.2.1 a.P s) a.q.1
  have exx : x = shC (cnS a.w.2.1 s) + shT (tnS a.w.2.1 a.P s) a.q.1 := ex
  have dig : ∀ u, u < 5 → (nI x >>> ((3 * nI u) &&& 31)) &&& 7 = nI (cnS a.w.2.1 s u) := by
    intro u hu
    rw [show (3 : Int32) * nI u = nI (3 * u) from nMul, sshr_i hx31 (by omega), show (7 : Int32) = nI (2 ^ 3 - 1) from rfl, and_mask (Nat.lt_of_le_of_lt (Nat.div_le_self _ _) hx31) (by decide)]
    refine congrArg nI ?_
    show x / 2 ^ (3 * u) % 8 = _
    have e2 : x = shC (cnS a.w.2.1 s) + 32768 * (shT (tnS a.w.2.1 a.P s) a.q.1 / 32768) := by omega
    rw [e2]
    exact shC_at cn5 hu
  have tdg : ∀ k, k < a.q.1 → (nI x >>> ((15 + 3 * nI k) &&& 31)) &&& 7 = nI (tnS a.w.2.1 a.P s k) := by
    intro k hk
    rw [show (3 : Int32) * nI k = nI (3 * k) from nMul, show (15 : Int32) + nI (3 * k) = nI (15 + 3 * k) from nAdd, sshr_i hx31 (by omega), show (7 : Int32) = nI (2 ^ 3 - 1) from rfl, and_mask (Nat.lt_of_le_of_lt (Nat.div_le_self _ _) hx31) (by decide)]
    refine congrArg nI ?_
    show x / 2 ^ (15 + 3 * k) % 8 = _
    rw [exx]
    exact shT_at cn5 tn5 hk
  generalize hH' : sR G 1 8 = H at *
  generalize hT' : sR G 1 10 = TT at *
  have stay : ∀ G1, Kq (fun i k => sW i k ∨ i = 28 ∧ k = 10) G G1 → Lay G1.2.2 ∧ XTb G1 H a.b ∧ XTq G1 TT a.q := fun G1 k1 => ⟨k1.lay hL, (hH' ▸ c.tb).kq k1 (fun i k z => by unfold sW at z; omega), (hT' ▸ c.tq).kq k1 (fun i k z => by unfold sW at z; omega)⟩
  have mono : ∀ {G1 G2 : St}, Kq (fun i k => sW i k ∨ i = 28 ∧ k = 10) G G1 → Kq sW G1 G2 → Kq (fun i k => sW i k ∨ i = 28 ∧ k = 10) G G2 := fun k1 k2 => k1.tr (k2.mono (fun i k z => Or.inl z))
  have e10k : ∀ {G1 G2 : St}, sI G1 28 10 = nI q → Kq sW G1 G2 → sI G2 28 10 = nI q := fun h1 k2 => by rw [k2.I (by unfold sW; omega)]; exact h1
  clear hh ht l2 hn2 n30 sd h f18 f16 f15 g0 hxx hss ex em e0
  -- the terms
  have terms : ∀ (m k : Nat) (M : List Nat) (G1 : St), k + m = a.q.1 → M.length ≤ 57 + 29 * k → M.length ≠ 0 → Kq (fun i k => sW i k ∨ i = 28 ∧ k = 10) G G1 → sI G1 28 10 = nI q → XW G1 M → (∀ d, k ≤ d → d ≤ a.q.1 → True) → (M = tKs (fun t => nv (a.b.2.1 t)) a.q.2.1 (fun k => nv (a.q.2.2 k)) (tnS a.w.2.1 a.P s) k (tTs (fun t => nv (a.b.2.1 t)) (cnS a.w.2.1 s) a.b.1 [] ++ [32, 58])) → EvV K mX4_tell 3 106 [(0, .ref 28), (2, .ref H), (3, .ref TT), (4, .int (nI x)), (5, .int (nI k))] [] G1 Q := by
    intro m
    induction m with
    | zero =>
      intro k M G1 hm hM hM0 k1 t1 w1 _ eM
      obtain ⟨l1, b1, q1⟩ := stay G1 k1
      refine kX4_tell_106 l1 hH hT ?_
      rw [q1.1, show k = a.q.1 by omega]
      refine ⟨fun _ => keep G1 k1 t1 ?_, fun z => absurd (Int32.le_refl _) z⟩
      rw [hsen]
      unfold seS
      rw [show k = a.q.1 by omega] at eM
      rw [← eM]; exact w1
    | succ m ih =>
      intro k M G1 hm hM hM0 k1 t1 w1 _ eM
      obtain ⟨l1, b1, q1⟩ := stay G1 k1
      have hk : k < a.q.1 := by omega
      obtain ⟨v1, v2, v3⟩ := ho.qv hk
      have ml := tmS_len (a.q.2.1 k) (nv (a.q.2.2 k))
      have e411 : wl 411 = 2 := by decide +kernel
      have tb := tnb k hk
      obtain ⟨nm1, nm2⟩ := ho.nm' tb
      -- behind the comma
      have rest : ∀ (G2 : St), Kq (fun i k => sW i k ∨ i = 28 ∧ k = 10) G G2 → sI G2 28 10 = nI q → XW G2 (M ++ (if k = 0 then [32] else [32, 44, 32])) → EvV K mX4_tell 3 133 [(0, .ref 28), (2, .ref H), (3, .ref TT), (4, .int (nI x)), (5, .int (nI k))] [] G2 Q := by
        intro G2 k2 t2 w2
        obtain ⟨l2, b2, q2⟩ := stay G2 k2
        obtain ⟨a1, a2, a3⟩ := q2.2.2 k hk
        have c3 : (if k = 0 then [32] else [32, 44, 32] : List Nat).length ≤ 3 := by split <;> simp
        refine kX4_tell_133 l2 hH hT ?_
        rw [tdg k hk]
        rw [show sI G2 (TT + 1) (Int32.toNatClampNeg (nI k)) = nI (a.q.2.1 k) by rw [nI_clamp (by omega)]; exact a1, show sL G2 (TT + 2) (Int32.toNatClampNeg (nI k)) = lN (nv (a.q.2.2 k)) by rw [nI_clamp (by omega), a3]; exact v1]
        refine ⟨(vIn (by omega)).mpr (by omega), (vIn (by omega)).mpr (by omega), s_tellTerm l2 w2 a2 v2 v3 (by rw [List.length_append]; omega) (fun G3 k3 w3 => s_put (c := 32) ((mono k2 k3).lay hL) w3 (by simp only [List.length_append]; omega) (by decide) (fun G4 k4 w4 => s_putWord (n := 411) ((mono (mono k2 k3) k4).lay hL) w4 (by decide) (by simp only [List.length_append, List.length_singleton]; omega) (fun G5 k5 w5 => s_put (c := 32) ((mono (mono (mono k2 k3) k4) k5).lay hL) w5 (by simp only [List.length_append, List.length_singleton, wS_len]; omega) (by decide) (fun G6 k6 w6 => ?_))))⟩
        have kk := mono (mono (mono (mono k2 k3) k4) k5) k6
        have t6 := e10k (e10k (e10k (e10k t2 k3) k4) k5) k6
        obtain ⟨l6, b6, q6⟩ := stay G6 kk
        rw [b6.1]
        have t31 := tn5 k hk
        rw [show sL G6 (H + 1) (Int32.toNatClampNeg (nI (tnS a.w.2.1 a.P s k))) = lN (nv (a.b.2.1 (tnS a.w.2.1 a.P s k))) by rw [nI_clamp (by omega), (b6.2.2 _ tb).1]; exact nm1]
        refine ⟨fun z => absurd z (by rw [nLe (by omega) (by omega)]; omega), fun _ => ⟨(vIn (by omega)).mpr t31, kX4_tell_206 l6 hH hT ?_⟩⟩
        refine s_putWord l6 w6 nm2 (by simp only [List.length_append, List.length_singleton, wS_len]; omega) (fun G7 k7 w7 => ?_)
        rw [show nI k + 1 = nI (k + 1) from nAdd]
        have eM' : M ++ tKt (a.q.2.1 k) (nv (a.q.2.2 k)) (nv (a.b.2.1 (tnS a.w.2.1 a.P s k))) k = tKs (fun t => nv (a.b.2.1 t)) a.q.2.1 (fun k => nv (a.q.2.2 k)) (tnS a.w.2.1 a.P s) (k + 1) (tTs (fun t => nv (a.b.2.1 t)) (cnS a.w.2.1 s) a.b.1 [] ++ [32, 58]) := by rw [tKs, ← eM]
        have tl := tKt_len (a.q.2.1 k) (nv (a.q.2.2 k)) (nv (a.b.2.1 (tnS a.w.2.1 a.P s k))) k
        refine ih (k + 1) _ G7 (by omega) (by rw [List.length_append]; omega) (by rw [List.length_append]; omega) (mono kk k7) (e10k t6 k7) ?_ (fun _ _ _ => trivial) eM'
        unfold tKt
        simp only [List.append_assoc] at w7
        exact w7
      refine kX4_tell_106 l1 hH hT ?_
      rw [q1.1]
      try simp (disch := omega) only [nLe, nLeR, nLeL, nLt, nLtR, nLtL, nEq, nEqR, nEqL, nClamp, nClampR, nAdd, nAddR, nAddL, nSub, nSubR, nMul, nMulR, nMulL, nDivR, vIn, vInR, iteZ, iteP, lEq, lEqR, forall_eq, forall_const, true_implies, false_implies, not_true_eq_false, not_false_eq_true, true_and, and_true, implies_true, Decidable.not_not, Nat.le_refl]
      refine ⟨fun z => by omega, fun _ => ⟨fun z => s_put (c := 32) l1 w1 (by omega) (by decide) (fun G2 k2 w2 => rest G2 (mono k1 k2) (e10k t1 k2) (by rw [if_pos (by omega)]; exact w2)), fun z => s_putComma l1 w1 (by omega) (fun G2 k2 w2 => rest G2 (mono k1 k2) (e10k t1 k2) (by rw [if_neg hM0] at w2; rw [if_neg (by omega)]; exact w2))⟩⟩
  -- the tables
  have tabs : ∀ (m u : Nat) (M : List Nat) (G1 : St), u + m = a.b.1 → M.length ≤ 11 * fb_sm (cnS a.w.2.1 s) u → Kq (fun i k => sW i k ∨ i = 28 ∧ k = 10) G G1 → sI G1 28 10 = nI q → XW G1 M → M = tTs (fun t => nv (a.b.2.1 t)) (cnS a.w.2.1 s) u [] → EvV K mX4_tell 3 38 [(0, .ref 28), (2, .ref H), (3, .ref TT), (4, .int (nI x)), (5, .int (nI u))] [] G1 Q := by
    intro m
    induction m with
    | zero =>
      intro u M G1 hm hM k1 t1 w1 eM
      obtain ⟨l1, b1, q1⟩ := stay G1 k1
      refine kX4_tell_38 l1 hH hT ?_
      rw [b1.1, show u = a.b.1 by omega]
      rw [show u = a.b.1 by omega] at hM eM
      refine ⟨fun _ => s_put (c := 32) l1 w1 (by omega) (by decide) (fun G2 k2 w2 => s_put (c := 58) ((mono k1 k2).lay hL) w2 (by rw [List.length_append, List.length_singleton]; omega) (by decide) (fun G3 k3 w3 => ?_)), fun z => absurd (Int32.le_refl _) z⟩
      refine terms a.q.1 0 (M ++ [32, 58]) G3 (by omega) (by rw [List.length_append]; show M.length + 2 ≤ _; omega) (by rw [List.length_append]; show M.length + 2 ≠ 0; omega) (mono (mono k1 k2) k3) (e10k (e10k t1 k2) k3) ?_ (fun _ _ _ => trivial) (by rw [tKs, eM])
      simp only [List.append_assoc] at w3
      exact w3
    | succ m ih =>
      intro u M G1 hm hM k1 t1 w1 eM
      obtain ⟨l1, b1, q1⟩ := stay G1 k1
      have hu : u < a.b.1 := by omega
      obtain ⟨nm1, nm2⟩ := ho.nm' hu
      have smu : fb_sm (cnS a.w.2.1 s) (u + 1) ≤ 5 := sm5 (by omega) (Nat.le_trans cnS_sum oj.2.2.1)
      rw [fb_sm] at smu
      have names : ∀ (j : Nat) (N : List Nat) (G2 : St), j ≤ cnS a.w.2.1 s u → N.length + 11 * j ≤ 11 * fb_sm (cnS a.w.2.1 s) (u + 1) → Kq (fun i k => sW i k ∨ i = 28 ∧ k = 10) G G2 → sI G2 28 10 = nI q → XW G2 N → tNk (nv (a.b.2.1 u)) j N = tTs (fun t => nv (a.b.2.1 t)) (cnS a.w.2.1 s) (u + 1) [] → EvV K mX4_tell 3 59 [(0, .ref 28), (2, .ref H), (3, .ref TT), (4, .int (nI x)), (5, .int (nI u)), (6, .int (nI j))] [] G2 Q := by
        intro j
        induction j with
        | zero =>
          intro N G2 hj hN k2 t2 w2 eN
          refine kX4_tell_59 (k2.lay hL) hH hT ⟨fun _ => ?_, fun z => absurd (by decide) z⟩
          rw [show nI u + 1 = nI (u + 1) from nAdd]
          exact ih (u + 1) N G2 (by omega) (by omega) k2 t2 w2 eN
        | succ j ihj =>
          intro N G2 hj hN k2 t2 w2 eN
          have c5 := cn5 u
          rw [fb_sm] at hN
          refine kX4_tell_59 (k2.lay hL) hH hT ⟨fun z => absurd z (by rw [nLeR (by omega) (by decide)]; simp), fun _ => s_putComma (k2.lay hL) w2 (by omega) (fun G3 k3 w3 => ?_)⟩
          obtain ⟨l3, b3, q3⟩ := stay G3 (mono k2 k3)
          rw [show sL G3 (H + 1) (Int32.toNatClampNeg (nI u)) = lN (nv (a.b.2.1 u)) by rw [nI_clamp (by omega), (b3.2.2 u hu).1]; exact nm1]
          have c3 : (if N.length = 0 then [] else [32, 44, 32] : List Nat).length ≤ 3 := by split <;> simp
          have w8 := wl_le (nv (a.b.2.1 u))
          refine ⟨(vIn (by omega)).mpr (by omega), s_putWord l3 w3 nm2 (by rw [List.length_append]; omega) (fun G4 k4 w4 => ?_)⟩
          rw [show nI (j + 1) + (-1) = nI j from nDec (by omega)]
          rw [tNk] at eN
          refine ihj _ G4 (by omega) ?_ (mono (mono k2 k3) k4) (e10k (e10k t2 k3) k4) (by rw [List.append_assoc] at w4; exact w4) eN
          rw [List.length_append, List.length_append, wS_len, fb_sm]; omega
      refine kX4_tell_38 l1 hH hT ?_
      rw [b1.1, dig u (by omega)]
      refine ⟨fun z => absurd z (by rw [nLe (by omega) (by omega)]; omega), fun _ => names (cnS a.w.2.1 s u) M G1 (Nat.le_refl _) (by rw [fb_sm]; omega) k1 t1 w1 (by rw [tTs, eM])⟩
  refine tabs a.b.1 0 [] _ (by omega) (Nat.zero_le _) k0 (by rw [gI, if_neg (by omega), gI, if_pos ⟨rfl, rfl⟩]) ⟨by rw [gI, if_pos ⟨rfl, rfl⟩]; rfl, fun i c hc => by cases hc⟩ rfl
end TELL

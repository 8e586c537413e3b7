/-! count, cell: both -/
def zF (n : Nat) (f : Nat → Nat → Nat) : Prop := ∀ a b, n ≤ a ∨ n ≤ b → f a b = 0
theorem zF_add {n a b p : Nat} {f : Nat → Nat → Nat} (h : zF n f) (ha : a < n) (hb : b < n) : zF n (tAdd f a b p) := by
  unfold tAdd
  split
  · exact h
  · intro x y hxy
    show (if (x = a ∧ y = b) ∨ (x = b ∧ y = a) then p else f x y) = 0
    rw [if_neg (by omega)]
    exact h x y hxy
theorem fTi_z {b : TBt} {w : RWt} {S : Nat} {l : LTt} (hor : okRw b w) (w30 : w.1 ≤ 30) : zF w.1 (fTi b w S l) := by
  unfold fTi
  refine foldN_ind ?_ (fun k g hk hg => ?_)
  · unfold kFs
    refine foldN_ind (fun _ _ _ => rfl) (fun r g hr hg => ?_)
    split
    · refine foldN_ind hg (fun c g _ hg => ?_)
      unfold kSt
      split
      · exact hg
      · rename_i q hq
        have := (kyA_lt hor hr w30 hq).1
        exact zF_add hg (by omega) (by omega)
    · exact hg
  · unfold lSt
    refine foldN_ind hg (fun a g ha hg => foldN_ind hg (fun c g hc hg => ?_))
    split
    · exact zF_add hg ha hc
    · exact hg
noncomputable def rCnt (a : AS) (x : Int32) : Int32 := if x = 0 then nI a.b.1 else if x = 1 then nI a.w.1 else if x = 2 then nI (pc a.S) else if x = 3 then nI a.q.1 else if x = 4 then nI a.J.length else if x = 5 then nI (nQ a) else if x = 6 then nI a.T.1 else if x = 7 then nI (ofL a.b a.w a.S 20).length else if x = 8 then nI a.l.1 else if x = 9 then nI (cntT a.f / 2) else -1
def rCell (a : AS) (x y : Int32) : Int64 := if snR a x ∧ inR y (a.b.2.2.1 (a.w.2.1 x.toInt.toNat)) then (if 5 ≤ a.b.2.2.2.2 (a.w.2.1 x.toInt.toNat) y.toInt.toNat then a.w.2.2 x.toInt.toNat y.toInt.toNat else Int32.toInt64 (kyI (kyA a.b a.w a.S x.toInt.toNat y.toInt.toNat))) else -1
section COUNT
variable {K : KT} {G : St} {a : AS} {e : Nat}
theorem x_count {Q : Int32 → St → Prop} {x : Int32} (h : XI e sen G a) (ho : OkA e a) (hQ : ∀ G', XI e sen G' a → KX G G' → Q (rCnt a x) G') : EvIa K mX11_count 11 0 [(0, .ref 1), (1, .int x)] [] G Q := by
  have hL := h.lay
  have s30 := ho.S30
  have jl := ho.Jl
  refine kX11_count_0 hL ?_
  have val : ∀ G' v, XI e sen G' a → KX G G' → rCnt a x = v → Q v G' := fun G' v h1 h2 h3 => by rw [← h3]; exact hQ G' h1 h2
  refine ⟨fun z => ?_, fun z => ?_, fun z => ?_, fun z => ?_, fun z => ?_, fun z => ?_, fun z => ?_, fun z => ?_, fun z => ?_, fun z => ?_, fun z0 z1 z2 z3 z4 z5 z6 z7 z8 z9 => ?_⟩
  · rw [h.c.tb.1]; exact val G _ h Kg.rf (by unfold rCnt; rw [if_pos z])
  · rw [h.c.ro.1]; exact val G _ h Kg.rf (by unfold rCnt; rw [if_neg (by rw [z]; decide), if_pos z])
  · exact s_seen hL h.c ho (s_bitCount (by omega) hL (val G _ h Kg.rf (by unfold rCnt; rw [if_neg (by rw [z]; decide), if_neg (by rw [z]; decide), if_pos z])))
  · rw [h.c.tq.1]; exact val G _ h Kg.rf (by unfold rCnt; rw [if_neg (by rw [z]; decide), if_neg (by rw [z]; decide), if_neg (by rw [z]; decide), if_pos z])
  · have e4 : rCnt a x = nI a.J.length := by unfold rCnt; rw [if_neg (by rw [z]; decide), if_neg (by rw [z]; decide), if_neg (by rw [z]; decide), if_neg (by rw [z]; decide), if_pos z]
    refine s_searched h ho (fun q0 => ⟨hL, fun _ => val G _ h Kg.rf ?_, fun y => absurd rfl y⟩) (fun G1 q0 h1 k1 f1 => ⟨h1.lay, fun y => absurd y (by decide), fun _ => ?_⟩)
    · rw [e4]; unfold AS.J; rw [if_pos q0]; rfl
    · obtain ⟨-, -, -, sd⟩ := h1.fs f1
      have := sd.sr.2.2.2.2.2.2.1
      rw [this, ← jl_t q0]
      exact val G1 _ h1 k1.kx e4
  · have e5 : rCnt a x = nI (nQ a) := by unfold rCnt; rw [if_neg (by rw [z]; decide), if_neg (by rw [z]; decide), if_neg (by rw [z]; decide), if_neg (by rw [z]; decide), if_neg (by rw [z]; decide), if_pos z]
    refine s_searched h ho (fun q0 => ⟨hL, fun _ => val G _ h Kg.rf ?_, fun y => absurd rfl y⟩) (fun G1 q0 h1 k1 f1 => ⟨h1.lay, fun y => absurd y (by decide), fun _ => ?_⟩)
    · rw [e5]; unfold nQ AS.J; rw [if_pos q0]; rfl
    · obtain ⟨-, -, -, sd⟩ := h1.fs f1
      rw [sd.sz ho]
      exact val G1 _ h1 k1.kx e5
  · rw [h.c.tp.1]; exact val G _ h Kg.rf (by unfold rCnt; rw [if_neg (by rw [z]; decide), if_neg (by rw [z]; decide), if_neg (by rw [z]; decide), if_neg (by rw [z]; decide), if_neg (by rw [z]; decide), if_neg (by rw [z]; decide), if_pos z])
  · refine s_freshenOffers h ho (fun G1 h1 k1 x1 => ?_)
    rw [x1.1]
    exact val G1 _ h1 (k1.kx (fun i k z => by unfold sOf at z; omega)) (by unfold rCnt; rw [if_neg (by rw [z]; decide), if_neg (by rw [z]; decide), if_neg (by rw [z]; decide), if_neg (by rw [z]; decide), if_neg (by rw [z]; decide), if_neg (by rw [z]; decide), if_neg (by rw [z]; decide), if_pos z])
  · rw [h.c.lt.1]; exact val G _ h Kg.rf (by unfold rCnt; rw [if_neg (by rw [z]; decide), if_neg (by rw [z]; decide), if_neg (by rw [z]; decide), if_neg (by rw [z]; decide), if_neg (by rw [z]; decide), if_neg (by rw [z]; decide), if_neg (by rw [z]; decide), if_neg (by rw [z]; decide), if_pos z])
  · refine s_freshenTies h ho (fun G1 h1 k1 f1 => ?_)
    obtain ⟨-, p, l, p1, p2, p3, p4⟩ := h1.ft f1
    rw [p1]
    refine val G1 _ h1 (k1.kx (fun i k z => by unfold sTi at z; omega)) ?_
    have : cntT a.f / 2 = p := by omega
    unfold rCnt
    rw [if_neg (by rw [z]; decide), if_neg (by rw [z]; decide), if_neg (by rw [z]; decide), if_neg (by rw [z]; decide), if_neg (by rw [z]; decide), if_neg (by rw [z]; decide), if_neg (by rw [z]; decide), if_neg (by rw [z]; decide), if_neg (by rw [z]; decide), if_pos z, this]
  · exact val G _ h Kg.rf (by unfold rCnt; rw [if_neg z0, if_neg z1, if_neg z2, if_neg z3, if_neg z4, if_neg z5, if_neg z6, if_neg z7, if_neg z8, if_neg z9])
theorem s_bits {Q : Int32 → St → Prop} {s : Nat} (hL : Lay G.2.2) (hs : s < 1073741824) (hQ : Q (nI (pc s)) G) : EvI K mX12_bits 0 0 [(0, .int (nI s))] [] G Q := by
  have e30 : pc s = fb_ct (fun i => s.testBit i) 30 := by
    rw [pc_def, show 32 = 30 + 2 from rfl, fb_ct_split]
    have : fb_ct (fun k => s.testBit (30 + k)) 2 = 0 := fb_ct_zero.mpr (fun k _ => by
      cases z : s.testBit (30 + k)
      · rfl
      · exact absurd (bt_lt (n := 30) hs z) (by omega))
    omega
  have key : ∀ (m i : Nat), i + m = 30 → EvI K mX12_bits 0 4 [(0, .int (nI s)), (1, .int (nI (fb_ct (fun i => s.testBit i) i))), (2, .int (nI i))] [] G Q := by
    intro m
    induction m with
    | zero =>
      intro i hm
      have ei : i = 30 := by omega
      subst ei
      refine kX12_bits_4 hL ⟨fun _ => ?_, fun z => absurd (by decide) z⟩
      rw [← e30]; exact hQ
    | succ m ih =>
      intro i hm
      refine kX12_bits_4 hL ⟨fun z => absurd z (by rw [show (30 : Int32) = nI 30 from rfl, nLe (by decide) (by omega)]; omega), fun _ => ?_⟩
      have := ih (i + 1) (by omega)
      rw [fb_ct] at this
      rw [bit_at (by omega) (by omega), show nI i + 1 = nI (i + 1) from nAdd, show nI (fb_ct (fun i => s.testBit i) i) + nI (if s.testBit i = true then 1 else 0) = nI (fb_ct (fun i => s.testBit i) i + if s.testBit i = true then 1 else 0) from nAdd]
      exact this
  exact kX12_bits_0 hL (key 30 0 (by omega))
theorem s_pairs {Q : Int32 → St → Prop} (hL : Lay G.2.2) (c : MC G a) (f1 : MF G a) (ho : OkA e a) (hQ : Q (nI (cntT a.f / 2)) G) : EvI K mX12_pairs 1 0 [(0, .ref 66)] [] G Q := by
  have w30 := ho.w30
  have tl : ∀ r, tdF a.f r < 1073741824 := fun r => by
    rw [tdF_def]
    exact msk_lt _ 30
  have ez : ∀ n, a.w.1 ≤ n → n ≤ 30 → fb_sm (fun r => pc (tdF a.f r)) n = fb_sm (fun r => pc (tdF a.f r)) a.w.1 := by
    intro n h1 h2
    induction n with
    | zero => rw [show a.w.1 = 0 by omega]
    | succ n ih =>
      rcases Nat.lt_or_ge n a.w.1 with y | y
      · rw [show a.w.1 = n + 1 by omega]
      · have t0 : tdF a.f n = 0 := by
          rw [tdF_def]
          apply Nat.eq_of_testBit_eq
          intro i
          rw [msk_bit, Nat.zero_testBit]
          have : a.f n i = 0 := fTi_z ho.ro w30 n i (Or.inl y)
          rw [this]; simp
        rw [fb_sm, ih y (by omega), t0, pc_0]; rfl
  have ec : cntT a.f = fb_sm (fun r => pc (tdF a.f r)) a.w.1 := by
    unfold cntT
    rw [w30_eq]
    exact ez 30 w30 (Nat.le_refl _)
  have bd : ∀ n, fb_sm (fun r => pc (tdF a.f r)) n ≤ 32 * n := by
    intro n
    induction n with
    | zero => exact Nat.le_refl _
    | succ n ih =>
      rw [fb_sm]
      have := pc_le (tdF a.f n)
      omega
  have key : ∀ (m r : Nat), r + m = a.w.1 → EvI K mX12_pairs 1 4 [(0, .ref 66), (1, .int (nI (fb_sm (fun r => pc (tdF a.f r)) r))), (2, .int (nI r))] [] G Q := by
    intro m
    induction m with
    | zero =>
      intro r hm
      have := bd r
      refine kX12_pairs_4 hL ?_
      rw [c.ro.1, show r = a.w.1 by omega]
      refine ⟨fun _ => ?_, fun z => absurd (Int32.le_refl _) z⟩
      rw [← ec, nDivR (by rw [ec]; have := bd a.w.1; omega) (by decide) (by decide)]
      exact hQ
    | succ m ih =>
      intro r hm
      have b1 := bd r
      have b2 := pc_le (tdF a.f r)
      refine kX12_pairs_4 hL ?_
      rw [c.ro.1, nI_clamp (by omega), f1.ti.2 r (by omega)]
      refine ⟨fun z => absurd z (by rw [nLe (by omega) (by omega)]; omega), fun _ => ⟨(vIn (by omega)).mpr (by omega), s_bits hL (tl r) ?_⟩⟩
      rw [show nI r + 1 = nI (r + 1) from nAdd, show nI (fb_sm (fun r => pc (tdF a.f r)) r) + nI (pc (tdF a.f r)) = nI (fb_sm (fun r => pc (tdF a.f r)) r + pc (tdF a.f r)) from nAdd]
      exact ih (r + 1) (by omega)
  exact kX12_pairs_0 hL (key a.w.1 0 (by omega))
theorem m_count {Q : Int32 → St → Prop} {x : Int32} (hL : Lay G.2.2) (h : MI G a) (ho : OkA e a) (hQ : ∀ G', Lay G'.2.2 → MI G' a → KM G G' → Q (rCnt a x) G') : EvI K mX12_count 6 0 [(0, .ref 66), (1, .int x)] [] G Q := by
  refine kX12_count_0 hL (s_X12_within (ly_th hL) ?_)
  by_cases hx : (0 : Int32).toInt ≤ x.toInt ∧ x.toInt ≤ (9 : Int32).toInt
  · rw [if_pos hx]
    refine ⟨fun _ => s_find0 hL h ho (fun G1 l1 h1 f1 k1 => ?_), fun z => absurd z (by decide)⟩
    have c := h1.c
    have val : ∀ v, rCnt a x = v → Q v G1 := fun v h3 => by rw [← h3]; exact hQ G1 l1 h1 k1
    have s30 := ho.S30
    refine ⟨fun z => ?_, fun z => ?_, fun z => ?_, fun z => ?_, fun z => ?_, fun z => ?_, fun z => ?_, fun z => ?_, fun z => ?_, fun z0 z1 z2 z3 z4 z5 z6 z7 z8 => ?_⟩
    · rw [c.tb.1]; exact val _ (by unfold rCnt; rw [if_pos z])
    · rw [c.ro.1]; exact val _ (by unfold rCnt; rw [if_neg (by rw [z]; decide), if_pos z])
    · rw [f1.se]; exact s_bits l1 s30 (val _ (by unfold rCnt; rw [if_neg (by rw [z]; decide), if_neg (by rw [z]; decide), if_pos z]))
    · rw [c.tq.1]; exact val _ (by unfold rCnt; rw [if_neg (by rw [z]; decide), if_neg (by rw [z]; decide), if_neg (by rw [z]; decide), if_pos z])
    · rw [f1.or.1.1]; exact val _ (by unfold rCnt; rw [if_neg (by rw [z]; decide), if_neg (by rw [z]; decide), if_neg (by rw [z]; decide), if_neg (by rw [z]; decide), if_pos z])
    · rw [f1.qs.1]; exact val _ (by unfold rCnt; rw [if_neg (by rw [z]; decide), if_neg (by rw [z]; decide), if_neg (by rw [z]; decide), if_neg (by rw [z]; decide), if_neg (by rw [z]; decide), if_pos z]; rfl)
    · rw [c.tp.1]; exact val _ (by unfold rCnt; rw [if_neg (by rw [z]; decide), if_neg (by rw [z]; decide), if_neg (by rw [z]; decide), if_neg (by rw [z]; decide), if_neg (by rw [z]; decide), if_neg (by rw [z]; decide), if_pos z])
    · refine s_findOffers l1 h1 ho (fun G2 l2 h2 k2 o2 => ?_)
      rw [o2.1]
      have := hQ G2 l2 h2 (k1.tr (km_mo k2))
      unfold rCnt at this
      rw [if_neg (by rw [z]; decide), if_neg (by rw [z]; decide), if_neg (by rw [z]; decide), if_neg (by rw [z]; decide), if_neg (by rw [z]; decide), if_neg (by rw [z]; decide), if_neg (by rw [z]; decide), if_pos z] at this
      exact this
    · rw [c.lt.1]; exact val _ (by unfold rCnt; rw [if_neg (by rw [z]; decide), if_neg (by rw [z]; decide), if_neg (by rw [z]; decide), if_neg (by rw [z]; decide), if_neg (by rw [z]; decide), if_neg (by rw [z]; decide), if_neg (by rw [z]; decide), if_neg (by rw [z]; decide), if_pos z])
    · have e9 : x = 9 := by
        have n : ∀ k : Int32, ¬ x = k → x.toInt ≠ k.toInt := fun k hk y => hk (by rw [fa_eq]; exact y)
        have y0 := n 0 z0
        have y1 := n 1 z1
        have y2 := n 2 z2
        have y3 := n 3 z3
        have y4 := n 4 z4
        have y5 := n 5 z5
        have y6 := n 6 z6
        have y7 := n 7 z7
        have y8 := n 8 z8
        rw [show (0 : Int32).toInt = 0 from rfl] at y0 hx
        rw [show (1 : Int32).toInt = 1 from rfl] at y1
        rw [show (2 : Int32).toInt = 2 from rfl] at y2
        rw [show (3 : Int32).toInt = 3 from rfl] at y3
        rw [show (4 : Int32).toInt = 4 from rfl] at y4
        rw [show (5 : Int32).toInt = 5 from rfl] at y5
        rw [show (6 : Int32).toInt = 6 from rfl] at y6
        rw [show (7 : Int32).toInt = 7 from rfl] at y7
        rw [show (8 : Int32).toInt = 8 from rfl] at y8
        rw [show (9 : Int32).toInt = 9 from rfl] at hx
        rw [fa_eq, show (9 : Int32).toInt = 9 from rfl]; omega
      exact s_pairs l1 c f1 ho (val _ (by unfold rCnt; rw [if_neg z0, if_neg z1, if_neg z2, if_neg z3, if_neg z4, if_neg z5, if_neg z6, if_neg z7, if_neg z8, if_pos e9]))
  · rw [if_neg hx]
    refine ⟨fun z => absurd rfl z, fun _ => ?_⟩
    have := hQ (uI G 66 0 0) (ly_th hL) (h.th ho) km_th
    unfold rCnt at this
    rw [if_neg (fun z => hx (by rw [z]; decide)), if_neg (fun z => hx (by rw [z]; decide)), if_neg (fun z => hx (by rw [z]; decide)), if_neg (fun z => hx (by rw [z]; decide)), if_neg (fun z => hx (by rw [z]; decide)), if_neg (fun z => hx (by rw [z]; decide)), if_neg (fun z => hx (by rw [z]; decide)), if_neg (fun z => hx (by rw [z]; decide)), if_neg (fun z => hx (by rw [z]; decide)), if_neg (fun z => hx (by rw [z]; decide))] at this
    exact this
theorem x_cell {Q : Int64 → St → Prop} {x y : Int32} (h : XI e sen G a) (ho : OkA e a) (hQ : ∀ G', XI e sen G' a → KX G G' → Q (rCell a x y) G') : EvL K mX11_cell 4 0 [(0, .ref 1), (1, .int x), (2, .int y)] [] G Q := by
  have hL := h.lay
  have hh := lay_h hL
  have hH : sR G 1 8 = 39 ∨ sR G 1 8 = 49 := by omega
  have w30 := ho.w30
  have hr := hQ G h Kg.rf
  unfold rCell at hr
  refine kX11_cell_0 hL (s_isSeen hL h.c ho ?_)
  by_cases hx : snR a x
  · rw [if_pos hx]
    obtain ⟨r, hr1, er, hs⟩ := ho.sn hx
    have c4 := ho.c4 _ (ho.wb r hr1)
    refine ⟨fun _ => s_X1_kindAt hL hH h.c.tb h.c.ro ?_, fun z => absurd z (by decide)⟩
    rcases num_cases y (n := a.b.2.2.1 (a.w.2.1 r)) (by omega) with ⟨c, hc, ec⟩ | hno
    · have hy : inR y (a.b.2.2.1 (a.w.2.1 r)) := by rw [ec, inR_n (by omega)]; exact hc
      have hy' : inR y (a.b.2.2.1 (a.w.2.1 x.toInt.toNat)) := by rw [er, nI_nat (by omega)]; exact hy
      rw [if_pos ⟨hx, hy'⟩, er, ec, nI_nat (by omega), nI_nat (by omega)] at hr
      have k6 := ho.tb _ _ (ho.wb r hr1) hc
      have kd := kdAt_in (b := a.b) (w := a.w) hr1 w30 hc c4
      rw [er, ec, kd]
      generalize hk : a.b.2.2.2.2 (a.w.2.1 r) c = k at *
      have kne : ¬ kdX k = -3 := by
        rcases (show k = 0 ∨ k = 1 ∨ k = 2 ∨ k = 3 ∨ k = 4 ∨ k = 5 ∨ k = 6 by omega) with z | z | z | z | z | z | z <;> rw [z] <;> decide
      have k5 : kdX k = -1 ↔ k = 5 := by
        rcases (show k = 0 ∨ k = 1 ∨ k = 2 ∨ k = 3 ∨ k = 4 ∨ k = 5 ∨ k = 6 by omega) with z | z | z | z | z | z | z <;> rw [z] <;> decide
      have k6' : kdX k = -2 ↔ k = 6 := by
        rcases (show k = 0 ∨ k = 1 ∨ k = 2 ∨ k = 3 ∨ k = 4 ∨ k = 5 ∨ k = 6 by omega) with z | z | z | z | z | z | z <;> rw [z] <;> decide
      refine ⟨fun z => absurd z kne, fun z => s_X1_numberAt hL hH h.c.tb h.c.ro ?_, fun z => s_X1_wordAt hL hH h.c.tb h.c.ro ?_, fun _ z2 z3 => s_seen hL h.c ho (s_X1_keyN hL hH h.c.tb h.c.ro ho.tb ho.ro ho.S30 hr1 (by omega) ?_)⟩
      · rw [kd, if_pos z, nI_nat (by omega), nI_nat (by omega)]
        rw [if_pos (by have := k6'.mp z; omega)] at hr; exact hr
      · rw [kd, if_pos z, nI_nat (by omega), nI_nat (by omega)]
        rw [if_pos (by have := k5.mp z; omega)] at hr; exact hr
      · rw [if_neg (by
          intro y5
          rcases (show k = 5 ∨ k = 6 by omega) with q | q
          · exact z3 (k5.mpr q)
          · exact z2 (k6'.mpr q))] at hr
        exact hr
    · have hn : kdAt a.b a.w x y = -3 := by
        unfold kdAt
        rw [if_neg]
        intro z
        rw [er, nI_nat (by omega)] at z
        exact hno ⟨z.2.2.1, z.2.2.2⟩
      rw [hn]
      rw [if_neg (fun z => by
        have := z.2
        rw [er, nI_nat (by omega)] at this
        exact hno this)] at hr
      exact ⟨fun _ => hr, fun z => absurd z (by decide), fun z => absurd z (by decide), fun z => absurd rfl z⟩
  · rw [if_neg hx]
    rw [if_neg (fun z => hx z.1)] at hr
    exact ⟨fun z => absurd rfl z, fun _ => hr⟩
theorem m_cell {Q : Int64 → St → Prop} {x y : Int32} (hL : Lay G.2.2) (h : MI G a) (ho : OkA e a) (hQ : ∀ G', Lay G'.2.2 → MI G' a → KM G G' → Q (rCell a x y) G') : EvL K mX12_cell 2 0 [(0, .ref 66), (1, .int x), (2, .int y)] [] G Q := by
  have w30 := ho.w30
  have b5 := ho.b5
  have h0 := h.th ho (v := 0)
  have l0 := ly_th hL (v := 0)
  have hr := hQ _ l0 h0 km_th
  have c := h0.c
  unfold rCell at hr
  refine kX12_cell_0 hL ?_
  generalize hG0 : uI G 66 0 0 = G0 at *
  refine s_X12_isSeen l0 (c.ms ho) ?_
  by_cases hx : snR a x
  · rw [if_pos hx]
    obtain ⟨r, hr1, er, hs⟩ := ho.sn hx
    have c4 := ho.c4 _ (ho.wb r hr1)
    obtain ⟨r1, r2, r3⟩ := c.ro.2.2 r hr1
    obtain ⟨a1, a2, a3, a4⟩ := c.tb.2.2 (a.w.2.1 r) r1
    rw [Nat.mul_zero, Nat.zero_add] at a2
    have ex : x.toInt.toNat = r := by rw [er, nI_nat (by omega)]
    rw [er]
    refine ⟨fun z => absurd z (by decide), fun _ => ?_⟩
    rw [show sI G0 77 (Int32.toNatClampNeg (nI r)) = nI (a.w.2.1 r) by rw [nI_clamp (by omega)]; exact r2, show sI G0 74 (Int32.toNatClampNeg (nI (a.w.2.1 r))) = nI (a.b.2.2.1 (a.w.2.1 r)) by rw [nI_clamp (by omega)]; exact a2]
    refine ⟨(vIn (by omega)).mpr (by omega), (vIn (by omega)).mpr (by omega), s_X12_within l0 ?_⟩
    rw [nI_dec (by omega)]
    rcases num_cases y (n := a.b.2.2.1 (a.w.2.1 r)) (by omega) with ⟨d, hc, ec⟩ | hno
    · have hy : inR y (a.b.2.2.1 (a.w.2.1 r)) := by rw [ec, inR_n (by omega)]; exact hc
      rw [if_pos (inR_w.mpr hy)]
      have hy' : inR y (a.b.2.2.1 (a.w.2.1 x.toInt.toNat)) := by rw [ex]; exact hy
      rw [if_pos ⟨hx, hy'⟩, ex, ec, nI_nat (by omega)] at hr
      have k6 := ho.tb _ _ r1 hc
      rw [ec]
      refine ⟨fun _ => ?_, fun z => absurd z (by decide)⟩
      have e78 := r3 d hc
      rw [show (4 : Int32) * nI r + nI d = nI (4 * r + d) by rw [show (4 : Int32) * nI r = nI (4 * r) from nMul]; exact nAdd, nI_clamp (by omega), e78]
      refine ⟨(vIn (by omega)).mpr (by omega), s_X12_kindOf l0 c.tb c.ro hr1 hc ?_⟩
      rw [show (5 : Int32) = nI 5 from rfl, nLe (by decide) (by omega)]
      refine ⟨fun z => ?_, fun z => ?_⟩
      · rw [if_pos z] at hr; exact hr
      · rw [if_neg z] at hr
        have hky : kyA a.b a.w a.S r d = if a.w.2.2 r d ≠ -1 ∧ a.S.testBit (nv (a.w.2.2 r d)) = true then some (nv (a.w.2.2 r d)) else none := by
          unfold kyA
          by_cases q : a.w.2.2 r d ≠ -1 ∧ a.S.testBit (nv (a.w.2.2 r d)) = true
          · rw [if_pos q, if_pos ⟨hc, by omega, q.1, q.2⟩]
          · rw [if_neg q, if_neg (fun y => q ⟨y.2.2.1, y.2.2.2⟩)]
        rcases ho.ro r d hr1 hc (by omega) with e1 | ⟨q, q1, q2, q3⟩
        · rw [e1, show Int64.toInt32 (-1) = -1 from rfl]
          refine s_X12_isSeenM l0 (c.ms ho) ⟨fun y => absurd rfl y, fun _ => ?_⟩
          rw [hky, if_neg (fun y => y.1 e1)] at hr
          exact hr
        · rw [q3, lN_i]
          have en : nv (a.w.2.2 r d) = q := by rw [q3]; exact nv_l (by omega)
          have ne1 : a.w.2.2 r d ≠ -1 := by
            rw [q3]
            intro y
            have := congrArg nv y
            rw [nv_l (by omega)] at this
            have e2 : nv (-1) = 18446744073709551615 := by decide
            omega
          rw [hky, en] at hr
          refine s_X12_isSeenN l0 (c.ms ho) (by omega) ?_
          by_cases hq : a.S.testBit q = true
          · rw [if_pos hq]
            rw [if_pos ⟨ne1, hq⟩] at hr
            refine ⟨fun _ => ?_, fun y => absurd y (by decide)⟩
            have : Int32.toInt64 (kyI (some q)) = lN q := nI_l (by omega)
            rw [this] at hr; exact hr
          · rw [if_neg hq]
            rw [if_neg (fun y => hq y.2)] at hr
            exact ⟨fun y => absurd rfl y, fun _ => hr⟩
    · rw [if_neg (fun z => hno (inR_w.mp z))]
      rw [if_neg (fun z => by
        have := z.2
        rw [ex] at this
        exact hno this)] at hr
      exact ⟨fun z => absurd rfl z, fun _ => hr⟩
  · rw [if_neg hx]
    rw [if_neg (fun z => hx z.1)] at hr
    exact ⟨fun _ => hr, fun z => absurd rfl z⟩
end COUNT

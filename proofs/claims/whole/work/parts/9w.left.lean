/-! left: both -/
noncomputable def hB (a : AS) (v : Nat) : Bool := dB (∃ s, s ∈ aL a.f a.S a.W ∧ sb v (ru (hdF a.P a.q.1) s))
def lfB (a : AS) (o : Nat) : Prop := 1 ≤ o ∧ o < 2 ^ a.q.1 - 1 ∧ hB a (2 ^ a.q.1 - 1 - o) = true
def isLf (a : AS) (o : Option Nat) : Prop := match o with
  | none => ∀ v, ¬ lfB a v
  | some o => lfB a o ∧ ∀ v, lfB a v → pc o < pc v ∨ pc o = pc v ∧ o ≤ v
noncomputable def leO (a : AS) : Option Nat := Classical.epsilon (isLf a)
theorem leO_eq {a : AS} {o : Option Nat} (h : isLf a o) : leO a = o := by
  have h2 : isLf a (leO a) := Classical.epsilon_spec ⟨o, h⟩
  generalize leO a = o2 at *
  cases o with
  | none =>
    cases o2 with
    | none => rfl
    | some v => exact absurd h2.1 (h v)
  | some v =>
    cases o2 with
    | none => exact absurd h.1 (h2 v)
    | some u =>
      have h1 := h.2 u h2.1
      have h3 := h2.2 v h.1
      rw [show u = v by omega]
noncomputable def rLeft (a : AS) : Int32 := if a.q.1 = 0 ∨ 0 < a.J.length then -1 else oI (leO a)
theorem and_i {a b : Nat} : nI a &&& nI b = nI (a &&& b) := by
  apply Int32.toBitVec_inj.mp
  show BitVec.ofNat 32 a &&& BitVec.ofNat 32 b = BitVec.ofNat 32 (a &&& b)
  apply BitVec.eq_of_getLsbD_eq
  intro i hi
  simp [BitVec.getLsbD_and, BitVec.getLsbD_ofNat, Nat.testBit_and, hi]
theorem and_sb {a b : Nat} : a &&& b = b ↔ sb b a := by
  constructor
  · intro h i hi
    have := congrArg (fun x => x.testBit i) h
    simp only [Nat.testBit_and, hi, Bool.and_true] at this
    exact this
  · intro h
    apply Nat.eq_of_testBit_eq
    intro i
    rw [Nat.testBit_and]
    cases z : b.testBit i
    · simp
    · rw [h i z]; rfl
theorem all_not {t o : Nat} (ht : t ≤ 4) (ho : o ≤ 2 ^ t - 1) : nI (2 ^ t - 1) &&& (nI o ^^^ (-1)) = nI (2 ^ t - 1 - o) := by
  have p : 2 ^ t ≤ 2 ^ 4 := Nat.pow_le_pow_right (by decide) ht
  have p1 : 1 ≤ 2 ^ t := Nat.one_le_two_pow
  refine and_not (by omega) (by omega) (by omega) (fun i => ?_)
  rw [show 2 ^ t - 1 - o = 2 ^ t - (o + 1) by omega, Nat.testBit_two_pow_sub_succ (by omega), Nat.testBit_two_pow_sub_one]
section LEFT
variable {K : KT} {G : St} {a : AS} {e : Nat}
theorem OkA.ru16 (_ : OkA e a) (s : Nat) : ru (hdF a.P a.q.1) s < 2 ^ a.q.1 := ru_lt (fun i => hdF_lt _ _ i)
theorem s_canBeHeld {Q : Int32 → St → Prop} {v : Nat} (hL : Lay G.2.2) (sr : XSr G a.f a.P a.q.1 a.S a.W) (ho : OkA e a) (hv : v < 16) (hQ : Q (if hB a v = true then 1 else 0) G) : EvI K mX6_canBeHeld 0 0 [(0, .ref 18), (1, .int (nI v))] [] G Q := by
  have q4 := ho.q4
  have p : 2 ^ a.q.1 ≤ 2 ^ 4 := Nat.pow_le_pow_right (by decide) q4
  have p1 : 1 ≤ 2 ^ a.q.1 := Nat.one_le_two_pow
  obtain ⟨s1, s2, s3, -⟩ := sr
  have cl : cov (hdF a.P a.q.1) (aL a.f a.S a.W) < 2 ^ 16 := cov_lt (fun s => by have := ho.ru16 s; omega)
  have key : ∀ (m c : Nat), c + m = 2 ^ a.q.1 → (∀ d, d < c → ¬ ((cov (hdF a.P a.q.1) (aL a.f a.S a.W)).testBit d = true ∧ sb v d)) → EvI K mX6_canBeHeld 0 2 [(0, .ref 18), (1, .int (nI v)), (2, .int (nI c))] [] G Q := by
    intro m
    induction m with
    | zero =>
      intro c hm hno
      refine kX6_canBeHeld_2 hL ?_
      rw [s2, nLt (by omega) (by omega)]
      refine ⟨fun _ => ?_, fun z => by omega⟩
      rw [if_neg (fun z => by
        obtain ⟨s, h1, h2⟩ := dB_iff.mp z
        have := ho.ru16 s
        exact hno _ (by omega) ⟨cov_bit.mpr ⟨s, h1, rfl⟩, h2⟩)] at hQ
      exact hQ
    | succ m ih =>
      intro c hm hno
      have next : ¬ ((cov (hdF a.P a.q.1) (aL a.f a.S a.W)).testBit c = true ∧ sb v c) → EvI K mX6_canBeHeld 0 30 [(0, .ref 18), (1, .int (nI v)), (2, .int (nI c))] [] G Q := by
        intro z
        refine kX6_canBeHeld_30 hL ?_
        rw [show nI c + 1 = nI (c + 1) from nAdd]
        refine ih (c + 1) (by omega) (fun d hd => ?_)
        rcases Nat.lt_succ_iff_lt_or_eq.mp hd with y | y
        · exact hno d y
        · rw [y]; exact z
      refine kX6_canBeHeld_2 hL ?_
      have hcv : c &&& v < 2147483648 := by have := Nat.and_le_right (n := c) (m := v); omega
      rw [s2, s3, bit_at (by omega) (by omega), nLt (by omega) (by omega), and_i, nEq hcv (by omega), and_sb]
      refine ⟨fun z => by omega, fun _ => ?_⟩
      by_cases b : (cov (hdF a.P a.q.1) (aL a.f a.S a.W)).testBit c = true
      · rw [if_pos b]
        refine ⟨fun z => absurd z (by decide), fun _ => ⟨fun z => next (fun y => z y.2), fun z => ?_⟩⟩
        obtain ⟨s, h1, h2⟩ := cov_bit.mp b
        have hb : hB a v = true := dB_iff.mpr ⟨s, h1, by rw [h2]; exact z⟩
        rw [if_pos hb] at hQ
        exact hQ
      · rw [if_neg b]
        exact ⟨fun _ => next (fun y => b y.1), fun z => absurd rfl z⟩
  exact kX6_canBeHeld_0 hL (key (2 ^ a.q.1) 0 (by omega) (fun d hd => absurd hd (Nat.not_lt_zero _)))
theorem x_left {Q : Int32 → St → Prop} (h : XI e sen G a) (ho : OkA e a) (hQ : ∀ G', XI e sen G' a → KX G G' → Q (rLeft a) G') : EvIa K mX11_left 11 0 [(0, .ref 1)] [] G Q := by
  have q4 := ho.q4
  have jl := ho.Jl
  have p : 2 ^ a.q.1 ≤ 2 ^ 4 := Nat.pow_le_pow_right (by decide) q4
  have p1 : 1 ≤ 2 ^ a.q.1 := Nat.one_le_two_pow
  refine kX11_left_0 h.lay (s_searched h ho (fun q0 => ⟨h.lay, fun _ => ?_, fun z => absurd rfl z⟩) (fun G1 q0 h1 k1 f1 => ⟨h1.lay, fun z => absurd z (by decide), fun _ => ?_⟩))
  · have hr := hQ G h Kg.rf
    unfold rLeft at hr
    rw [if_pos (Or.inl q0)] at hr; exact hr
  have hr := hQ G1 h1 k1.kx
  unfold rLeft at hr
  obtain ⟨-, -, -, sd⟩ := h1.fs f1
  obtain ⟨s1, s2, s3, s4, s5, s6, s7⟩ := id sd.sr
  have hL1 := h1.lay
  have e17 : sI G1 18 17 = nI a.J.length := by rw [jl_t q0]; exact s7.1
  refine kX6_leftOut_0 hL1 ?_
  rw [e17, show (0 : Int32) = nI 0 from rfl, nLe (by omega) (by decide)]
  refine ⟨fun z => ?_, fun z => by rw [if_pos (Or.inr (by omega))] at hr; exact hr⟩
  rw [if_neg (by omega)] at hr
  -- pc of parts
  have pcl : ∀ o, o < 2 ^ a.q.1 - 1 → pc o < a.q.1 := fun o ho' => pc_below (by omega) ho'
  have pc1 : ∀ o, 1 ≤ o → o < 16 → 1 ≤ pc o := fun o h1 h2 => by
    have h3 := pc_pos (s := o) (show o < 2 ^ 32 by omega)
    rcases Nat.eq_zero_or_pos (pc o) with y | y
    · have := h3.mp y; omega
    · exact y
  have sizes : ∀ (d k : Nat), k + d = a.q.1 → 1 ≤ k → (∀ o, lfB a o → k ≤ pc o) → EvI K mX6_leftOut 1 11 [(0, .ref 18), (1, .int (nI k))] [] G1 Q := by
    intro d
    induction d with
    | zero =>
      intro k hd k1' hall
      refine kX6_leftOut_11 hL1 ?_
      rw [s1, show k = a.q.1 by omega]
      refine ⟨fun _ => ?_, fun z => absurd (Int32.le_refl _) z⟩
      have : isLf a none := fun v hv => by
        have h1 := hall v hv
        have h2 := pcl v hv.2.1
        omega
      rw [leO_eq this] at hr
      exact hr
    | succ d ih =>
      intro k hd k1' hall
      refine kX6_leftOut_11 hL1 ?_
      rw [s1, nLe (by omega) (by omega)]
      refine ⟨fun z => by omega, fun _ => ?_⟩
      have outs : ∀ (m o : Nat), o + m = 2 ^ a.q.1 - 1 → 1 ≤ o → (∀ v, lfB a v → pc v = k → o ≤ v) → EvI K mX6_leftOut 1 21 [(0, .ref 18), (1, .int (nI k)), (2, .int (nI o))] [] G1 Q := by
        intro m
        induction m with
        | zero =>
          intro o hm o1 hno
          refine kX6_leftOut_21 hL1 ?_
          rw [s2, show o = 2 ^ a.q.1 - 1 by omega, show nI k + 1 = nI (k + 1) from nAdd]
          refine ⟨fun _ => ih (k + 1) (by omega) (by omega) (fun v hv => ?_), fun z => absurd (Int32.le_refl _) z⟩
          have h1 := hall v hv
          by_cases y : pc v = k
          · have := hno v hv y
            have := hv.2.1
            omega
          · omega
        | succ m ihm =>
          intro o hm o1 hno
          have pl := pc_le o
          have next : ¬ (pc o = k ∧ hB a (2 ^ a.q.1 - 1 - o) = true) → EvI K mX6_leftOut 1 54 [(0, .ref 18), (1, .int (nI k)), (2, .int (nI o))] [] G1 Q := by
            intro z
            refine kX6_leftOut_54 hL1 ?_
            rw [show nI o + 1 = nI (o + 1) from nAdd]
            refine ihm (o + 1) (by omega) (by omega) (fun v hv hpv => ?_)
            have h1 := hno v hv hpv
            rcases Nat.eq_or_lt_of_le h1 with y | y
            · rw [← y] at hv hpv
              exact absurd ⟨hpv, hv.2.2⟩ z
            · exact y
          refine kX6_leftOut_21 hL1 ?_
          rw [s2, nLe (by omega) (by omega)]
          refine ⟨fun z => by omega, fun _ => s_bitCount (by omega) hL1 ?_⟩
          rw [nEq (by omega) (by omega), s2, all_not q4 (by omega)]
          refine ⟨fun z => next (fun y => z y.1), fun z => s_canBeHeld hL1 sd.sr ho (by omega) ?_⟩
          by_cases b : hB a (2 ^ a.q.1 - 1 - o) = true
          · rw [if_pos b]
            refine ⟨fun y => absurd y (by decide), fun _ => ?_⟩
            have : isLf a (some o) := ⟨⟨o1, by omega, b⟩, fun v hv => by
              have h1 := hall v hv
              by_cases y : pc v = k
              · have := hno v hv y
                omega
              · omega⟩
            rw [leO_eq this] at hr
            exact hr
          · rw [if_neg b]
            exact ⟨fun _ => next (fun y => b y.2), fun y => absurd rfl y⟩
      by_cases q1 : 1 ≤ 2 ^ a.q.1 - 1
      · exact outs (2 ^ a.q.1 - 1 - 1) 1 (by omega) (Nat.le_refl _) (fun v hv _ => hv.1)
      · have : 2 ^ 1 ≤ 2 ^ a.q.1 := Nat.pow_le_pow_right (by decide) (by omega)
        omega
  exact sizes (a.q.1 - 1) 1 (by omega) (Nat.le_refl _) (fun o ho' => pc1 o ho'.1 (by have := ho'.2.1; omega))
theorem s_isHeld {Q : Int32 → St → Prop} {v : Nat} (hL : Lay G.2.2) (c : MC G a) (f1 : MF G a) (ho : OkA e a) (hv : v < 16) (hQ : Q (if hB a v = true then 1 else 0) G) : EvI K mX12_isHeld 2 0 [(0, .ref 66), (1, .int (nI v))] [] G Q := by
  have q4 := ho.q4
  have w30 := ho.w30
  have W5 := ho.W5
  have p : 2 ^ a.q.1 ≤ 2 ^ 4 := Nat.pow_le_pow_right (by decide) q4
  have pn : 2 ^ a.w.1 ≤ 2 ^ 30 := Nat.pow_le_pow_right (by decide) w30
  have hSn := ho.Sn
  have s30 := ho.S30
  have hf := ho.f'
  have no : (∀ s, s ∈ aL a.f a.S a.W → ¬ sb v (ru (hdF a.P a.q.1) s)) → Q 0 G := fun z => by
    rw [if_neg (fun y => by
      obtain ⟨s, h1, h2⟩ := dB_iff.mp y
      exact z s h1 h2)] at hQ
    exact hQ
  have sets : ∀ (fuel s m : Nat), 2 ^ a.w.1 ≤ s + fuel → s < 2147483648 → s ≠ 0 → pc s = m → 1 ≤ m → m ≤ a.W → (∀ u, u ∈ AL (tdF a.f) a.S (m - 1) ++ ls (isC (tdF a.f) a.S m) s → ¬ sb v (ru (hdF a.P a.q.1) u)) → ((∀ u, u ∈ AL (tdF a.f) a.S m → ¬ sb v (ru (hdF a.P a.q.1) u)) → EvI K mX12_isHeld 2 2 [(0, .ref 66), (1, .int (nI v)), (2, .int (nI (m + 1)))] [] G Q) → EvI K mX12_isHeld 2 24 [(0, .ref 66), (1, .int (nI v)), (2, .int (nI m)), (3, .int (nI s))] [] G Q := by
    intro fuel
    have stop : ∀ (s m : Nat), 2 ^ a.w.1 ≤ s → 1 ≤ m → (∀ u, u ∈ AL (tdF a.f) a.S (m - 1) ++ ls (isC (tdF a.f) a.S m) s → ¬ sb v (ru (hdF a.P a.q.1) u)) → ((∀ u, u ∈ AL (tdF a.f) a.S m → ¬ sb v (ru (hdF a.P a.q.1) u)) → EvI K mX12_isHeld 2 2 [(0, .ref 66), (1, .int (nI v)), (2, .int (nI (m + 1)))] [] G Q) → EvI K mX12_isHeld 2 2 [(0, .ref 66), (1, .int (nI v)), (2, .int (nI m + 1))] [] G Q := by
      intro s m hs m1 hl hgo
      have eA : AL (tdF a.f) a.S (m - 1) ++ ls (isC (tdF a.f) a.S m) s = AL (tdF a.f) a.S m := by
        rw [w_end hSn w30 hs]
        conv => rhs; rw [show m = (m - 1) + 1 by omega, AL, show m - 1 + 1 = m by omega]
      rw [eA] at hl
      rw [show nI m + 1 = nI (m + 1) from nAdd]
      exact hgo hl
    induction fuel with
    | zero =>
      intro s m hfu hs31 hs0 hpc m1 mW hl hgo
      refine kX12_isHeld_24 hL ?_
      rw [c.ro.1, shl_one (by omega), nLe (by omega) (by omega)]
      exact ⟨fun u => stop s m u m1 hl hgo, fun u => by omega⟩
    | succ fuel ih =>
      intro s m hfu hs31 hs0 hpc m1 mW hl hgo
      refine kX12_isHeld_24 hL ?_
      rw [c.ro.1, shl_one (by omega), nLe (by omega) (by omega), f1.se]
      refine ⟨fun u => stop s m u m1 hl hgo, fun u => ?_⟩
      have hs30 : s < 1073741824 := by omega
      have next : (isC (tdF a.f) a.S m s = true → ¬ sb v (ru (hdF a.P a.q.1) s)) → EvI K mX12_isHeld 2 67 [(0, .ref 66), (1, .int (nI v)), (2, .int (nI m)), (3, .int (nI s))] [] G Q := by
        intro hno
        refine kX12_isHeld_67 hL (s_nextOf hs0 (by omega) hL (fun t t1 t2 t3 t4 => ?_))
        have e1 := w_next (td := tdF a.f) (S := a.S) (m := m) t1 (fun v v1 v2 => by rw [← hpc]; exact t4 v v1 v2)
        refine ih t m (by omega) t2 (by omega) (by rw [t3, hpc]) m1 mW (fun x hx => ?_) hgo
        rw [e1, ls] at hx
        by_cases hc : isC (tdF a.f) a.S m s = true
        · rw [if_pos hc, ← List.append_assoc] at hx
          rcases List.mem_append.mp hx with y | y
          · exact hl x y
          · rw [List.mem_singleton] at y; rw [y]; exact hno hc
        · rw [if_neg hc] at hx; exact hl x hx
      rw [w_in hs30 s30]
      refine ⟨fun u2 => next (fun hc => absurd (dB_iff.mp hc).1 u2), fun u2 => s_heldIn hL f1.ht q4 hs30 ?_⟩
      have rl := ho.ru16 s
      rw [w_in (by omega) (by omega)]
      refine ⟨fun u3 => next (fun _ => u3), fun u3 => s_hang hL f1.ti hf hs30 hs0 ?_⟩
      by_cases hcn : dB (Cn (tdF a.f) s) = true
      · rw [if_pos hcn]
        refine ⟨fun y => absurd y (by decide), fun _ => ?_⟩
        have hc : isC (tdF a.f) a.S m s = true := dB_iff.mpr ⟨u2, hpc, dB_iff.mp hcn⟩
        have hm : s ∈ aL a.f a.S a.W := (AL_mem (show a.S < 2 ^ 30 from s30)).mpr ⟨u2, by omega, by omega, dB_iff.mp hcn⟩
        have hb : hB a v = true := dB_iff.mpr ⟨s, hm, u3⟩
        rw [if_pos hb] at hQ
        exact hQ
      · rw [if_neg hcn]
        exact ⟨fun _ => next (fun hc => absurd (dB_iff.mpr (dB_iff.mp hc).2.2) hcn), fun y => absurd rfl y⟩
  have sizes : ∀ (d m : Nat), m + d = a.W + 1 → 1 ≤ m → (∀ u, u ∈ AL (tdF a.f) a.S (m - 1) → ¬ sb v (ru (hdF a.P a.q.1) u)) → EvI K mX12_isHeld 2 2 [(0, .ref 66), (1, .int (nI v)), (2, .int (nI m))] [] G Q := by
    intro d
    induction d with
    | zero =>
      intro m hd m1 hl
      refine kX12_isHeld_2 hL ?_
      rw [c.wi, nLt (by omega) (by omega)]
      refine ⟨fun _ => no (fun s hs => hl s ?_), fun u => by omega⟩
      rw [show m - 1 = a.W by omega]; exact hs
    | succ d ih =>
      intro m hd m1 hl
      refine kX12_isHeld_2 hL ?_
      rw [c.wi, c.ro.1, nLt (by omega) (by omega), nLt (by omega) (by omega)]
      refine ⟨fun u => by omega, fun _ => ⟨fun u => no (fun s hs => hl s ?_), fun u => ?_⟩⟩
      · have := w_more (td := tdF a.f) s30 hSn w30 u (a.W - (m - 1))
        rw [show m - 1 + (a.W - (m - 1)) = a.W by omega] at this
        rw [← this]; exact hs
      · have p2 : 2 ^ 1 ≤ 2 ^ m := Nat.pow_le_pow_right (by decide) m1
        have p3 : 2 ^ m ≤ 2 ^ 5 := Nat.pow_le_pow_right (by decide) (by omega)
        rw [shl_one (by omega), nSubR (by exact Nat.one_le_two_pow)]
        have e0 := w_first (td := tdF a.f) (S := a.S) (m := m) (by omega)
        exact sets (2 ^ a.w.1) (2 ^ m - 1) m (by omega) (by omega) (by omega) (pc_ones (by omega)) m1 (by omega) (by rw [e0, List.append_nil]; exact hl) (fun hl2 => ih (m + 1) (by omega) (by omega) (by rw [show m + 1 - 1 = m by omega]; exact hl2))
  exact kX12_isHeld_0 hL (sizes a.W 1 (by omega) (Nat.le_refl _) (fun u hu => by cases hu))
theorem m_left {Q : Int32 → St → Prop} (hL : Lay G.2.2) (h : MI G a) (ho : OkA e a) (hQ : ∀ G', Lay G'.2.2 → MI G' a → KM G G' → Q (rLeft a) G') : EvI K mX12_left 6 0 [(0, .ref 66)] [] G Q := by
  have q4 := ho.q4
  have jl := ho.Jl
  have p : 2 ^ a.q.1 ≤ 2 ^ 4 := Nat.pow_le_pow_right (by decide) q4
  have p1 : 1 ≤ 2 ^ a.q.1 := Nat.one_le_two_pow
  refine kX12_left_0 hL (s_find0 hL h ho (fun G1 l1 h1 f1 k1 => ?_))
  have hr := hQ G1 l1 h1 k1
  unfold rLeft at hr
  have c := h1.c
  rw [c.tq.1, f1.or.1.1, show (0 : Int32) = nI 0 from rfl, nEq (by omega) (by decide), nLe (by omega) (by decide)]
  refine ⟨fun z => by rw [if_pos (Or.inl z)] at hr; exact hr, fun z1 => ⟨fun z => ?_, fun z => by rw [if_pos (Or.inr (by omega))] at hr; exact hr⟩⟩
  rw [if_neg (by omega)] at hr
  rw [shl_one (by omega), nSubR (by exact p1)]
  show EvI K mX12_left 6 38 [(0, .ref 66), (1, .int (nI (2 ^ a.q.1 - 1))), (2, .int (oI none)), (3, .int (nI 1))] [] G1 Q
  have loop : ∀ (m o : Nat) (b : Option Nat), o + m = 2 ^ a.q.1 - 1 → 1 ≤ o → (match b with
      | none => ∀ v, lfB a v → o ≤ v
      | some u => lfB a u ∧ u < o ∧ ∀ v, lfB a v → v < o → pc u < pc v ∨ pc u = pc v ∧ u ≤ v) → EvI K mX12_left 6 38 [(0, .ref 66), (1, .int (nI (2 ^ a.q.1 - 1))), (2, .int (oI b)), (3, .int (nI o))] [] G1 Q := by
    intro m
    induction m with
    | zero =>
      intro o b hm o1 hb
      refine kX12_left_38 l1 ?_
      rw [show o = 2 ^ a.q.1 - 1 by omega]
      refine ⟨fun _ => ?_, fun u => absurd (Int32.le_refl _) u⟩
      have : isLf a b := by
        cases b with
        | none => exact fun v hv => by have := hb v hv; have := hv.2.1; omega
        | some u => exact ⟨hb.1, fun v hv => hb.2.2 v hv (by have := hv.2.1; omega)⟩
      rw [leO_eq this] at hr
      exact hr
    | succ m ih =>
      intro o b hm o1 hb
      have go : ∀ b' : Option Nat, (match b' with
          | none => ∀ v, lfB a v → o + 1 ≤ v
          | some u => lfB a u ∧ u < o + 1 ∧ ∀ v, lfB a v → v < o + 1 → pc u < pc v ∨ pc u = pc v ∧ u ≤ v) → EvI K mX12_left 6 72 [(0, .ref 66), (1, .int (nI (2 ^ a.q.1 - 1))), (2, .int (oI b')), (3, .int (nI o))] [] G1 Q := by
        intro b' hb'
        refine kX12_left_72 l1 ?_
        rw [show nI o + 1 = nI (o + 1) from nAdd]
        exact ih (o + 1) b' (by omega) (by omega) hb'
      have keep : ¬ lfB a o → EvI K mX12_left 6 72 [(0, .ref 66), (1, .int (nI (2 ^ a.q.1 - 1))), (2, .int (oI b)), (3, .int (nI o))] [] G1 Q := by
        intro hno
        refine go b ?_
        cases b with
        | none =>
          intro v hv
          have := hb v hv
          rcases Nat.eq_or_lt_of_le this with y | y
          · rw [← y] at hv; exact absurd hv hno
          · exact y
        | some u =>
          refine ⟨hb.1, by have := hb.2.1; omega, fun v hv hvo => ?_⟩
          rcases Nat.lt_succ_iff_lt_or_eq.mp hvo with y | y
          · exact hb.2.2 v hv y
          · rw [y] at hv; exact absurd hv hno
      -- it may be better
      have try' : (∀ u, b = some u → pc o < pc u) → EvI K mX12_left 6 58 [(0, .ref 66), (1, .int (nI (2 ^ a.q.1 - 1))), (2, .int (oI b)), (3, .int (nI o))] [] G1 Q := by
        intro hlt
        refine kX12_left_58 l1 ?_
        rw [all_not q4 (by omega)]
        refine s_isHeld l1 c f1 ho (by omega) ?_
        by_cases hh : hB a (2 ^ a.q.1 - 1 - o) = true
        · rw [if_pos hh]
          refine ⟨fun y => absurd y (by decide), fun _ => go (some o) ?_⟩
          refine ⟨⟨o1, by omega, hh⟩, by omega, fun v hv hvo => ?_⟩
          rcases Nat.lt_succ_iff_lt_or_eq.mp hvo with y | y
          · cases b with
            | none => have := hb v hv; omega
            | some u =>
              have h1 := hlt u rfl
              have h2 := hb.2.2 v hv y
              omega
          · rw [y]; exact Or.inr ⟨rfl, Nat.le_refl _⟩
        · rw [if_neg hh]
          exact ⟨fun _ => keep (fun y => hh y.2.2), fun y => absurd rfl y⟩
      refine kX12_left_38 l1 ?_
      rw [nLe (by omega) (by omega)]
      refine ⟨fun u => by omega, fun _ => ?_⟩
      cases b with
      | none => exact ⟨fun _ => try' (fun u hu => by cases hu), fun u => absurd (by decide) u⟩
      | some u =>
        have hu := hb.2.1
        have p1' := pc_le o
        have p2' := pc_le u
        refine ⟨fun y => absurd y (nI_pos (by omega)), fun _ => s_bits l1 (by omega) (s_bits l1 (by omega) ?_)⟩
        rw [nLe (by omega) (by omega)]
        refine ⟨fun y => ?_, fun y => try' (fun w hw => by cases hw; omega)⟩
        refine go (some u) ⟨hb.1, by omega, fun v hv hvo => ?_⟩
        rcases Nat.lt_succ_iff_lt_or_eq.mp hvo with x | x
        · exact hb.2.2 v hv x
        · rw [x]; omega
  by_cases q1 : 1 ≤ 2 ^ a.q.1 - 1
  · exact loop (2 ^ a.q.1 - 1 - 1) 1 none (by omega) (Nat.le_refl _) (fun v hv => hv.1)
  · have : 2 ^ 1 ≤ 2 ^ a.q.1 := Nat.pow_le_pow_right (by decide) (by omega)
    omega
end LEFT

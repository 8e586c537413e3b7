/-! judged, meant: both -/
def rJud (a : AS) (x : Int32) : Int32 := if x = 0 then nI a.m.1 else if x = 1 then nI (fb_ct a.m.2.1 a.m.1) else if x = 2 then nI (fb_ct a.m.2.2 a.m.1) else -1
noncomputable def atO (a : AS) (s : Nat) : Bool := dB (∃ k : Nat, a.O[k]? = some s)
noncomputable def f3O (a : AS) (s : Nat) : Bool := dB (∃ k : Nat, k < 3 ∧ a.O[k]? = some s)
noncomputable def meA (a : AS) (s : Nat) : AS := (a.T, a.b, a.w, a.q, a.d, a.p, a.W, a.l, a.ch, (a.m.1 + 1, (fun k => if k = a.m.1 then f3O a s else a.m.2.1 k), fun k => if k = a.m.1 then atO a s else a.m.2.2 k))
abbrev meB (a : AS) (x : Int32) : Prop := a.q.1 ≠ 0 ∧ a.m.1 ≠ 40 ∧ 0 < x.toInt ∧ x.toInt < 2 ^ a.w.1
theorem i3 {x : Int32} (h1 : 0 ≤ x.toInt) (h2 : x.toInt ≤ 2) : x = 0 ∨ x = 1 ∨ x = 2 := by
  rw [fa_eq, fa_eq, fa_eq, show (0 : Int32).toInt = 0 from rfl, show (1 : Int32).toInt = 1 from rfl, show (2 : Int32).toInt = 2 from rfl]
  omega
section MEANT
variable {K : KT} {G : St} {a : AS} {e : Nat}
theorem OkA.me (ho : OkA e a) {s : Nat} (h : a.m.1 ≠ 40) : OkA e (meA a s) := ⟨ho.b5, ho.c4, ho.tb, ho.ds, ho.nm, ho.w30, ho.wb, ho.ro, ho.cl, ho.q4, ho.q3, ho.qu, ho.p4, ho.W1, ho.W5, ho.dn, ho.lt, ho.l20, ho.ch, (by have := ho.m40; show a.m.1 + 1 ≤ 40; omega), ho.tp⟩
theorem x_judged {Q : Int32 → St → Prop} {x : Int32} (h : XI e sen G a) (hQ : ∀ G', XI e sen G' a → KX G G' → Q (rJud a x) G') : EvI K mX11_judged 0 0 [(0, .ref 1), (1, .int x)] [] G Q := by
  refine kX11_judged_0 h.lay ?_
  have hr := hQ G h Kg.rf
  unfold rJud at hr
  rw [fa_lt, fa_le, show (0 : Int32).toInt = 0 from rfl, show (nI 3).toInt = 3 from rfl]
  refine ⟨fun z => ?_, fun z => ⟨fun z2 => ?_, fun z2 => ?_⟩⟩
  · rw [if_neg (fun y => by rw [y] at z; exact absurd z (by decide)), if_neg (fun y => by rw [y] at z; exact absurd z (by decide)), if_neg (fun y => by rw [y] at z; exact absurd z (by decide))] at hr
    exact hr
  · rw [if_neg (fun y => by rw [y] at z2; exact absurd z2 (by decide)), if_neg (fun y => by rw [y] at z2; exact absurd z2 (by decide)), if_neg (fun y => by rw [y] at z2; exact absurd z2 (by decide))] at hr
    exact hr
  · rcases i3 (x := x) (by omega) (by omega) with y | y | y
    · rw [if_pos y] at hr; rw [y]; exact ⟨by unfold vp_in; decide, by rw [show Int32.toNatClampNeg 0 = 0 from rfl, h.c.m0]; exact hr⟩
    · rw [if_neg (by rw [y]; decide), if_pos y] at hr; rw [y]; exact ⟨by unfold vp_in; decide, by rw [show Int32.toNatClampNeg 1 = 1 from rfl, h.c.m1]; exact hr⟩
    · rw [if_neg (by rw [y]; decide), if_neg (by rw [y]; decide), if_pos y] at hr; rw [y]; exact ⟨by unfold vp_in; decide, by rw [show Int32.toNatClampNeg 2 = 2 from rfl, h.c.m2]; exact hr⟩
theorem m_judged {Q : Int32 → St → Prop} {x : Int32} (hL : Lay G.2.2) (h : MI G a) (ho : OkA e a) (hQ : ∀ G', Lay G'.2.2 → MI G' a → KM G G' → Q (rJud a x) G') : EvI K mX12_judged 1 0 [(0, .ref 66), (1, .int x)] [] G Q := by
  have m40 := ho.m40
  have h0 := h.th ho (v := 0)
  have c := h0.c
  have l0 := ly_th hL (v := 0)
  have hr := hQ _ l0 h0 km_th
  generalize hG0 : uI G 66 0 0 = G0 at *
  unfold rJud at hr
  refine kX12_judged_0 hL ?_
  rw [hG0]
  refine s_X12_within l0 ?_
  rw [show (0 : Int32).toInt = 0 from rfl, show (2 : Int32).toInt = 2 from rfl]
  by_cases hx : 0 ≤ x.toInt ∧ x.toInt ≤ 2
  · rw [if_pos hx]
    refine ⟨fun _ => ?_, fun z => absurd z (by decide)⟩
    have key : ∀ (p : Nat → Bool), (∀ k v, k < a.m.1 → EvI K mX12_judged 1 64 [(0, .ref 66), (1, .int x), (3, .int (nI k))] [.int (if p k = true then 1 else 0), .int (nI v)] G0 Q → EvI K mX12_judged 1 20 [(0, .ref 66), (1, .int x), (2, .int (nI v)), (3, .int (nI k))] [] G0 Q) → Q (nI (fb_ct p a.m.1)) G0 → ∀ (m k : Nat), k + m = a.m.1 → EvI K mX12_judged 1 20 [(0, .ref 66), (1, .int x), (2, .int (nI (fb_ct p k))), (3, .int (nI k))] [] G0 Q := by
      intro p hp hq m
      induction m with
      | zero =>
        intro k hm
        refine kX12_judged_20 l0 ?_
        rw [c.m0, show k = a.m.1 by omega]
        exact ⟨fun _ => hq, fun z => absurd (Int32.le_refl _) z⟩
      | succ m ih =>
        intro k hm
        refine hp k _ (by omega) (kX12_judged_64 l0 ?_)
        have := ih (k + 1) (by omega)
        rw [fb_ct] at this
        rw [show nI k + 1 = nI (k + 1) from nAdd]
        have e1 : nI (fb_ct p k) + (if p k = true then 1 else 0) = nI (fb_ct p k + if p k = true then 1 else 0) := by
          split
          · exact nAdd
          · exact nAdd (b := 0)
        rw [e1]; exact this
    have le : ∀ k, k < a.m.1 → ¬ nI a.m.1 ≤ nI k := fun k hk z => by rw [nLe (by omega) (by omega)] at z; omega
    rcases i3 hx.1 hx.2 with y | y | y
    · rw [if_pos y] at hr
      have : fb_ct (fun _ => true) a.m.1 = a.m.1 := by
        have : ∀ n, fb_ct (fun _ => true) n = n := by
          intro n
          induction n with
          | zero => rfl
          | succ n ih => rw [fb_ct, ih]; rfl
        exact this _
      refine key (fun _ => true) (fun k v hk hgo => kX12_judged_20 l0 ?_) (by rw [this]; exact hr) a.m.1 0 (by omega)
      rw [c.m0]
      exact ⟨fun z => absurd z (le k hk), fun _ => ⟨fun _ => hgo, fun z => absurd y z⟩⟩
    · rw [if_neg (by rw [y]; decide), if_pos y] at hr
      refine key a.m.2.1 (fun k v hk hgo => kX12_judged_20 l0 ?_) hr a.m.1 0 (by omega)
      rw [c.m0, show sI G0 101 (Int32.toNatClampNeg (nI k)) = if a.m.2.1 k = true then 1 else 0 by rw [nI_clamp (by omega)]; exact (c.mm k hk).1]
      refine ⟨fun z => absurd z (le k hk), fun _ => ⟨fun z => absurd z (by rw [y]; decide), fun _ => ⟨fun z => absurd y z, fun _ => ⟨(vIn (by omega)).mpr (by omega), fun z => kX12_judged_63 l0 ?_, fun z => ?_⟩⟩⟩⟩
      · by_cases b : a.m.2.1 k = true
        · rw [if_pos b] at z; exact absurd z (by decide)
        · rw [if_neg b] at hgo; exact hgo
      · by_cases b : a.m.2.1 k = true
        · rw [if_pos b] at hgo; exact hgo
        · rw [if_neg b] at z; exact absurd rfl z
    · rw [if_neg (by rw [y]; decide), if_neg (by rw [y]; decide), if_pos y] at hr
      refine key a.m.2.2 (fun k v hk hgo => kX12_judged_20 l0 ?_) hr a.m.1 0 (by omega)
      rw [c.m0, show sI G0 102 (Int32.toNatClampNeg (nI k)) = if a.m.2.2 k = true then 1 else 0 by rw [nI_clamp (by omega)]; exact (c.mm k hk).2]
      refine ⟨fun z => absurd z (le k hk), fun _ => ⟨fun z => absurd z (by rw [y]; decide), fun _ => ⟨fun _ => ⟨(vIn (by omega)).mpr (by omega), fun z => kX12_judged_63 l0 ?_, fun z => ?_⟩, fun z => absurd z (by rw [y]; decide)⟩⟩⟩
      · by_cases b : a.m.2.2 k = true
        · rw [if_pos b] at z; exact absurd z (by decide)
        · rw [if_neg b] at hgo; exact hgo
      · by_cases b : a.m.2.2 k = true
        · rw [if_pos b] at hgo; exact hgo
        · rw [if_neg b] at z; exact absurd rfl z
  · rw [if_neg hx]
    rw [if_neg (fun y => hx (by rw [y]; decide)), if_neg (fun y => hx (by rw [y]; decide)), if_neg (fun y => hx (by rw [y]; decide))] at hr
    exact ⟨fun z => absurd rfl z, fun _ => hr⟩
/-- which sets may be meant -/
theorem told_and {n w : Nat} (hn : n < 4294967296) (hw : w ≤ 30) : (nI n &&& (nI (2 ^ w - 1) ^^^ (-1)) = 0) ↔ n < 2 ^ w := by
  have pw : 2 ^ w ≤ 2 ^ 30 := Nat.pow_le_pow_right (by decide) hw
  have pp : 0 < 2 ^ w := Nat.pow_pos (by decide)
  have hc : n - n % 2 ^ w < 4294967296 := by omega
  have md : n % 2 ^ w < 2 ^ w := Nat.mod_lt _ pp
  have bits : ∀ i, (n - n % 2 ^ w).testBit i = (n.testBit i && !(2 ^ w - 1).testBit i) := by
    intro i
    have e1 : n - n % 2 ^ w = 2 ^ w * (n / 2 ^ w) := by have := Nat.div_add_mod n (2 ^ w); omega
    rw [e1, Nat.testBit_two_pow_mul, Nat.testBit_two_pow_sub_one]
    by_cases h : w ≤ i
    · rw [Nat.testBit_div_two_pow]
      have : ¬ i < w := by omega
      simp [h, this]
    · have : i < w := by omega
      simp [h, this]
  rw [and_not (c := n - n % 2 ^ w) hn (by omega) hc bits]
  constructor
  · intro z
    rcases Nat.lt_or_ge n (2 ^ w) with y | y
    · exact y
    · exfalso
      have e0 : n - n % 2 ^ w = 0 := by
        have h1 := congrArg Int32.toBitVec z
        have h2 := congrArg BitVec.toNat h1
        rw [show (nI (n - n % 2 ^ w)).toBitVec = BitVec.ofNat 32 (n - n % 2 ^ w) from rfl, BitVec.toNat_ofNat, Nat.mod_eq_of_lt hc] at h2
        exact h2
      omega
  · intro z
    rw [Nat.mod_eq_of_lt z, Nat.sub_self]; rfl
theorem dB_c {p : Prop} [Decidable p] : dB p = decide p := by
  by_cases h : p
  · rw [dB_iff.mpr h, decide_eq_true h]
  · rw [decide_eq_false h]; exact dB_no.mpr h
theorem x_meant {Q : Int32 → St → Prop} {x : Int32} (h : XI e sen G a) (ho : OkA e a) (hQ0 : ∀ G', XI e sen G' a → KX G G' → ¬ meB a x → Q (-1) G') (hQ : ∀ G' s, meB a x → x = nI s → s < 1073741824 → XI e sen G' (meA a s) → KX G G' → Q (nI a.m.1) G') : EvIa K mX11_meant 11 0 [(0, .ref 1), (1, .int x)] [] G Q := by
  have hL := h.lay
  have hh := lay_h hL
  have w30 := ho.w30
  have m40 := ho.m40
  have pw : 2 ^ a.w.1 ≤ 2 ^ 30 := Nat.pow_le_pow_right (by decide) w30
  have pp : 1 ≤ 2 ^ a.w.1 := Nat.one_le_two_pow
  obtain ⟨n, hn, en⟩ := wb_of32 x
  have hn : n < 4294967296 := hn
  have main : ∀ v : Int32, (v = if a.m.1 = 40 then 1 else 0) → EvIa K mX11_meant 11 16 [(0, .ref 1), (1, .int x)] [.int v] G Q := by
    intro v hv
    refine kX11_meant_16 hL ⟨fun z => hQ0 G h Kg.rf (fun y => by rw [z] at y; exact absurd y.2.2.1 (by decide)), fun z => kX1_told_0 hL (by omega) ?_⟩
    rw [h.c.ro.1, shl_one (by omega), nSubR (by exact pp), en]
    rw [show (OfNat.ofNat 1 : Nat) = 1 from rfl, told_and hn w30]
    have toI : n < 2 ^ a.w.1 → x.toInt = n := fun y => by rw [en, nI_toInt (by omega)]
    refine ⟨fun z2 => hQ0 G h Kg.rf (fun y => ?_), fun z2 => ⟨fun z3 => hQ0 G h Kg.rf (fun y => z3 (by rw [hv, if_neg y.2.1])), fun z3 => ?_⟩⟩
    · -- not told: it is negative or too large
      have y3 := y.2.2.1
      have y4 := y.2.2.2
      have y5 : x.toInt < ((2 ^ a.w.1 : Nat) : Int) := by exact_mod_cast y4
      have e1 : x = nI x.toInt.toNat := by rw [fa_eq, nI_toInt (by omega)]; omega
      have e2 : n = x.toInt.toNat := by
        have h1 := congrArg BitVec.toNat (congrArg Int32.toBitVec (en.symm.trans e1))
        rw [show (nI n).toBitVec = BitVec.ofNat 32 n from rfl, show (nI x.toInt.toNat).toBitVec = BitVec.ofNat 32 x.toInt.toNat from rfl, BitVec.toNat_ofNat, BitVec.toNat_ofNat, Nat.mod_eq_of_lt hn, Nat.mod_eq_of_lt (by omega)] at h1
        exact h1
      omega
    · have mne : a.m.1 ≠ 40 := fun y => by rw [hv, if_pos y] at z3; exact absurd z3 (by decide)
      have n0 : n ≠ 0 := fun y => z (by rw [en, y]; rfl)
      refine s_searched h ho (fun q0 => ⟨hL, fun y => absurd rfl y, fun _ => hQ0 G h Kg.rf (fun y => y.1 q0)⟩) (fun G1 q0 h1 k1 f1 => ⟨h1.lay, fun _ => ?_, fun y => absurd y (by decide)⟩)
      have hme : meB a x := ⟨q0, mne, by rw [toI z2]; omega, by rw [toI z2]; exact_mod_cast z2⟩
      obtain ⟨g0, f16, f15, sd⟩ := h1.fs f1
      have eJ := jl_t q0
      have hXo : XOr G1 a.f a.P a.q.1 a.J := by rw [eJ]; exact sd.sr.2.2.2.2.2.2
      have hL1 := h1.lay
      have c := h1.c
      have hh1 := lay_h hL1
      have ht1 := lay_t hL1
      have jl := ho.Jl
      have ct1 := fb_ct_le a.m.2.1 a.m.1
      have ct2 := fb_ct_le a.m.2.2 a.m.1
      have cg : ∀ (p : Nat → Bool) (b : Bool), fb_ct (fun k => if k = a.m.1 then b else p k) (a.m.1 + 1) = fb_ct p a.m.1 + if b = true then 1 else 0 := by
        intro p b
        rw [fb_ct, fb_ct_cong (q := p) (fun k hk => by rw [if_neg (by omega)]), if_pos rfl]
      -- the end
      have fin : ∀ G2, Kq (fun i k => i = 65) G1 G2 → sI G2 65 0 = nI a.m.1 → sI G2 65 1 = nI (fb_ct a.m.2.1 a.m.1 + if f3O a n = true then 1 else 0) → sI G2 65 2 = nI (fb_ct a.m.2.2 a.m.1 + if atO a n = true then 1 else 0) → EvIa K mX11_meant 11 91 [(0, .ref 1)] [] G2 Q := by
        intro G2 k2 i0 i1 i2
        refine kX11_meant_91 (k2.lay hL1) ?_
        rw [i0, show nI a.m.1 + 1 = nI (a.m.1 + 1) from nAdd]
        have k3 : Kq (fun i k => i = 65) G1 (uI G2 65 0 (nI (a.m.1 + 1))) := k2.sI rfl
        have fk : ∀ k, sI (uI G2 65 0 (nI (a.m.1 + 1))) 1 k = sI G1 1 k := fun k => k3.I (by omega)
        refine hQ _ n hme en (by omega) ⟨k3.lay hL1, h1.rm.kq k3, ⟨c.tp.kq k3 (fun i k z => by omega), ?_, ?_, ?_, ?_, (k3.I (by omega)).trans c.pe, (k3.I (by omega)).trans c.wi, c.lt.kq k3 (fun i k z => by omega), c.ch.kq k3 (fun i k z => by omega), ?_, ?_, ?_⟩, fun z => ?_, fun z => ?_, fun z => ?_, fun z => ?_⟩ (k1.kx.tr (k3.kx (fun i k z => by omega)))
        · rw [k3.R]; exact c.tb.kq k3 (fun i k z => by omega)
        · rw [k3.R]; exact c.ro.kq k3 (fun i k z => by omega)
        · rw [k3.R]; exact c.hd.kq k3 (fun i k z => by omega)
        · rw [k3.R]; exact c.tq.kq k3 (fun i k z => by omega)
        · rw [gI, if_pos ⟨rfl, rfl⟩]; rfl
        · rw [gI, if_neg (by omega), i1]
          show _ = nI (fb_ct (fun k => if k = a.m.1 then f3O a n else a.m.2.1 k) (a.m.1 + 1))
          rw [cg]
        · rw [gI, if_neg (by omega), i2]
          show _ = nI (fb_ct (fun k => if k = a.m.1 then atO a n else a.m.2.2 k) (a.m.1 + 1))
          rw [cg]
        · rw [fk] at z; exact (h1.fh z).kq k3 (fun i k z => by unfold sHt; omega)
        · rw [fk] at z; exact (h1.ft z).kq k3 (fun i k z => by unfold sTi; omega)
        · rw [fk] at z; exact (h1.fo z).kq k3 (fun i k z => by unfold sOf; omega)
        · rw [fk] at z
          obtain ⟨z1, z2, z3, z4⟩ := h1.fs z
          exact ⟨z1, by rw [fk]; exact z2, by rw [fk]; exact z3, z4.kq hL1 k3 (fun i k z => by omega)⟩
      refine s_X6_placeOf hL1 hXo ho.oJ (fun k s hs => ho.Om hs) (by omega) (fun k hk hfirst => ?_) (fun hno => ?_)
      · have hkl := getE_lt hk
        have hkl' : k < a.J.length := by rw [← ho.Ol]; exact hkl
        have nm : ¬ nI k = -1 := fun z => by
          have := congrArg Int32.toInt z
          rw [nI_toInt (by omega)] at this
          have e1 : (-1 : Int32).toInt = -1 := by decide
          omega
        have hat : atO a n = true := dB_iff.mpr ⟨k, hk⟩
        have h3 : f3O a n = true ↔ k < 3 := by
          unfold f3O
          rw [dB_iff]
          constructor
          · rintro ⟨j, j1, j2⟩
            rcases Nat.lt_or_ge j k with y | y
            · exact absurd j2 (hfirst j y)
            · omega
          · exact fun y => ⟨k, y, hk⟩
        refine ⟨fun y => absurd y nm, fun _ => ?_⟩
        rw [c.m1]
        have go : ∀ d : Nat, d ≤ 1 → (d = if f3O a n = true then 1 else 0) → EvIa K mX11_meant 11 79 [(0, .ref 1)] [.int (nI d), .int (nI (fb_ct a.m.2.1 a.m.1)), .int 1, .ref 65] G1 Q := by
          intro d hd ed
          refine kX11_meant_79 hL1 ⟨by unfold vp_in; decide, ?_⟩
          have e65 : sI (uI G1 65 1 (nI (fb_ct a.m.2.1 a.m.1) + nI d)) 65 2 = nI (fb_ct a.m.2.2 a.m.1) := by rw [gI, if_neg (by omega)]; exact c.m2
          rw [show Int32.toNatClampNeg 1 = 1 from rfl, e65]
          refine fin _ ((kq_I (S := fun i k => i = 65) rfl).sI rfl) ?_ ?_ ?_
          · rw [gI, if_neg (by omega), gI, if_neg (by omega)]; exact c.m0
          · rw [gI, if_neg (by omega), gI, if_pos ⟨rfl, rfl⟩, ← ed]; exact nAdd
          · rw [gI, if_pos ⟨rfl, rfl⟩, hat]; exact nAdd
        rw [show (3 : Int32) = nI 3 from rfl, nLe (by decide) (by omega)]
        refine ⟨fun y => go 0 (by decide) (by rw [if_neg (fun u => by have := h3.mp u; omega)]), fun y => go 1 (by decide) (by rw [if_pos (h3.mpr (by omega))])⟩
      · have hat : ¬ atO a n = true := fun y => by
          obtain ⟨k, hk⟩ := dB_iff.mp y
          exact hno k hk
        have h3 : ¬ f3O a n = true := fun y => by
          obtain ⟨k, -, hk⟩ := dB_iff.mp y
          exact hno k hk
        refine ⟨fun _ => fin G1 Kq.rf c.m0 (by rw [if_neg h3]; exact c.m1) (by rw [if_neg hat]; exact c.m2), fun y => absurd rfl y⟩
  refine kX11_meant_0 hL ?_
  rw [h.c.m0, show (40 : Int32) = nI 40 from rfl, nLt (by omega) (by decide)]
  exact ⟨fun y => main 0 (by rw [if_neg (by omega)]), fun y => main 1 (by rw [if_pos (by omega)])⟩
theorem m_meant {Q : Int32 → St → Prop} {x : Int32} (hL : Lay G.2.2) (h : MI G a) (ho : OkA e a) (hQ0 : ∀ G', Lay G'.2.2 → MI G' a → KM G G' → ¬ meB a x → Q (-1) G') (hQ : ∀ G' s, Lay G'.2.2 → meB a x → x = nI s → s < 1073741824 → MI G' (meA a s) → KM G G' → Q (nI a.m.1) G') : EvI K mX12_meant 6 0 [(0, .ref 66), (1, .int x)] [] G Q := by
  have w30 := ho.w30
  have m40 := ho.m40
  have q4 := ho.q4
  have jl := ho.Jl
  have pw : 2 ^ a.w.1 ≤ 2 ^ 30 := Nat.pow_le_pow_right (by decide) w30
  have no : ¬ meB a x → Q (-1) (uI G 66 0 0) := fun z => hQ0 _ (ly_th hL) (h.th ho) km_th z
  refine kX12_meant_0 hL ?_
  rw [h.c.tq.1, h.c.m0, h.c.ro.1, shl_one (by omega), show (0 : Int32) = nI 0 from rfl, show (40 : Int32) = nI 40 from rfl, nEq (by omega) (by decide), nEq (by omega) (by decide), fa_le, fa_lt, nI_toInt (show 2 ^ a.w.1 < 2147483648 by omega), show (nI 0).toInt = 0 from rfl]
  have hc : ((2 ^ a.w.1 : Nat) : Int) = 2 ^ a.w.1 := by exact_mod_cast rfl
  rw [hc]
  refine ⟨fun z => no (fun y => y.1 z), fun z1 => ⟨fun z => no (fun y => y.2.1 z), fun z2 => ⟨fun z => no (fun y => by have := y.2.2.1; omega), fun z3 => ⟨fun z4 => s_find0 hL h ho (fun G1 l1 h1 f1 k1 => ?_), fun z => no (fun y => z y.2.2.2)⟩⟩⟩⟩
  have hme : meB a x := ⟨z1, z2, by omega, z4⟩
  obtain ⟨s, es, hs⟩ : ∃ s : Nat, x = nI s ∧ s < 2 ^ a.w.1 := by
    refine ⟨x.toInt.toNat, ?_, ?_⟩
    · rw [fa_eq, nI_toInt (by have : x.toInt < ((2 ^ a.w.1 : Nat) : Int) := by rw [hc]; exact z4
                              omega)]; omega
    · have : x.toInt < ((2 ^ a.w.1 : Nat) : Int) := by rw [hc]; exact z4
      omega
  rw [es]
  have c := h1.c
  rw [c.m0]
  try simp (disch := omega) only [nLe, nLeR, nLeL, nLt, nLtR, nLtL, nEq, nEqR, nEqL, nClamp, nClampR, nAdd, nAddR, nAddL, nSub, nSubR, nMul, nMulR, nMulL, nDivR, vIn, vInR, iteZ, iteP, lEq, lEqR, forall_eq, forall_const, true_implies, false_implies, not_true_eq_false, not_false_eq_true, true_and, and_true, implies_true, Decidable.not_not, Nat.le_refl]
  refine ⟨by omega, by omega, ?_⟩
  have loop : ∀ (m i : Nat) (G2 : St), i + m = a.J.length → Kq (fun j k => (j = 101 ∨ j = 102) ∧ k = a.m.1) G1 G2 → (sI G2 102 a.m.1 = if dB (∃ k : Nat, k < i ∧ a.O[k]? = some s) = true then 1 else 0) → (sI G2 101 a.m.1 = if dB (∃ k : Nat, k < i ∧ k < 3 ∧ a.O[k]? = some s) = true then 1 else 0) → EvI K mX12_meant 6 63 [(0, .ref 66), (1, .int (nI s)), (2, .int (nI i))] [] G2 Q := by
    intro m
    induction m with
    | zero =>
      intro i G2 hm k2 e2 e1
      have l2 := k2.lay l1
      refine kX12_meant_63 l2 ?_
      rw [k2.I (i := 66) (by omega), f1.or.1.1, show i = a.J.length by omega, k2.I (i := 66) (by omega), c.m0]
      refine ⟨fun _ => ?_, fun z => absurd (Int32.le_refl _) z⟩
      rw [show nI a.m.1 + 1 = nI (a.m.1 + 1) from nAdd, show nI (a.m.1 + 1) - 1 = nI a.m.1 from nSub (b := 1) (by omega)]
      have k3 : Kq (fun j k => (j = 101 ∨ j = 102) ∧ k = a.m.1 ∨ j = 66 ∧ k = 54) G1 (uI G2 66 54 (nI (a.m.1 + 1))) := (k2.mono (fun i k z => Or.inl z)).sI (Or.inr ⟨rfl, rfl⟩)
      have hlt : ∀ k : Nat, a.O[k]? = some s → k < i := fun k hk => by have := getE_lt hk; rw [ho.Ol] at this; omega
      have ea : atO a s = dB (∃ k : Nat, k < i ∧ a.O[k]? = some s) := by
        unfold atO
        refine congrArg dB (propext ?_)
        exact ⟨fun ⟨k, hk⟩ => ⟨k, hlt k hk, hk⟩, fun ⟨k, _, hk⟩ => ⟨k, hk⟩⟩
      have e3 : f3O a s = dB (∃ k : Nat, k < i ∧ k < 3 ∧ a.O[k]? = some s) := by
        unfold f3O
        refine congrArg dB (propext ?_)
        exact ⟨fun ⟨k, h3, hk⟩ => ⟨k, hlt k hk, h3, hk⟩, fun ⟨k, _, h3, hk⟩ => ⟨k, h3, hk⟩⟩
      have ik : ∀ j k, ¬ ((j = 101 ∨ j = 102) ∧ k = a.m.1 ∨ j = 66 ∧ k = 54) → sI (uI G2 66 54 (nI (a.m.1 + 1))) j k = sI G1 j k := fun j k z => k3.I z
      refine hQ _ s l2 hme es (by omega) ⟨⟨?_, ?_, c.tb.kq k3 (fun i k z => by omega), c.ro.kq ho.c4 k3 (fun i k z => by omega), ⟨fun p r hp hr => (ik _ _ (by omega)).trans (c.hd.1 p r hp hr), c.hd.2⟩, ?_, (ik _ _ (by omega)).trans c.pe, (ik _ _ (by omega)).trans c.wi, ?_, fun x hx => (ik _ _ (by omega)).trans (c.ch x hx), ?_, fun k hk => ?_⟩, fun z => ?_⟩ (k1.tr (k3.km (fun i k z => by omega)))
      · exact ⟨(ik 66 2 (by omega)).trans c.tp.1, c.tp.2.1, fun j hj => ⟨(ik 67 j (by omega)).trans (c.tp.2.2 j hj).1, (c.tp.2.2 j hj).2⟩⟩
      · exact c.wo.kq k3 (fun i k z => by omega)
      · exact c.tq.kq' k3 (fun i k z => by omega)
      · exact ⟨(ik 66 29 (by omega)).trans c.lt.1, c.lt.2.1, fun k hk' => ⟨(ik 84 k (by omega)).trans (c.lt.2.2 k hk').1, (c.lt.2.2 k hk').2⟩⟩
      · rw [gI, if_pos ⟨rfl, rfl⟩]; rfl
      · have hk : k < a.m.1 + 1 := hk
        show (sI _ 101 k = if (if k = a.m.1 then f3O a s else a.m.2.1 k) = true then 1 else 0) ∧ sI _ 102 k = if (if k = a.m.1 then atO a s else a.m.2.2 k) = true then 1 else 0
        by_cases ek : k = a.m.1
        · have u1 : (if k = a.m.1 then f3O a s else a.m.2.1 k) = f3O a s := if_pos ek
          have u2 : (if k = a.m.1 then atO a s else a.m.2.2 k) = atO a s := if_pos ek
          rw [u1, u2]
          constructor
          · rw [gI, if_neg (by omega), ek, e1, e3]
          · rw [gI, if_neg (by omega), ek, e2, ea]
        · have u1 : (if k = a.m.1 then f3O a s else a.m.2.1 k) = a.m.2.1 k := if_neg ek
          have u2 : (if k = a.m.1 then atO a s else a.m.2.2 k) = a.m.2.2 k := if_neg ek
          rw [u1, u2, ik _ _ (by omega), ik _ _ (by omega)]
          exact c.mm k (by omega)
      · have F : MF (uI G2 66 54 (nI (a.m.1 + 1))) a := f1.kq k3 (fun i k z => by omega)
        exact F
    | succ m ih =>
      intro i G2 hm k2 e2 e1
      have l2 := k2.lay l1
      have hi : i < a.J.length := by omega
      obtain ⟨j, j1, j2, j3, j4, j5, j6⟩ := f1.at ho hi
      have s30 := (ho.oJ.2 _ j5).1
      have e54 : sI G2 66 54 = nI a.m.1 := by rw [k2.I (by omega)]; exact c.m0
      have step : ∀ b : Bool, (b = true ↔ a.O.getD i 0 = s) → EvI K mX12_meant 6 91 [(0, .ref 66), (1, .int (nI s)), (2, .int (nI i))] [.int (if b = true then 1 else 0)] G2 Q := by
        intro b hb
        have hmem : ∀ k : Nat, a.O[k]? = some s → k < i + 1 → k < i ∨ b = true ∧ k = i := fun k hk hki => by
          rcases Nat.lt_succ_iff_lt_or_eq.mp hki with y | y
          · exact Or.inl y
          · refine Or.inr ⟨hb.mpr ?_, y⟩
            rw [y, j6] at hk; exact Option.some.inj hk
        have hat : dB (∃ k : Nat, k < i + 1 ∧ a.O[k]? = some s) = (dB (∃ k : Nat, k < i ∧ a.O[k]? = some s) || b) := by
          cases hb' : b
          · rw [Bool.or_false]
            refine congrArg dB (propext ?_)
            exact ⟨fun ⟨k, h1, h2⟩ => by
              rcases hmem k h2 h1 with y | y
              · exact ⟨k, y, h2⟩
              · rw [hb'] at y; exact absurd y.1 (by decide), fun ⟨k, h1, h2⟩ => ⟨k, by omega, h2⟩⟩
          · rw [Bool.or_true]
            exact dB_iff.mpr ⟨i, by omega, by rw [j6, hb.mp hb']⟩
        have h3 : dB (∃ k : Nat, k < i + 1 ∧ k < 3 ∧ a.O[k]? = some s) = (dB (∃ k : Nat, k < i ∧ k < 3 ∧ a.O[k]? = some s) || (b && decide (i < 3))) := by
          cases hb' : b
          · rw [Bool.false_and, Bool.or_false]
            refine congrArg dB (propext ?_)
            exact ⟨fun ⟨k, h1, h2, h3⟩ => by
              rcases hmem k h3 h1 with y | y
              · exact ⟨k, y, h2, h3⟩
              · rw [hb'] at y; exact absurd y.1 (by decide), fun ⟨k, h1, h2, h3⟩ => ⟨k, by omega, h2, h3⟩⟩
          · rw [Bool.true_and]
            by_cases i3 : i < 3
            · rw [decide_eq_true i3, Bool.or_true]
              exact dB_iff.mpr ⟨i, by omega, i3, by rw [j6, hb.mp hb']⟩
            · rw [decide_eq_false i3, Bool.or_false]
              refine congrArg dB (propext ?_)
              exact ⟨fun ⟨k, h1, h2, h3⟩ => ⟨k, by omega, h2, h3⟩, fun ⟨k, h1, h2, h3⟩ => ⟨k, by omega, h2, h3⟩⟩
        -- the second flag
        have last : ∀ (G3 : St) (v : Int32), Kq (fun j k => (j = 101 ∨ j = 102) ∧ k = a.m.1) G1 G3 → (sI G3 102 a.m.1 = if dB (∃ k : Nat, k < i + 1 ∧ a.O[k]? = some s) = true then 1 else 0) → (v = if dB (∃ k : Nat, k < i + 1 ∧ k < 3 ∧ a.O[k]? = some s) = true then 1 else 0) → EvI K mX12_meant 6 156 [(0, .ref 66), (1, .int (nI s)), (2, .int (nI i))] [.int v, .int (nI a.m.1), .ref 101] G3 Q := by
          intro G3 v k3 g2 gv
          refine kX12_meant_156 (k3.lay l1) ⟨(vIn (by omega)).mpr (by omega), by rw [gv]; split; exact Or.inr rfl; exact Or.inl rfl, ?_⟩
          rw [nI_clamp (by omega), show nI i + 1 = nI (i + 1) from nAdd]
          exact ih (i + 1) _ (by omega) (k3.sI ⟨Or.inl rfl, rfl⟩) (by rw [gI, if_neg (by omega)]; exact g2) (by rw [gI, if_pos ⟨rfl, rfl⟩]; exact gv)
        have mid : ∀ v : Int32, (v = if dB (∃ k : Nat, k < i + 1 ∧ a.O[k]? = some s) = true then 1 else 0) → EvI K mX12_meant 6 121 [(0, .ref 66), (1, .int (nI s)), (2, .int (nI i)), (3, .int (if b = true then 1 else 0))] [.int v, .int (nI a.m.1), .ref 102] G2 Q := by
          intro v gv
          refine kX12_meant_121 l2 ?_
          rw [e54, nI_clamp (by omega), e1]
          have k3 : Kq (fun j k => (j = 101 ∨ j = 102) ∧ k = a.m.1) G1 (uI G2 102 a.m.1 v) := k2.sI ⟨Or.inr rfl, rfl⟩
          have g2 : sI (uI G2 102 a.m.1 v) 102 a.m.1 = if dB (∃ k : Nat, k < i + 1 ∧ a.O[k]? = some s) = true then 1 else 0 := by rw [gI, if_pos ⟨rfl, rfl⟩]; exact gv
          refine ⟨(vIn (by omega)).mpr (by omega), by rw [gv]; split; exact Or.inr rfl; exact Or.inl rfl, (vIn (by omega)).mpr (by omega), fun y => last _ 1 k3 g2 ?_, fun y => ⟨fun y2 => kX12_meant_155 (k3.lay l1) (last _ 0 k3 g2 ?_), fun y2 => ⟨fun y3 => kX12_meant_155 (k3.lay l1) (last _ 0 k3 g2 ?_), fun y3 => last _ 1 k3 g2 ?_⟩⟩⟩
          · cases hd : dB (∃ k : Nat, k < i ∧ k < 3 ∧ a.O[k]? = some s)
            · rw [hd] at y; exact absurd rfl y
            · rw [h3, hd]; rfl
          · have hb0 : b = false := by
              cases hb' : b
              · rfl
              · rw [hb'] at y2; exact absurd y2 (by decide)
            cases hd : dB (∃ k : Nat, k < i ∧ k < 3 ∧ a.O[k]? = some s)
            · rw [h3, hd, hb0]; rfl
            · rw [hd] at y; exact absurd y (by decide)
          · rw [show (3 : Int32) = nI 3 from rfl, nLe (by decide) (by omega)] at y3
            cases hd : dB (∃ k : Nat, k < i ∧ k < 3 ∧ a.O[k]? = some s)
            · rw [h3, hd, decide_eq_false (show ¬ i < 3 by omega), Bool.and_false]; rfl
            · rw [hd] at y; exact absurd y (by decide)
          · rw [show (3 : Int32) = nI 3 from rfl, nLe (by decide) (by omega)] at y3
            have hb1 : b = true := by
              cases hb' : b
              · rw [hb'] at y2; exact absurd rfl y2
              · rfl
            rw [h3, hb1, decide_eq_true (show i < 3 by omega), Bool.and_true, Bool.or_true]; rfl
        refine kX12_meant_91 l2 ?_
        rw [e54, nI_clamp (by omega), e2]
        refine ⟨(vIn (by omega)).mpr (by omega), fun y => mid 1 ?_, fun y => ⟨fun y2 => mid 0 ?_, fun y2 => mid 1 ?_⟩⟩
        · cases hd : dB (∃ k : Nat, k < i ∧ a.O[k]? = some s)
          · rw [hd] at y; exact absurd rfl y
          · rw [hat, hd]; rfl
        · have hb0 : b = false := by
            cases hb' : b
            · rfl
            · rw [hb'] at y2; exact absurd y2 (by decide)
          cases hd : dB (∃ k : Nat, k < i ∧ a.O[k]? = some s)
          · rw [hat, hd, hb0]; rfl
          · rw [hd] at y; exact absurd y (by decide)
        · have hb1 : b = true := by
            cases hb' : b
            · rw [hb'] at y2; exact absurd rfl y2
            · rfl
          rw [hat, hb1, Bool.or_true]; rfl
      refine kX12_meant_63 l2 ?_
      rw [k2.I (i := 66) (by omega), f1.or.1.1, k2.I (i := 92) (by omega), nI_clamp (by omega), j2, nI_clamp (by omega), k2.I (i := 90) (by omega), j3]
      refine ⟨fun z => absurd z (by rw [nLe (by omega) (by omega)]; omega), fun _ => ⟨(vIn (by omega)).mpr (by omega), (vIn (by omega)).mpr (by omega), ?_⟩⟩
      rw [nEq (by omega) (by omega)]
      exact ⟨fun z => step false ⟨fun y => absurd y (by decide), fun y => absurd y z⟩, fun z => step true ⟨fun _ => z, fun _ => rfl⟩⟩
  refine loop a.J.length 0 _ (by omega) ((kq_I ⟨Or.inl rfl, rfl⟩).sI ⟨Or.inr rfl, rfl⟩) ?_ ?_
  · rw [gI, if_pos ⟨rfl, rfl⟩, if_neg (fun y => by obtain ⟨k, hk, -⟩ := dB_iff.mp y; omega)]; rfl
  · rw [gI, if_neg (by omega), gI, if_pos ⟨rfl, rfl⟩, if_neg (fun y => by obtain ⟨k, hk, -⟩ := dB_iff.mp y; omega)]; rfl
end MEANT

/-! tables: both -/
def tCo (b : TBt) : Prop := b.1 ≤ 5 ∧ (∀ t, t < b.1 → b.2.2.1 t ≤ 4) ∧ okTb b
def tOk (b : TBt) : Prop := tCo b ∧ dsN b ∧ ∀ t, t < b.1 → ∃ n, b.2.1 t = lN n ∧ gw n
theorem addC_co {b : TBt} {t k : Nat} {v : Int64} (h : tCo b) (h4 : b.2.2.1 t < 4) (hk : k ≤ 6) : tCo (addC b t v k) := by
  obtain ⟨h1, h2, h3⟩ := h
  have ec : ∀ u, (addC b t v k).2.2.1 u = if u = t then b.2.2.1 t + 1 else b.2.2.1 u := fun u => rfl
  have ek : ∀ u c, (addC b t v k).2.2.2.2 u c = if u = t ∧ c = b.2.2.1 t then k else b.2.2.2.2 u c := fun u c => rfl
  refine ⟨h1, fun u hu => ?_, fun u c hu hc => ?_⟩
  · rw [ec]
    split
    · omega
    · exact h2 u hu
  · rw [ec] at hc
    rw [ek]
    by_cases z : u = t ∧ c = b.2.2.1 t
    · rw [if_pos z]; exact hk
    · rw [if_neg z]
      refine h3 u c hu ?_
      by_cases y : u = t
      · rw [if_pos y] at hc
        have : c ≠ b.2.2.1 t := fun x => z ⟨y, x⟩
        rw [y]; omega
      · rw [if_neg y] at hc; exact hc
theorem rdCol_co {T : TPt} {b : TBt} {t i : Nat} (h : tCo b) (h0 : (rdCol T b t i).1 = 0) : tCo (rdCol T b t i).2.1 := by
  obtain ⟨k, k1, k2, -, -, k3⟩ := rdCol_ok h0
  have := h.1
  rw [k3]
  exact addC_co h k2 (by omega)
theorem rdCols_co {T : TPt} {t : Nat} : ∀ (m : Nat) (b : TBt) (i : Nat), tCo b → (rdCols T t m b i).1 = 0 → tCo (rdCols T t m b i).2.1
  | 0, b, i, h, _ => h
  | m + 1, b, i, hb, h => by
    rw [rdCols] at h ⊢
    by_cases h1 : (rdCol T b t (i + 1)).1 = 0
    · rw [if_neg (by simp [h1])] at h ⊢
      have e1 := rdCol_co hb h1
      split
      · rename_i hs
        rw [if_pos hs] at h
        exact rdCols_co m _ _ e1 h
      · split <;> exact e1
    · rw [if_pos h1] at h
      exact absurd h h1
theorem addT_co {b : TBt} {v : Int64} (h : tCo b) (h5 : b.1 < 5) : tCo (addT b v) := by
  obtain ⟨h1, h2, h3⟩ := h
  have ec : ∀ u, (addT b v).2.2.1 u = if u = b.1 then 0 else b.2.2.1 u := fun u => rfl
  refine ⟨h5, fun u hu => ?_, fun u c hu hc => ?_⟩
  · have hu : u < b.1 + 1 := hu
    rw [ec]
    split
    · omega
    · exact h2 u (by omega)
  · have hu : u < b.1 + 1 := hu
    rw [ec] at hc
    by_cases z : u = b.1
    · rw [if_pos z] at hc; omega
    · rw [if_neg z] at hc
      exact h3 u c (by omega) hc
theorem rdTab_t {T : TPt} {b : TBt} {i : Nat} (hA : ∀ j, j < T.1 → okS (T.2 j)) (hb : tOk b) (h : (rdTab T b i).1 = 0) : tOk (rdTab T b i).2.1 := by
  refine ⟨?_, rdTab_ds hb.2.1 h, ?_⟩
  · revert h
    unfold rdTab
    split
    · intro h; exact absurd h (fx_pos (by decide))
    · split
      · intro h; exact absurd h (fx_pos (by decide))
      · split
        · intro h; exact absurd h (fx_pos (by decide))
        · split
          · intro h; exact absurd h (fx_pos (by decide))
          · intro h; exact rdCols_co _ _ _ (addT_co hb.1 (by omega)) h
  · rw [(rdTab_n h).1]
    revert h
    unfold rdTab
    split
    · intro h; exact absurd h (fx_pos (by decide))
    · split
      · intro h; exact absurd h (fx_pos (by decide))
      · split
        · intro h; exact absurd h (fx_pos (by decide))
        · rename_i hn
          split
          · intro h; exact absurd h (fx_pos (by decide))
          · intro h t ht
            rw [rdCols_nm _ _ _ h]
            show ∃ n, (if t = b.1 then vl T (i + 1) else b.2.1 t) = lN n ∧ gw n
            by_cases z : t = b.1
            · rw [if_pos z]
              exact ⟨_, rfl, tk_g hA (isN_1 (by simpa using hn))⟩
            · rw [if_neg z]
              exact hb.2.2 t (by omega)
theorem rdTabs_t {T : TPt} (hA : ∀ j, j < T.1 → okS (T.2 j)) : ∀ (m : Nat) (b : TBt) (i : Nat), tOk b → (rdTabs T m b i).1 = 0 → tOk (rdTabs T m b i).2.1
  | 0, b, i, h, _ => h
  | m + 1, b, i, hb, h => by
    rw [rdTabs] at h ⊢
    by_cases z1 : (tk T i).1 = 0
    · rw [if_pos z1]; exact hb
    · rw [if_neg z1] at h ⊢
      by_cases z2 : (rdTab T b i).1 = 0
      · rw [if_neg (by simp [z2])] at h ⊢
        exact rdTabs_t hA m _ _ (rdTab_t hA hb z2) h
      · rw [if_pos z2] at h; exact absurd h z2
theorem eT_ok : tOk eT := ⟨⟨Nat.zero_le _, fun t ht => absurd ht (Nat.not_lt_zero _), fun t c ht => absurd ht (Nat.not_lt_zero _)⟩, fun t u ht => absurd ht (Nat.not_lt_zero _), fun t ht => absurd ht (Nat.not_lt_zero _)⟩
theorem rdTabs_lt' {T : TPt} (hT : T.1 ≤ 1000) : ∀ (m : Nat) (b : TBt) (i : Nat), (rdTabs T m b i).1 < 20000
  | 0, b, i => by show (0 : Nat) < 20000; decide
  | m + 1, b, i => by
    rw [rdTabs]
    split
    · show (0 : Nat) < 20000; decide
    · split
      · exact rdTab_lt hT
      · exact rdTabs_lt' hT m _ _
/-- new tables, and nothing else -/
def tbA (a : AS) (T : TPt) (b : TBt) : AS := (T, b, (0, fun _ => 0, fun _ _ => 0), eQ, (fun _ _ => false), a.p, a.W, (0, fun _ => 0), (fun _ => 0), (0, fun _ => false, fun _ => false))
section TABLES
variable {K : KT} {G : St} {a : AS} {e : Nat}
theorem OkA.tbs (ho : OkA e a) {T : TPt} {b : TBt} (hT : T.1 ≤ 1000) (hb : tOk b) : OkA e (tbA a T b) :=
  ⟨hb.1.1, hb.1.2.1, hb.1.2.2, hb.2.1, hb.2.2, Nat.zero_le _, fun r hr => absurd hr (Nat.not_lt_zero _), fun r c hr => absurd hr (Nat.not_lt_zero _), fun r c hr => absurd hr (Nat.not_lt_zero _), Nat.zero_le _, fun k hk => absurd hk (Nat.not_lt_zero _), fun k hk => absurd hk (Nat.not_lt_zero _), ho.p4, ho.W1, ho.W5, fun _ _ _ => rfl, fun k hk => absurd hk (Nat.not_lt_zero _), Nat.zero_le _, fun _ => Nat.zero_le _, Nat.zero_le _, hT⟩
theorem x_tables {Q : Int32 → St → Prop} (h : XI e sen G a) (ho : OkA e a) (hQ0 : ∀ G', (rdTabs a.T 6 eT 0).1 ≠ 0 → XI e sen G' (tpA a (0, a.T.2)) → KX G G' → Q (nI (rdTabs a.T 6 eT 0).1) G') (hQ : ∀ G', (rdTabs a.T 6 eT 0).1 = 0 → XI e sen G' (tbA a (0, a.T.2) (rdTabs a.T 6 eT 0).2.1) → KX G G' → Q (nI 0) G') : EvIa K mX11_tables 7 0 [(0, .ref 1)] [] G Q := by
  have hL := h.lay
  have hh := lay_h hL
  have ht := lay_t hL
  have fl : (rdTabs a.T 6 eT 0).1 < 20000 := rdTabs_lt' h.c.tp.2.1 _ _ _
  refine kX11_tables_0 hL (s_X5_readTables hL (by omega) h.c.tp (fun G1 k1 t1 q1 => s_X7_empty (T := a.T) (k1.lay hL) (fun G2 k2 t2 => ?_)))
  generalize hf : (rdTabs a.T 6 eT 0).1 = f at *
  generalize hq' : (rdTabs a.T 6 eT 0).2.1 = b' at *
  have kk : Kq (fun i k => i = 2 ∨ sR G 1 9 ≤ i ∧ i ≤ sR G 1 9 + 9) G G2 := k1.tr (k2.q.mono (fun i k z => Or.inl z))
  have x2 : XI e sen G2 (tpA a (0, a.T.2)) := h.tape kk (fun i k z => by omega) t2
  have kx2 : KX G G2 := kk.kx (fun i k z => by omega)
  rw [show (0 : Int32) = nI 0 from rfl, nEq (by omega) (by decide)]
  refine ⟨fun z => hQ0 G2 z x2 kx2, fun z => ?_⟩
  rw [z]
  obtain ⟨b1, b2, b3, b4⟩ := q1 z
  have b1' : XTb G2 (sR G 1 9) b' := b1.kq k2.q (fun i k z => by omega)
  have b2' : sI G2 (sR G 1 9) 10 = 0 := (k2.q.I (by omega)).trans b2
  have b3' : ∀ j, j < 5 → sI G2 (sR G 1 9 + 7) j = 0 := fun j hj => (k2.q.I (by omega)).trans (b3 j hj)
  have b4' : ∀ j, j < 4 → sI G2 (sR G 1 9 + 9) j = 0 := fun j hj => (k2.q.I (by omega)).trans (b4 j hj)
  have L3 := lay_swap (k1 := 8) (k2 := 9) x2.lay (Or.inl ⟨rfl, rfl⟩)
  have r9 : sR G2 1 9 = sR G 1 9 := kk.R 1 9
  have r10 : sR G2 1 10 = sR G 1 10 := kk.R 1 10
  refine kX11_beginAnewWithDraft_0 x2.lay ⟨L3, ?_⟩
  have eR : ∀ i k, sR (uR (uR G2 1 8 (sR G2 1 9)) 1 9 (sR G2 1 8)) i k = if i = 1 ∧ k = 9 then sR G2 1 8 else if i = 1 ∧ k = 8 then sR G2 1 9 else sR G2 i k := by
    intro i k
    by_cases z : i = 1 ∧ k = 9
    · rw [if_pos z, z.1, z.2, uR_at]
    · rw [if_neg z, uR_ne z]
      by_cases y : i = 1 ∧ k = 8
      · rw [if_pos y, y.1, y.2, uR_at]
      · rw [if_neg y, uR_ne y]
  have rm3 : Rm e (uR (uR G2 1 8 (sR G2 1 9)) 1 9 (sR G2 1 8)) := x2.rm.swap
  have kg3 : Kg (fun i _ => i ≤ 65 ∨ 104 ≤ i) (fun i _ => i ≤ 65) G2 (uR (uR G2 1 8 (sR G2 1 9)) 1 9 (sR G2 1 8)) := (kg_R (by decide)).tr (kg_R (by decide))
  have e8 : sR (uR (uR G2 1 8 (sR G2 1 9)) 1 9 (sR G2 1 8)) 1 8 = sR G 1 9 := by rw [eR, if_neg (by decide), if_pos ⟨rfl, rfl⟩, r9]
  have e10 : sR (uR (uR G2 1 8 (sR G2 1 9)) 1 9 (sR G2 1 8)) 1 10 = sR G 1 10 := by rw [eR, if_neg (by decide), if_neg (by decide), r10]
  have sI3 : sI (uR (uR G2 1 8 (sR G2 1 9)) 1 9 (sR G2 1 8)) = sI G2 := rfl
  have sL3 : sL (uR (uR G2 1 8 (sR G2 1 9)) 1 9 (sR G2 1 8)) = sL G2 := rfl
  rw [r10]
  generalize hG3 : uR (uR G2 1 8 (sR G2 1 9)) 1 9 (sR G2 1 8) = G3 at *
  have tb3 : XTb G3 (sR G 1 9) b' := by
    have := b1'
    unfold XTb at this ⊢
    rw [sI3, sL3]; exact this
  generalize hH : sR G 1 9 = h9 at *
  generalize hT0 : sR G 1 10 = t0 at *
  refine kX8_clear_0 L3 (by omega) (kX2_forgetLets_0 L3 (kX4_forgetChosen_0 L3 (s_J7_fill L3 (la_65 L3) (by decide) (fun G7 k7 a7 _ _ => ?_))))
  have k6 : Kq (fun i k => i = t0 ∧ k = 2 ∨ i = 14 ∧ k = 4 ∨ i = 28 ∧ k = 11 ∨ i = 65) G3 (uI (uI (uI G3 t0 2 0) 14 4 0) 28 11 0) := ((kq_I (Or.inl ⟨rfl, rfl⟩)).sI (Or.inr (Or.inl ⟨rfl, rfl⟩))).sI (Or.inr (Or.inr (Or.inl ⟨rfl, rfl⟩)))
  have g6a : sI (uI (uI (uI G3 t0 2 0) 14 4 0) 28 11 0) t0 2 = 0 := by rw [gI, if_neg (by omega), gI, if_neg (by omega), gI, if_pos ⟨rfl, rfl⟩]
  have g6b : sI (uI (uI (uI G3 t0 2 0) 14 4 0) 28 11 0) 14 4 = 0 := by rw [gI, if_neg (by omega), gI, if_pos ⟨rfl, rfl⟩]
  have g6c : sI (uI (uI (uI G3 t0 2 0) 14 4 0) 28 11 0) 28 11 = 0 := by rw [gI, if_pos ⟨rfl, rfl⟩]
  generalize uI (uI (uI G3 t0 2 0) 14 4 0) 28 11 0 = G6 at *
  have kp : Kq (fun i k => i = t0 ∧ k = 2 ∨ i = 14 ∧ k = 4 ∨ i = 28 ∧ k = 11 ∨ i = 65) G3 G7 := k6.tr (k7.q.mono (fun i k z => Or.inr (Or.inr (Or.inr z))))
  have i7 : ∀ i k, i ≠ 65 → sI G7 i k = sI G6 i k := fun i k hi => k7.q.I (by omega)
  have ik : ∀ i k, ¬ (i = t0 ∧ k = 2 ∨ i = 14 ∧ k = 4 ∨ i = 28 ∧ k = 11 ∨ i = 65) → sI G7 i k = sI G2 i k := fun i k u => by rw [kp.I u, sI3]
  have nl : ∀ (P : Nat → Prop) (k : Nat), k < 0 → P k := fun P k hk => absurd hk (Nat.not_lt_zero _)
  refine s_sightChanged (a' := tbA a (0, a.T.2) b') (kp.lay L3) (rm3.kq kp) ⟨?_, ?_, ?_, ?_, ?_, ?_, ?_, ?_, ?_, ?_, ?_, ?_⟩ (fun G8 x8 k8 => ⟨x8.lay, hQ G8 z x8 (((kx2.tr kg3).tr (kp.kx (fun i k z => by omega))).tr (k8.kx (fun i k z => by omega)))⟩)
  · exact ⟨(ik 2 2 (by omega)).trans t2.1, t2.2.1, fun j hj => absurd hj (Nat.not_lt_zero _)⟩
  · rw [kp.R, e8]; exact tb3.kq kp (fun i k z => by omega)
  · rw [kp.R, e8]
    refine ⟨(ik h9 10 (by omega)).trans b2', Nat.zero_le _, fun r hr => absurd hr (Nat.not_lt_zero _), fun t ht' => ?_⟩
    exact (ik (h9 + 7) t (by omega)).trans (b3' t ht')
  · rw [kp.R, e8]
    exact ⟨fun p hp => ⟨0, by decide, (ik (h9 + 9) p (by omega)).trans (b4' p hp), fun r => Nat.zero_testBit r⟩, fun p r _ => rfl⟩
  · rw [kp.R, e10]
    exact ⟨(i7 t0 2 (by omega)).trans g6a, Nat.zero_le _, fun k hk => absurd hk (Nat.not_lt_zero _)⟩
  · exact (ik 1 12 (by omega)).trans x2.c.pe
  · exact (ik 1 13 (by omega)).trans x2.c.wi
  · exact ⟨(i7 14 4 (by decide)).trans g6b, Nat.zero_le _, fun k hk => absurd hk (Nat.not_lt_zero _)⟩
  · exact ⟨[], List.nodup_nil, fun y hy => (by cases hy), (i7 28 11 (by decide)).trans g6c, fun i y hy => (by simp at hy), fun y _ => rfl⟩
  · exact a7 0 (by decide)
  · exact a7 1 (by decide)
  · exact a7 2 (by decide)
theorem m_tables {Q : Int32 → St → Prop} (hL : Lay G.2.2) (h : MI G a) (ho : OkA e a) (hQ0 : ∀ G', Lay G'.2.2 → (rdTabs a.T 6 eT 0).1 ≠ 0 → MI G' (tpA a (0, a.T.2)) → KM G G' → Q (nI (rdTabs a.T 6 eT 0).1) G') (hQ : ∀ G', Lay G'.2.2 → (rdTabs a.T 6 eT 0).1 = 0 → MI G' (tbA a (0, a.T.2) (rdTabs a.T 6 eT 0).2.1) → KM G G' → Q (nI 0) G') : EvI K mX12_tables 3 0 [(0, .ref 66)] [] G Q := by
  have c := h.c
  refine s_X12_tables hL c.tp c.wo (fun z G1 k1 t1 => hQ0 G1 (k1.lay hL) z (h.tape ho k1 (fun i k z => by unfold sT0 ctS sMt at z; unfold mS sAl; omega) t1) (k1.km (fun i k z => by unfold sT0 ctS sMt at z; omega))) (fun z G1 k1 t1 b1 e16 e20 e29 e54 e15 e83 e99 => hQ G1 (k1.lay hL) z ⟨⟨t1, fun k hk' => ?_, b1, ⟨e16, Nat.zero_le _, fun k hk => absurd hk (Nat.not_lt_zero _)⟩, ⟨fun p r hp hr => e83 _ (by omega), fun p r _ => rfl⟩, ⟨e20, Nat.zero_le _, fun k hk => absurd hk (Nat.not_lt_zero _)⟩, ?_, ?_, ⟨e29, Nat.zero_le _, fun k hk => absurd hk (Nat.not_lt_zero _)⟩, fun x hx => e99 x hx, e54, fun k hk => absurd hk (Nat.not_lt_zero _)⟩, fun y => absurd y (by rw [e15]; decide)⟩ (k1.km (fun i k z => by unfold sT0 ctS sMt sTT at z; omega)))
  · exact (k1.L (by unfold sT0 ctS sMt sTT; omega)).trans (c.wo k hk')
  · exact (k1.I (by unfold sT0 ctS sMt sTT; omega)).trans c.pe
  · exact (k1.I (by unfold sT0 ctS sMt sTT; omega)).trans c.wi
end TABLES

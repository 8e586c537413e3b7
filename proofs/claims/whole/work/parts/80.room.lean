/-! things made on the way: the layout grows -/
/-- one array more, the rest as it was -/
def Mk (t m : Nat) (G G' : St) : Prop := nx G' = nx G + 1 ∧ su G' = su G + m ∧ (∀ i, i ≠ nx G → sI G' i = sI G i ∧ sL G' i = sL G i ∧ sR G' i = sR G i ∧ sN G' i = sN G i ∧ sK G' i = sK G i) ∧ sN G' (nx G) = m ∧ sK G' (nx G) = 100 + t
theorem lay_lt {Y : RT} (h : Lay Y) : (∀ q ∈ ltK, q.1 < 104) ∧ (∀ q ∈ ltN, q.1 < 104) ∧ (∀ q ∈ ltR, q.1 < 104) ∧ (∀ q ∈ ltG, q.1 < 104) := by decide
/-- the layout says nothing of what is made anew -/
theorem Lay.mk {G G' : St} {t m : Nat} (h : Lay G.2.2) (hm : Mk t m G G') : Lay G'.2.2 := by
  obtain ⟨l1, l2, l3, l4⟩ := lay_lt h
  obtain ⟨a1, a2, a3, a4, a5, a6, a7, a8⟩ := h
  obtain ⟨m1, m2, m3, m4, m5⟩ := hm
  have a4' : 104 ≤ nx G := a4
  have eK : ∀ i, i < nx G → G'.2.2.2.2.1 i = G.2.2.2.2.1 i := fun i hi => (m3 i (by omega)).2.2.2.2
  have eN : ∀ i, i < nx G → G'.2.2.2.1 i = G.2.2.2.1 i := fun i hi => (m3 i (by omega)).2.2.2.1
  have eR : ∀ i k, i < nx G → G'.2.2.1 i k = G.2.2.1 i k := fun i k hi => congrFun (m3 i (by omega)).2.2.1 k
  refine ⟨fun q hq => ?_, fun q hq => ?_, fun q hq => ?_, ?_, ?_, ?_, fun q hq => ?_, fun p hp q hq e => ?_⟩
  · show G'.2.2.2.2.1 q.1 = q.2
    rw [eK _ (by have := l1 q hq; omega)]; exact a1 q hq
  · show G'.2.2.2.1 q.1 = q.2
    rw [eN _ (by have := l2 q hq; omega)]; exact a2 q hq
  · rw [eR _ _ (by have := l3 q hq; omega)]; exact a3 q hq
  · show 104 ≤ nx G'
    omega
  · rw [eR 1 8 (by omega), eR 1 9 (by omega)]; exact a5
  · rw [eR 1 10 (by omega), eR 1 11 (by omega)]; exact a6
  · obtain ⟨b1, b2, b3⟩ := a7 q hq
    have b3' : G.2.2.1 q.1 q.2.1 < nx G := b3
    have e : G'.2.2.1 q.1 q.2.1 = G.2.2.1 q.1 q.2.1 := eR _ _ (by have := l4 q hq; omega)
    refine ⟨?_, ?_, ?_⟩
    · rw [e]
      show G'.2.2.2.2.1 _ = _
      rw [eK _ b3']; exact b1
    · rw [e]; exact b2
    · rw [e]
      show _ < nx G'
      omega
  · rw [eR _ _ (by have := l4 p hp; omega), eR _ _ (by have := l4 q hq; omega)] at e
    exact a8 p hp q hq e
/-- an array that was made anew takes its place -/
theorem Lay.put {G : St} {i k t f v : Nat} (h : Lay G.2.2) (hq : (i, k, t, f) ∈ ltG) (hv : 104 ≤ v) (hv2 : v < nx G) (hk : sK G v = 100 + t) (hd : ∀ q ∈ ltG, G.2.2.1 q.1 q.2.1 ≠ v) : Lay (uR G i k v).2.2 := by
  obtain ⟨a1, a2, a3, a4, a5, a6, a7, a8⟩ := h
  have eR : ∀ a b, (uR G i k v).2.2.1 a b = if a = i ∧ b = k then v else G.2.2.1 a b := by
    intro a b
    show va_up G.2.2.1 i (va_up (G.2.2.1 i) k v) a b = _
    by_cases e : a = i
    · subst e
      rw [up_at]
      by_cases e2 : b = k
      · subst e2; rw [up_at]; simp
      · rw [up_ne _ _ e2]; simp [e2]
    · rw [up_ne _ _ e]; simp [e]
  have nR : ∀ q ∈ ltR, ¬ (q.1 = i ∧ q.2.1 = k) := by
    have hh : ∀ p ∈ ltG, ∀ q ∈ ltR, ¬ (q.1 = p.1 ∧ q.2.1 = p.2.1) := by decide
    exact fun q hq' => hh (i, k, t, f) hq q hq'
  have ni : i ≠ 1 := by
    have hh : ∀ p ∈ ltG, p.1 ≠ 1 := by decide
    exact hh _ hq
  have uq : ∀ q ∈ ltG, q.1 = i → q.2.1 = k → q = (i, k, t, f) := by
    have hh : ∀ p ∈ ltG, ∀ q ∈ ltG, q.1 = p.1 → q.2.1 = p.2.1 → q = p := by decide
    exact fun q hq' e1 e2 => hh (i, k, t, f) hq q hq' e1 e2
  refine ⟨a1, a2, fun q hq' => ?_, a4, ?_, ?_, fun q hq' => ?_, fun p hp q hq' e => ?_⟩
  · rw [eR, if_neg (nR q hq')]; exact a3 q hq'
  · rw [eR, eR, if_neg (fun z => ni z.1.symm), if_neg (fun z => ni z.1.symm)]; exact a5
  · rw [eR, eR, if_neg (fun z => ni z.1.symm), if_neg (fun z => ni z.1.symm)]; exact a6
  · obtain ⟨b1, b2, b3⟩ := a7 q hq'
    by_cases e : q.1 = i ∧ q.2.1 = k
    · have := uq q hq' e.1 e.2
      subst this
      unfold LayG
      rw [eR, if_pos e]
      exact ⟨hk, Or.inr hv, hv2⟩
    · unfold LayG
      rw [eR, if_neg e]
      exact ⟨b1, b2, b3⟩
  · rw [eR, eR] at e
    by_cases e1 : p.1 = i ∧ p.2.1 = k
    · by_cases e2 : q.1 = i ∧ q.2.1 = k
      · rw [uq p hp e1.1 e1.2, uq q hq' e2.1 e2.2]
      · rw [if_pos e1, if_neg e2] at e; exact absurd e.symm (hd q hq')
    · by_cases e2 : q.1 = i ∧ q.2.1 = k
      · rw [if_neg e1, if_pos e2] at e; exact absurd e (hd p hp)
      · rw [if_neg e1, if_neg e2] at e; exact a8 p hp q hq' e
section COPY
variable {K : KT} {G : St}
theorem mk_uN (t m : Nat) : Mk t m G (uN G (100 + t) m) := by
  refine ⟨rfl, rfl, fun i hi => ⟨up_ne _ _ hi, up_ne _ _ hi, up_ne _ _ hi, up_ne _ _ hi, up_ne _ _ hi⟩, up_at _ _ _, up_at _ _ _⟩
set_option maxRecDepth 20000 in
set_option maxHeartbeats 2000000 in
theorem s_copyL {Q : Nat → St → Prop} {a n m : Nat} (hL : Lay G.2.2) (ha : Ar G a 1 n) (hnm : n < m) (hm : m < 1000000) (hQ : ∀ G', Mk 1 m G G' → (∀ j, j < n → sL G' (nx G) j = sL G a j) → Q (nx G) G') : EvAa K mJ7_copyOf_c38d5 1 0 [(0, .ref a), (1, .int (nI m))] [] G Q := by
  have hane : a ≠ nx G := by have := ha.2.2.1; omega
  have mk := mk_uN (G := G) 1 m
  have hL1 : Lay (uN G (100 + 1) m).2.2 := hL.mk mk
  have ha1 : Ar (uN G (100 + 1) m) a 1 n := ⟨(mk.2.2.1 a hane).2.2.2.2.trans ha.1, ha.2.1, by rw [mk.1]; have := ha.2.2.1; omega, (mk.2.2.1 a hane).2.2.2.1.trans ha.2.2.2⟩
  refine E_iload_n 1 dJ7_copyOf_c38d5_0 rfl rfl ?_
  refine E_aload_n 0 dJ7_copyOf_c38d5_1 rfl rfl rfl ?_
  refine E_len (v := nI n) ha (by decide) rfl dJ7_copyOf_c38d5_2 ?_
  refine E_icmp_ne (tgt := 14) dJ7_copyOf_c38d5_3 (by decide) (fun c => ?_) (fun c => absurd c (by rw [nEq (by omega) (by omega)]; omega))
  refine E_iload_n 1 dJ7_copyOf_c38d5_14 rfl rfl ?_
  refine E_newa (atype := .long) (ty := .long) (t := 1) (N := m) tm_104 rfl (Or.inr (Or.inl ⟨rfl, rfl⟩)) (nI_pos (by omega)) (nI_clamp (by omega)) (show m * 8 ≤ 536870912 by omega) dJ7_copyOf_c38d5_15 ?_
  refine E_astore_n (lv' := [(0, .ref a), (1, .int (nI m)), (2, .ref (nx G))]) dJ7_copyOf_c38d5_17 rfl (by decide) rfl rfl ?_
  refine E_aload_n 0 dJ7_copyOf_c38d5_18 rfl rfl rfl ?_
  refine E_iconst (v := 0) dJ7_copyOf_c38d5_19 (by decide) ?_
  refine E_aload_n 2 dJ7_copyOf_c38d5_20 rfl rfl rfl ?_
  refine E_iconst (v := 0) dJ7_copyOf_c38d5_21 (by decide) ?_
  refine E_aload_n 0 dJ7_copyOf_c38d5_22 rfl rfl rfl ?_
  refine E_len (v := nI n) ha1 (by decide) rfl dJ7_copyOf_c38d5_23 ?_
  refine E_iload_n 1 dJ7_copyOf_c38d5_24 rfl rfl ?_
  refine E_callS (as := [.int (nI n), .int (nI m)]) (st := [.int 0, .ref (nx G), .int 0, .ref a]) cm_J9_min_7cf53 cS_J7_304 rfl rfl (d2 := 0) (by decide) (Nat.le_of_ble_eq_true rfl) (Nat.le_of_ble_eq_true rfl) dJ7_copyOf_c38d5_25 (s_J9_min (Q := fun x G1 => x = nI n ∧ G1 = uN G (100 + 1) m) (by omega) (by omega) hL1 ⟨by rw [Nat.min_eq_left (by omega)], rfl⟩) (fun r G1 hr => ?_)
  obtain ⟨x, rfl, -, rfl, rfl⟩ := hr
  refine E_copyL (a := a) (b := nx G) (sp := 0) (dp := 0) (n := nI n) (by decide) tm_838 tm_840 tm_839 tm_17 ha1.1 mk.2.2.2.2 ha1.2.1 ha1.2.2.1 (by have := ha.2.2.1; omega) (by rw [mk.1]; omega) (by decide) (by decide) (nI_pos (by omega)) (by rw [nI_clamp (by omega), ha1.2.2.2]; exact Nat.le_of_eq (Nat.zero_add n)) (by rw [nI_clamp (by omega), mk.2.2.2.1]; show 0 + n ≤ m; omega) (Nat.le_of_ble_eq_true rfl) dJ7_copyOf_c38d5_28 ?_
  refine E_aload_n 2 dJ7_copyOf_c38d5_31 rfl rfl rfl ?_
  refine E_aret (ty := .long) rfl dJ7_copyOf_c38d5_32 ⟨nx G, rfl, hQ _ ?_ (fun j hj => ?_)⟩
  · refine ⟨mk.1, mk.2.1, fun i hi => ?_, mk.2.2.2.1, mk.2.2.2.2⟩
    obtain ⟨b1, b2, b3, b4, b5⟩ := mk.2.2.1 i hi
    exact ⟨b1, (up_ne _ _ hi).trans b2, b3, b4, b5⟩
  · show (va_up (uN G (100 + 1) m).2.1 (nx G) _) (nx G) j = _
    rw [up_at, nI_clamp (by omega), show Int32.toNatClampNeg 0 = 0 from rfl]
    rw [pk_cpy_in (Nat.zero_le _) (by show j < 0 + n; omega)]
    show sL (uN G (100 + 1) m) a (0 + (j - 0)) = _
    rw [(mk.2.2.1 a hane).2.1, Nat.zero_add, Nat.sub_zero]
set_option maxRecDepth 20000 in
set_option maxHeartbeats 2000000 in
theorem s_copyI {Q : Nat → St → Prop} {a n m : Nat} (hL : Lay G.2.2) (ha : Ar G a 0 n) (hnm : n < m) (hm : m < 1000000) (hQ : ∀ G', Mk 0 m G G' → (∀ j, j < n → sI G' (nx G) j = sI G a j) → Q (nx G) G') : EvAa K mJ7_copyOf_59c91 1 0 [(0, .ref a), (1, .int (nI m))] [] G Q := by
  have hane : a ≠ nx G := by have := ha.2.2.1; omega
  have mk := mk_uN (G := G) 0 m
  have hL1 : Lay (uN G (100 + 0) m).2.2 := hL.mk mk
  have ha1 : Ar (uN G (100 + 0) m) a 0 n := ⟨(mk.2.2.1 a hane).2.2.2.2.trans ha.1, ha.2.1, by rw [mk.1]; have := ha.2.2.1; omega, (mk.2.2.1 a hane).2.2.2.1.trans ha.2.2.2⟩
  refine E_iload_n 1 dJ7_copyOf_59c91_0 rfl rfl ?_
  refine E_aload_n 0 dJ7_copyOf_59c91_1 rfl rfl rfl ?_
  refine E_len (v := nI n) ha (by decide) rfl dJ7_copyOf_59c91_2 ?_
  refine E_icmp_ne (tgt := 14) dJ7_copyOf_59c91_3 (by decide) (fun c => ?_) (fun c => absurd c (by rw [nEq (by omega) (by omega)]; omega))
  refine E_iload_n 1 dJ7_copyOf_59c91_14 rfl rfl ?_
  refine E_newa (atype := .int) (ty := .int) (t := 0) (N := m) tm_103 rfl (Or.inl ⟨rfl, rfl⟩) (nI_pos (by omega)) (nI_clamp (by omega)) (show m * 4 ≤ 536870912 by omega) dJ7_copyOf_59c91_15 ?_
  refine E_astore_n (lv' := [(0, .ref a), (1, .int (nI m)), (2, .ref (nx G))]) dJ7_copyOf_59c91_17 rfl (by decide) rfl rfl ?_
  refine E_aload_n 0 dJ7_copyOf_59c91_18 rfl rfl rfl ?_
  refine E_iconst (v := 0) dJ7_copyOf_59c91_19 (by decide) ?_
  refine E_aload_n 2 dJ7_copyOf_59c91_20 rfl rfl rfl ?_
  refine E_iconst (v := 0) dJ7_copyOf_59c91_21 (by decide) ?_
  refine E_aload_n 0 dJ7_copyOf_59c91_22 rfl rfl rfl ?_
  refine E_len (v := nI n) ha1 (by decide) rfl dJ7_copyOf_59c91_23 ?_
  refine E_iload_n 1 dJ7_copyOf_59c91_24 rfl rfl ?_
  refine E_callS (as := [.int (nI n), .int (nI m)]) (st := [.int 0, .ref (nx G), .int 0, .ref a]) cm_J9_min_7cf53 cS_J7_304 rfl rfl (d2 := 0) (by decide) (Nat.le_of_ble_eq_true rfl) (Nat.le_of_ble_eq_true rfl) dJ7_copyOf_59c91_25 (s_J9_min (Q := fun x G1 => x = nI n ∧ G1 = uN G (100 + 0) m) (by omega) (by omega) hL1 ⟨by rw [Nat.min_eq_left (by omega)], rfl⟩) (fun r G1 hr => ?_)
  obtain ⟨x, rfl, -, rfl, rfl⟩ := hr
  refine E_copyI (a := a) (b := nx G) (sp := 0) (dp := 0) (n := nI n) (by decide) tm_838 tm_840 tm_839 tm_17 ha1.1 mk.2.2.2.2 ha1.2.1 ha1.2.2.1 (by have := ha.2.2.1; omega) (by rw [mk.1]; omega) (by decide) (by decide) (nI_pos (by omega)) (by rw [nI_clamp (by omega), ha1.2.2.2]; exact Nat.le_of_eq (Nat.zero_add n)) (by rw [nI_clamp (by omega), mk.2.2.2.1]; show 0 + n ≤ m; omega) (Nat.le_of_ble_eq_true rfl) dJ7_copyOf_59c91_28 ?_
  refine E_aload_n 2 dJ7_copyOf_59c91_31 rfl rfl rfl ?_
  refine E_aret (ty := .int) rfl dJ7_copyOf_59c91_32 ⟨nx G, rfl, hQ _ ?_ (fun j hj => ?_)⟩
  · refine ⟨mk.1, mk.2.1, fun i hi => ?_, mk.2.2.2.1, mk.2.2.2.2⟩
    obtain ⟨b1, b2, b3, b4, b5⟩ := mk.2.2.1 i hi
    exact ⟨(up_ne _ _ hi).trans b1, b2, b3, b4, b5⟩
  · show (va_up (uN G (100 + 0) m).1 (nx G) _) (nx G) j = _
    rw [up_at, nI_clamp (by omega), show Int32.toNatClampNeg 0 = 0 from rfl]
    rw [pk_cpy_in (Nat.zero_le _) (by show j < 0 + n; omega)]
    show sI (uN G (100 + 0) m) a (0 + (j - 0)) = _
    rw [(mk.2.2.1 a hane).1, Nat.zero_add, Nat.sub_zero]
end COPY
/-- nothing outside S is written, no reference outside T; things may be made -/
def Kg (S T : Nat → Nat → Prop) (G G' : St) : Prop := nx G ≤ nx G' ∧ (∀ i, i < nx G → sN G' i = sN G i ∧ sK G' i = sK G i) ∧ ∀ i k, i < nx G → (¬ S i k → sI G' i k = sI G i k ∧ sL G' i k = sL G i k) ∧ (¬ T i k → sR G' i k = sR G i k)
theorem Kg.rf {S T : Nat → Nat → Prop} {G : St} : Kg S T G G := ⟨Nat.le_refl _, fun _ _ => ⟨rfl, rfl⟩, fun _ _ _ => ⟨fun _ => ⟨rfl, rfl⟩, fun _ => rfl⟩⟩
theorem Kg.tr {S T : Nat → Nat → Prop} {G G1 G2 : St} (h : Kg S T G G1) (h2 : Kg S T G1 G2) : Kg S T G G2 := by
  refine ⟨Nat.le_trans h.1 h2.1, fun i hi => ?_, fun i k hi => ?_⟩
  · have a := h.2.1 i hi
    have b := h2.2.1 i (Nat.lt_of_lt_of_le hi h.1)
    exact ⟨b.1.trans a.1, b.2.trans a.2⟩
  · have a := h.2.2 i k hi
    have b := h2.2.2 i k (Nat.lt_of_lt_of_le hi h.1)
    exact ⟨fun z => ⟨(b.1 z).1.trans (a.1 z).1, (b.1 z).2.trans (a.1 z).2⟩, fun z => (b.2 z).trans (a.2 z)⟩
theorem Kg.mono {S S' T T' : Nat → Nat → Prop} {G G1 : St} (h : Kg S T G G1) (hs : ∀ i k, i < nx G → S i k → S' i k) (ht : ∀ i k, i < nx G → T i k → T' i k) : Kg S' T' G G1 :=
  ⟨h.1, h.2.1, fun i k hi => ⟨fun z => (h.2.2 i k hi).1 (fun y => z (hs i k hi y)), fun z => (h.2.2 i k hi).2 (fun y => z (ht i k hi y))⟩⟩
theorem Kq.g {S T : Nat → Nat → Prop} {G G1 : St} (h : Kq S G G1) : Kg S T G G1 := by
  refine ⟨?_, fun i _ => ⟨?_, ?_⟩, fun i k _ => ⟨fun z => h.2 i k z, fun _ => h.R i k⟩⟩
  · show nx G ≤ G1.2.2.2.2.2.1
    rw [h.1]; exact Nat.le_refl _
  · show G1.2.2.2.1 i = _
    rw [h.1]; rfl
  · show G1.2.2.2.2.1 i = _
    rw [h.1]; rfl
theorem Mk.g {S T : Nat → Nat → Prop} {G G1 : St} {t m : Nat} (h : Mk t m G G1) : Kg S T G G1 := by
  obtain ⟨m1, m2, m3, m4, m5⟩ := h
  refine ⟨by omega, fun i hi => ?_, fun i k hi => ?_⟩
  · have := m3 i (by omega); exact ⟨this.2.2.2.1, this.2.2.2.2⟩
  · obtain ⟨a, b, c, -, -⟩ := m3 i (by omega)
    exact ⟨fun _ => ⟨by rw [a], by rw [b]⟩, fun _ => by rw [c]⟩
theorem Kg.R {S T : Nat → Nat → Prop} {G G1 : St} (h : Kg S T G G1) {i k : Nat} (hi : i < nx G) (hT : ¬ T i k) : sR G1 i k = sR G i k := (h.2.2 i k hi).2 hT
theorem Kg.I {S T : Nat → Nat → Prop} {G G1 : St} (h : Kg S T G G1) {i k : Nat} (hi : i < nx G) (hS : ¬ S i k) : sI G1 i k = sI G i k := ((h.2.2 i k hi).1 hS).1
theorem Kg.L {S T : Nat → Nat → Prop} {G G1 : St} (h : Kg S T G G1) {i k : Nat} (hi : i < nx G) (hS : ¬ S i k) : sL G1 i k = sL G i k := ((h.2.2 i k hi).1 hS).2
def mixS (G G' : St) : St := (G'.1, G'.2.1, G.2.2)
/-- as if the layout were the old one -/
theorem Kg.toq {S T : Nat → Nat → Prop} {G G1 : St} (h : Kg S T G G1) : Kq (fun i k => S i k ∨ nx G ≤ i) G (mixS G G1) := by
  refine ⟨rfl, fun i k hi => ?_⟩
  have hi1 : ¬ S i k := fun z => hi (Or.inl z)
  have hi2 : i < nx G := Nat.lt_of_not_le (fun z => hi (Or.inr z))
  exact (h.2.2 i k hi2).1 hi1
theorem kg_R {S T : Nat → Nat → Prop} {G : St} {i k v : Nat} (hT : T i k) : Kg S T G (uR G i k v) := by
  refine ⟨Nat.le_refl _, fun _ _ => ⟨rfl, rfl⟩, fun a b _ => ⟨fun _ => ⟨rfl, rfl⟩, fun z => ?_⟩⟩
  show va_up G.2.2.1 i (va_up (G.2.2.1 i) k v) a b = _
  by_cases e : a = i
  · subst e
    rw [up_at]
    by_cases e2 : b = k
    · subst e2; exact absurd hT z
    · rw [up_ne _ _ e2]; rfl
  · rw [up_ne _ _ e]; rfl

/-! feed: one sign, eight signs, 24 -/
def tPut (T : TPt) (c : Nat) : TPt := if (c = 10 ∨ (32 ≤ c ∧ c ≤ 126)) ∧ T.1 < 1000 then (T.1 + 1, fun j => if j = T.1 then c else T.2 j) else T
def tLay (T : TPt) (v : Int64) : Nat → TPt
  | 0 => T
  | k + 1 => tLay (tPut T (byt v (8 * k))) v k
theorem tPut_yes {T : TPt} {c : Nat} (h : okS c) (h2 : T.1 < 1000) : tPut T c = (T.1 + 1, fun j => if j = T.1 then c else T.2 j) := if_pos ⟨h, h2⟩
theorem tPut_no {T : TPt} {c : Nat} (h : ¬ (okS c ∧ T.1 < 1000)) : tPut T c = T := if_neg h
theorem byte_small {c : Nat} (h : c ≤ 126) : (Int32.toInt8 ((Int32.toInt8 (nI c)).toInt32)).toInt32 = nI c := by rw [fa_byte_small (by omega), fa_byte_small (by omega)]
section FEED
variable {K : KT} {G : St}
theorem s_X7_put {Q : St → Prop} {T : TPt} {c : Nat} (hL : Lay G.2.2) (hT : XTp G T) (hc : c < 256) (hQ : ∀ G', Kp (fun i => i = 2 ∨ i = 3) G G' → XTp G' (tPut T c) → Q G') : EvV K mX7_put 0 0 [(0, .ref 2), (1, .int (nI c))] [] G Q := by
  obtain ⟨h1, h2, h3⟩ := hT
  have hno : ¬ (okS c ∧ T.1 < 1000) → Q G := fun h => hQ G Kp.rf (by rw [tPut_no h]; exact ⟨h1, h2, h3⟩)
  have j0 : ¬ okS c → EvV K mX7_put 0 23 [(0, .ref 2), (1, .int (nI c))] [.int 0] G Q := fun h => kX7_put_23 hL ⟨fun _ => hno (fun q => h q.1), fun q => absurd rfl q⟩
  have j1 : okS c → EvV K mX7_put 0 23 [(0, .ref 2), (1, .int (nI c))] [.int 1] G Q := by
    intro h
    refine kX7_put_23 hL ⟨fun q => absurd q (by decide), fun _ => ?_⟩
    rw [h1]
    refine pk_le 1000 T.1 (fun q => hno (fun z => by omega)) (fun q => ⟨pk_in T.1 1000 q, ?_⟩)
    rw [nI_clamp (by omega), byte_small (by unfold okS at h; omega), nI_1]
    refine hQ _ ((kp_uI (Or.inl rfl)).tr (kp_uI (Or.inr rfl))) ?_
    rw [tPut_yes h q]
    refine ⟨?_, q, fun j hj => ?_⟩
    · rw [gI, gI]; simp
    · rw [gI, gI]
      show (if 3 = 3 ∧ j = T.1 then nI c else if 3 = 2 ∧ j = 2 then nI (T.1 + 1) else sI G 3 j) = nI (if j = T.1 then c else T.2 j) ∧ okS (if j = T.1 then c else T.2 j)
      by_cases e : j = T.1
      · simp [e, h]
      · have hj : j < T.1 + 1 := hj
        simp [e]
        exact h3 j (by omega)
  refine kX7_put_0 hL (pk_eq c 10 (fun e => j1 (Or.inl e)) (fun e => pk_lt c 32 (fun q => kX7_put_22 hL (j0 (by unfold okS; omega))) (fun q => pk_lt 126 c (fun z => kX7_put_22 hL (j0 (by unfold okS; omega))) (fun z => j1 (Or.inr ⟨q, z⟩)))))
theorem s_X11_feedBytes {Q : St → Prop} {T : TPt} {v : Int64} (hL : Lay G.2.2) (hT : XTp G T) (hQ : ∀ G', Kp (fun i => i = 2 ∨ i = 3) G G' → XTp G' (tLay T v 8) → Q G') : EvV K mX11_feedBytes 1 0 [(0, .ref 1), (1, .long v)] [] G Q := by
  refine kX11_feedBytes_0 hL ?_
  have key : ∀ (k : Nat) (G : St) (T : TPt) (Q : St → Prop), k ≤ 8 → Lay G.2.2 → XTp G T → (∀ G', Kp (fun i => i = 2 ∨ i = 3) G G' → XTp G' (tLay T v k) → Q G') → EvV K mX11_feedBytes 1 3 [(0, .ref 1), (1, .long v), (3, .int (nI (8 * k) + (-8)))] [] G Q := by
    intro k
    induction k with
    | zero =>
      intro G T Q hk hL hT hQ
      exact kX11_feedBytes_3 hL ⟨fun _ => hQ G Kp.rf hT, fun q => absurd (by decide) q⟩
    | succ k ih =>
      intro G T Q hk hL hT hQ
      have e : nI (8 * (k + 1)) + (-8) = nI (8 * k) := by
        rw [show 8 * (k + 1) = 8 * k + 8 by omega, ← nI_add]
        show nI (8 * k) + 8 + (-8) = _
        rw [Int32.add_assoc]; simp
      rw [e]
      refine kX11_feedBytes_3 hL ⟨fun q => absurd q (nI_pos (by omega)), fun _ v1 ev1 => ?_⟩
      rw [by_X v (by omega)] at ev1
      subst ev1
      refine s_X7_put hL hT (byt_lt _ _) (fun G1 k1 t1 => ?_)
      exact ih G1 _ Q (by omega) (k1.lay hL) t1 (fun G2 k2 t2 => hQ G2 (k1.tr k2) t2)
  have h0 := key 8 G T Q (Nat.le_refl _) hL hT hQ
  exact h0
theorem s_X11_feed {Q : Int32 → St → Prop} {T : TPt} {a b c : Int64} (hL : Lay G.2.2) (hT : XTp G T) (hQ : ∀ G', Kp (fun i => i = 2 ∨ i = 3) G G' → XTp G' (tLay (tLay (tLay T a 8) b 8) c 8) → Q (nI (tLay (tLay (tLay T a 8) b 8) c 8).1) G') : EvI K mX11_feed 2 0 [(0, .ref 1), (1, .long a), (3, .long b), (5, .long c)] [] G Q := by
  refine kX11_feed_0 hL ?_
  refine s_X11_feedBytes hL hT (fun G1 k1 t1 => ?_)
  refine s_X11_feedBytes (k1.lay hL) t1 (fun G2 k2 t2 => ?_)
  refine s_X11_feedBytes ((k1.tr k2).lay hL) t2 (fun G3 k3 t3 => ?_)
  rw [t3.1]
  exact hQ G3 ((k1.tr k2).tr k3) t3
/-! the model's feed -/
theorem s_X12_lay {Q : St → Prop} {T : TPt} {v : Int64} (hL : Lay G.2.2) (hT : MTp G T) (hQ : ∀ G', Kp (fun i => i = 66 ∨ i = 67) G G' → (∀ k, k ≠ 2 → sI G' 66 k = sI G 66 k) → sL G' 66 = sL G 66 → MTp G' (tLay T v 8) → Q G') : EvV K mX12_lay 0 0 [(0, .ref 66), (1, .long v)] [] G Q := by
  refine kX12_lay_0 hL ?_
  have key : ∀ (k : Nat) (G : St) (T : TPt) (Q : St → Prop), k ≤ 8 → Lay G.2.2 → MTp G T → (∀ G', Kp (fun i => i = 66 ∨ i = 67) G G' → (∀ k, k ≠ 2 → sI G' 66 k = sI G 66 k) → sL G' 66 = sL G 66 → MTp G' (tLay T v k) → Q G') → EvV K mX12_lay 0 3 [(0, .ref 66), (1, .long v), (3, .int (nI (8 * k) + (-8)))] [] G Q := by
    intro k
    induction k with
    | zero =>
      intro G T Q hk hL hT hQ
      exact kX12_lay_3 hL ⟨fun _ => hQ G Kp.rf (fun _ _ => rfl) rfl hT, fun q => absurd (by decide) q⟩
    | succ k ih =>
      intro G T Q hk hL hT hQ
      have e : nI (8 * (k + 1)) + (-8) = nI (8 * k) := by
        rw [show 8 * (k + 1) = 8 * k + 8 by omega, ← nI_add]
        show nI (8 * k) + 8 + (-8) = _
        rw [Int32.add_assoc]; simp
      rw [e]
      obtain ⟨h1, h2, h3⟩ := id hT
      have hno : ¬ (okS (byt v (8 * k)) ∧ T.1 < 1000) → EvV K mX12_lay 0 69 [(0, .ref 66), (1, .long v), (3, .int (nI (8 * k)))] [] G Q := fun h => kX12_lay_69 hL (ih G T Q (by omega) hL hT (fun G1 k1 a1 b1 t1 => hQ G1 k1 a1 b1 (by rw [tLay, tPut_no h]; exact t1)))
      have hyes : okS (byt v (8 * k)) → EvV K mX12_lay 0 38 [(0, .ref 66), (1, .long v), (3, .int (nI (8 * k))), (4, .int (nI (byt v (8 * k))))] [] G Q := by
        intro h
        refine kX12_lay_38 hL ?_
        rw [h1]
        refine pk_le 1000 T.1 (fun q => hno (fun z => by omega)) (fun q => ⟨pk_in T.1 1000 q, ?_⟩)
        rw [nI_clamp (by omega), nI_1]
        refine kX12_lay_69 hL (ih _ (tPut T (byt v (8 * k))) Q (by omega) hL ?_ (fun G1 k1 a1 b1 t1 => hQ G1 (((kp_uI (Or.inr rfl)).tr (kp_uI (Or.inl rfl))).tr k1) (fun j hj => by rw [a1 j hj, gI, gI]; simp [hj]) (by rw [b1]; rfl) t1))
        rw [tPut_yes h q]
        refine ⟨?_, q, fun j hj => ?_⟩
        · rw [gI, gI]; simp
        · rw [gI, gI]
          show (if 67 = 66 ∧ j = 2 then nI (T.1 + 1) else if 67 = 67 ∧ j = T.1 then nI (byt v (8 * k)) else sI G 67 j) = nI (if j = T.1 then byt v (8 * k) else T.2 j) ∧ okS (if j = T.1 then byt v (8 * k) else T.2 j)
          by_cases e : j = T.1
          · simp [e, h]
          · have hj : j < T.1 + 1 := hj
            simp [e]
            exact h3 j (by omega)
      refine kX12_lay_3 hL ⟨fun q => absurd q (nI_pos (by omega)), fun _ => ?_⟩
      rw [by_M v (by omega)]
      have hc := byt_lt v (8 * k)
      generalize byt v (8 * k) = c at hno hyes hc ⊢
      exact pk_eq c 10 (fun e => hyes (Or.inl e)) (fun e => pk_lt c 32 (fun q => hno (by unfold okS; omega)) (fun q => pk_lt 126 c (fun z => hno (by unfold okS; omega)) (fun z => hyes (Or.inr ⟨q, z⟩))))
  exact key 8 G T Q (Nat.le_refl _) hL hT hQ
theorem s_X12_feed {Q : Int32 → St → Prop} {T : TPt} {a b c : Int64} (hL : Lay G.2.2) (hT : MTp G T) (hQ : ∀ G', Kp (fun i => i = 66 ∨ i = 67) G G' → (∀ k, k ≠ 2 → k ≠ 0 → sI G' 66 k = sI G 66 k) → sL G' 66 = sL G 66 → MTp G' (tLay (tLay (tLay T a 8) b 8) c 8) → Q (nI (tLay (tLay (tLay T a 8) b 8) c 8).1) G') : EvI K mX12_feed 1 0 [(0, .ref 66), (1, .long a), (3, .long b), (5, .long c)] [] G Q := by
  refine kX12_feed_0 hL ?_
  have k0 : Kp (fun i => i = 66 ∨ i = 67) G (uI G 66 0 0) := kp_uI (Or.inl rfl)
  refine s_X12_lay (T := T) hL ⟨by rw [gI]; simp; exact hT.1, hT.2.1, fun j hj => by rw [gI]; simp; exact hT.2.2 j hj⟩ (fun G1 k1 a1 b1 t1 => ?_)
  refine s_X12_lay (k1.lay hL) t1 (fun G2 k2 a2 b2 t2 => ?_)
  refine s_X12_lay ((k1.tr k2).lay hL) t2 (fun G3 k3 a3 b3 t3 => ?_)
  rw [t3.1]
  refine hQ G3 (k0.tr ((k1.tr k2).tr k3)) (fun k h2 h0 => ?_) (by rw [b3, b2, b1]; rfl) t3
  rw [a3 k h2, a2 k h2, a1 k h2, gI]
  simp [h0]
end FEED

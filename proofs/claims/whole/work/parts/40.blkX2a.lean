set_option maxRecDepth 20000 in
set_option maxHeartbeats 2000000 in
theorem kX2_isText_0 {K : KT} {G : St} {Q : Int32 → St → Prop} {h0 : Nat} {x1 : Int32} (hL : Lay G.2.2) (hh0 : h0 = 39 ∨ h0 = 49)
    (hB : (((sI G h0 9) ≤ (x1 / 4) → Q 0 G) ∧ (¬ (sI G h0 9) ≤ (x1 / 4) → vp_in (x1 / 4) 5 ∧ (((sI G (h0 + 2) (Int32.toNatClampNeg (x1 / 4))) ≤ (x1 - x1 / 4 * 4) → Q 0 G) ∧ (¬ (sI G (h0 + 2) (Int32.toNatClampNeg (x1 / 4))) ≤ (x1 - x1 / 4 * 4) → vp_in x1 20 ∧ ((¬ (sI G (h0 + 4) (Int32.toNatClampNeg x1)) = (-1) → Q 0 G) ∧ ((sI G (h0 + 4) (Int32.toNatClampNeg x1)) = (-1) → Q 1 G))))))) :
    EvI K mX2_isText 0 0 [(0, .ref h0), (1, .int x1)] [] G Q := by
  refine E_iload_n 1 dX2_isText_0 rfl rfl ?_
  refine E_iconst (v := 4) dX2_isText_1 (by decide) ?_
  refine E_idiv dX2_isText_2 (by decide) ?_
  refine E_istore_n (lv' := [(0, .ref h0), (1, .int x1), (2, .int (x1 / 4))]) dX2_isText_3 rfl (by decide) rfl ?_
  refine E_iload_n 2 dX2_isText_4 rfl rfl ?_
  refine E_aload_n 0 dX2_isText_5 rfl rfl rfl ?_
  refine E_gI (v := sI G h0 9) fG_X2_57 rfl (lhO hL hh0) rfl dX2_isText_6 ?_
  refine E_icmp_ge (tgt := 38) dX2_isText_9 (by decide) (fun c => ?_) (fun c => ?_)
  · have hB := hB.1 c
    refine E_iconst (v := 0) dX2_isText_38 (by decide) ?_
    exact E_zret rfl (Or.inl rfl) dX2_isText_39 ⟨_, rfl, rfl, hB⟩
  · have hB := hB.2 c
    refine E_iload_n 1 dX2_isText_12 rfl rfl ?_
    refine E_iconst (v := 4) dX2_isText_13 (by decide) ?_
    refine E_irem dX2_isText_14 (by decide) ?_
    refine E_aload_n 0 dX2_isText_15 rfl rfl rfl ?_
    refine E_gR (j := h0 + 2) fG_X2_60 rfl (lhO hL hh0) (lhR1 hL hh0) (Nat.succ_pos _) dX2_isText_16 ?_
    refine E_iload_n 2 dX2_isText_19 rfl rfl ?_
    obtain ⟨qq1, hB⟩ := hB
    refine E_aI (p := Int32.toNatClampNeg (x1 / 4)) (v := sI G (h0 + 2) (Int32.toNatClampNeg (x1 / 4))) (lhA1 hL hh0) qq1 rfl rfl dX2_isText_20 ?_
    refine E_icmp_ge (tgt := 38) dX2_isText_21 (by decide) (fun c => ?_) (fun c => ?_)
    · have hB := hB.1 c
      refine E_iconst (v := 0) dX2_isText_38 (by decide) ?_
      exact E_zret rfl (Or.inl rfl) dX2_isText_39 ⟨_, rfl, rfl, hB⟩
    · have hB := hB.2 c
      refine E_aload_n 0 dX2_isText_24 rfl rfl rfl ?_
      refine E_gR (j := h0 + 4) fG_X2_63 rfl (lhO hL hh0) (lhR3 hL hh0) (Nat.succ_pos _) dX2_isText_25 ?_
      refine E_iload_n 1 dX2_isText_28 rfl rfl ?_
      obtain ⟨qq2, hB⟩ := hB
      refine E_aI (p := Int32.toNatClampNeg x1) (v := sI G (h0 + 4) (Int32.toNatClampNeg x1)) (lhA3 hL hh0) qq2 rfl rfl dX2_isText_29 ?_
      refine E_iconst (v := (-1)) dX2_isText_30 (by decide) ?_
      refine E_icmp_ne (tgt := 38) dX2_isText_31 (by decide) (fun c => ?_) (fun c => ?_)
      · have hB := hB.1 c
        refine E_iconst (v := 0) dX2_isText_38 (by decide) ?_
        exact E_zret rfl (Or.inl rfl) dX2_isText_39 ⟨_, rfl, rfl, hB⟩
      · have hB := hB.2 c
        refine E_iconst (v := 1) dX2_isText_34 (by decide) ?_
        refine E_goto (tgt := 39) dX2_isText_35 (by decide) ?_
        exact E_zret rfl (Or.inr rfl) dX2_isText_39 ⟨_, rfl, rfl, hB⟩

set_option maxRecDepth 20000 in
set_option maxHeartbeats 2000000 in
theorem kX2_wordIn_0 {K : KT} {G : St} {Q : Int64 → St → Prop} {h0 : Nat} {x1 : Int32} {x2 : Int32} {x3 : Int32} (hL : Lay G.2.2) (hh0 : h0 = 39 ∨ h0 = 49)
    (hB : ((x2 < 0 → EvL K mX2_wordIn 2 24 [(0, .ref h0), (2, .int x2), (3, .int x3)] [] G Q) ∧ (¬ x2 < 0 → (((sI G h0 10) ≤ x2 → EvL K mX2_wordIn 2 24 [(0, .ref h0), (2, .int x2), (3, .int x3)] [] G Q) ∧ (¬ (sI G h0 10) ≤ x2 → ((((x1 >>> (x2 &&& 31)) &&& 1) = 0 → EvL K mX2_wordIn 2 24 [(0, .ref h0), (2, .int x2), (3, .int x3)] [] G Q) ∧ (¬ ((x1 >>> (x2 &&& 31)) &&& 1) = 0 → EvL K mX2_wordIn 2 25 [(0, .ref h0), (2, .int x2), (3, .int x3)] [.int 1] G Q))))))) :
    EvL K mX2_wordIn 2 0 [(0, .ref h0), (1, .int x1), (2, .int x2), (3, .int x3)] [] G Q := by
  refine E_iload_n 2 dX2_wordIn_0 rfl rfl ?_
  refine E_if_lt (tgt := 24) dX2_wordIn_1 (by decide) (fun c => ?_) (fun c => ?_)
  · have hB := hB.1 c
    refine E_sub (lv' := [(0, .ref h0), (2, .int x2), (3, .int x3)]) [0, 2, 3] rfl ?_
    exact EvL.tr hB rfl
  · have hB := hB.2 c
    refine E_iload_n 2 dX2_wordIn_4 rfl rfl ?_
    refine E_aload_n 0 dX2_wordIn_5 rfl rfl rfl ?_
    refine E_gI (v := sI G h0 10) fG_X2_47 rfl (lhO hL hh0) rfl dX2_wordIn_6 ?_
    refine E_icmp_ge (tgt := 24) dX2_wordIn_9 (by decide) (fun c => ?_) (fun c => ?_)
    · have hB := hB.1 c
      refine E_sub (lv' := [(0, .ref h0), (2, .int x2), (3, .int x3)]) [0, 2, 3] rfl ?_
      exact EvL.tr hB rfl
    · have hB := hB.2 c
      refine E_iload_n 1 dX2_wordIn_12 rfl rfl ?_
      refine E_iload_n 2 dX2_wordIn_13 rfl rfl ?_
      refine E_ishr dX2_wordIn_14 ?_
      refine E_iconst (v := 1) dX2_wordIn_15 (by decide) ?_
      refine E_iand dX2_wordIn_16 ?_
      refine E_if_eq (tgt := 24) dX2_wordIn_17 (by decide) (fun c => ?_) (fun c => ?_)
      · have hB := hB.1 c
        refine E_sub (lv' := [(0, .ref h0), (2, .int x2), (3, .int x3)]) [0, 2, 3] rfl ?_
        exact EvL.tr hB rfl
      · have hB := hB.2 c
        refine E_iconst (v := 1) dX2_wordIn_20 (by decide) ?_
        refine E_goto (tgt := 25) dX2_wordIn_21 (by decide) ?_
        refine E_sub (lv' := [(0, .ref h0), (2, .int x2), (3, .int x3)]) [0, 2, 3] rfl ?_
        exact EvL.tr hB rfl

set_option maxRecDepth 20000 in
set_option maxHeartbeats 2000000 in
theorem kX2_wordIn_24 {K : KT} {G : St} {Q : Int64 → St → Prop} {h0 : Nat} {x2 : Int32} {x3 : Int32} (hL : Lay G.2.2) (hh0 : h0 = 39 ∨ h0 = 49)
    (hB : EvL K mX2_wordIn 2 25 [(0, .ref h0), (2, .int x2), (3, .int x3)] [.int 0] G Q) :
    EvL K mX2_wordIn 2 24 [(0, .ref h0), (2, .int x2), (3, .int x3)] [] G Q := by
  refine E_iconst (v := 0) dX2_wordIn_24 (by decide) ?_
  exact EvL.tr hB rfl

set_option maxRecDepth 20000 in
set_option maxHeartbeats 2000000 in
theorem kX2_wordIn_25 {K : KT} {G : St} {Q : Int64 → St → Prop} {h0 : Nat} {x2 : Int32} {x3 : Int32} {xs0 : Int32} (hL : Lay G.2.2) (hh0 : h0 = 39 ∨ h0 = 49)
    (hB : ((xs0 = 0 → Q 0 G) ∧ (¬ xs0 = 0 → vp_in x2 30 ∧ (((sI G (h0 + 5) (Int32.toNatClampNeg x2)) = (x3 / 4) → EvL K mX1_wordAt 1 0 [(0, .ref h0), (1, .int x2), (2, .int (x3 - x3 / 4 * 4))] [] G (fun r2 G2 => Q r2 G2)) ∧ (¬ (sI G (h0 + 5) (Int32.toNatClampNeg x2)) = (x3 / 4) → Q 0 G))))) :
    EvL K mX2_wordIn 2 25 [(0, .ref h0), (2, .int x2), (3, .int x3)] [.int xs0] G Q := by
  refine E_istore (lv' := [(0, .ref h0), (2, .int x2), (3, .int x3), (4, .int xs0)]) dX2_wordIn_25 (by decide) rfl ?_
  refine E_iload 3 dX2_wordIn_27 rfl ?_
  refine E_if_eq (tgt := 44) dX2_wordIn_29 (by decide) (fun c => ?_) (fun c => ?_)
  · have hB := hB.1 c
    refine E_lconst (v := 0) dX2_wordIn_44 (by decide) ?_
    exact E_lret rfl dX2_wordIn_45 ⟨_, rfl, rfl, hB⟩
  · have hB := hB.2 c
    refine E_aload_n 0 dX2_wordIn_32 rfl rfl rfl ?_
    refine E_gR (j := h0 + 5) fG_X2_50 rfl (lhO hL hh0) (lhR4 hL hh0) (Nat.succ_pos _) dX2_wordIn_33 ?_
    refine E_iload_n 1 dX2_wordIn_36 rfl rfl ?_
    obtain ⟨qq1, hB⟩ := hB
    refine E_aI (p := Int32.toNatClampNeg x2) (v := sI G (h0 + 5) (Int32.toNatClampNeg x2)) (lhA4 hL hh0) qq1 rfl rfl dX2_wordIn_37 ?_
    refine E_iload_n 2 dX2_wordIn_38 rfl rfl ?_
    refine E_iconst (v := 4) dX2_wordIn_39 (by decide) ?_
    refine E_idiv dX2_wordIn_40 (by decide) ?_
    refine E_icmp_eq (tgt := 46) dX2_wordIn_41 (by decide) (fun c => ?_) (fun c => ?_)
    · have hB := hB.1 c
      refine E_aload_n 0 dX2_wordIn_46 rfl rfl rfl ?_
      refine E_iload_n 1 dX2_wordIn_47 rfl rfl ?_
      refine E_iload_n 2 dX2_wordIn_48 rfl rfl ?_
      refine E_iconst (v := 4) dX2_wordIn_49 (by decide) ?_
      refine E_irem dX2_wordIn_50 (by decide) ?_
      refine E_cV (ci := 1) (as := [.int x2, .int (x3 - x3 / 4 * 4)]) (st := []) cm_X1_wordAt cV_X2_53 ⟨_, _, rfl⟩ (by decide) (lhO hL hh0) rfl rfl (by decide) (Nat.le_of_ble_eq_true rfl) (Nat.le_of_ble_eq_true rfl) dX2_wordIn_51 hB (fun r G2 hr => ?_)
      obtain ⟨r2, rfl, hE2, hB⟩ := hr
      have hL2 : Lay G2.2.2 := by rw [hE2]; exact hL
      have hE2 : G2.2.2 = G.2.2 := hE2
      show Ev K mX2_wordIn 2 54 [(0, .ref h0), (2, .int x2), (3, .int x3), (4, .int xs0)] [.long r2] G2 _
      exact E_lret rfl dX2_wordIn_54 ⟨_, rfl, hE2, hB⟩
    · have hB := hB.2 c
      refine E_lconst (v := 0) dX2_wordIn_44 (by decide) ?_
      exact E_lret rfl dX2_wordIn_45 ⟨_, rfl, rfl, hB⟩

set_option maxRecDepth 20000 in
set_option maxHeartbeats 2000000 in
theorem kX2_hasWord_0 {K : KT} {G : St} {Q : Int32 → St → Prop} {h0 : Nat} {x1 : Int32} {x2 : Int32} {y3 : Int64} {x5 : Int32} (hL : Lay G.2.2) (hh0 : h0 = 39 ∨ h0 = 49)
    (hB : EvI K mX2_hasWord 3 3 [(0, .ref h0), (1, .int x1), (2, .int x2), (3, .long y3), (5, .int x5), (6, .int 0)] [] G Q) :
    EvI K mX2_hasWord 3 0 [(0, .ref h0), (1, .int x1), (2, .int x2), (3, .long y3), (5, .int x5)] [] G Q := by
  refine E_iconst (v := 0) dX2_hasWord_0 (by decide) ?_
  refine E_istore (lv' := [(0, .ref h0), (1, .int x1), (2, .int x2), (3, .long y3), (5, .int x5), (6, .int 0)]) dX2_hasWord_1 (by decide) rfl ?_
  exact EvI.tr hB rfl

set_option maxRecDepth 20000 in
set_option maxHeartbeats 2000000 in
theorem kX2_hasWord_3 {K : KT} {G : St} {Q : Int32 → St → Prop} {h0 : Nat} {x1 : Int32} {x2 : Int32} {y3 : Int64} {x5 : Int32} {x6 : Int32} (hL : Lay G.2.2) (hh0 : h0 = 39 ∨ h0 = 49)
    (hB : ((x5 ≤ x6 → Q 0 G) ∧ (¬ x5 ≤ x6 → EvL K mX2_wordIn 2 0 [(0, .ref h0), (1, .int x1), (2, .int x6), (3, .int x2)] [] G (fun r1 G1 => ((¬ r1 = y3 → EvI K mX2_hasWord 3 3 [(0, .ref h0), (1, .int x1), (2, .int x2), (3, .long y3), (5, .int x5), (6, .int (x6 + 1))] [] G1 Q) ∧ (r1 = y3 → Q 1 G1)))))) :
    EvI K mX2_hasWord 3 3 [(0, .ref h0), (1, .int x1), (2, .int x2), (3, .long y3), (5, .int x5), (6, .int x6)] [] G Q := by
  refine E_iload 5 dX2_hasWord_3 rfl ?_
  refine E_iload 4 dX2_hasWord_5 rfl ?_
  refine E_icmp_ge (tgt := 31) dX2_hasWord_7 (by decide) (fun c => ?_) (fun c => ?_)
  · have hB := hB.1 c
    refine E_iconst (v := 0) dX2_hasWord_31 (by decide) ?_
    exact E_zret rfl (Or.inl rfl) dX2_hasWord_32 ⟨_, rfl, rfl, hB⟩
  · have hB := hB.2 c
    refine E_aload_n 0 dX2_hasWord_10 rfl rfl rfl ?_
    refine E_iload_n 1 dX2_hasWord_11 rfl rfl ?_
    refine E_iload 5 dX2_hasWord_12 rfl ?_
    refine E_iload_n 2 dX2_hasWord_14 rfl rfl ?_
    refine E_callS (as := [.ref h0, .int x1, .int x6, .int x2]) (st := []) cm_X2_wordIn cS_X2_66 rfl rfl (by decide) (Nat.le_of_ble_eq_true rfl) (Nat.le_of_ble_eq_true rfl) dX2_hasWord_15 hB (fun r G1 hr => ?_)
    obtain ⟨r1, rfl, hE1, hB⟩ := hr
    have hL1 : Lay G1.2.2 := by rw [hE1]; exact hL
    have hE1 : G1.2.2 = G.2.2 := hE1
    show Ev K mX2_hasWord 3 18 [(0, .ref h0), (1, .int x1), (2, .int x2), (3, .long y3), (5, .int x5), (6, .int x6)] [.long r1] G1 _
    refine E_lload_n 3 dX2_hasWord_18 rfl rfl ?_
    refine E_lcmp dX2_hasWord_19 ?_
    refine E_if_ne (tgt := 25) dX2_hasWord_20 (by decide) (fun c => ?_) (fun c => ?_)
    · have hB := hB.1 ((fun q => c ((lgc_eq r1 y3).mpr q)))
      refine E_iinc (v := x6 + 1) (lv' := [(0, .ref h0), (1, .int x1), (2, .int x2), (3, .long y3), (5, .int x5), (6, .int (x6 + 1))]) 5 dX2_hasWord_25 rfl rfl (by decide) rfl ?_
      refine E_goto (tgt := 3) dX2_hasWord_28 (by decide) ?_
      exact EvI.tr hB hE1
    · have hB := hB.2 ((lgc_eq r1 y3).mp c)
      refine E_iconst (v := 1) dX2_hasWord_23 (by decide) ?_
      exact E_zret rfl (Or.inr rfl) dX2_hasWord_24 ⟨_, rfl, hE1, hB⟩

set_option maxRecDepth 20000 in
set_option maxHeartbeats 2000000 in
theorem kX2_allDiffer_0 {K : KT} {G : St} {Q : Int32 → St → Prop} {h0 : Nat} {x1 : Int32} {x2 : Int32} (hL : Lay G.2.2) (hh0 : h0 = 39 ∨ h0 = 49)
    (hB : EvI K mX2_allDiffer 4 2 [(0, .ref h0), (1, .int x1), (2, .int x2), (3, .int 0)] [] G Q) :
    EvI K mX2_allDiffer 4 0 [(0, .ref h0), (1, .int x1), (2, .int x2)] [] G Q := by
  refine E_iconst (v := 0) dX2_allDiffer_0 (by decide) ?_
  refine E_istore_n (lv' := [(0, .ref h0), (1, .int x1), (2, .int x2), (3, .int 0)]) dX2_allDiffer_1 rfl (by decide) rfl ?_
  exact EvI.tr hB rfl

set_option maxRecDepth 20000 in
set_option maxHeartbeats 2000000 in
theorem kX2_allDiffer_2 {K : KT} {G : St} {Q : Int32 → St → Prop} {h0 : Nat} {x1 : Int32} {x2 : Int32} {x3 : Int32} (hL : Lay G.2.2) (hh0 : h0 = 39 ∨ h0 = 49)
    (hB : (((sI G h0 10) ≤ x3 → Q 1 G) ∧ (¬ (sI G h0 10) ≤ x3 → EvL K mX2_wordIn 2 0 [(0, .ref h0), (1, .int x1), (2, .int x3), (3, .int x2)] [] G (fun r1 G1 => ((r1 = 0 → EvI K mX2_allDiffer 4 40 [(0, .ref h0), (1, .int x1), (2, .int x2), (3, .int x3)] [] G1 Q) ∧ (¬ r1 = 0 → EvI K mX2_hasWord 3 0 [(0, .ref h0), (1, .int x1), (2, .int x2), (3, .long r1), (5, .int x3)] [] G1 (fun r2 G2 => ((r2 = 0 → EvI K mX2_allDiffer 4 40 [(0, .ref h0), (1, .int x1), (2, .int x2), (3, .int x3)] [] G2 Q) ∧ (¬ r2 = 0 → Q 0 G2))))))))) :
    EvI K mX2_allDiffer 4 2 [(0, .ref h0), (1, .int x1), (2, .int x2), (3, .int x3)] [] G Q := by
  refine E_iload_n 3 dX2_allDiffer_2 rfl rfl ?_
  refine E_aload_n 0 dX2_allDiffer_3 rfl rfl rfl ?_
  refine E_gI (v := sI G h0 10) fG_X2_47 rfl (lhO hL hh0) rfl dX2_allDiffer_4 ?_
  refine E_icmp_ge (tgt := 46) dX2_allDiffer_7 (by decide) (fun c => ?_) (fun c => ?_)
  · have hB := hB.1 c
    refine E_iconst (v := 1) dX2_allDiffer_46 (by decide) ?_
    exact E_zret rfl (Or.inr rfl) dX2_allDiffer_47 ⟨_, rfl, rfl, hB⟩
  · have hB := hB.2 c
    refine E_aload_n 0 dX2_allDiffer_10 rfl rfl rfl ?_
    refine E_iload_n 1 dX2_allDiffer_11 rfl rfl ?_
    refine E_iload_n 3 dX2_allDiffer_12 rfl rfl ?_
    refine E_iload_n 2 dX2_allDiffer_13 rfl rfl ?_
    refine E_callS (as := [.ref h0, .int x1, .int x3, .int x2]) (st := []) cm_X2_wordIn cS_X2_66 rfl rfl (by decide) (Nat.le_of_ble_eq_true rfl) (Nat.le_of_ble_eq_true rfl) dX2_allDiffer_14 hB (fun r G1 hr => ?_)
    obtain ⟨r1, rfl, hE1, hB⟩ := hr
    have hL1 : Lay G1.2.2 := by rw [hE1]; exact hL
    have hE1 : G1.2.2 = G.2.2 := hE1
    show Ev K mX2_allDiffer 4 17 [(0, .ref h0), (1, .int x1), (2, .int x2), (3, .int x3)] [.long r1] G1 _
    refine E_lstore (lv' := [(0, .ref h0), (1, .int x1), (2, .int x2), (3, .int x3), (4, .long r1)]) dX2_allDiffer_17 (by decide) rfl ?_
    refine E_lload 4 dX2_allDiffer_19 rfl ?_
    refine E_lconst (v := 0) dX2_allDiffer_21 (by decide) ?_
    refine E_lcmp dX2_allDiffer_22 ?_
    refine E_if_eq (tgt := 40) dX2_allDiffer_23 (by decide) (fun c => ?_) (fun c => ?_)
    · have hB := hB.1 ((lgc_eq r1 0).mp c)
      refine E_sub (lv' := [(0, .ref h0), (1, .int x1), (2, .int x2), (3, .int x3)]) [0, 1, 2, 3] rfl ?_
      exact EvI.tr hB hE1
    · have hB := hB.2 (fun q => c ((lgc_eq r1 0).mpr q))
      refine E_aload_n 0 dX2_allDiffer_26 rfl rfl rfl ?_
      refine E_iload_n 1 dX2_allDiffer_27 rfl rfl ?_
      refine E_iload_n 2 dX2_allDiffer_28 rfl rfl ?_
      refine E_lload 4 dX2_allDiffer_29 rfl ?_
      refine E_iload_n 3 dX2_allDiffer_31 rfl rfl ?_
      refine E_callS (as := [.ref h0, .int x1, .int x2, .long r1, .int x3]) (st := []) cm_X2_hasWord cS_X2_70 rfl rfl (by decide) (Nat.le_of_ble_eq_true rfl) (Nat.le_of_ble_eq_true rfl) dX2_allDiffer_32 hB (fun r G2 hr => ?_)
      obtain ⟨r2, rfl, hE2, hB⟩ := hr
      have hL2 : Lay G2.2.2 := by rw [hE2]; exact hL1
      have hE2 : G2.2.2 = G.2.2 := hE2.trans hE1
      show Ev K mX2_allDiffer 4 35 [(0, .ref h0), (1, .int x1), (2, .int x2), (3, .int x3), (4, .long r1)] [.int r2] G2 _
      refine E_if_eq (tgt := 40) dX2_allDiffer_35 (by decide) (fun c => ?_) (fun c => ?_)
      · have hB := hB.1 c
        refine E_sub (lv' := [(0, .ref h0), (1, .int x1), (2, .int x2), (3, .int x3)]) [0, 1, 2, 3] rfl ?_
        exact EvI.tr hB hE2
      · have hB := hB.2 c
        refine E_iconst (v := 0) dX2_allDiffer_38 (by decide) ?_
        exact E_zret rfl (Or.inl rfl) dX2_allDiffer_39 ⟨_, rfl, hE2, hB⟩

set_option maxRecDepth 20000 in
set_option maxHeartbeats 2000000 in
theorem kX2_allDiffer_40 {K : KT} {G : St} {Q : Int32 → St → Prop} {h0 : Nat} {x1 : Int32} {x2 : Int32} {x3 : Int32} (hL : Lay G.2.2) (hh0 : h0 = 39 ∨ h0 = 49)
    (hB : EvI K mX2_allDiffer 4 2 [(0, .ref h0), (1, .int x1), (2, .int x2), (3, .int (x3 + 1))] [] G Q) :
    EvI K mX2_allDiffer 4 40 [(0, .ref h0), (1, .int x1), (2, .int x2), (3, .int x3)] [] G Q := by
  refine E_iinc (v := x3 + 1) (lv' := [(0, .ref h0), (1, .int x1), (2, .int x2), (3, .int (x3 + 1))]) 3 dX2_allDiffer_40 rfl rfl (by decide) rfl ?_
  refine E_goto (tgt := 2) dX2_allDiffer_43 (by decide) ?_
  exact EvI.tr hB rfl

set_option maxRecDepth 20000 in
set_option maxHeartbeats 2000000 in
theorem kX2_allAmong_0 {K : KT} {G : St} {Q : Int32 → St → Prop} {h0 : Nat} {x1 : Int32} {x2 : Int32} {x3 : Int32} (hL : Lay G.2.2) (hh0 : h0 = 39 ∨ h0 = 49)
    (hB : EvI K mX2_allAmong 4 6 [(0, .ref h0), (1, .int x1), (2, .int x2), (3, .int x3), (4, .int 0), (5, .int 0)] [] G Q) :
    EvI K mX2_allAmong 4 0 [(0, .ref h0), (1, .int x1), (2, .int x2), (3, .int x3)] [] G Q := by
  refine E_iconst (v := 0) dX2_allAmong_0 (by decide) ?_
  refine E_istore (lv' := [(0, .ref h0), (1, .int x1), (2, .int x2), (3, .int x3), (4, .int 0)]) dX2_allAmong_1 (by decide) rfl ?_
  refine E_iconst (v := 0) dX2_allAmong_3 (by decide) ?_
  refine E_istore (lv' := [(0, .ref h0), (1, .int x1), (2, .int x2), (3, .int x3), (4, .int 0), (5, .int 0)]) dX2_allAmong_4 (by decide) rfl ?_
  exact EvI.tr hB rfl

set_option maxRecDepth 20000 in
set_option maxHeartbeats 2000000 in
theorem kX2_allAmong_6 {K : KT} {G : St} {Q : Int32 → St → Prop} {h0 : Nat} {x1 : Int32} {x2 : Int32} {x3 : Int32} {x4 : Int32} {x5 : Int32} (hL : Lay G.2.2) (hh0 : h0 = 39 ∨ h0 = 49)
    (hB : (((sI G h0 10) ≤ x5 → (x4 = 0 ∨ x4 = 1) ∧ Q x4 G) ∧ (¬ (sI G h0 10) ≤ x5 → EvL K mX2_wordIn 2 0 [(0, .ref h0), (1, .int x1), (2, .int x5), (3, .int x2)] [] G (fun r2 G2 => ((r2 = 0 → EvI K mX2_allAmong 4 49 [(0, .ref h0), (1, .int x1), (2, .int x2), (3, .int x3), (4, .int x4), (5, .int x5), (6, .long r2)] [] G2 Q) ∧ (¬ r2 = 0 → EvI K mX2_hasWord 3 0 [(0, .ref h0), (1, .int x1), (2, .int x3), (3, .long r2), (5, .int (sI G2 h0 10))] [] G2 (fun r3 G3 => ((¬ r3 = 0 → EvI K mX2_allAmong 4 49 [(0, .ref h0), (1, .int x1), (2, .int x2), (3, .int x3), (4, .int x4), (5, .int x5), (6, .long r2)] [] G3 Q) ∧ (r3 = 0 → Q 0 G3))))))))) :
    EvI K mX2_allAmong 4 6 [(0, .ref h0), (1, .int x1), (2, .int x2), (3, .int x3), (4, .int x4), (5, .int x5)] [] G Q := by
  refine E_iload 5 dX2_allAmong_6 rfl ?_
  refine E_aload_n 0 dX2_allAmong_8 rfl rfl rfl ?_
  refine E_gI (v := sI G h0 10) fG_X2_47 rfl (lhO hL hh0) rfl dX2_allAmong_9 ?_
  refine E_icmp_ge (tgt := 72) dX2_allAmong_12 (by decide) (fun c => ?_) (fun c => ?_)
  · have hB := hB.1 c
    refine E_iload 4 dX2_allAmong_72 rfl ?_
    obtain ⟨qq1, hB⟩ := hB
    exact E_zret rfl qq1 dX2_allAmong_74 ⟨_, rfl, rfl, hB⟩
  · have hB := hB.2 c
    refine E_aload_n 0 dX2_allAmong_15 rfl rfl rfl ?_
    refine E_iload_n 1 dX2_allAmong_16 rfl rfl ?_
    refine E_iload 5 dX2_allAmong_17 rfl ?_
    refine E_iload_n 2 dX2_allAmong_19 rfl rfl ?_
    refine E_callS (as := [.ref h0, .int x1, .int x5, .int x2]) (st := []) cm_X2_wordIn cS_X2_66 rfl rfl (by decide) (Nat.le_of_ble_eq_true rfl) (Nat.le_of_ble_eq_true rfl) dX2_allAmong_20 hB (fun r G2 hr => ?_)
    obtain ⟨r2, rfl, hE2, hB⟩ := hr
    have hL2 : Lay G2.2.2 := by rw [hE2]; exact hL
    have hE2 : G2.2.2 = G.2.2 := hE2
    show Ev K mX2_allAmong 4 23 [(0, .ref h0), (1, .int x1), (2, .int x2), (3, .int x3), (4, .int x4), (5, .int x5)] [.long r2] G2 _
    refine E_lstore (lv' := [(0, .ref h0), (1, .int x1), (2, .int x2), (3, .int x3), (4, .int x4), (5, .int x5), (6, .long r2)]) dX2_allAmong_23 (by decide) rfl ?_
    refine E_lload 6 dX2_allAmong_25 rfl ?_
    refine E_lconst (v := 0) dX2_allAmong_27 (by decide) ?_
    refine E_lcmp dX2_allAmong_28 ?_
    refine E_if_eq (tgt := 49) dX2_allAmong_29 (by decide) (fun c => ?_) (fun c => ?_)
    · have hB := hB.1 ((lgc_eq r2 0).mp c)
      exact EvI.tr hB hE2
    · have hB := hB.2 (fun q => c ((lgc_eq r2 0).mpr q))
      refine E_aload_n 0 dX2_allAmong_32 rfl rfl rfl ?_
      refine E_iload_n 1 dX2_allAmong_33 rfl rfl ?_
      refine E_iload_n 3 dX2_allAmong_34 rfl rfl ?_
      refine E_lload 6 dX2_allAmong_35 rfl ?_
      refine E_aload_n 0 dX2_allAmong_37 rfl rfl rfl ?_
      refine E_gI (v := sI G2 h0 10) fG_X2_47 rfl (lhO hL2 hh0) rfl dX2_allAmong_38 ?_
      refine E_callS (as := [.ref h0, .int x1, .int x3, .long r2, .int (sI G2 h0 10)]) (st := []) cm_X2_hasWord cS_X2_70 rfl rfl (by decide) (Nat.le_of_ble_eq_true rfl) (Nat.le_of_ble_eq_true rfl) dX2_allAmong_41 hB (fun r G3 hr => ?_)
      obtain ⟨r3, rfl, hE3, hB⟩ := hr
      have hL3 : Lay G3.2.2 := by rw [hE3]; exact hL2
      have hE3 : G3.2.2 = G.2.2 := hE3.trans hE2
      show Ev K mX2_allAmong 4 44 [(0, .ref h0), (1, .int x1), (2, .int x2), (3, .int x3), (4, .int x4), (5, .int x5), (6, .long r2)] [.int r3] G3 _
      refine E_if_ne (tgt := 49) dX2_allAmong_44 (by decide) (fun c => ?_) (fun c => ?_)
      · have hB := hB.1 c
        exact EvI.tr hB hE3
      · have hB := hB.2 c
        refine E_iconst (v := 0) dX2_allAmong_47 (by decide) ?_
        exact E_zret rfl (Or.inl rfl) dX2_allAmong_48 ⟨_, rfl, hE3, hB⟩

set_option maxRecDepth 20000 in
set_option maxHeartbeats 2000000 in
theorem kX2_allAmong_49 {K : KT} {G : St} {Q : Int32 → St → Prop} {h0 : Nat} {x1 : Int32} {x2 : Int32} {x3 : Int32} {x4 : Int32} {x5 : Int32} {y6 : Int64} (hL : Lay G.2.2) (hh0 : h0 = 39 ∨ h0 = 49)
    (hB : ((y6 = 0 → EvI K mX2_allAmong 4 63 [(0, .ref h0), (1, .int x1), (2, .int x2), (3, .int x3), (5, .int x5)] [.int 0, .int x4] G Q) ∧ (¬ y6 = 0 → EvI K mX2_allAmong 4 63 [(0, .ref h0), (1, .int x1), (2, .int x2), (3, .int x3), (5, .int x5)] [.int 1, .int x4] G Q))) :
    EvI K mX2_allAmong 4 49 [(0, .ref h0), (1, .int x1), (2, .int x2), (3, .int x3), (4, .int x4), (5, .int x5), (6, .long y6)] [] G Q := by
  refine E_iload 4 dX2_allAmong_49 rfl ?_
  refine E_lload 6 dX2_allAmong_51 rfl ?_
  refine E_lconst (v := 0) dX2_allAmong_53 (by decide) ?_
  refine E_lcmp dX2_allAmong_54 ?_
  refine E_if_eq (tgt := 62) dX2_allAmong_55 (by decide) (fun c => ?_) (fun c => ?_)
  · have hB := hB.1 ((lgc_eq y6 0).mp c)
    refine E_iconst (v := 0) dX2_allAmong_62 (by decide) ?_
    refine E_sub (lv' := [(0, .ref h0), (1, .int x1), (2, .int x2), (3, .int x3), (5, .int x5)]) [0, 1, 2, 3, 5] rfl ?_
    exact EvI.tr hB rfl
  · have hB := hB.2 (fun q => c ((lgc_eq y6 0).mpr q))
    refine E_iconst (v := 1) dX2_allAmong_58 (by decide) ?_
    refine E_goto (tgt := 63) dX2_allAmong_59 (by decide) ?_
    refine E_sub (lv' := [(0, .ref h0), (1, .int x1), (2, .int x2), (3, .int x3), (5, .int x5)]) [0, 1, 2, 3, 5] rfl ?_
    exact EvI.tr hB rfl

set_option maxRecDepth 20000 in
set_option maxHeartbeats 2000000 in
theorem kX2_allAmong_63 {K : KT} {G : St} {Q : Int32 → St → Prop} {h0 : Nat} {x1 : Int32} {x2 : Int32} {x3 : Int32} {x5 : Int32} {xs0 : Int32} {xs1 : Int32} (hL : Lay G.2.2) (hh0 : h0 = 39 ∨ h0 = 49)
    (hB : EvI K mX2_allAmong 4 6 [(0, .ref h0), (1, .int x1), (2, .int x2), (3, .int x3), (4, .int (xs0 ||| xs1)), (5, .int (x5 + 1))] [] G Q) :
    EvI K mX2_allAmong 4 63 [(0, .ref h0), (1, .int x1), (2, .int x2), (3, .int x3), (5, .int x5)] [.int xs1, .int xs0] G Q := by
  refine E_ior dX2_allAmong_63 ?_
  refine E_istore (lv' := [(0, .ref h0), (1, .int x1), (2, .int x2), (3, .int x3), (4, .int (xs0 ||| xs1)), (5, .int x5)]) dX2_allAmong_64 (by decide) rfl ?_
  refine E_iinc (v := x5 + 1) (lv' := [(0, .ref h0), (1, .int x1), (2, .int x2), (3, .int x3), (4, .int (xs0 ||| xs1)), (5, .int (x5 + 1))]) 5 dX2_allAmong_66 rfl rfl (by decide) rfl ?_
  refine E_goto (tgt := 6) dX2_allAmong_69 (by decide) ?_
  exact EvI.tr hB rfl

set_option maxRecDepth 20000 in
set_option maxHeartbeats 2000000 in
theorem kX2_fill_0 {K : KT} {G : St} {Q : St → Prop} {h1 : Nat} {x2 : Int32} (hL : Lay G.2.2) (hh1 : h1 = 39 ∨ h1 = 49)
    (hB : EvV K mX2_fill 5 7 [(0, .ref 14), (1, .ref h1), (2, .int x2), (3, .int 0)] [] (uI G 14 3 0) Q) :
    EvV K mX2_fill 5 0 [(0, .ref 14), (1, .ref h1), (2, .int x2)] [] G Q := by
  refine E_aload_n 0 dX2_fill_0 rfl rfl rfl ?_
  refine E_iconst (v := 0) dX2_fill_1 (by decide) ?_
  refine E_pI fP_X2_24 rfl (lo_14 hL) dX2_fill_2 ?_
  refine E_iconst (v := 0) dX2_fill_5 (by decide) ?_
  refine E_istore_n (lv' := [(0, .ref 14), (1, .ref h1), (2, .int x2), (3, .int 0)]) dX2_fill_6 rfl (by decide) rfl ?_
  exact EvV.tr hB rfl

set_option maxRecDepth 20000 in
set_option maxHeartbeats 2000000 in
theorem kX2_fill_7 {K : KT} {G : St} {Q : St → Prop} {h1 : Nat} {x2 : Int32} {x3 : Int32} (hL : Lay G.2.2) (hh1 : h1 = 39 ∨ h1 = 49)
    (hB : ((20 ≤ x3 → EvV K mX2_fill 5 49 [(0, .ref 14), (1, .ref h1), (2, .int x2), (3, .int 0)] [] G Q) ∧ (¬ 20 ≤ x3 → EvI K mX2_isText 0 0 [(0, .ref h1), (1, .int x3)] [] G (fun r1 G1 => ((r1 = 0 → EvV K mX2_fill 5 39 [(0, .ref 14), (1, .ref h1), (2, .int x2), (3, .int x3)] [.int x3, .ref 17] G1 Q) ∧ (¬ r1 = 0 → EvI K mX2_allDiffer 4 0 [(0, .ref h1), (1, .int x2), (2, .int x3)] [] G1 (fun r2 G2 => ((r2 = 0 → EvV K mX2_fill 5 39 [(0, .ref 14), (1, .ref h1), (2, .int x2), (3, .int x3)] [.int x3, .ref 17] G2 Q) ∧ (¬ r2 = 0 → EvV K mX2_fill 5 40 [(0, .ref 14), (1, .ref h1), (2, .int x2), (3, .int x3)] [.int 1, .int x3, .ref 17] G2 Q))))))))) :
    EvV K mX2_fill 5 7 [(0, .ref 14), (1, .ref h1), (2, .int x2), (3, .int x3)] [] G Q := by
  refine E_iload_n 3 dX2_fill_7 rfl rfl ?_
  refine E_bipush (v := 20) dX2_fill_8 (by decide) ?_
  refine E_icmp_ge (tgt := 47) dX2_fill_10 (by decide) (fun c => ?_) (fun c => ?_)
  · have hB := hB.1 c
    refine E_iconst (v := 0) dX2_fill_47 (by decide) ?_
    refine E_istore_n (lv' := [(0, .ref 14), (1, .ref h1), (2, .int x2), (3, .int 0)]) dX2_fill_48 rfl (by decide) rfl ?_
    exact EvV.tr hB rfl
  · have hB := hB.2 c
    refine E_aload_n 0 dX2_fill_13 rfl rfl rfl ?_
    refine E_gR (j := 17) fG_X2_20 rfl (lo_14 hL) (lr_14_2 hL) (by decide) dX2_fill_14 ?_
    refine E_iload_n 3 dX2_fill_17 rfl rfl ?_
    refine E_aload_n 1 dX2_fill_18 rfl rfl rfl ?_
    refine E_iload_n 3 dX2_fill_19 rfl rfl ?_
    refine E_callS (as := [.ref h1, .int x3]) (st := [.int x3, .ref 17]) cm_X2_isText cS_X2_28 rfl rfl (by decide) (Nat.le_of_ble_eq_true rfl) (Nat.le_of_ble_eq_true rfl) dX2_fill_20 hB (fun r G1 hr => ?_)
    obtain ⟨r1, rfl, hE1, hB⟩ := hr
    have hL1 : Lay G1.2.2 := by rw [hE1]; exact hL
    have hE1 : G1.2.2 = G.2.2 := hE1
    show Ev K mX2_fill 5 23 [(0, .ref 14), (1, .ref h1), (2, .int x2), (3, .int x3)] [.int r1, .int x3, .ref 17] G1 _
    refine E_if_eq (tgt := 39) dX2_fill_23 (by decide) (fun c => ?_) (fun c => ?_)
    · have hB := hB.1 c
      exact EvV.tr hB hE1
    · have hB := hB.2 c
      refine E_aload_n 1 dX2_fill_26 rfl rfl rfl ?_
      refine E_iload_n 2 dX2_fill_27 rfl rfl ?_
      refine E_iload_n 3 dX2_fill_28 rfl rfl ?_
      refine E_callS (as := [.ref h1, .int x2, .int x3]) (st := [.int x3, .ref 17]) cm_X2_allDiffer cS_X2_32 rfl rfl (by decide) (Nat.le_of_ble_eq_true rfl) (Nat.le_of_ble_eq_true rfl) dX2_fill_29 hB (fun r G2 hr => ?_)
      obtain ⟨r2, rfl, hE2, hB⟩ := hr
      have hL2 : Lay G2.2.2 := by rw [hE2]; exact hL1
      have hE2 : G2.2.2 = G.2.2 := hE2.trans hE1
      show Ev K mX2_fill 5 32 [(0, .ref 14), (1, .ref h1), (2, .int x2), (3, .int x3)] [.int r2, .int x3, .ref 17] G2 _
      refine E_if_eq (tgt := 39) dX2_fill_32 (by decide) (fun c => ?_) (fun c => ?_)
      · have hB := hB.1 c
        exact EvV.tr hB hE2
      · have hB := hB.2 c
        refine E_iconst (v := 1) dX2_fill_35 (by decide) ?_
        refine E_goto (tgt := 40) dX2_fill_36 (by decide) ?_
        exact EvV.tr hB hE2

set_option maxRecDepth 20000 in
set_option maxHeartbeats 2000000 in
theorem kX2_fill_39 {K : KT} {G : St} {Q : St → Prop} {h1 : Nat} {x2 : Int32} {x3 : Int32} {xs1 : Int32} (hL : Lay G.2.2) (hh1 : h1 = 39 ∨ h1 = 49)
    (hB : EvV K mX2_fill 5 40 [(0, .ref 14), (1, .ref h1), (2, .int x2), (3, .int x3)] [.int 0, .int xs1, .ref 17] G Q) :
    EvV K mX2_fill 5 39 [(0, .ref 14), (1, .ref h1), (2, .int x2), (3, .int x3)] [.int xs1, .ref 17] G Q := by
  refine E_iconst (v := 0) dX2_fill_39 (by decide) ?_
  exact EvV.tr hB rfl

set_option maxRecDepth 20000 in
set_option maxHeartbeats 2000000 in
theorem kX2_fill_40 {K : KT} {G : St} {Q : St → Prop} {h1 : Nat} {x2 : Int32} {x3 : Int32} {xs1 : Int32} {xs2 : Int32} (hL : Lay G.2.2) (hh1 : h1 = 39 ∨ h1 = 49)
    (hB : vp_in xs1 20 ∧ (xs2 = 0 ∨ xs2 = 1) ∧ EvV K mX2_fill 5 7 [(0, .ref 14), (1, .ref h1), (2, .int x2), (3, .int (x3 + 1))] [] (uI G 17 (Int32.toNatClampNeg xs1) xs2) Q) :
    EvV K mX2_fill 5 40 [(0, .ref 14), (1, .ref h1), (2, .int x2), (3, .int x3)] [.int xs2, .int xs1, .ref 17] G Q := by
  obtain ⟨qq1, hB⟩ := hB
  obtain ⟨qq2, hB⟩ := hB
  refine E_sZ (p := Int32.toNatClampNeg xs1) (la_17 hL) qq1 qq2 rfl dX2_fill_40 ?_
  refine E_iinc (v := x3 + 1) (lv' := [(0, .ref 14), (1, .ref h1), (2, .int x2), (3, .int (x3 + 1))]) 3 dX2_fill_41 rfl rfl (by decide) rfl ?_
  refine E_goto (tgt := 7) dX2_fill_44 (by decide) ?_
  exact EvV.tr hB rfl

set_option maxRecDepth 20000 in
set_option maxHeartbeats 2000000 in
theorem kX2_fill_49 {K : KT} {G : St} {Q : St → Prop} {h1 : Nat} {x2 : Int32} {x3 : Int32} (hL : Lay G.2.2) (hh1 : h1 = 39 ∨ h1 = 49)
    (hB : ((20 ≤ x3 → Q G) ∧ (¬ 20 ≤ x3 → EvV K mX2_fill 5 58 [(0, .ref 14), (1, .ref h1), (2, .int x2), (3, .int x3), (4, .int 0)] [] G Q))) :
    EvV K mX2_fill 5 49 [(0, .ref 14), (1, .ref h1), (2, .int x2), (3, .int x3)] [] G Q := by
  refine E_iload_n 3 dX2_fill_49 rfl rfl ?_
  refine E_bipush (v := 20) dX2_fill_50 (by decide) ?_
  refine E_icmp_ge (tgt := 151) dX2_fill_52 (by decide) (fun c => ?_) (fun c => ?_)
  · have hB := hB.1 c
    exact E_vret rfl dX2_fill_151 ⟨rfl, rfl, hB⟩
  · have hB := hB.2 c
    refine E_iconst (v := 0) dX2_fill_55 (by decide) ?_
    refine E_istore (lv' := [(0, .ref 14), (1, .ref h1), (2, .int x2), (3, .int x3), (4, .int 0)]) dX2_fill_56 (by decide) rfl ?_
    exact EvV.tr hB rfl

set_option maxRecDepth 20000 in
set_option maxHeartbeats 2000000 in
theorem kX2_fill_58 {K : KT} {G : St} {Q : St → Prop} {h1 : Nat} {x2 : Int32} {x3 : Int32} {x4 : Int32} (hL : Lay G.2.2) (hh1 : h1 = 39 ∨ h1 = 49)
    (hB : ((20 ≤ x4 → EvV K mX2_fill 5 145 [(0, .ref 14), (1, .ref h1), (2, .int x2), (3, .int x3)] [] G Q) ∧ (¬ 20 ≤ x4 → EvI K mX2_isText 0 0 [(0, .ref h1), (1, .int x3)] [] G (fun r1 G1 => ((r1 = 0 → EvV K mX2_fill 5 145 [(0, .ref 14), (1, .ref h1), (2, .int x2), (3, .int x3)] [] G1 Q) ∧ (¬ r1 = 0 → (((x3 / 4) = (x4 / 4) → EvV K mX2_fill 5 88 [(0, .ref 14), (1, .ref h1), (2, .int x2), (3, .int x3), (4, .int x4)] [.int 0] G1 Q) ∧ (¬ (x3 / 4) = (x4 / 4) → EvV K mX2_fill 5 88 [(0, .ref 14), (1, .ref h1), (2, .int x2), (3, .int x3), (4, .int x4)] [.int 1] G1 Q)))))))) :
    EvV K mX2_fill 5 58 [(0, .ref 14), (1, .ref h1), (2, .int x2), (3, .int x3), (4, .int x4)] [] G Q := by
  refine E_iload 4 dX2_fill_58 rfl ?_
  refine E_bipush (v := 20) dX2_fill_60 (by decide) ?_
  refine E_icmp_ge (tgt := 145) dX2_fill_62 (by decide) (fun c => ?_) (fun c => ?_)
  · have hB := hB.1 c
    refine E_sub (lv' := [(0, .ref 14), (1, .ref h1), (2, .int x2), (3, .int x3)]) [0, 1, 2, 3] rfl ?_
    exact EvV.tr hB rfl
  · have hB := hB.2 c
    refine E_aload_n 1 dX2_fill_65 rfl rfl rfl ?_
    refine E_iload_n 3 dX2_fill_66 rfl rfl ?_
    refine E_callS (as := [.ref h1, .int x3]) (st := []) cm_X2_isText cS_X2_28 rfl rfl (by decide) (Nat.le_of_ble_eq_true rfl) (Nat.le_of_ble_eq_true rfl) dX2_fill_67 hB (fun r G1 hr => ?_)
    obtain ⟨r1, rfl, hE1, hB⟩ := hr
    have hL1 : Lay G1.2.2 := by rw [hE1]; exact hL
    have hE1 : G1.2.2 = G.2.2 := hE1
    show Ev K mX2_fill 5 70 [(0, .ref 14), (1, .ref h1), (2, .int x2), (3, .int x3), (4, .int x4)] [.int r1] G1 _
    refine E_if_eq (tgt := 145) dX2_fill_70 (by decide) (fun c => ?_) (fun c => ?_)
    · have hB := hB.1 c
      refine E_sub (lv' := [(0, .ref 14), (1, .ref h1), (2, .int x2), (3, .int x3)]) [0, 1, 2, 3] rfl ?_
      exact EvV.tr hB hE1
    · have hB := hB.2 c
      refine E_iload_n 3 dX2_fill_73 rfl rfl ?_
      refine E_iconst (v := 4) dX2_fill_74 (by decide) ?_
      refine E_idiv dX2_fill_75 (by decide) ?_
      refine E_iload 4 dX2_fill_76 rfl ?_
      refine E_iconst (v := 4) dX2_fill_78 (by decide) ?_
      refine E_idiv dX2_fill_79 (by decide) ?_
      refine E_icmp_eq (tgt := 87) dX2_fill_80 (by decide) (fun c => ?_) (fun c => ?_)
      · have hB := hB.1 c
        refine E_iconst (v := 0) dX2_fill_87 (by decide) ?_
        exact EvV.tr hB hE1
      · have hB := hB.2 c
        refine E_iconst (v := 1) dX2_fill_83 (by decide) ?_
        refine E_goto (tgt := 88) dX2_fill_84 (by decide) ?_
        exact EvV.tr hB hE1

set_option maxRecDepth 20000 in
set_option maxHeartbeats 2000000 in
theorem kX2_fill_88 {K : KT} {G : St} {Q : St → Prop} {h1 : Nat} {x2 : Int32} {x3 : Int32} {x4 : Int32} {xs0 : Int32} (hL : Lay G.2.2) (hh1 : h1 = 39 ∨ h1 = 49)
    (hB : ((xs0 = 0 → EvV K mX2_fill 5 139 [(0, .ref 14), (1, .ref h1), (2, .int x2), (3, .int x3), (4, .int x4)] [] G Q) ∧ (¬ xs0 = 0 → vp_in x4 20 ∧ (((sI G 17 (Int32.toNatClampNeg x4)) = 0 → EvV K mX2_fill 5 139 [(0, .ref 14), (1, .ref h1), (2, .int x2), (3, .int x3), (4, .int x4)] [] G Q) ∧ (¬ (sI G 17 (Int32.toNatClampNeg x4)) = 0 → EvI K mX2_allAmong 4 0 [(0, .ref h1), (1, .int x2), (2, .int x3), (3, .int x4)] [] G (fun r2 G2 => ((r2 = 0 → EvV K mX2_fill 5 139 [(0, .ref 14), (1, .ref h1), (2, .int x2), (3, .int x3), (4, .int x4)] [] G2 Q) ∧ (¬ r2 = 0 → vp_in (sI G2 14 3) 400 ∧ EvV K mX2_fill 5 139 [(0, .ref 14), (1, .ref h1), (2, .int x2), (3, .int x3), (4, .int x4)] [] (uI (uI G2 14 3 ((sI G2 14 3) + 1)) 15 (Int32.toNatClampNeg (sI G2 14 3)) ((x3 * 20) + x4)) Q)))))))) :
    EvV K mX2_fill 5 88 [(0, .ref 14), (1, .ref h1), (2, .int x2), (3, .int x3), (4, .int x4)] [.int xs0] G Q := by
  refine E_istore (lv' := [(0, .ref 14), (1, .ref h1), (2, .int x2), (3, .int x3), (4, .int x4), (5, .int xs0)]) dX2_fill_88 (by decide) rfl ?_
  refine E_iload 5 dX2_fill_90 rfl ?_
  refine E_if_eq (tgt := 139) dX2_fill_92 (by decide) (fun c => ?_) (fun c => ?_)
  · have hB := hB.1 c
    refine E_sub (lv' := [(0, .ref 14), (1, .ref h1), (2, .int x2), (3, .int x3), (4, .int x4)]) [0, 1, 2, 3, 4] rfl ?_
    exact EvV.tr hB rfl
  · have hB := hB.2 c
    refine E_aload_n 0 dX2_fill_95 rfl rfl rfl ?_
    refine E_gR (j := 17) fG_X2_20 rfl (lo_14 hL) (lr_14_2 hL) (by decide) dX2_fill_96 ?_
    refine E_iload 4 dX2_fill_99 rfl ?_
    obtain ⟨qq1, hB⟩ := hB
    refine E_aZ (p := Int32.toNatClampNeg x4) (v := sI G 17 (Int32.toNatClampNeg x4)) (la_17 hL) qq1 rfl rfl dX2_fill_101 ?_
    refine E_if_eq (tgt := 139) dX2_fill_102 (by decide) (fun c => ?_) (fun c => ?_)
    · have hB := hB.1 c
      refine E_sub (lv' := [(0, .ref 14), (1, .ref h1), (2, .int x2), (3, .int x3), (4, .int x4)]) [0, 1, 2, 3, 4] rfl ?_
      exact EvV.tr hB rfl
    · have hB := hB.2 c
      refine E_aload_n 1 dX2_fill_105 rfl rfl rfl ?_
      refine E_iload_n 2 dX2_fill_106 rfl rfl ?_
      refine E_iload_n 3 dX2_fill_107 rfl rfl ?_
      refine E_iload 4 dX2_fill_108 rfl ?_
      refine E_callS (as := [.ref h1, .int x2, .int x3, .int x4]) (st := []) cm_X2_allAmong cS_X2_36 rfl rfl (by decide) (Nat.le_of_ble_eq_true rfl) (Nat.le_of_ble_eq_true rfl) dX2_fill_110 hB (fun r G2 hr => ?_)
      obtain ⟨r2, rfl, hE2, hB⟩ := hr
      have hL2 : Lay G2.2.2 := by rw [hE2]; exact hL
      have hE2 : G2.2.2 = G.2.2 := hE2
      show Ev K mX2_fill 5 113 [(0, .ref 14), (1, .ref h1), (2, .int x2), (3, .int x3), (4, .int x4), (5, .int xs0)] [.int r2] G2 _
      refine E_if_eq (tgt := 139) dX2_fill_113 (by decide) (fun c => ?_) (fun c => ?_)
      · have hB := hB.1 c
        refine E_sub (lv' := [(0, .ref 14), (1, .ref h1), (2, .int x2), (3, .int x3), (4, .int x4)]) [0, 1, 2, 3, 4] rfl ?_
        exact EvV.tr hB hE2
      · have hB := hB.2 c
        refine E_aload_n 0 dX2_fill_116 rfl rfl rfl ?_
        refine E_gR (j := 15) fG_X2_13 rfl (lo_14 hL2) (lr_14_0 hL2) (by decide) dX2_fill_117 ?_
        refine E_aload_n 0 dX2_fill_120 rfl rfl rfl ?_
        refine E_dup dX2_fill_121 rfl ?_
        refine E_gI (v := sI G2 14 3) fG_X2_24 rfl (lo_14 hL2) rfl dX2_fill_122 ?_
        refine E_dup_x1 dX2_fill_125 rfl rfl ?_
        refine E_iconst (v := 1) dX2_fill_126 (by decide) ?_
        refine E_iadd dX2_fill_127 ?_
        refine E_pI fP_X2_24 rfl (lo_14 hL2) dX2_fill_128 ?_
        refine E_iload_n 3 dX2_fill_131 rfl rfl ?_
        refine E_bipush (v := 20) dX2_fill_132 (by decide) ?_
        refine E_imul dX2_fill_134 ?_
        refine E_iload 4 dX2_fill_135 rfl ?_
        refine E_iadd dX2_fill_137 ?_
        obtain ⟨qq3, hB⟩ := hB
        refine E_sI (p := Int32.toNatClampNeg (sI G2 14 3)) (la_15 hL2) qq3 rfl dX2_fill_138 ?_
        refine E_sub (lv' := [(0, .ref 14), (1, .ref h1), (2, .int x2), (3, .int x3), (4, .int x4)]) [0, 1, 2, 3, 4] rfl ?_
        exact EvV.tr hB hE2

set_option maxRecDepth 20000 in
set_option maxHeartbeats 2000000 in
theorem kX2_fill_139 {K : KT} {G : St} {Q : St → Prop} {h1 : Nat} {x2 : Int32} {x3 : Int32} {x4 : Int32} (hL : Lay G.2.2) (hh1 : h1 = 39 ∨ h1 = 49)
    (hB : EvV K mX2_fill 5 58 [(0, .ref 14), (1, .ref h1), (2, .int x2), (3, .int x3), (4, .int (x4 + 1))] [] G Q) :
    EvV K mX2_fill 5 139 [(0, .ref 14), (1, .ref h1), (2, .int x2), (3, .int x3), (4, .int x4)] [] G Q := by
  refine E_iinc (v := x4 + 1) (lv' := [(0, .ref 14), (1, .ref h1), (2, .int x2), (3, .int x3), (4, .int (x4 + 1))]) 4 dX2_fill_139 rfl rfl (by decide) rfl ?_
  refine E_goto (tgt := 58) dX2_fill_142 (by decide) ?_
  exact EvV.tr hB rfl

set_option maxRecDepth 20000 in
set_option maxHeartbeats 2000000 in
theorem kX2_fill_145 {K : KT} {G : St} {Q : St → Prop} {h1 : Nat} {x2 : Int32} {x3 : Int32} (hL : Lay G.2.2) (hh1 : h1 = 39 ∨ h1 = 49)
    (hB : EvV K mX2_fill 5 49 [(0, .ref 14), (1, .ref h1), (2, .int x2), (3, .int (x3 + 1))] [] G Q) :
    EvV K mX2_fill 5 145 [(0, .ref 14), (1, .ref h1), (2, .int x2), (3, .int x3)] [] G Q := by
  refine E_iinc (v := x3 + 1) (lv' := [(0, .ref 14), (1, .ref h1), (2, .int x2), (3, .int (x3 + 1))]) 3 dX2_fill_145 rfl rfl (by decide) rfl ?_
  refine E_goto (tgt := 49) dX2_fill_148 (by decide) ?_
  exact EvV.tr hB rfl

set_option maxRecDepth 20000 in
set_option maxHeartbeats 2000000 in
theorem kX2_codeAt_0 {K : KT} {G : St} {Q : Int32 → St → Prop} {x1 : Int32} (hL : Lay G.2.2) 
    (hB : ((x1 < 0 → Q (-1) G) ∧ (¬ x1 < 0 → (((sI G 14 3) ≤ x1 → Q (-1) G) ∧ (¬ (sI G 14 3) ≤ x1 → vp_in x1 400 ∧ Q (sI G 15 (Int32.toNatClampNeg x1)) G))))) :
    EvI K mX2_codeAt 0 0 [(0, .ref 14), (1, .int x1)] [] G Q := by
  refine E_iload_n 1 dX2_codeAt_0 rfl rfl ?_
  refine E_if_lt (tgt := 21) dX2_codeAt_1 (by decide) (fun c => ?_) (fun c => ?_)
  · have hB := hB.1 c
    refine E_iconst (v := (-1)) dX2_codeAt_21 (by decide) ?_
    exact E_iret rfl dX2_codeAt_22 ⟨_, rfl, rfl, hB⟩
  · have hB := hB.2 c
    refine E_iload_n 1 dX2_codeAt_4 rfl rfl ?_
    refine E_aload_n 0 dX2_codeAt_5 rfl rfl rfl ?_
    refine E_gI (v := sI G 14 3) fG_X2_24 rfl (lo_14 hL) rfl dX2_codeAt_6 ?_
    refine E_icmp_ge (tgt := 21) dX2_codeAt_9 (by decide) (fun c => ?_) (fun c => ?_)
    · have hB := hB.1 c
      refine E_iconst (v := (-1)) dX2_codeAt_21 (by decide) ?_
      exact E_iret rfl dX2_codeAt_22 ⟨_, rfl, rfl, hB⟩
    · have hB := hB.2 c
      refine E_aload_n 0 dX2_codeAt_12 rfl rfl rfl ?_
      refine E_gR (j := 15) fG_X2_13 rfl (lo_14 hL) (lr_14_0 hL) (by decide) dX2_codeAt_13 ?_
      refine E_iload_n 1 dX2_codeAt_16 rfl rfl ?_
      obtain ⟨qq1, hB⟩ := hB
      refine E_aI (p := Int32.toNatClampNeg x1) (v := sI G 15 (Int32.toNatClampNeg x1)) (la_15 hL) qq1 rfl rfl dX2_codeAt_17 ?_
      refine E_goto (tgt := 22) dX2_codeAt_18 (by decide) ?_
      exact E_iret rfl dX2_codeAt_22 ⟨_, rfl, rfl, hB⟩

set_option maxRecDepth 20000 in
set_option maxHeartbeats 2000000 in
theorem kX2_letOne_0 {K : KT} {G : St} {Q : Int32 → St → Prop} {x1 : Int32} (hL : Lay G.2.2) 
    (hB : EvI K mX2_codeAt 0 0 [(0, .ref 14), (1, .int x1)] [] G (fun r1 G1 => ((r1 = (-1) → Q 0 G1) ∧ (¬ r1 = (-1) → (((sI G1 14 4) < 20 → EvI K mX2_letOne 1 24 [(0, .ref 14), (2, .int r1), (3, .int 0)] [] G1 Q) ∧ (¬ (sI G1 14 4) < 20 → Q 0 G1)))))) :
    EvI K mX2_letOne 1 0 [(0, .ref 14), (1, .int x1)] [] G Q := by
  refine E_aload_n 0 dX2_letOne_0 rfl rfl rfl ?_
  refine E_iload_n 1 dX2_letOne_1 rfl rfl ?_
  refine E_cV (ci := 2) (as := [.int x1]) (st := []) cm_X2_codeAt cV_X2_40 ⟨_, _, rfl⟩ (by decide) (lo_14 hL) rfl rfl (by decide) (Nat.le_of_ble_eq_true rfl) (Nat.le_of_ble_eq_true rfl) dX2_letOne_2 hB (fun r G1 hr => ?_)
  obtain ⟨r1, rfl, hE1, hB⟩ := hr
  have hL1 : Lay G1.2.2 := by rw [hE1]; exact hL
  have hE1 : G1.2.2 = G.2.2 := hE1
  show Ev K mX2_letOne 1 5 [(0, .ref 14), (1, .int x1)] [.int r1] G1 _
  refine E_istore_n (lv' := [(0, .ref 14), (1, .int x1), (2, .int r1)]) dX2_letOne_5 rfl (by decide) rfl ?_
  refine E_iload_n 2 dX2_letOne_6 rfl rfl ?_
  refine E_iconst (v := (-1)) dX2_letOne_7 (by decide) ?_
  refine E_icmp_eq (tgt := 20) dX2_letOne_8 (by decide) (fun c => ?_) (fun c => ?_)
  · have hB := hB.1 c
    refine E_iconst (v := 0) dX2_letOne_20 (by decide) ?_
    exact E_zret rfl (Or.inl rfl) dX2_letOne_21 ⟨_, rfl, hE1, hB⟩
  · have hB := hB.2 c
    refine E_aload_n 0 dX2_letOne_11 rfl rfl rfl ?_
    refine E_gI (v := sI G1 14 4) fG_X2_44 rfl (lo_14 hL1) rfl dX2_letOne_12 ?_
    refine E_bipush (v := 20) dX2_letOne_15 (by decide) ?_
    refine E_icmp_lt (tgt := 22) dX2_letOne_17 (by decide) (fun c => ?_) (fun c => ?_)
    · have hB := hB.1 c
      refine E_iconst (v := 0) dX2_letOne_22 (by decide) ?_
      refine E_istore_n (lv' := [(0, .ref 14), (1, .int x1), (2, .int r1), (3, .int 0)]) dX2_letOne_23 rfl (by decide) rfl ?_
      refine E_sub (lv' := [(0, .ref 14), (2, .int r1), (3, .int 0)]) [0, 2, 3] rfl ?_
      exact EvI.tr hB hE1
    · have hB := hB.2 c
      refine E_iconst (v := 0) dX2_letOne_20 (by decide) ?_
      exact E_zret rfl (Or.inl rfl) dX2_letOne_21 ⟨_, rfl, hE1, hB⟩

set_option maxRecDepth 20000 in
set_option maxHeartbeats 2000000 in
theorem kX2_letOne_24 {K : KT} {G : St} {Q : Int32 → St → Prop} {x2 : Int32} {x3 : Int32} (hL : Lay G.2.2) 
    (hB : (((sI G 14 4) ≤ x3 → vp_in (sI G 14 4) 20 ∧ Q 1 (uI (uI G 14 4 ((sI G 14 4) + 1)) 16 (Int32.toNatClampNeg (sI G 14 4)) x2)) ∧ (¬ (sI G 14 4) ≤ x3 → vp_in x3 20 ∧ ((¬ (sI G 16 (Int32.toNatClampNeg x3)) = x2 → EvI K mX2_letOne 1 24 [(0, .ref 14), (2, .int x2), (3, .int (x3 + 1))] [] G Q) ∧ ((sI G 16 (Int32.toNatClampNeg x3)) = x2 → Q 0 G))))) :
    EvI K mX2_letOne 1 24 [(0, .ref 14), (2, .int x2), (3, .int x3)] [] G Q := by
  refine E_iload_n 2 dX2_letOne_24 rfl rfl ?_
  refine E_aload_n 0 dX2_letOne_25 rfl rfl rfl ?_
  refine E_gI (v := sI G 14 4) fG_X2_44 rfl (lo_14 hL) rfl dX2_letOne_26 ?_
  refine E_icmp_ge (tgt := 50) dX2_letOne_29 (by decide) (fun c => ?_) (fun c => ?_)
  · have hB := hB.1 c
    refine E_aload_n 0 dX2_letOne_50 rfl rfl rfl ?_
    refine E_gR (j := 16) fG_X2_17 rfl (lo_14 hL) (lr_14_1 hL) (by decide) dX2_letOne_51 ?_
    refine E_aload_n 0 dX2_letOne_54 rfl rfl rfl ?_
    refine E_dup dX2_letOne_55 rfl ?_
    refine E_gI (v := sI G 14 4) fG_X2_44 rfl (lo_14 hL) rfl dX2_letOne_56 ?_
    refine E_dup_x1 dX2_letOne_59 rfl rfl ?_
    refine E_iconst (v := 1) dX2_letOne_60 (by decide) ?_
    refine E_iadd dX2_letOne_61 ?_
    refine E_pI fP_X2_44 rfl (lo_14 hL) dX2_letOne_62 ?_
    refine E_iload_n 1 dX2_letOne_65 rfl rfl ?_
    obtain ⟨qq1, hB⟩ := hB
    refine E_sI (p := Int32.toNatClampNeg (sI G 14 4)) (la_16 hL) qq1 rfl dX2_letOne_66 ?_
    refine E_iconst (v := 1) dX2_letOne_67 (by decide) ?_
    exact E_zret rfl (Or.inr rfl) dX2_letOne_68 ⟨_, rfl, rfl, hB⟩
  · have hB := hB.2 c
    refine E_aload_n 0 dX2_letOne_32 rfl rfl rfl ?_
    refine E_gR (j := 16) fG_X2_17 rfl (lo_14 hL) (lr_14_1 hL) (by decide) dX2_letOne_33 ?_
    refine E_iload_n 2 dX2_letOne_36 rfl rfl ?_
    obtain ⟨qq2, hB⟩ := hB
    refine E_aI (p := Int32.toNatClampNeg x3) (v := sI G 16 (Int32.toNatClampNeg x3)) (la_16 hL) qq2 rfl rfl dX2_letOne_37 ?_
    refine E_iload_n 1 dX2_letOne_38 rfl rfl ?_
    refine E_icmp_ne (tgt := 44) dX2_letOne_39 (by decide) (fun c => ?_) (fun c => ?_)
    · have hB := hB.1 c
      refine E_iinc (v := x3 + 1) (lv' := [(0, .ref 14), (2, .int x2), (3, .int (x3 + 1))]) 2 dX2_letOne_44 rfl rfl (by decide) rfl ?_
      refine E_goto (tgt := 24) dX2_letOne_47 (by decide) ?_
      exact EvI.tr hB rfl
    · have hB := hB.2 c
      refine E_iconst (v := 0) dX2_letOne_42 (by decide) ?_
      exact E_zret rfl (Or.inl rfl) dX2_letOne_43 ⟨_, rfl, rfl, hB⟩

set_option maxRecDepth 20000 in
set_option maxHeartbeats 2000000 in
theorem kX2_forgetLets_0 {K : KT} {G : St} {Q : St → Prop}  (hL : Lay G.2.2) 
    (hB : Q (uI G 14 4 0)) :
    EvV K mX2_forgetLets 0 0 [(0, .ref 14)] [] G Q := by
  refine E_aload_n 0 dX2_forgetLets_0 rfl rfl rfl ?_
  refine E_iconst (v := 0) dX2_forgetLets_1 (by decide) ?_
  refine E_pI fP_X2_44 rfl (lo_14 hL) dX2_forgetLets_2 ?_
  exact E_vret rfl dX2_forgetLets_5 ⟨rfl, rfl, hB⟩

set_option maxRecDepth 20000 in
set_option maxHeartbeats 2000000 in
theorem kX2_letFrom_0 {K : KT} {G : St} {Q : Int32 → St → Prop} {x1 : Int32} (hL : Lay G.2.2) 
    (hB : ((x1 < 0 → Q (-1) G) ∧ (¬ x1 < 0 → (((sI G 14 4) ≤ x1 → Q (-1) G) ∧ (¬ (sI G 14 4) ≤ x1 → vp_in x1 20 ∧ Q ((sI G 16 (Int32.toNatClampNeg x1)) / 20) G))))) :
    EvI K mX2_letFrom 0 0 [(0, .ref 14), (1, .int x1)] [] G Q := by
  refine E_iload_n 1 dX2_letFrom_0 rfl rfl ?_
  refine E_if_lt (tgt := 24) dX2_letFrom_1 (by decide) (fun c => ?_) (fun c => ?_)
  · have hB := hB.1 c
    refine E_iconst (v := (-1)) dX2_letFrom_24 (by decide) ?_
    exact E_iret rfl dX2_letFrom_25 ⟨_, rfl, rfl, hB⟩
  · have hB := hB.2 c
    refine E_iload_n 1 dX2_letFrom_4 rfl rfl ?_
    refine E_aload_n 0 dX2_letFrom_5 rfl rfl rfl ?_
    refine E_gI (v := sI G 14 4) fG_X2_44 rfl (lo_14 hL) rfl dX2_letFrom_6 ?_
    refine E_icmp_ge (tgt := 24) dX2_letFrom_9 (by decide) (fun c => ?_) (fun c => ?_)
    · have hB := hB.1 c
      refine E_iconst (v := (-1)) dX2_letFrom_24 (by decide) ?_
      exact E_iret rfl dX2_letFrom_25 ⟨_, rfl, rfl, hB⟩
    · have hB := hB.2 c
      refine E_aload_n 0 dX2_letFrom_12 rfl rfl rfl ?_
      refine E_gR (j := 16) fG_X2_17 rfl (lo_14 hL) (lr_14_1 hL) (by decide) dX2_letFrom_13 ?_
      refine E_iload_n 1 dX2_letFrom_16 rfl rfl ?_
      obtain ⟨qq1, hB⟩ := hB
      refine E_aI (p := Int32.toNatClampNeg x1) (v := sI G 16 (Int32.toNatClampNeg x1)) (la_16 hL) qq1 rfl rfl dX2_letFrom_17 ?_
      refine E_bipush (v := 20) dX2_letFrom_18 (by decide) ?_
      refine E_idiv dX2_letFrom_20 (by decide) ?_
      refine E_goto (tgt := 25) dX2_letFrom_21 (by decide) ?_
      exact E_iret rfl dX2_letFrom_25 ⟨_, rfl, rfl, hB⟩

set_option maxRecDepth 20000 in
set_option maxHeartbeats 2000000 in
theorem kX2_letTo_0 {K : KT} {G : St} {Q : Int32 → St → Prop} {x1 : Int32} (hL : Lay G.2.2) 
    (hB : ((x1 < 0 → Q (-1) G) ∧ (¬ x1 < 0 → (((sI G 14 4) ≤ x1 → Q (-1) G) ∧ (¬ (sI G 14 4) ≤ x1 → vp_in x1 20 ∧ Q ((sI G 16 (Int32.toNatClampNeg x1)) - (sI G 16 (Int32.toNatClampNeg x1)) / 20 * 20) G))))) :
    EvI K mX2_letTo 0 0 [(0, .ref 14), (1, .int x1)] [] G Q := by
  refine E_iload_n 1 dX2_letTo_0 rfl rfl ?_
  refine E_if_lt (tgt := 24) dX2_letTo_1 (by decide) (fun c => ?_) (fun c => ?_)
  · have hB := hB.1 c
    refine E_iconst (v := (-1)) dX2_letTo_24 (by decide) ?_
    exact E_iret rfl dX2_letTo_25 ⟨_, rfl, rfl, hB⟩
  · have hB := hB.2 c
    refine E_iload_n 1 dX2_letTo_4 rfl rfl ?_
    refine E_aload_n 0 dX2_letTo_5 rfl rfl rfl ?_
    refine E_gI (v := sI G 14 4) fG_X2_44 rfl (lo_14 hL) rfl dX2_letTo_6 ?_
    refine E_icmp_ge (tgt := 24) dX2_letTo_9 (by decide) (fun c => ?_) (fun c => ?_)
    · have hB := hB.1 c
      refine E_iconst (v := (-1)) dX2_letTo_24 (by decide) ?_
      exact E_iret rfl dX2_letTo_25 ⟨_, rfl, rfl, hB⟩
    · have hB := hB.2 c
      refine E_aload_n 0 dX2_letTo_12 rfl rfl rfl ?_
      refine E_gR (j := 16) fG_X2_17 rfl (lo_14 hL) (lr_14_1 hL) (by decide) dX2_letTo_13 ?_
      refine E_iload_n 1 dX2_letTo_16 rfl rfl ?_
      obtain ⟨qq1, hB⟩ := hB
      refine E_aI (p := Int32.toNatClampNeg x1) (v := sI G 16 (Int32.toNatClampNeg x1)) (la_16 hL) qq1 rfl rfl dX2_letTo_17 ?_
      refine E_bipush (v := 20) dX2_letTo_18 (by decide) ?_
      refine E_irem dX2_letTo_20 (by decide) ?_
      refine E_goto (tgt := 25) dX2_letTo_21 (by decide) ?_
      exact E_iret rfl dX2_letTo_25 ⟨_, rfl, rfl, hB⟩

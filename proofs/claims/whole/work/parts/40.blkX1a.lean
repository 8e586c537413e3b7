set_option maxRecDepth 20000 in
set_option maxHeartbeats 2000000 in
theorem kX1_hasColumnNamed_0 {K : KT} {G : St} {Q : Int32 → St → Prop} {h0 : Nat} {x1 : Int32} {y2 : Int64} (hL : Lay G.2.2) (hh0 : h0 = 39 ∨ h0 = 49)
    (hB : EvI K mX1_hasColumnNamed 0 3 [(0, .ref h0), (1, .int x1), (2, .long y2), (4, .int 0)] [] G Q) :
    EvI K mX1_hasColumnNamed 0 0 [(0, .ref h0), (1, .int x1), (2, .long y2)] [] G Q := by
  refine E_iconst (v := 0) dX1_hasColumnNamed_0 (by decide) ?_
  refine E_istore (lv' := [(0, .ref h0), (1, .int x1), (2, .long y2), (4, .int 0)]) dX1_hasColumnNamed_1 (by decide) rfl ?_
  exact EvI.tr hB rfl

set_option maxRecDepth 20000 in
set_option maxHeartbeats 2000000 in
theorem kX1_hasColumnNamed_3 {K : KT} {G : St} {Q : Int32 → St → Prop} {h0 : Nat} {x1 : Int32} {y2 : Int64} {x4 : Int32} (hL : Lay G.2.2) (hh0 : h0 = 39 ∨ h0 = 49)
    (hB : vp_in x1 5 ∧ (((sI G (h0 + 2) (Int32.toNatClampNeg x1)) ≤ x4 → Q 0 G) ∧ (¬ (sI G (h0 + 2) (Int32.toNatClampNeg x1)) ≤ x4 → vp_in ((x1 * 4) + x4) 20 ∧ ((¬ (sL G (h0 + 3) (Int32.toNatClampNeg ((x1 * 4) + x4))) = y2 → EvI K mX1_hasColumnNamed 0 3 [(0, .ref h0), (1, .int x1), (2, .long y2), (4, .int (x4 + 1))] [] G Q) ∧ ((sL G (h0 + 3) (Int32.toNatClampNeg ((x1 * 4) + x4))) = y2 → Q 1 G))))) :
    EvI K mX1_hasColumnNamed 0 3 [(0, .ref h0), (1, .int x1), (2, .long y2), (4, .int x4)] [] G Q := by
  refine E_iload 3 dX1_hasColumnNamed_3 rfl ?_
  refine E_aload_n 0 dX1_hasColumnNamed_5 rfl rfl rfl ?_
  refine E_gR (j := h0 + 2) fG_X1_15 rfl (lhO hL hh0) (lhR1 hL hh0) (Nat.succ_pos _) dX1_hasColumnNamed_6 ?_
  refine E_iload_n 1 dX1_hasColumnNamed_9 rfl rfl ?_
  obtain ⟨qq1, hB⟩ := hB
  refine E_aI (p := Int32.toNatClampNeg x1) (v := sI G (h0 + 2) (Int32.toNatClampNeg x1)) (lhA1 hL hh0) qq1 rfl rfl dX1_hasColumnNamed_10 ?_
  refine E_icmp_ge (tgt := 38) dX1_hasColumnNamed_11 (by decide) (fun c => ?_) (fun c => ?_)
  · have hB := hB.1 c
    refine E_iconst (v := 0) dX1_hasColumnNamed_38 (by decide) ?_
    exact E_zret rfl (Or.inl rfl) dX1_hasColumnNamed_39 ⟨_, rfl, rfl, hB⟩
  · have hB := hB.2 c
    refine E_aload_n 0 dX1_hasColumnNamed_14 rfl rfl rfl ?_
    refine E_gR (j := h0 + 3) fG_X1_19 rfl (lhO hL hh0) (lhR2 hL hh0) (Nat.succ_pos _) dX1_hasColumnNamed_15 ?_
    refine E_iload_n 1 dX1_hasColumnNamed_18 rfl rfl ?_
    refine E_iconst (v := 4) dX1_hasColumnNamed_19 (by decide) ?_
    refine E_imul dX1_hasColumnNamed_20 ?_
    refine E_iload 3 dX1_hasColumnNamed_21 rfl ?_
    refine E_iadd dX1_hasColumnNamed_23 ?_
    obtain ⟨qq2, hB⟩ := hB
    refine E_aL (p := Int32.toNatClampNeg ((x1 * 4) + x4)) (v := sL G (h0 + 3) (Int32.toNatClampNeg ((x1 * 4) + x4))) (lhA2 hL hh0) qq2 rfl rfl dX1_hasColumnNamed_24 ?_
    refine E_lload_n 2 dX1_hasColumnNamed_25 rfl rfl ?_
    refine E_lcmp dX1_hasColumnNamed_26 ?_
    refine E_if_ne (tgt := 32) dX1_hasColumnNamed_27 (by decide) (fun c => ?_) (fun c => ?_)
    · have hB := hB.1 ((fun q => c ((lgc_eq (sL G (h0 + 3) (Int32.toNatClampNeg ((x1 * 4) + x4))) y2).mpr q)))
      refine E_iinc (v := x4 + 1) (lv' := [(0, .ref h0), (1, .int x1), (2, .long y2), (4, .int (x4 + 1))]) 3 dX1_hasColumnNamed_32 rfl rfl (by decide) rfl ?_
      refine E_goto (tgt := 3) dX1_hasColumnNamed_35 (by decide) ?_
      exact EvI.tr hB rfl
    · have hB := hB.2 ((lgc_eq (sL G (h0 + 3) (Int32.toNatClampNeg ((x1 * 4) + x4))) y2).mp c)
      refine E_iconst (v := 1) dX1_hasColumnNamed_30 (by decide) ?_
      exact E_zret rfl (Or.inr rfl) dX1_hasColumnNamed_31 ⟨_, rfl, rfl, hB⟩

set_option maxRecDepth 20000 in
set_option maxHeartbeats 2000000 in
theorem kX1_kindAt_0 {K : KT} {G : St} {Q : Int32 → St → Prop} {h0 : Nat} {x1 : Int32} {x2 : Int32} (hL : Lay G.2.2) (hh0 : h0 = 39 ∨ h0 = 49)
    (hB : ((x1 < 0 → Q (-3) G) ∧ (¬ x1 < 0 → (((sI G h0 10) ≤ x1 → Q (-3) G) ∧ (¬ (sI G h0 10) ≤ x1 → ((x2 < 0 → Q (-3) G) ∧ (¬ x2 < 0 → vp_in x1 30 ∧ vp_in (sI G (h0 + 5) (Int32.toNatClampNeg x1)) 5 ∧ ((x2 < (sI G (h0 + 2) (Int32.toNatClampNeg (sI G (h0 + 5) (Int32.toNatClampNeg x1)))) → vp_in x1 30 ∧ vp_in (((sI G (h0 + 5) (Int32.toNatClampNeg x1)) * 4) + x2) 20 ∧ Q (sI G (h0 + 4) (Int32.toNatClampNeg (((sI G (h0 + 5) (Int32.toNatClampNeg x1)) * 4) + x2))) G) ∧ (¬ x2 < (sI G (h0 + 2) (Int32.toNatClampNeg (sI G (h0 + 5) (Int32.toNatClampNeg x1)))) → Q (-3) G))))))))) :
    EvI K mX1_kindAt 0 0 [(0, .ref h0), (1, .int x1), (2, .int x2)] [] G Q := by
  refine E_iload_n 1 dX1_kindAt_0 rfl rfl ?_
  refine E_if_lt (tgt := 31) dX1_kindAt_1 (by decide) (fun c => ?_) (fun c => ?_)
  · have hB := hB.1 c
    refine E_bipush (v := (-3)) dX1_kindAt_31 (by decide) ?_
    exact E_iret rfl dX1_kindAt_33 ⟨_, rfl, rfl, hB⟩
  · have hB := hB.2 c
    refine E_iload_n 1 dX1_kindAt_4 rfl rfl ?_
    refine E_aload_n 0 dX1_kindAt_5 rfl rfl rfl ?_
    refine E_gI (v := sI G h0 10) fG_X1_44 rfl (lhO hL hh0) rfl dX1_kindAt_6 ?_
    refine E_icmp_ge (tgt := 31) dX1_kindAt_9 (by decide) (fun c => ?_) (fun c => ?_)
    · have hB := hB.1 c
      refine E_bipush (v := (-3)) dX1_kindAt_31 (by decide) ?_
      exact E_iret rfl dX1_kindAt_33 ⟨_, rfl, rfl, hB⟩
    · have hB := hB.2 c
      refine E_iload_n 2 dX1_kindAt_12 rfl rfl ?_
      refine E_if_lt (tgt := 31) dX1_kindAt_13 (by decide) (fun c => ?_) (fun c => ?_)
      · have hB := hB.1 c
        refine E_bipush (v := (-3)) dX1_kindAt_31 (by decide) ?_
        exact E_iret rfl dX1_kindAt_33 ⟨_, rfl, rfl, hB⟩
      · have hB := hB.2 c
        refine E_iload_n 2 dX1_kindAt_16 rfl rfl ?_
        refine E_aload_n 0 dX1_kindAt_17 rfl rfl rfl ?_
        refine E_gR (j := h0 + 2) fG_X1_15 rfl (lhO hL hh0) (lhR1 hL hh0) (Nat.succ_pos _) dX1_kindAt_18 ?_
        refine E_aload_n 0 dX1_kindAt_21 rfl rfl rfl ?_
        refine E_gR (j := h0 + 5) fG_X1_25 rfl (lhO hL hh0) (lhR4 hL hh0) (Nat.succ_pos _) dX1_kindAt_22 ?_
        refine E_iload_n 1 dX1_kindAt_25 rfl rfl ?_
        obtain ⟨qq1, hB⟩ := hB
        refine E_aI (p := Int32.toNatClampNeg x1) (v := sI G (h0 + 5) (Int32.toNatClampNeg x1)) (lhA4 hL hh0) qq1 rfl rfl dX1_kindAt_26 ?_
        obtain ⟨qq2, hB⟩ := hB
        refine E_aI (p := Int32.toNatClampNeg (sI G (h0 + 5) (Int32.toNatClampNeg x1))) (v := sI G (h0 + 2) (Int32.toNatClampNeg (sI G (h0 + 5) (Int32.toNatClampNeg x1)))) (lhA1 hL hh0) qq2 rfl rfl dX1_kindAt_27 ?_
        refine E_icmp_lt (tgt := 34) dX1_kindAt_28 (by decide) (fun c => ?_) (fun c => ?_)
        · have hB := hB.1 c
          refine E_aload_n 0 dX1_kindAt_34 rfl rfl rfl ?_
          refine E_gR (j := h0 + 4) fG_X1_22 rfl (lhO hL hh0) (lhR3 hL hh0) (Nat.succ_pos _) dX1_kindAt_35 ?_
          refine E_aload_n 0 dX1_kindAt_38 rfl rfl rfl ?_
          refine E_gR (j := h0 + 5) fG_X1_25 rfl (lhO hL hh0) (lhR4 hL hh0) (Nat.succ_pos _) dX1_kindAt_39 ?_
          refine E_iload_n 1 dX1_kindAt_42 rfl rfl ?_
          obtain ⟨qq3, hB⟩ := hB
          refine E_aI (p := Int32.toNatClampNeg x1) (v := sI G (h0 + 5) (Int32.toNatClampNeg x1)) (lhA4 hL hh0) qq3 rfl rfl dX1_kindAt_43 ?_
          refine E_iconst (v := 4) dX1_kindAt_44 (by decide) ?_
          refine E_imul dX1_kindAt_45 ?_
          refine E_iload_n 2 dX1_kindAt_46 rfl rfl ?_
          refine E_iadd dX1_kindAt_47 ?_
          obtain ⟨qq4, hB⟩ := hB
          refine E_aI (p := Int32.toNatClampNeg (((sI G (h0 + 5) (Int32.toNatClampNeg x1)) * 4) + x2)) (v := sI G (h0 + 4) (Int32.toNatClampNeg (((sI G (h0 + 5) (Int32.toNatClampNeg x1)) * 4) + x2))) (lhA3 hL hh0) qq4 rfl rfl dX1_kindAt_48 ?_
          exact E_iret rfl dX1_kindAt_49 ⟨_, rfl, rfl, hB⟩
        · have hB := hB.2 c
          refine E_bipush (v := (-3)) dX1_kindAt_31 (by decide) ?_
          exact E_iret rfl dX1_kindAt_33 ⟨_, rfl, rfl, hB⟩

set_option maxRecDepth 20000 in
set_option maxHeartbeats 2000000 in
theorem kX1_wordAt_0 {K : KT} {G : St} {Q : Int64 → St → Prop} {h0 : Nat} {x1 : Int32} {x2 : Int32} (hL : Lay G.2.2) (hh0 : h0 = 39 ∨ h0 = 49)
    (hB : EvI K mX1_kindAt 0 0 [(0, .ref h0), (1, .int x1), (2, .int x2)] [] G (fun r1 G1 => ((¬ r1 = (-1) → Q 0 G1) ∧ (r1 = (-1) → vp_in ((x1 * 4) + x2) 120 ∧ Q (sL G1 (h0 + 8) (Int32.toNatClampNeg ((x1 * 4) + x2))) G1)))) :
    EvL K mX1_wordAt 1 0 [(0, .ref h0), (1, .int x1), (2, .int x2)] [] G Q := by
  refine E_aload_n 0 dX1_wordAt_0 rfl rfl rfl ?_
  refine E_iload_n 1 dX1_wordAt_1 rfl rfl ?_
  refine E_iload_n 2 dX1_wordAt_2 rfl rfl ?_
  refine E_cV (ci := 1) (as := [.int x1, .int x2]) (st := []) cm_X1_kindAt cV_X1_57 ⟨_, _, rfl⟩ (by decide) (lhO hL hh0) rfl rfl (by decide) (Nat.le_of_ble_eq_true rfl) (Nat.le_of_ble_eq_true rfl) dX1_wordAt_3 hB (fun r G1 hr => ?_)
  obtain ⟨r1, rfl, hE1, hB⟩ := hr
  have hL1 : Lay G1.2.2 := by rw [hE1]; exact hL
  have hE1 : G1.2.2 = G.2.2 := hE1
  show Ev K mX1_wordAt 1 6 [(0, .ref h0), (1, .int x1), (2, .int x2)] [.int r1] G1 _
  refine E_iconst (v := (-1)) dX1_wordAt_6 (by decide) ?_
  refine E_icmp_ne (tgt := 23) dX1_wordAt_7 (by decide) (fun c => ?_) (fun c => ?_)
  · have hB := hB.1 c
    refine E_lconst (v := 0) dX1_wordAt_23 (by decide) ?_
    exact E_lret rfl dX1_wordAt_24 ⟨_, rfl, hE1, hB⟩
  · have hB := hB.2 c
    refine E_aload_n 0 dX1_wordAt_10 rfl rfl rfl ?_
    refine E_gR (j := h0 + 8) fG_X1_34 rfl (lhO hL1 hh0) (lhR7 hL1 hh0) (Nat.succ_pos _) dX1_wordAt_11 ?_
    refine E_iload_n 1 dX1_wordAt_14 rfl rfl ?_
    refine E_iconst (v := 4) dX1_wordAt_15 (by decide) ?_
    refine E_imul dX1_wordAt_16 ?_
    refine E_iload_n 2 dX1_wordAt_17 rfl rfl ?_
    refine E_iadd dX1_wordAt_18 ?_
    obtain ⟨qq2, hB⟩ := hB
    refine E_aL (p := Int32.toNatClampNeg ((x1 * 4) + x2)) (v := sL G1 (h0 + 8) (Int32.toNatClampNeg ((x1 * 4) + x2))) (lhA7 hL1 hh0) qq2 rfl rfl dX1_wordAt_19 ?_
    refine E_goto (tgt := 24) dX1_wordAt_20 (by decide) ?_
    exact E_lret rfl dX1_wordAt_24 ⟨_, rfl, hE1, hB⟩

set_option maxRecDepth 20000 in
set_option maxHeartbeats 2000000 in
theorem kX1_numberAt_0 {K : KT} {G : St} {Q : Int64 → St → Prop} {h0 : Nat} {x1 : Int32} {x2 : Int32} (hL : Lay G.2.2) (hh0 : h0 = 39 ∨ h0 = 49)
    (hB : EvI K mX1_kindAt 0 0 [(0, .ref h0), (1, .int x1), (2, .int x2)] [] G (fun r1 G1 => ((¬ r1 = (-2) → Q (-1) G1) ∧ (r1 = (-2) → vp_in ((x1 * 4) + x2) 120 ∧ Q (sL G1 (h0 + 8) (Int32.toNatClampNeg ((x1 * 4) + x2))) G1)))) :
    EvL K mX1_numberAt 1 0 [(0, .ref h0), (1, .int x1), (2, .int x2)] [] G Q := by
  refine E_aload_n 0 dX1_numberAt_0 rfl rfl rfl ?_
  refine E_iload_n 1 dX1_numberAt_1 rfl rfl ?_
  refine E_iload_n 2 dX1_numberAt_2 rfl rfl ?_
  refine E_cV (ci := 1) (as := [.int x1, .int x2]) (st := []) cm_X1_kindAt cV_X1_57 ⟨_, _, rfl⟩ (by decide) (lhO hL hh0) rfl rfl (by decide) (Nat.le_of_ble_eq_true rfl) (Nat.le_of_ble_eq_true rfl) dX1_numberAt_3 hB (fun r G1 hr => ?_)
  obtain ⟨r1, rfl, hE1, hB⟩ := hr
  have hL1 : Lay G1.2.2 := by rw [hE1]; exact hL
  have hE1 : G1.2.2 = G.2.2 := hE1
  show Ev K mX1_numberAt 1 6 [(0, .ref h0), (1, .int x1), (2, .int x2)] [.int r1] G1 _
  refine E_bipush (v := (-2)) dX1_numberAt_6 (by decide) ?_
  refine E_icmp_ne (tgt := 24) dX1_numberAt_8 (by decide) (fun c => ?_) (fun c => ?_)
  · have hB := hB.1 c
    refine E_ldc2 (v := (-1)) tm_740 dX1_numberAt_24 ?_
    exact E_lret rfl dX1_numberAt_27 ⟨_, rfl, hE1, hB⟩
  · have hB := hB.2 c
    refine E_aload_n 0 dX1_numberAt_11 rfl rfl rfl ?_
    refine E_gR (j := h0 + 8) fG_X1_34 rfl (lhO hL1 hh0) (lhR7 hL1 hh0) (Nat.succ_pos _) dX1_numberAt_12 ?_
    refine E_iload_n 1 dX1_numberAt_15 rfl rfl ?_
    refine E_iconst (v := 4) dX1_numberAt_16 (by decide) ?_
    refine E_imul dX1_numberAt_17 ?_
    refine E_iload_n 2 dX1_numberAt_18 rfl rfl ?_
    refine E_iadd dX1_numberAt_19 ?_
    obtain ⟨qq2, hB⟩ := hB
    refine E_aL (p := Int32.toNatClampNeg ((x1 * 4) + x2)) (v := sL G1 (h0 + 8) (Int32.toNatClampNeg ((x1 * 4) + x2))) (lhA7 hL1 hh0) qq2 rfl rfl dX1_numberAt_20 ?_
    refine E_goto (tgt := 27) dX1_numberAt_21 (by decide) ?_
    exact E_lret rfl dX1_numberAt_27 ⟨_, rfl, hE1, hB⟩

set_option maxRecDepth 20000 in
set_option maxHeartbeats 2000000 in
theorem kX1_clear_0 {K : KT} {G : St} {Q : St → Prop} {h0 : Nat} (hL : Lay G.2.2) (hh0 : h0 = 39 ∨ h0 = 49)
    (hB : EvV K mJ7_fill_53178 0 0 [(0, .ref (h0 + 7)), (1, .int 0)] [] (uI (uI G h0 9 0) h0 10 0) (fun G1 => EvV K mJ7_fill_53178 0 0 [(0, .ref (h0 + 9)), (1, .int 0)] [] G1 (fun G2 => Q G2))) :
    EvV K mX1_clear 1 0 [(0, .ref h0)] [] G Q := by
  refine E_aload_n 0 dX1_clear_0 rfl rfl rfl ?_
  refine E_iconst (v := 0) dX1_clear_1 (by decide) ?_
  refine E_pI fP_X1_40 rfl (lhO hL hh0) dX1_clear_2 ?_
  refine E_aload_n 0 dX1_clear_5 rfl rfl rfl ?_
  refine E_iconst (v := 0) dX1_clear_6 (by decide) ?_
  refine E_pI fP_X1_44 rfl (lhO hL hh0) dX1_clear_7 ?_
  refine E_aload_n 0 dX1_clear_10 rfl rfl rfl ?_
  refine E_gR (j := h0 + 7) fG_X1_31 rfl (lhO hL hh0) (lhR6 hL hh0) (Nat.succ_pos _) dX1_clear_11 ?_
  refine E_iconst (v := 0) dX1_clear_14 (by decide) ?_
  refine E_callS (as := [.ref (h0 + 7), .int 0]) (st := []) cm_J7_fill_53178 cS_X1_47 rfl rfl (by decide) (Nat.le_of_ble_eq_true rfl) (Nat.le_of_ble_eq_true rfl) dX1_clear_15 hB (fun r G1 hr => ?_)
  obtain ⟨rfl, hE1, hB⟩ := hr
  have hL1 : Lay G1.2.2 := by rw [hE1]; exact hL
  have hE1 : G1.2.2 = G.2.2 := hE1
  show Ev K mX1_clear 1 18 [(0, .ref h0)] [] G1 _
  refine E_aload_n 0 dX1_clear_18 rfl rfl rfl ?_
  refine E_gR (j := h0 + 9) fG_X1_37 rfl (lhO hL1 hh0) (lhR8 hL1 hh0) (Nat.succ_pos _) dX1_clear_19 ?_
  refine E_iconst (v := 0) dX1_clear_22 (by decide) ?_
  refine E_callS (as := [.ref (h0 + 9), .int 0]) (st := []) cm_J7_fill_53178 cS_X1_47 rfl rfl (by decide) (Nat.le_of_ble_eq_true rfl) (Nat.le_of_ble_eq_true rfl) dX1_clear_23 hB (fun r G2 hr => ?_)
  obtain ⟨rfl, hE2, hB⟩ := hr
  have hL2 : Lay G2.2.2 := by rw [hE2]; exact hL1
  have hE2 : G2.2.2 = G.2.2 := hE2.trans hE1
  show Ev K mX1_clear 1 26 [(0, .ref h0)] [] G2 _
  exact E_vret rfl dX1_clear_26 ⟨rfl, hE2, hB⟩

set_option maxRecDepth 20000 in
set_option maxHeartbeats 2000000 in
theorem kX1_tableNamed_0 {K : KT} {G : St} {Q : Int32 → St → Prop} {h0 : Nat} {y1 : Int64} (hL : Lay G.2.2) (hh0 : h0 = 39 ∨ h0 = 49)
    (hB : EvI K mX1_tableNamed 0 2 [(0, .ref h0), (1, .long y1), (3, .int 0)] [] G Q) :
    EvI K mX1_tableNamed 0 0 [(0, .ref h0), (1, .long y1)] [] G Q := by
  refine E_iconst (v := 0) dX1_tableNamed_0 (by decide) ?_
  refine E_istore_n (lv' := [(0, .ref h0), (1, .long y1), (3, .int 0)]) dX1_tableNamed_1 rfl (by decide) rfl ?_
  exact EvI.tr hB rfl

set_option maxRecDepth 20000 in
set_option maxHeartbeats 2000000 in
theorem kX1_tableNamed_2 {K : KT} {G : St} {Q : Int32 → St → Prop} {h0 : Nat} {y1 : Int64} {x3 : Int32} (hL : Lay G.2.2) (hh0 : h0 = 39 ∨ h0 = 49)
    (hB : (((sI G h0 9) ≤ x3 → Q (-1) G) ∧ (¬ (sI G h0 9) ≤ x3 → vp_in x3 5 ∧ ((¬ (sL G (h0 + 1) (Int32.toNatClampNeg x3)) = y1 → EvI K mX1_tableNamed 0 2 [(0, .ref h0), (1, .long y1), (3, .int (x3 + 1))] [] G Q) ∧ ((sL G (h0 + 1) (Int32.toNatClampNeg x3)) = y1 → Q x3 G))))) :
    EvI K mX1_tableNamed 0 2 [(0, .ref h0), (1, .long y1), (3, .int x3)] [] G Q := by
  refine E_iload_n 2 dX1_tableNamed_2 rfl rfl ?_
  refine E_aload_n 0 dX1_tableNamed_3 rfl rfl rfl ?_
  refine E_gI (v := sI G h0 9) fG_X1_40 rfl (lhO hL hh0) rfl dX1_tableNamed_4 ?_
  refine E_icmp_ge (tgt := 29) dX1_tableNamed_7 (by decide) (fun c => ?_) (fun c => ?_)
  · have hB := hB.1 c
    refine E_iconst (v := (-1)) dX1_tableNamed_29 (by decide) ?_
    exact E_iret rfl dX1_tableNamed_30 ⟨_, rfl, rfl, hB⟩
  · have hB := hB.2 c
    refine E_aload_n 0 dX1_tableNamed_10 rfl rfl rfl ?_
    refine E_gR (j := h0 + 1) fG_X1_11 rfl (lhO hL hh0) (lhR0 hL hh0) (Nat.succ_pos _) dX1_tableNamed_11 ?_
    refine E_iload_n 2 dX1_tableNamed_14 rfl rfl ?_
    obtain ⟨qq1, hB⟩ := hB
    refine E_aL (p := Int32.toNatClampNeg x3) (v := sL G (h0 + 1) (Int32.toNatClampNeg x3)) (lhA0 hL hh0) qq1 rfl rfl dX1_tableNamed_15 ?_
    refine E_lload_n 1 dX1_tableNamed_16 rfl rfl ?_
    refine E_lcmp dX1_tableNamed_17 ?_
    refine E_if_ne (tgt := 23) dX1_tableNamed_18 (by decide) (fun c => ?_) (fun c => ?_)
    · have hB := hB.1 ((fun q => c ((lgc_eq (sL G (h0 + 1) (Int32.toNatClampNeg x3)) y1).mpr q)))
      refine E_iinc (v := x3 + 1) (lv' := [(0, .ref h0), (1, .long y1), (3, .int (x3 + 1))]) 2 dX1_tableNamed_23 rfl rfl (by decide) rfl ?_
      refine E_goto (tgt := 2) dX1_tableNamed_26 (by decide) ?_
      exact EvI.tr hB rfl
    · have hB := hB.2 ((lgc_eq (sL G (h0 + 1) (Int32.toNatClampNeg x3)) y1).mp c)
      refine E_iload_n 2 dX1_tableNamed_21 rfl rfl ?_
      exact E_iret rfl dX1_tableNamed_22 ⟨_, rfl, rfl, hB⟩

set_option maxRecDepth 20000 in
set_option maxHeartbeats 2000000 in
theorem kX1_addTable_0 {K : KT} {G : St} {Q : St → Prop} {h0 : Nat} {y1 : Int64} (hL : Lay G.2.2) (hh0 : h0 = 39 ∨ h0 = 49)
    (hB : ((5 ≤ (sI G h0 9) → Q G) ∧ (¬ 5 ≤ (sI G h0 9) → vp_in (sI G h0 9) 5 ∧ vp_in (sI G h0 9) 5 ∧ ∀ v3 : Int32, v3 = sI (uI (uL G (h0 + 1) (Int32.toNatClampNeg (sI G h0 9)) y1) (h0 + 2) (Int32.toNatClampNeg (sI G h0 9)) 0) h0 9 → Q (uI (uI (uL G (h0 + 1) (Int32.toNatClampNeg (sI G h0 9)) y1) (h0 + 2) (Int32.toNatClampNeg (sI G h0 9)) 0) h0 9 (v3 + 1))))) :
    EvV K mX1_addTable 0 0 [(0, .ref h0), (1, .long y1)] [] G Q := by
  refine E_aload_n 0 dX1_addTable_0 rfl rfl rfl ?_
  refine E_gI (v := sI G h0 9) fG_X1_40 rfl (lhO hL hh0) rfl dX1_addTable_1 ?_
  refine E_iconst (v := 5) dX1_addTable_4 (by decide) ?_
  refine E_icmp_ge (tgt := 38) dX1_addTable_5 (by decide) (fun c => ?_) (fun c => ?_)
  · have hB := hB.1 c
    exact E_vret rfl dX1_addTable_38 ⟨rfl, rfl, hB⟩
  · have hB := hB.2 c
    refine E_aload_n 0 dX1_addTable_8 rfl rfl rfl ?_
    refine E_gR (j := h0 + 1) fG_X1_11 rfl (lhO hL hh0) (lhR0 hL hh0) (Nat.succ_pos _) dX1_addTable_9 ?_
    refine E_aload_n 0 dX1_addTable_12 rfl rfl rfl ?_
    refine E_gI (v := sI G h0 9) fG_X1_40 rfl (lhO hL hh0) rfl dX1_addTable_13 ?_
    refine E_lload_n 1 dX1_addTable_16 rfl rfl ?_
    obtain ⟨qq1, hB⟩ := hB
    refine E_sL (p := Int32.toNatClampNeg (sI G h0 9)) (lhA0 hL hh0) qq1 rfl dX1_addTable_17 ?_
    refine E_aload_n 0 dX1_addTable_18 rfl rfl rfl ?_
    refine E_gR (j := h0 + 2) fG_X1_15 rfl (lhO hL hh0) (lhR1 hL hh0) (Nat.succ_pos _) dX1_addTable_19 ?_
    refine E_aload_n 0 dX1_addTable_22 rfl rfl rfl ?_
    refine E_gI (v := sI G h0 9) fG_X1_40 rfl (lhO hL hh0) rfl dX1_addTable_23 ?_
    refine E_iconst (v := 0) dX1_addTable_26 (by decide) ?_
    obtain ⟨qq2, hB⟩ := hB
    refine E_sI (p := Int32.toNatClampNeg (sI G h0 9)) (lhA1 hL hh0) qq2 rfl dX1_addTable_27 ?_
    refine E_aload_n 0 dX1_addTable_28 rfl rfl rfl ?_
    refine E_dup dX1_addTable_29 rfl ?_
    refine E_gI (v := sI (uI (uL G (h0 + 1) (Int32.toNatClampNeg (sI G h0 9)) y1) (h0 + 2) (Int32.toNatClampNeg (sI G h0 9)) 0) h0 9) fG_X1_40 rfl (lhO hL hh0) rfl dX1_addTable_30 ?_
    refine E_topi (fun v3 ev3 => ?_)
    have hB := hB v3 ev3
    refine E_iconst (v := 1) dX1_addTable_33 (by decide) ?_
    refine E_iadd dX1_addTable_34 ?_
    refine E_pI fP_X1_40 rfl (lhO hL hh0) dX1_addTable_35 ?_
    exact E_vret rfl dX1_addTable_38 ⟨rfl, rfl, hB⟩

set_option maxRecDepth 20000 in
set_option maxHeartbeats 2000000 in
theorem kX1_addColumn_0 {K : KT} {G : St} {Q : St → Prop} {h0 : Nat} {x1 : Int32} {y2 : Int64} {x4 : Int32} (hL : Lay G.2.2) (hh0 : h0 = 39 ∨ h0 = 49)
    (hB : vp_in x1 5 ∧ ((4 ≤ (sI G (h0 + 2) (Int32.toNatClampNeg x1)) → Q G) ∧ (¬ 4 ≤ (sI G (h0 + 2) (Int32.toNatClampNeg x1)) → vp_in ((x1 * 4) + (sI G (h0 + 2) (Int32.toNatClampNeg x1))) 20 ∧ vp_in ((x1 * 4) + (sI G (h0 + 2) (Int32.toNatClampNeg x1))) 20 ∧ vp_in x1 5 ∧ ∀ v5 : Int32, v5 = sI (uI (uL G (h0 + 3) (Int32.toNatClampNeg ((x1 * 4) + (sI G (h0 + 2) (Int32.toNatClampNeg x1)))) y2) (h0 + 4) (Int32.toNatClampNeg ((x1 * 4) + (sI G (h0 + 2) (Int32.toNatClampNeg x1)))) x4) (h0 + 2) (Int32.toNatClampNeg x1) → vp_in x1 5 ∧ ∀ G7 : St, G7 = (uI (uI (uL G (h0 + 3) (Int32.toNatClampNeg ((x1 * 4) + (sI G (h0 + 2) (Int32.toNatClampNeg x1)))) y2) (h0 + 4) (Int32.toNatClampNeg ((x1 * 4) + (sI G (h0 + 2) (Int32.toNatClampNeg x1)))) x4) (h0 + 2) (Int32.toNatClampNeg x1) (v5 + 1)) → Q G7))) :
    EvV K mX1_addColumn 0 0 [(0, .ref h0), (1, .int x1), (2, .long y2), (4, .int x4)] [] G Q := by
  refine E_aload_n 0 dX1_addColumn_0 rfl rfl rfl ?_
  refine E_gR (j := h0 + 2) fG_X1_15 rfl (lhO hL hh0) (lhR1 hL hh0) (Nat.succ_pos _) dX1_addColumn_1 ?_
  refine E_iload_n 1 dX1_addColumn_4 rfl rfl ?_
  obtain ⟨qq1, hB⟩ := hB
  refine E_aI (p := Int32.toNatClampNeg x1) (v := sI G (h0 + 2) (Int32.toNatClampNeg x1)) (lhA1 hL hh0) qq1 rfl rfl dX1_addColumn_5 ?_
  refine E_istore (lv' := [(0, .ref h0), (1, .int x1), (2, .long y2), (4, .int x4), (5, .int (sI G (h0 + 2) (Int32.toNatClampNeg x1)))]) dX1_addColumn_6 (by decide) rfl ?_
  refine E_iload 4 dX1_addColumn_8 rfl ?_
  refine E_iconst (v := 4) dX1_addColumn_10 (by decide) ?_
  refine E_icmp_ge (tgt := 49) dX1_addColumn_11 (by decide) (fun c => ?_) (fun c => ?_)
  · have hB := hB.1 c
    exact E_vret rfl dX1_addColumn_49 ⟨rfl, rfl, hB⟩
  · have hB := hB.2 c
    refine E_aload_n 0 dX1_addColumn_14 rfl rfl rfl ?_
    refine E_gR (j := h0 + 3) fG_X1_19 rfl (lhO hL hh0) (lhR2 hL hh0) (Nat.succ_pos _) dX1_addColumn_15 ?_
    refine E_iload_n 1 dX1_addColumn_18 rfl rfl ?_
    refine E_iconst (v := 4) dX1_addColumn_19 (by decide) ?_
    refine E_imul dX1_addColumn_20 ?_
    refine E_iload 4 dX1_addColumn_21 rfl ?_
    refine E_iadd dX1_addColumn_23 ?_
    refine E_lload_n 2 dX1_addColumn_24 rfl rfl ?_
    obtain ⟨qq2, hB⟩ := hB
    refine E_sL (p := Int32.toNatClampNeg ((x1 * 4) + (sI G (h0 + 2) (Int32.toNatClampNeg x1)))) (lhA2 hL hh0) qq2 rfl dX1_addColumn_25 ?_
    refine E_aload_n 0 dX1_addColumn_26 rfl rfl rfl ?_
    refine E_gR (j := h0 + 4) fG_X1_22 rfl (lhO hL hh0) (lhR3 hL hh0) (Nat.succ_pos _) dX1_addColumn_27 ?_
    refine E_iload_n 1 dX1_addColumn_30 rfl rfl ?_
    refine E_iconst (v := 4) dX1_addColumn_31 (by decide) ?_
    refine E_imul dX1_addColumn_32 ?_
    refine E_iload 4 dX1_addColumn_33 rfl ?_
    refine E_iadd dX1_addColumn_35 ?_
    refine E_iload 3 dX1_addColumn_36 rfl ?_
    obtain ⟨qq3, hB⟩ := hB
    refine E_sI (p := Int32.toNatClampNeg ((x1 * 4) + (sI G (h0 + 2) (Int32.toNatClampNeg x1)))) (lhA3 hL hh0) qq3 rfl dX1_addColumn_38 ?_
    refine E_aload_n 0 dX1_addColumn_39 rfl rfl rfl ?_
    refine E_gR (j := h0 + 2) fG_X1_15 rfl (lhO hL hh0) (lhR1 hL hh0) (Nat.succ_pos _) dX1_addColumn_40 ?_
    refine E_iload_n 1 dX1_addColumn_43 rfl rfl ?_
    refine E_dup2 dX1_addColumn_44 rfl rfl ?_
    obtain ⟨qq4, hB⟩ := hB
    refine E_aI (p := Int32.toNatClampNeg x1) (v := sI (uI (uL G (h0 + 3) (Int32.toNatClampNeg ((x1 * 4) + (sI G (h0 + 2) (Int32.toNatClampNeg x1)))) y2) (h0 + 4) (Int32.toNatClampNeg ((x1 * 4) + (sI G (h0 + 2) (Int32.toNatClampNeg x1)))) x4) (h0 + 2) (Int32.toNatClampNeg x1)) (lhA1 hL hh0) qq4 rfl rfl dX1_addColumn_45 ?_
    refine E_topi (fun v5 ev5 => ?_)
    have hB := hB v5 ev5
    refine E_iconst (v := 1) dX1_addColumn_46 (by decide) ?_
    refine E_iadd dX1_addColumn_47 ?_
    obtain ⟨qq6, hB⟩ := hB
    refine E_sI (p := Int32.toNatClampNeg x1) (lhA1 hL hh0) qq6 rfl dX1_addColumn_48 ?_
    refine E_nmG (fun G7 eG7 => ?_)
    have hB := hB G7 eG7
    have hL7 : Lay G7.2.2 := by rw [eG7]; exact hL
    have hE7 : G7.2.2 = G.2.2 := by rw [eG7]; exact rfl
    exact E_vret rfl dX1_addColumn_49 ⟨rfl, hE7, hB⟩

set_option maxRecDepth 20000 in
set_option maxHeartbeats 2000000 in
theorem kX1_putCell_0 {K : KT} {G : St} {Q : St → Prop} {h0 : Nat} {x1 : Int32} {y2 : Int64} (hL : Lay G.2.2) (hh0 : h0 = 39 ∨ h0 = 49)
    (hB : ((30 ≤ (sI G h0 10) → Q G) ∧ (¬ 30 ≤ (sI G h0 10) → ((x1 < 0 → Q G) ∧ (¬ x1 < 0 → ((4 ≤ x1 → Q G) ∧ (¬ 4 ≤ x1 → vp_in (((sI G h0 10) * 4) + x1) 120 ∧ Q (uL G (h0 + 8) (Int32.toNatClampNeg (((sI G h0 10) * 4) + x1)) y2)))))))) :
    EvV K mX1_putCell 0 0 [(0, .ref h0), (1, .int x1), (2, .long y2)] [] G Q := by
  refine E_aload_n 0 dX1_putCell_0 rfl rfl rfl ?_
  refine E_gI (v := sI G h0 10) fG_X1_44 rfl (lhO hL hh0) rfl dX1_putCell_1 ?_
  refine E_bipush (v := 30) dX1_putCell_4 (by decide) ?_
  refine E_icmp_ge (tgt := 32) dX1_putCell_6 (by decide) (fun c => ?_) (fun c => ?_)
  · have hB := hB.1 c
    exact E_vret rfl dX1_putCell_32 ⟨rfl, rfl, hB⟩
  · have hB := hB.2 c
    refine E_iload_n 1 dX1_putCell_9 rfl rfl ?_
    refine E_if_lt (tgt := 32) dX1_putCell_10 (by decide) (fun c => ?_) (fun c => ?_)
    · have hB := hB.1 c
      exact E_vret rfl dX1_putCell_32 ⟨rfl, rfl, hB⟩
    · have hB := hB.2 c
      refine E_iload_n 1 dX1_putCell_13 rfl rfl ?_
      refine E_iconst (v := 4) dX1_putCell_14 (by decide) ?_
      refine E_icmp_ge (tgt := 32) dX1_putCell_15 (by decide) (fun c => ?_) (fun c => ?_)
      · have hB := hB.1 c
        exact E_vret rfl dX1_putCell_32 ⟨rfl, rfl, hB⟩
      · have hB := hB.2 c
        refine E_aload_n 0 dX1_putCell_18 rfl rfl rfl ?_
        refine E_gR (j := h0 + 8) fG_X1_34 rfl (lhO hL hh0) (lhR7 hL hh0) (Nat.succ_pos _) dX1_putCell_19 ?_
        refine E_aload_n 0 dX1_putCell_22 rfl rfl rfl ?_
        refine E_gI (v := sI G h0 10) fG_X1_44 rfl (lhO hL hh0) rfl dX1_putCell_23 ?_
        refine E_iconst (v := 4) dX1_putCell_26 (by decide) ?_
        refine E_imul dX1_putCell_27 ?_
        refine E_iload_n 1 dX1_putCell_28 rfl rfl ?_
        refine E_iadd dX1_putCell_29 ?_
        refine E_lload_n 2 dX1_putCell_30 rfl rfl ?_
        obtain ⟨qq1, hB⟩ := hB
        refine E_sL (p := Int32.toNatClampNeg (((sI G h0 10) * 4) + x1)) (lhA7 hL hh0) qq1 rfl dX1_putCell_31 ?_
        exact E_vret rfl dX1_putCell_32 ⟨rfl, rfl, hB⟩

set_option maxRecDepth 20000 in
set_option maxHeartbeats 2000000 in
theorem kX1_addRow_0 {K : KT} {G : St} {Q : St → Prop} {h0 : Nat} {x1 : Int32} (hL : Lay G.2.2) (hh0 : h0 = 39 ∨ h0 = 49)
    (hB : ((30 ≤ (sI G h0 10) → Q G) ∧ (¬ 30 ≤ (sI G h0 10) → vp_in (sI G h0 10) 30 ∧ vp_in x1 5 ∧ vp_in (sI (uI G (h0 + 5) (Int32.toNatClampNeg (sI G h0 10)) x1) h0 10) 30 ∧ ∀ G4 : St, G4 = (uI (uI G (h0 + 5) (Int32.toNatClampNeg (sI G h0 10)) x1) (h0 + 6) (Int32.toNatClampNeg (sI (uI G (h0 + 5) (Int32.toNatClampNeg (sI G h0 10)) x1) h0 10)) (sI (uI G (h0 + 5) (Int32.toNatClampNeg (sI G h0 10)) x1) (h0 + 7) (Int32.toNatClampNeg x1))) → vp_in x1 5 ∧ vp_in x1 5 ∧ ∀ v7 : Int32, v7 = sI (uI G4 (h0 + 7) (Int32.toNatClampNeg x1) ((sI G4 (h0 + 7) (Int32.toNatClampNeg x1)) + 1)) h0 10 → Q (uI (uI G4 (h0 + 7) (Int32.toNatClampNeg x1) ((sI G4 (h0 + 7) (Int32.toNatClampNeg x1)) + 1)) h0 10 (v7 + 1))))) :
    EvV K mX1_addRow 0 0 [(0, .ref h0), (1, .int x1)] [] G Q := by
  refine E_aload_n 0 dX1_addRow_0 rfl rfl rfl ?_
  refine E_gI (v := sI G h0 10) fG_X1_44 rfl (lhO hL hh0) rfl dX1_addRow_1 ?_
  refine E_bipush (v := 30) dX1_addRow_4 (by decide) ?_
  refine E_icmp_ge (tgt := 54) dX1_addRow_6 (by decide) (fun c => ?_) (fun c => ?_)
  · have hB := hB.1 c
    exact E_vret rfl dX1_addRow_54 ⟨rfl, rfl, hB⟩
  · have hB := hB.2 c
    refine E_aload_n 0 dX1_addRow_9 rfl rfl rfl ?_
    refine E_gR (j := h0 + 5) fG_X1_25 rfl (lhO hL hh0) (lhR4 hL hh0) (Nat.succ_pos _) dX1_addRow_10 ?_
    refine E_aload_n 0 dX1_addRow_13 rfl rfl rfl ?_
    refine E_gI (v := sI G h0 10) fG_X1_44 rfl (lhO hL hh0) rfl dX1_addRow_14 ?_
    refine E_iload_n 1 dX1_addRow_17 rfl rfl ?_
    obtain ⟨qq1, hB⟩ := hB
    refine E_sI (p := Int32.toNatClampNeg (sI G h0 10)) (lhA4 hL hh0) qq1 rfl dX1_addRow_18 ?_
    refine E_aload_n 0 dX1_addRow_19 rfl rfl rfl ?_
    refine E_gR (j := h0 + 6) fG_X1_28 rfl (lhO hL hh0) (lhR5 hL hh0) (Nat.succ_pos _) dX1_addRow_20 ?_
    refine E_aload_n 0 dX1_addRow_23 rfl rfl rfl ?_
    refine E_gI (v := sI (uI G (h0 + 5) (Int32.toNatClampNeg (sI G h0 10)) x1) h0 10) fG_X1_44 rfl (lhO hL hh0) rfl dX1_addRow_24 ?_
    refine E_aload_n 0 dX1_addRow_27 rfl rfl rfl ?_
    refine E_gR (j := h0 + 7) fG_X1_31 rfl (lhO hL hh0) (lhR6 hL hh0) (Nat.succ_pos _) dX1_addRow_28 ?_
    refine E_iload_n 1 dX1_addRow_31 rfl rfl ?_
    obtain ⟨qq2, hB⟩ := hB
    refine E_aI (p := Int32.toNatClampNeg x1) (v := sI (uI G (h0 + 5) (Int32.toNatClampNeg (sI G h0 10)) x1) (h0 + 7) (Int32.toNatClampNeg x1)) (lhA6 hL hh0) qq2 rfl rfl dX1_addRow_32 ?_
    obtain ⟨qq3, hB⟩ := hB
    refine E_sI (p := Int32.toNatClampNeg (sI (uI G (h0 + 5) (Int32.toNatClampNeg (sI G h0 10)) x1) h0 10)) (lhA5 hL hh0) qq3 rfl dX1_addRow_33 ?_
    refine E_nmG (fun G4 eG4 => ?_)
    have hB := hB G4 eG4
    have hL4 : Lay G4.2.2 := by rw [eG4]; exact hL
    have hE4 : G4.2.2 = G.2.2 := by rw [eG4]; exact rfl
    refine E_aload_n 0 dX1_addRow_34 rfl rfl rfl ?_
    refine E_gR (j := h0 + 7) fG_X1_31 rfl (lhO hL4 hh0) (lhR6 hL4 hh0) (Nat.succ_pos _) dX1_addRow_35 ?_
    refine E_iload_n 1 dX1_addRow_38 rfl rfl ?_
    refine E_dup2 dX1_addRow_39 rfl rfl ?_
    obtain ⟨qq5, hB⟩ := hB
    refine E_aI (p := Int32.toNatClampNeg x1) (v := sI G4 (h0 + 7) (Int32.toNatClampNeg x1)) (lhA6 hL4 hh0) qq5 rfl rfl dX1_addRow_40 ?_
    refine E_iconst (v := 1) dX1_addRow_41 (by decide) ?_
    refine E_iadd dX1_addRow_42 ?_
    obtain ⟨qq6, hB⟩ := hB
    refine E_sI (p := Int32.toNatClampNeg x1) (lhA6 hL4 hh0) qq6 rfl dX1_addRow_43 ?_
    refine E_aload_n 0 dX1_addRow_44 rfl rfl rfl ?_
    refine E_dup dX1_addRow_45 rfl ?_
    refine E_gI (v := sI (uI G4 (h0 + 7) (Int32.toNatClampNeg x1) ((sI G4 (h0 + 7) (Int32.toNatClampNeg x1)) + 1)) h0 10) fG_X1_44 rfl (lhO hL4 hh0) rfl dX1_addRow_46 ?_
    refine E_topi (fun v7 ev7 => ?_)
    have hB := hB v7 ev7
    refine E_iconst (v := 1) dX1_addRow_49 (by decide) ?_
    refine E_iadd dX1_addRow_50 ?_
    refine E_pI fP_X1_44 rfl (lhO hL4 hh0) dX1_addRow_51 ?_
    exact E_vret rfl dX1_addRow_54 ⟨rfl, hE4, hB⟩

set_option maxRecDepth 20000 in
set_option maxHeartbeats 2000000 in
theorem kX1_keepRows_0 {K : KT} {G : St} {Q : St → Prop} {h0 : Nat} {x1 : Int32} (hL : Lay G.2.2) (hh0 : h0 = 39 ∨ h0 = 49)
    (hB : EvV K mX1_keepRows 0 7 [(0, .ref h0), (1, .int x1), (2, .int ((sI G h0 10) - 1))] [] G Q) :
    EvV K mX1_keepRows 0 0 [(0, .ref h0), (1, .int x1)] [] G Q := by
  refine E_aload_n 0 dX1_keepRows_0 rfl rfl rfl ?_
  refine E_gI (v := sI G h0 10) fG_X1_44 rfl (lhO hL hh0) rfl dX1_keepRows_1 ?_
  refine E_iconst (v := 1) dX1_keepRows_4 (by decide) ?_
  refine E_isub dX1_keepRows_5 ?_
  refine E_istore_n (lv' := [(0, .ref h0), (1, .int x1), (2, .int ((sI G h0 10) - 1))]) dX1_keepRows_6 rfl (by decide) rfl ?_
  exact EvV.tr hB rfl

set_option maxRecDepth 20000 in
set_option maxHeartbeats 2000000 in
theorem kX1_keepRows_7 {K : KT} {G : St} {Q : St → Prop} {h0 : Nat} {x1 : Int32} {x2 : Int32} (hL : Lay G.2.2) (hh0 : h0 = 39 ∨ h0 = 49)
    (hB : ((x2 < x1 → Q G) ∧ (¬ x2 < x1 → ((x2 < 0 → Q G) ∧ (¬ x2 < 0 → vp_in x2 30 ∧ vp_in (sI G (h0 + 5) (Int32.toNatClampNeg x2)) 5 ∧ vp_in (sI G (h0 + 5) (Int32.toNatClampNeg x2)) 5 ∧ ∀ v4 : Int32, v4 = sI (uI G (h0 + 7) (Int32.toNatClampNeg (sI G (h0 + 5) (Int32.toNatClampNeg x2))) ((sI G (h0 + 7) (Int32.toNatClampNeg (sI G (h0 + 5) (Int32.toNatClampNeg x2)))) - 1)) h0 10 → EvV K mX1_keepRows 0 7 [(0, .ref h0), (1, .int x1), (2, .int (x2 + (-1)))] [] (uI (uI G (h0 + 7) (Int32.toNatClampNeg (sI G (h0 + 5) (Int32.toNatClampNeg x2))) ((sI G (h0 + 7) (Int32.toNatClampNeg (sI G (h0 + 5) (Int32.toNatClampNeg x2)))) - 1)) h0 10 (v4 - 1)) Q))))) :
    EvV K mX1_keepRows 0 7 [(0, .ref h0), (1, .int x1), (2, .int x2)] [] G Q := by
  refine E_iload_n 2 dX1_keepRows_7 rfl rfl ?_
  refine E_iload_n 1 dX1_keepRows_8 rfl rfl ?_
  refine E_icmp_lt (tgt := 47) dX1_keepRows_9 (by decide) (fun c => ?_) (fun c => ?_)
  · have hB := hB.1 c
    exact E_vret rfl dX1_keepRows_47 ⟨rfl, rfl, hB⟩
  · have hB := hB.2 c
    refine E_iload_n 2 dX1_keepRows_12 rfl rfl ?_
    refine E_if_lt (tgt := 47) dX1_keepRows_13 (by decide) (fun c => ?_) (fun c => ?_)
    · have hB := hB.1 c
      exact E_vret rfl dX1_keepRows_47 ⟨rfl, rfl, hB⟩
    · have hB := hB.2 c
      refine E_aload_n 0 dX1_keepRows_16 rfl rfl rfl ?_
      refine E_gR (j := h0 + 7) fG_X1_31 rfl (lhO hL hh0) (lhR6 hL hh0) (Nat.succ_pos _) dX1_keepRows_17 ?_
      refine E_aload_n 0 dX1_keepRows_20 rfl rfl rfl ?_
      refine E_gR (j := h0 + 5) fG_X1_25 rfl (lhO hL hh0) (lhR4 hL hh0) (Nat.succ_pos _) dX1_keepRows_21 ?_
      refine E_iload_n 2 dX1_keepRows_24 rfl rfl ?_
      obtain ⟨qq1, hB⟩ := hB
      refine E_aI (p := Int32.toNatClampNeg x2) (v := sI G (h0 + 5) (Int32.toNatClampNeg x2)) (lhA4 hL hh0) qq1 rfl rfl dX1_keepRows_25 ?_
      refine E_dup2 dX1_keepRows_26 rfl rfl ?_
      obtain ⟨qq2, hB⟩ := hB
      refine E_aI (p := Int32.toNatClampNeg (sI G (h0 + 5) (Int32.toNatClampNeg x2))) (v := sI G (h0 + 7) (Int32.toNatClampNeg (sI G (h0 + 5) (Int32.toNatClampNeg x2)))) (lhA6 hL hh0) qq2 rfl rfl dX1_keepRows_27 ?_
      refine E_iconst (v := 1) dX1_keepRows_28 (by decide) ?_
      refine E_isub dX1_keepRows_29 ?_
      obtain ⟨qq3, hB⟩ := hB
      refine E_sI (p := Int32.toNatClampNeg (sI G (h0 + 5) (Int32.toNatClampNeg x2))) (lhA6 hL hh0) qq3 rfl dX1_keepRows_30 ?_
      refine E_aload_n 0 dX1_keepRows_31 rfl rfl rfl ?_
      refine E_dup dX1_keepRows_32 rfl ?_
      refine E_gI (v := sI (uI G (h0 + 7) (Int32.toNatClampNeg (sI G (h0 + 5) (Int32.toNatClampNeg x2))) ((sI G (h0 + 7) (Int32.toNatClampNeg (sI G (h0 + 5) (Int32.toNatClampNeg x2)))) - 1)) h0 10) fG_X1_44 rfl (lhO hL hh0) rfl dX1_keepRows_33 ?_
      refine E_topi (fun v4 ev4 => ?_)
      have hB := hB v4 ev4
      refine E_iconst (v := 1) dX1_keepRows_36 (by decide) ?_
      refine E_isub dX1_keepRows_37 ?_
      refine E_pI fP_X1_44 rfl (lhO hL hh0) dX1_keepRows_38 ?_
      refine E_iinc (v := x2 + (-1)) (lv' := [(0, .ref h0), (1, .int x1), (2, .int (x2 + (-1)))]) 2 dX1_keepRows_41 rfl rfl (by decide) rfl ?_
      refine E_goto (tgt := 7) dX1_keepRows_44 (by decide) ?_
      exact EvV.tr hB rfl

set_option maxRecDepth 20000 in
set_option maxHeartbeats 2000000 in
theorem kX1_rowNumbered_0 {K : KT} {G : St} {Q : Int32 → St → Prop} {h0 : Nat} {x1 : Int32} {y2 : Int64} (hL : Lay G.2.2) (hh0 : h0 = 39 ∨ h0 = 49)
    (hB : EvI K mX1_rowNumbered 0 3 [(0, .ref h0), (1, .int x1), (2, .long y2), (4, .int 0)] [] G Q) :
    EvI K mX1_rowNumbered 0 0 [(0, .ref h0), (1, .int x1), (2, .long y2)] [] G Q := by
  refine E_iconst (v := 0) dX1_rowNumbered_0 (by decide) ?_
  refine E_istore (lv' := [(0, .ref h0), (1, .int x1), (2, .long y2), (4, .int 0)]) dX1_rowNumbered_1 (by decide) rfl ?_
  exact EvI.tr hB rfl

set_option maxRecDepth 20000 in
set_option maxHeartbeats 2000000 in
theorem kX1_rowNumbered_3 {K : KT} {G : St} {Q : Int32 → St → Prop} {h0 : Nat} {x1 : Int32} {y2 : Int64} {x4 : Int32} (hL : Lay G.2.2) (hh0 : h0 = 39 ∨ h0 = 49)
    (hB : (((sI G h0 10) ≤ x4 → Q (-1) G) ∧ (¬ (sI G h0 10) ≤ x4 → vp_in x4 30 ∧ ((¬ (sI G (h0 + 5) (Int32.toNatClampNeg x4)) = x1 → EvI K mX1_rowNumbered 0 39 [(0, .ref h0), (1, .int x1), (2, .long y2), (4, .int x4)] [] G Q) ∧ ((sI G (h0 + 5) (Int32.toNatClampNeg x4)) = x1 → vp_in x4 30 ∧ ((¬ (Int32.toInt64 (sI G (h0 + 6) (Int32.toNatClampNeg x4))) = y2 → EvI K mX1_rowNumbered 0 39 [(0, .ref h0), (1, .int x1), (2, .long y2), (4, .int x4)] [] G Q) ∧ ((Int32.toInt64 (sI G (h0 + 6) (Int32.toNatClampNeg x4))) = y2 → Q x4 G))))))) :
    EvI K mX1_rowNumbered 0 3 [(0, .ref h0), (1, .int x1), (2, .long y2), (4, .int x4)] [] G Q := by
  refine E_iload 3 dX1_rowNumbered_3 rfl ?_
  refine E_aload_n 0 dX1_rowNumbered_5 rfl rfl rfl ?_
  refine E_gI (v := sI G h0 10) fG_X1_44 rfl (lhO hL hh0) rfl dX1_rowNumbered_6 ?_
  refine E_icmp_ge (tgt := 45) dX1_rowNumbered_9 (by decide) (fun c => ?_) (fun c => ?_)
  · have hB := hB.1 c
    refine E_iconst (v := (-1)) dX1_rowNumbered_45 (by decide) ?_
    exact E_iret rfl dX1_rowNumbered_46 ⟨_, rfl, rfl, hB⟩
  · have hB := hB.2 c
    refine E_aload_n 0 dX1_rowNumbered_12 rfl rfl rfl ?_
    refine E_gR (j := h0 + 5) fG_X1_25 rfl (lhO hL hh0) (lhR4 hL hh0) (Nat.succ_pos _) dX1_rowNumbered_13 ?_
    refine E_iload 3 dX1_rowNumbered_16 rfl ?_
    obtain ⟨qq1, hB⟩ := hB
    refine E_aI (p := Int32.toNatClampNeg x4) (v := sI G (h0 + 5) (Int32.toNatClampNeg x4)) (lhA4 hL hh0) qq1 rfl rfl dX1_rowNumbered_18 ?_
    refine E_iload_n 1 dX1_rowNumbered_19 rfl rfl ?_
    refine E_icmp_ne (tgt := 39) dX1_rowNumbered_20 (by decide) (fun c => ?_) (fun c => ?_)
    · have hB := hB.1 c
      exact EvI.tr hB rfl
    · have hB := hB.2 c
      refine E_aload_n 0 dX1_rowNumbered_23 rfl rfl rfl ?_
      refine E_gR (j := h0 + 6) fG_X1_28 rfl (lhO hL hh0) (lhR5 hL hh0) (Nat.succ_pos _) dX1_rowNumbered_24 ?_
      refine E_iload 3 dX1_rowNumbered_27 rfl ?_
      obtain ⟨qq2, hB⟩ := hB
      refine E_aI (p := Int32.toNatClampNeg x4) (v := sI G (h0 + 6) (Int32.toNatClampNeg x4)) (lhA5 hL hh0) qq2 rfl rfl dX1_rowNumbered_29 ?_
      refine E_i2l dX1_rowNumbered_30 rfl ?_
      refine E_lload_n 2 dX1_rowNumbered_31 rfl rfl ?_
      refine E_lcmp dX1_rowNumbered_32 ?_
      refine E_if_ne (tgt := 39) dX1_rowNumbered_33 (by decide) (fun c => ?_) (fun c => ?_)
      · have hB := hB.1 ((fun q => c ((lgc_eq (Int32.toInt64 (sI G (h0 + 6) (Int32.toNatClampNeg x4))) y2).mpr q)))
        exact EvI.tr hB rfl
      · have hB := hB.2 ((lgc_eq (Int32.toInt64 (sI G (h0 + 6) (Int32.toNatClampNeg x4))) y2).mp c)
        refine E_iload 3 dX1_rowNumbered_36 rfl ?_
        exact E_iret rfl dX1_rowNumbered_38 ⟨_, rfl, rfl, hB⟩

set_option maxRecDepth 20000 in
set_option maxHeartbeats 2000000 in
theorem kX1_rowNumbered_39 {K : KT} {G : St} {Q : Int32 → St → Prop} {h0 : Nat} {x1 : Int32} {y2 : Int64} {x4 : Int32} (hL : Lay G.2.2) (hh0 : h0 = 39 ∨ h0 = 49)
    (hB : EvI K mX1_rowNumbered 0 3 [(0, .ref h0), (1, .int x1), (2, .long y2), (4, .int (x4 + 1))] [] G Q) :
    EvI K mX1_rowNumbered 0 39 [(0, .ref h0), (1, .int x1), (2, .long y2), (4, .int x4)] [] G Q := by
  refine E_iinc (v := x4 + 1) (lv' := [(0, .ref h0), (1, .int x1), (2, .long y2), (4, .int (x4 + 1))]) 3 dX1_rowNumbered_39 rfl rfl (by decide) rfl ?_
  refine E_goto (tgt := 3) dX1_rowNumbered_42 (by decide) ?_
  exact EvI.tr hB rfl

set_option maxRecDepth 20000 in
set_option maxHeartbeats 2000000 in
theorem kX1_isTold_0 {K : KT} {G : St} {Q : Int32 → St → Prop} {h0 : Nat} {x1 : Int32} (hL : Lay G.2.2) (hh0 : h0 = 39 ∨ h0 = 49)
    (hB : ((x1 < 0 → Q 0 G) ∧ (¬ x1 < 0 → (((sI G h0 10) ≤ x1 → Q 0 G) ∧ (¬ (sI G h0 10) ≤ x1 → Q 1 G))))) :
    EvI K mX1_isTold 0 0 [(0, .ref h0), (1, .int x1)] [] G Q := by
  refine E_iload_n 1 dX1_isTold_0 rfl rfl ?_
  refine E_if_lt (tgt := 16) dX1_isTold_1 (by decide) (fun c => ?_) (fun c => ?_)
  · have hB := hB.1 c
    refine E_iconst (v := 0) dX1_isTold_16 (by decide) ?_
    exact E_zret rfl (Or.inl rfl) dX1_isTold_17 ⟨_, rfl, rfl, hB⟩
  · have hB := hB.2 c
    refine E_iload_n 1 dX1_isTold_4 rfl rfl ?_
    refine E_aload_n 0 dX1_isTold_5 rfl rfl rfl ?_
    refine E_gI (v := sI G h0 10) fG_X1_44 rfl (lhO hL hh0) rfl dX1_isTold_6 ?_
    refine E_icmp_ge (tgt := 16) dX1_isTold_9 (by decide) (fun c => ?_) (fun c => ?_)
    · have hB := hB.1 c
      refine E_iconst (v := 0) dX1_isTold_16 (by decide) ?_
      exact E_zret rfl (Or.inl rfl) dX1_isTold_17 ⟨_, rfl, rfl, hB⟩
    · have hB := hB.2 c
      refine E_iconst (v := 1) dX1_isTold_12 (by decide) ?_
      refine E_goto (tgt := 17) dX1_isTold_13 (by decide) ?_
      exact E_zret rfl (Or.inr rfl) dX1_isTold_17 ⟨_, rfl, rfl, hB⟩

set_option maxRecDepth 20000 in
set_option maxHeartbeats 2000000 in
theorem kX1_told_0 {K : KT} {G : St} {Q : Int32 → St → Prop} {h0 : Nat} (hL : Lay G.2.2) (hh0 : h0 = 39 ∨ h0 = 49)
    (hB : Q ((1 <<< ((sI G h0 10) &&& 31)) - 1) G) :
    EvI K mX1_told 0 0 [(0, .ref h0)] [] G Q := by
  refine E_iconst (v := 1) dX1_told_0 (by decide) ?_
  refine E_aload_n 0 dX1_told_1 rfl rfl rfl ?_
  refine E_gI (v := sI G h0 10) fG_X1_44 rfl (lhO hL hh0) rfl dX1_told_2 ?_
  refine E_ishl dX1_told_5 ?_
  refine E_iconst (v := 1) dX1_told_6 (by decide) ?_
  refine E_isub dX1_told_7 ?_
  exact E_iret rfl dX1_told_8 ⟨_, rfl, rfl, hB⟩

set_option maxRecDepth 20000 in
set_option maxHeartbeats 2000000 in
theorem kX1_seenBy_0 {K : KT} {G : St} {Q : Int32 → St → Prop} {h0 : Nat} {x1 : Int32} (hL : Lay G.2.2) (hh0 : h0 = 39 ∨ h0 = 49)
    (hB : EvI K mX1_told 0 0 [(0, .ref h0)] [] G (fun r1 G1 => vp_in x1 4 ∧ Q (r1 &&& ((sI G1 (h0 + 9) (Int32.toNatClampNeg x1)) ^^^ (-1))) G1)) :
    EvI K mX1_seenBy 1 0 [(0, .ref h0), (1, .int x1)] [] G Q := by
  refine E_aload_n 0 dX1_seenBy_0 rfl rfl rfl ?_
  refine E_cV (ci := 1) (as := []) (st := []) cm_X1_told cV_X1_53 ⟨_, _, rfl⟩ (by decide) (lhO hL hh0) rfl rfl (by decide) (Nat.le_of_ble_eq_true rfl) (Nat.le_of_ble_eq_true rfl) dX1_seenBy_1 hB (fun r G1 hr => ?_)
  obtain ⟨r1, rfl, hE1, hB⟩ := hr
  have hL1 : Lay G1.2.2 := by rw [hE1]; exact hL
  have hE1 : G1.2.2 = G.2.2 := hE1
  show Ev K mX1_seenBy 1 4 [(0, .ref h0), (1, .int x1)] [.int r1] G1 _
  refine E_aload_n 0 dX1_seenBy_4 rfl rfl rfl ?_
  refine E_gR (j := h0 + 9) fG_X1_37 rfl (lhO hL1 hh0) (lhR8 hL1 hh0) (Nat.succ_pos _) dX1_seenBy_5 ?_
  refine E_iload_n 1 dX1_seenBy_8 rfl rfl ?_
  obtain ⟨qq2, hB⟩ := hB
  refine E_aI (p := Int32.toNatClampNeg x1) (v := sI G1 (h0 + 9) (Int32.toNatClampNeg x1)) (lhA8 hL1 hh0) qq2 rfl rfl dX1_seenBy_9 ?_
  refine E_iconst (v := (-1)) dX1_seenBy_10 (by decide) ?_
  refine E_ixor dX1_seenBy_11 ?_
  refine E_iand dX1_seenBy_12 ?_
  exact E_iret rfl dX1_seenBy_13 ⟨_, rfl, hE1, hB⟩

set_option maxRecDepth 20000 in
set_option maxHeartbeats 2000000 in
theorem kX1_setHidden_0 {K : KT} {G : St} {Q : St → Prop} {h0 : Nat} {x1 : Int32} {x2 : Int32} {x3 : Int32} (hL : Lay G.2.2) (hh0 : h0 = 39 ∨ h0 = 49)
    (hB : ((x3 = 0 → vp_in x1 4 ∧ vp_in x1 4 ∧ Q (uI G (h0 + 9) (Int32.toNatClampNeg x1) ((sI G (h0 + 9) (Int32.toNatClampNeg x1)) &&& ((1 <<< (x2 &&& 31)) ^^^ (-1))))) ∧ (¬ x3 = 0 → vp_in x1 4 ∧ vp_in x1 4 ∧ Q (uI G (h0 + 9) (Int32.toNatClampNeg x1) ((sI G (h0 + 9) (Int32.toNatClampNeg x1)) ||| (1 <<< (x2 &&& 31))))))) :
    EvV K mX1_setHidden 0 0 [(0, .ref h0), (1, .int x1), (2, .int x2), (3, .int x3)] [] G Q := by
  refine E_aload_n 0 dX1_setHidden_0 rfl rfl rfl ?_
  refine E_gR (j := h0 + 9) fG_X1_37 rfl (lhO hL hh0) (lhR8 hL hh0) (Nat.succ_pos _) dX1_setHidden_1 ?_
  refine E_iload_n 1 dX1_setHidden_4 rfl rfl ?_
  refine E_iload_n 3 dX1_setHidden_5 rfl rfl ?_
  refine E_if_eq (tgt := 22) dX1_setHidden_6 (by decide) (fun c => ?_) (fun c => ?_)
  · have hB := hB.1 c
    refine E_aload_n 0 dX1_setHidden_22 rfl rfl rfl ?_
    refine E_gR (j := h0 + 9) fG_X1_37 rfl (lhO hL hh0) (lhR8 hL hh0) (Nat.succ_pos _) dX1_setHidden_23 ?_
    refine E_iload_n 1 dX1_setHidden_26 rfl rfl ?_
    obtain ⟨qq1, hB⟩ := hB
    refine E_aI (p := Int32.toNatClampNeg x1) (v := sI G (h0 + 9) (Int32.toNatClampNeg x1)) (lhA8 hL hh0) qq1 rfl rfl dX1_setHidden_27 ?_
    refine E_iconst (v := 1) dX1_setHidden_28 (by decide) ?_
    refine E_iload_n 2 dX1_setHidden_29 rfl rfl ?_
    refine E_ishl dX1_setHidden_30 ?_
    refine E_iconst (v := (-1)) dX1_setHidden_31 (by decide) ?_
    refine E_ixor dX1_setHidden_32 ?_
    refine E_iand dX1_setHidden_33 ?_
    obtain ⟨qq2, hB⟩ := hB
    refine E_sI (p := Int32.toNatClampNeg x1) (lhA8 hL hh0) qq2 rfl dX1_setHidden_34 ?_
    exact E_vret rfl dX1_setHidden_35 ⟨rfl, rfl, hB⟩
  · have hB := hB.2 c
    refine E_aload_n 0 dX1_setHidden_9 rfl rfl rfl ?_
    refine E_gR (j := h0 + 9) fG_X1_37 rfl (lhO hL hh0) (lhR8 hL hh0) (Nat.succ_pos _) dX1_setHidden_10 ?_
    refine E_iload_n 1 dX1_setHidden_13 rfl rfl ?_
    obtain ⟨qq3, hB⟩ := hB
    refine E_aI (p := Int32.toNatClampNeg x1) (v := sI G (h0 + 9) (Int32.toNatClampNeg x1)) (lhA8 hL hh0) qq3 rfl rfl dX1_setHidden_14 ?_
    refine E_iconst (v := 1) dX1_setHidden_15 (by decide) ?_
    refine E_iload_n 2 dX1_setHidden_16 rfl rfl ?_
    refine E_ishl dX1_setHidden_17 ?_
    refine E_ior dX1_setHidden_18 ?_
    refine E_goto (tgt := 34) dX1_setHidden_19 (by decide) ?_
    obtain ⟨qq4, hB⟩ := hB
    refine E_sI (p := Int32.toNatClampNeg x1) (lhA8 hL hh0) qq4 rfl dX1_setHidden_34 ?_
    exact E_vret rfl dX1_setHidden_35 ⟨rfl, rfl, hB⟩

set_option maxRecDepth 20000 in
set_option maxHeartbeats 2000000 in
theorem kX1_keyAt_0 {K : KT} {G : St} {Q : Int32 → St → Prop} {h0 : Nat} {x1 : Int32} {x2 : Int32} {x3 : Int32} (hL : Lay G.2.2) (hh0 : h0 = 39 ∨ h0 = 49)
    (hB : EvI K mX1_kindAt 0 0 [(0, .ref h0), (1, .int x1), (2, .int x2)] [] G (fun r1 G1 => ((0 ≤ r1 → vp_in ((x1 * 4) + x2) 120 ∧ (((Int64.toInt32 (sL G1 (h0 + 8) (Int32.toNatClampNeg ((x1 * 4) + x2)))) < 0 → Q (-1) G1) ∧ (¬ (Int64.toInt32 (sL G1 (h0 + 8) (Int32.toNatClampNeg ((x1 * 4) + x2)))) < 0 → ∀ v3 : Int32, v3 = (x3 >>> ((Int64.toInt32 (sL G1 (h0 + 8) (Int32.toNatClampNeg ((x1 * 4) + x2)))) &&& 31)) &&& 1 → ((v3 = 0 → Q (-1) G1) ∧ (¬ v3 = 0 → Q (Int64.toInt32 (sL G1 (h0 + 8) (Int32.toNatClampNeg ((x1 * 4) + x2)))) G1))))) ∧ (¬ 0 ≤ r1 → Q (-1) G1)))) :
    EvI K mX1_keyAt 1 0 [(0, .ref h0), (1, .int x1), (2, .int x2), (3, .int x3)] [] G Q := by
  refine E_aload_n 0 dX1_keyAt_0 rfl rfl rfl ?_
  refine E_iload_n 1 dX1_keyAt_1 rfl rfl ?_
  refine E_iload_n 2 dX1_keyAt_2 rfl rfl ?_
  refine E_cV (ci := 1) (as := [.int x1, .int x2]) (st := []) cm_X1_kindAt cV_X1_57 ⟨_, _, rfl⟩ (by decide) (lhO hL hh0) rfl rfl (by decide) (Nat.le_of_ble_eq_true rfl) (Nat.le_of_ble_eq_true rfl) dX1_keyAt_3 hB (fun r G1 hr => ?_)
  obtain ⟨r1, rfl, hE1, hB⟩ := hr
  have hL1 : Lay G1.2.2 := by rw [hE1]; exact hL
  have hE1 : G1.2.2 = G.2.2 := hE1
  show Ev K mX1_keyAt 1 6 [(0, .ref h0), (1, .int x1), (2, .int x2), (3, .int x3)] [.int r1] G1 _
  refine E_if_ge (tgt := 11) dX1_keyAt_6 (by decide) (fun c => ?_) (fun c => ?_)
  · have hB := hB.1 c
    refine E_aload_n 0 dX1_keyAt_11 rfl rfl rfl ?_
    refine E_gR (j := h0 + 8) fG_X1_34 rfl (lhO hL1 hh0) (lhR7 hL1 hh0) (Nat.succ_pos _) dX1_keyAt_12 ?_
    refine E_iload_n 1 dX1_keyAt_15 rfl rfl ?_
    refine E_iconst (v := 4) dX1_keyAt_16 (by decide) ?_
    refine E_imul dX1_keyAt_17 ?_
    refine E_iload_n 2 dX1_keyAt_18 rfl rfl ?_
    refine E_iadd dX1_keyAt_19 ?_
    obtain ⟨qq2, hB⟩ := hB
    refine E_aL (p := Int32.toNatClampNeg ((x1 * 4) + x2)) (v := sL G1 (h0 + 8) (Int32.toNatClampNeg ((x1 * 4) + x2))) (lhA7 hL1 hh0) qq2 rfl rfl dX1_keyAt_20 ?_
    refine E_l2i dX1_keyAt_21 rfl ?_
    refine E_istore (lv' := [(0, .ref h0), (1, .int x1), (2, .int x2), (3, .int x3), (4, .int (Int64.toInt32 (sL G1 (h0 + 8) (Int32.toNatClampNeg ((x1 * 4) + x2)))))]) dX1_keyAt_22 (by decide) rfl ?_
    refine E_iload 4 dX1_keyAt_24 rfl ?_
    refine E_if_lt (tgt := 43) dX1_keyAt_26 (by decide) (fun c => ?_) (fun c => ?_)
    · have hB := hB.1 c
      refine E_iconst (v := (-1)) dX1_keyAt_43 (by decide) ?_
      exact E_iret rfl dX1_keyAt_44 ⟨_, rfl, hE1, hB⟩
    · have hB := hB.2 c
      refine E_iload_n 3 dX1_keyAt_29 rfl rfl ?_
      refine E_iload 4 dX1_keyAt_30 rfl ?_
      refine E_ishr dX1_keyAt_32 ?_
      refine E_iconst (v := 1) dX1_keyAt_33 (by decide) ?_
      refine E_iand dX1_keyAt_34 ?_
      refine E_topi (fun v3 ev3 => ?_)
      have hB := hB v3 ev3
      refine E_if_eq (tgt := 43) dX1_keyAt_35 (by decide) (fun c => ?_) (fun c => ?_)
      · have hB := hB.1 c
        refine E_iconst (v := (-1)) dX1_keyAt_43 (by decide) ?_
        exact E_iret rfl dX1_keyAt_44 ⟨_, rfl, hE1, hB⟩
      · have hB := hB.2 c
        refine E_iload 4 dX1_keyAt_38 rfl ?_
        refine E_goto (tgt := 44) dX1_keyAt_40 (by decide) ?_
        exact E_iret rfl dX1_keyAt_44 ⟨_, rfl, hE1, hB⟩
  · have hB := hB.2 c
    refine E_iconst (v := (-1)) dX1_keyAt_9 (by decide) ?_
    exact E_iret rfl dX1_keyAt_10 ⟨_, rfl, hE1, hB⟩

set_option maxRecDepth 20000 in
set_option maxHeartbeats 2000000 in
theorem kX1_hasWord_0 {K : KT} {G : St} {Q : Int32 → St → Prop} {h0 : Nat} {x1 : Int32} {y2 : Int64} (hL : Lay G.2.2) (hh0 : h0 = 39 ∨ h0 = 49)
    (hB : EvI K mX1_hasWord 2 3 [(0, .ref h0), (1, .int x1), (2, .long y2), (4, .int 0)] [] G Q) :
    EvI K mX1_hasWord 2 0 [(0, .ref h0), (1, .int x1), (2, .long y2)] [] G Q := by
  refine E_iconst (v := 0) dX1_hasWord_0 (by decide) ?_
  refine E_istore (lv' := [(0, .ref h0), (1, .int x1), (2, .long y2), (4, .int 0)]) dX1_hasWord_1 (by decide) rfl ?_
  exact EvI.tr hB rfl

set_option maxRecDepth 20000 in
set_option maxHeartbeats 2000000 in
theorem kX1_hasWord_3 {K : KT} {G : St} {Q : Int32 → St → Prop} {h0 : Nat} {x1 : Int32} {y2 : Int64} {x4 : Int32} (hL : Lay G.2.2) (hh0 : h0 = 39 ∨ h0 = 49)
    (hB : ((4 ≤ x4 → Q 0 G) ∧ (¬ 4 ≤ x4 → EvL K mX1_wordAt 1 0 [(0, .ref h0), (1, .int x1), (2, .int x4)] [] G (fun r1 G1 => ((¬ r1 = y2 → EvI K mX1_hasWord 2 3 [(0, .ref h0), (1, .int x1), (2, .long y2), (4, .int (x4 + 1))] [] G1 Q) ∧ (r1 = y2 → Q 1 G1)))))) :
    EvI K mX1_hasWord 2 3 [(0, .ref h0), (1, .int x1), (2, .long y2), (4, .int x4)] [] G Q := by
  refine E_iload 3 dX1_hasWord_3 rfl ?_
  refine E_iconst (v := 4) dX1_hasWord_5 (by decide) ?_
  refine E_icmp_ge (tgt := 29) dX1_hasWord_6 (by decide) (fun c => ?_) (fun c => ?_)
  · have hB := hB.1 c
    refine E_iconst (v := 0) dX1_hasWord_29 (by decide) ?_
    exact E_zret rfl (Or.inl rfl) dX1_hasWord_30 ⟨_, rfl, rfl, hB⟩
  · have hB := hB.2 c
    refine E_aload_n 0 dX1_hasWord_9 rfl rfl rfl ?_
    refine E_iload_n 1 dX1_hasWord_10 rfl rfl ?_
    refine E_iload 3 dX1_hasWord_11 rfl ?_
    refine E_cV (ci := 1) (as := [.int x1, .int x4]) (st := []) cm_X1_wordAt cV_X1_63 ⟨_, _, rfl⟩ (by decide) (lhO hL hh0) rfl rfl (by decide) (Nat.le_of_ble_eq_true rfl) (Nat.le_of_ble_eq_true rfl) dX1_hasWord_13 hB (fun r G1 hr => ?_)
    obtain ⟨r1, rfl, hE1, hB⟩ := hr
    have hL1 : Lay G1.2.2 := by rw [hE1]; exact hL
    have hE1 : G1.2.2 = G.2.2 := hE1
    show Ev K mX1_hasWord 2 16 [(0, .ref h0), (1, .int x1), (2, .long y2), (4, .int x4)] [.long r1] G1 _
    refine E_lload_n 2 dX1_hasWord_16 rfl rfl ?_
    refine E_lcmp dX1_hasWord_17 ?_
    refine E_if_ne (tgt := 23) dX1_hasWord_18 (by decide) (fun c => ?_) (fun c => ?_)
    · have hB := hB.1 ((fun q => c ((lgc_eq r1 y2).mpr q)))
      refine E_iinc (v := x4 + 1) (lv' := [(0, .ref h0), (1, .int x1), (2, .long y2), (4, .int (x4 + 1))]) 3 dX1_hasWord_23 rfl rfl (by decide) rfl ?_
      refine E_goto (tgt := 3) dX1_hasWord_26 (by decide) ?_
      exact EvI.tr hB hE1
    · have hB := hB.2 ((lgc_eq r1 y2).mp c)
      refine E_iconst (v := 1) dX1_hasWord_21 (by decide) ?_
      exact E_zret rfl (Or.inr rfl) dX1_hasWord_22 ⟨_, rfl, hE1, hB⟩
